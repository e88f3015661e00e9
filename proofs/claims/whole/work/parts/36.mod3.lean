/-! the model's longer acts by contract -/
set_option maxHeartbeats 4000000 in
set_option maxRecDepth 100000 in
theorem ct_X8_need (l : Launch) (g : uG) (t : uN) (f : uF) (a : uN) (b : uF) (q w : Int) (L : ML a b t f) (hq : inI q) (hw : inI w) : cF_i l yX8_need cX8_need 8 (some .int) 3 g [.ref (g.1 + 100), .int (iV (q)), .int (iV (w))] t f (neeX a b q w) (t) (f) := by
  refine eF_i (by decide +kernel) (Nat.le_of_ble_eq_true rfl) ?_
  intro p e R s m args below meth c Q ls H locs X Y hl ret
  have X : uX p 3 R s m args c cX8_need 8 RX8 := X
  have hl : lv_has ls 8 [(0, .ref (g.1 + 100)), (1, .int (iV (q))), (2, .int (iV (w)))] := hl
  have hb := L.1.b
  obtain ⟨p0, p1, p2, p3, p4⟩ := L.p
  obtain ⟨v3, v4, v5, v6, v10⟩ := L.v
  have hk := L.2.1.2.1
  have hns := L.2.2.1
  have qp := inPortX_b a
  have hco : a 18 3 < a 14 3 → f 105 (a 18 3) = costX a b ∧ 0 ≤ costX a b ∧ costX a b ≤ 99 := fun q => ⟨(L.l (by omega) q).1.2.2, (L.1.leg (a 18 3)).2.2⟩
  refine r_iload_n X dX8_need_0 hl 1 rfl ?_
  refine r_i2l X dX8_need_1 ⟨by omega, by omega⟩ ?_
  refine r_lconst X 0 dX8_need_2 (by decide) ?_
  refine r_ldc2 X 9 wm_994 (by decide) dX8_need_3 ?_
  refine sF_i X Y [.long (lV (q)), .long (lV (0)), .long (lV (9))] [] (ct_X8_in l g t f q 0 9 ⟨by omega, by omega⟩ ⟨by omega, by omega⟩ ⟨by omega, by omega⟩) mk_X8_in mi_X8_in wm_852 (by decide) rfl hl (Nat.le_of_ble_eq_true rfl) rfl dX8_need_6 (Nat.zero_le _) (Nat.zero_le _) (fun H locs Y => ?_)
  have qi6 := inX_b q 0 9
  refine r_if_eq X (tgt := 22) dX8_need_9 (by decide) ⟨by omega, by omega⟩ (fun c9 => ?_) (fun c9 => ?_)
  · refine r_ldc X (-1000000002) wm_855 (by decide) dX8_need_22 ?_
    exact ret _ _ _ _ _ _ _ dX8_need_24 Y ⟨by unfold neeX; rw [if_pos (by omega)], rfl, rfl⟩
  · refine r_iload_n X dX8_need_12 hl 2 rfl ?_
    refine r_i2l X dX8_need_13 ⟨by omega, by omega⟩ ?_
    refine r_lconst X 0 dX8_need_14 (by decide) ?_
    refine r_lconst X 1 dX8_need_15 (by decide) ?_
    refine sF_i X Y [.long (lV (w)), .long (lV (0)), .long (lV (1))] [] (ct_X8_in l g t f w 0 1 ⟨by omega, by omega⟩ ⟨by omega, by omega⟩ ⟨by omega, by omega⟩) mk_X8_in mi_X8_in wm_852 (by decide) rfl hl (Nat.le_of_ble_eq_true rfl) rfl dX8_need_16 (Nat.zero_le _) (Nat.zero_le _) (fun H locs Y => ?_)
    have qi16 := inX_b w 0 1
    refine r_if_ne X (tgt := 25) dX8_need_19 (by decide) ⟨by omega, by omega⟩ (fun c19 => ?_) (fun c19 => ?_)
    · refine r_aload_n X dX8_need_25 hl 0 rfl ?_
      refine vF_i X Y [] [] (ct_X8_where l g t f a b L) mk_X8_where mi_X8_where wm_907 (by decide) (rv_8 Y rfl) rfl hl (Nat.le_of_ble_eq_true rfl) rfl dX8_need_26 (Nat.zero_le _) (Nat.zero_le _) (fun H locs Y => ?_)
      have qw26 := whereX_b hb.1.2.2.2
      refine r_if_eq X (tgt := 35) dX8_need_29 (by decide) ⟨by omega, by omega⟩ (fun c29 => ?_) (fun c29 => ?_)
      · refine r_iload_n X dX8_need_35 hl 1 rfl ?_
        refine r_aload_n X dX8_need_36 hl 0 rfl ?_
        refine g_8_0 (k := 100) X Y rfl wm_737 dX8_need_37 ?_
        refine r_iconst X dX8_need_40 ?_
        refine g_ild (k := 101) X Y rfl (by omega) (by have q : ((al 101 : Nat) : Int) = 1008 := rfl; omega) dX8_need_41 ?_
        refine r_icmp_le X (tgt := 56) dX8_need_42 (by decide) ⟨by omega, by omega⟩ ⟨by omega, by omega⟩ (fun c42 => ?_) (fun c42 => ?_)
        · refine r_iconst X dX8_need_56 ?_
          refine r_istore_n X dX8_need_57 hl [(3, .int (iV (0))), (0, .ref (g.1 + 100)), (1, .int (iV (q))), (2, .int (iV (w)))] (by decide) rfl (fun ls hl => ?_)
          refine r_iload_n X dX8_need_58 hl 0 rfl ?_
          refine r_aload_n X dX8_need_59 hl 1 rfl ?_
          refine g_8_9 (k := 100) X Y rfl wm_746 dX8_need_60 ?_
          refine r_aload_n X dX8_need_63 hl 1 rfl ?_
          refine g_8_0 (k := 100) X Y rfl wm_737 dX8_need_64 ?_
          refine r_iconst X dX8_need_67 ?_
          refine g_ild (k := 101) X Y rfl (by omega) (by have q : ((al 101 : Nat) : Int) = 1008 := rfl; omega) dX8_need_68 ?_
          refine g_ild (k := 105) X Y rfl (by omega) (by have q : ((al 105 : Nat) : Int) = 7 := rfl; omega) dX8_need_69 ?_
          refine r_eq (z' := costX a b) (by rw [p0]; exact (hco (by omega)).1) ?_
          obtain ⟨hc1, hc2, hc3⟩ := hco (by omega)
          refine r_imul X dX8_need_70 ?_
          have mp0 : 0 ≤ (q - a 18 1) * costX a b ∨ q < a 18 1 := by rcases Int.lt_or_le q (a 18 1) with h9 | h9; exact Or.inr h9; exact Or.inl (Int.mul_nonneg (by omega) (by omega))
          have mp1 : (q - f 101 2) * costX a b ≤ 9 * 99 ∨ q < a 18 1 := by rcases Int.lt_or_le q (a 18 1) with h9 | h9; exact Or.inr h9; exact Or.inl (Int.mul_le_mul (by omega) (by omega) (by omega) (by omega))
          have mp2 : (q - f 101 2) * costX a b = (q - a 18 1) * costX a b := by rw [p2]
          refine r_aload_n X dX8_need_71 hl 1 rfl ?_
          refine g_8_0 (k := 100) X Y rfl wm_737 dX8_need_72 ?_
          refine r_iconst X dX8_need_75 ?_
          refine g_ild (k := 101) X Y rfl (by omega) (by have q : ((al 101 : Nat) : Int) = 1008 := rfl; omega) dX8_need_76 ?_
          refine r_isub X dX8_need_77 ?_
          refine r_istore X dX8_need_78 hl [(4, .int (iV ((0 * (costX a b)) - (f 101 3)))), (3, .int (iV (0))), (0, .ref (g.1 + 100)), (1, .int (iV (q))), (2, .int (iV (w)))] (by decide) rfl (fun ls hl => ?_)
          refine r_iload X dX8_need_80 hl 0 rfl ?_
          refine r_if_le X (tgt := 90) dX8_need_82 (by decide) ⟨by omega, by omega⟩ (fun c82 => ?_) (fun c82 => ?_)
          · refine r_iconst X dX8_need_90 ?_
            obtain ⟨z, hz⟩ : ∃ q0, q0 = lacX a b q := ⟨_, rfl⟩
            refine r_eq (z' := z) (by rw [hz]; unfold lacX; (first | rw [show max 0 (q - a 18 1) = q - f 101 2 by omega] | rw [show max 0 (q - a 18 1) = 0 by omega]); omega) ?_
            have hzr : 0 ≤ z ∧ z ≤ 1000 := by rw [hz]; unfold lacX; have m0 : 0 ≤ max 0 (q - a 18 1) * costX a b := Int.mul_nonneg (by omega) (by omega); have m1 : max 0 (q - a 18 1) * costX a b ≤ 9 * 99 := Int.mul_le_mul (by omega) (by omega) (by omega) (by omega); omega
            refine r_istore X dX8_need_91 hl [(4, .int (iV (z))), (3, .int (iV (0))), (0, .ref (g.1 + 100)), (1, .int (iV (q))), (2, .int (iV (w)))] (by decide) rfl (fun ls hl => ?_)
            refine r_iconst X dX8_need_93 ?_
            refine r_istore X dX8_need_94 hl [(5, .int (iV ((-1)))), (4, .int (iV (z))), (3, .int (iV (0))), (0, .ref (g.1 + 100)), (1, .int (iV (q))), (2, .int (iV (w)))] (by decide) rfl (fun ls hl => ?_)
            refine r_iconst X dX8_need_96 ?_
            refine r_istore X dX8_need_97 hl [(6, .int (iV (0))), (5, .int (iV ((-1)))), (4, .int (iV (z))), (3, .int (iV (0))), (0, .ref (g.1 + 100)), (1, .int (iV (q))), (2, .int (iV (w)))] (by decide) rfl (fun ls hl => ?_)
            have loop99 : ∀ (N : Nat) (i : Int) (r : Int) (hi0 : 0 ≤ i) (hi1 : i ≤ a 16 3) (hr : r = bestN (yetX a b) (fun j => tget a b 16 j 1) z i.toNat) (H : Heap) (locs : List Loc) (ls : Array Slot), (a 16 3 - i).toNat < N → uY g 117 (cX g t f) s H locs → lv_has ls 8 [(6, .int (iV (i))), (5, .int (iV (r))), (0, .ref (g.1 + 100)), (2, .int (iV (w))), (4, .int (iV (z)))] → W p l e R s m args below meth c H locs 0 0 Q (F0 m 99 ls []) := by
              intro N
              induction N with
              | zero => intro i r hi0 hi1 hr H locs ls hmu Y hl; exact absurd hmu (Nat.not_lt_zero _)
              | succ N ih99 =>
                intro i r hi0 hi1 hr H locs ls hmu Y hl
                have hrr := bestN_rng (yetX a b) (fun j => tget a b 16 j 1) z i.toNat
                rw [← hr] at hrr
                refine r_iload X dX8_need_99 hl 0 rfl ?_
                refine r_aload_n X dX8_need_101 hl 2 rfl ?_
                refine g_8_10 (k := 100) X Y rfl wm_747 dX8_need_102 ?_
                refine r_icmp_ge X (tgt := 169) dX8_need_105 (by decide) ⟨by omega, by omega⟩ ⟨by omega, by omega⟩ (fun c105 => ?_) (fun c105 => ?_)
                · refine r_iload_n X dX8_need_169 hl 3 rfl ?_
                  refine r_if_ne X (tgt := 178) dX8_need_170 (by decide) ⟨by omega, by omega⟩ (fun c170 => ?_) (fun c170 => ?_)
                  · refine r_iload X dX8_need_178 hl 1 rfl ?_
                    exact ret _ _ _ _ _ _ _ dX8_need_180 Y ⟨by unfold neeX; rw [if_neg (by omega), if_neg (by omega), if_neg (by omega), ← hz, hr, show i = a 16 3 by omega], rfl, rfl⟩
                  · refine r_iload X dX8_need_173 hl 4 rfl ?_
                    refine r_goto X 180 dX8_need_175 (by decide) ?_
                    exact ret _ _ _ _ _ _ _ dX8_need_180 Y ⟨by unfold neeX; rw [if_neg (by omega), if_neg (by omega), if_pos (by omega)]; exact hz, rfl, rfl⟩
                · have hm := L.m hi0 (show i < a 16 3 by omega)
                  refine r_aload_n X dX8_need_108 hl 2 rfl ?_
                  refine r_iload X dX8_need_109 hl 0 rfl ?_
                  refine vF_i X Y [.int (iV (i))] [] (ct_X8_yetOf l g t f a b i L (by omega) (by omega)) mk_X8_yetOf mi_X8_yetOf wm_952 (by decide) (rv_8 Y rfl) rfl hl (Nat.le_of_ble_eq_true rfl) rfl dX8_need_111 (Nat.zero_le _) (Nat.zero_le _) (fun H locs Y => ?_)
                  have qy111 := yetX_rng L.1 i
                  refine r_iload X dX8_need_114 hl 4 rfl ?_
                  refine r_icmp_lt X (tgt := 123) dX8_need_116 (by decide) ⟨by omega, by omega⟩ ⟨by omega, by omega⟩ (fun c116 => ?_) (fun c116 => ?_)
                  · refine r_iconst X dX8_need_123 ?_
                    refine r_istore X dX8_need_124 hl [(7, .int (iV (0))), (6, .int (iV (i))), (5, .int (iV (r))), (0, .ref (g.1 + 100)), (2, .int (iV (w))), (4, .int (iV (z)))] (by decide) rfl (fun ls hl => ?_)
                    refine r_iload X dX8_need_126 hl 0 rfl ?_
                    refine r_if_eq X (tgt := 159) dX8_need_128 (by decide) ⟨by omega, by omega⟩ (fun c128 => ?_) (fun c128 => ?_)
                    · refine r_iload X dX8_need_159 hl 2 rfl ?_
                      refine r_istore X dX8_need_161 hl [(5, .int (iV (r))), (7, .int (iV (0))), (6, .int (iV (i))), (0, .ref (g.1 + 100)), (2, .int (iV (w))), (4, .int (iV (z)))] (by decide) rfl (fun ls hl => ?_)
                      refine r_iinc X dX8_need_163 hl 2 rfl [(6, .int (iV (i + 1))), (5, .int (iV (r))), (7, .int (iV (0))), (0, .ref (g.1 + 100)), (2, .int (iV (w))), (4, .int (iV (z)))] (by decide) rfl (fun ls hl => ?_)
                      refine r_goto X 99 dX8_need_166 (by decide) ?_
                      exact ih99 (i + 1) r (by omega) (by omega) (by rw [show (i + 1).toNat = i.toNat + 1 by omega, bestN, ← hr, show ((i.toNat : Nat) : Int) = i by omega]; rw [if_neg (by omega)]) _ _ _ (by omega) Y (lv_sub hl [0, 1, 3, 4, 5] rfl)
                    · exact absurd c128 (by omega)
                  · refine r_iconst X dX8_need_119 ?_
                    refine r_goto X 124 dX8_need_120 (by decide) ?_
                    refine r_istore X dX8_need_124 hl [(7, .int (iV (1))), (6, .int (iV (i))), (5, .int (iV (r))), (0, .ref (g.1 + 100)), (2, .int (iV (w))), (4, .int (iV (z)))] (by decide) rfl (fun ls hl => ?_)
                    refine r_iload X dX8_need_126 hl 0 rfl ?_
                    refine r_if_eq X (tgt := 159) dX8_need_128 (by decide) ⟨by omega, by omega⟩ (fun c128 => ?_) (fun c128 => ?_)
                    · exact absurd c128 (by omega)
                    · refine r_iload X dX8_need_131 hl 2 rfl ?_
                      refine r_iconst X dX8_need_133 ?_
                      refine r_icmp_eq X (tgt := 154) dX8_need_134 (by decide) ⟨by omega, by omega⟩ ⟨by omega, by omega⟩ (fun c134 => ?_) (fun c134 => ?_)
                      · refine r_iload X dX8_need_154 hl 1 rfl ?_
                        refine r_goto X 161 dX8_need_156 (by decide) ?_
                        refine r_istore X dX8_need_161 hl [(5, .int (iV (i))), (7, .int (iV (1))), (6, .int (iV (i))), (0, .ref (g.1 + 100)), (2, .int (iV (w))), (4, .int (iV (z)))] (by decide) rfl (fun ls hl => ?_)
                        refine r_iinc X dX8_need_163 hl 2 rfl [(6, .int (iV (i + 1))), (5, .int (iV (i))), (7, .int (iV (1))), (0, .ref (g.1 + 100)), (2, .int (iV (w))), (4, .int (iV (z)))] (by decide) rfl (fun ls hl => ?_)
                        refine r_goto X 99 dX8_need_166 (by decide) ?_
                        exact ih99 (i + 1) i (by omega) (by omega) (by rw [show (i + 1).toNat = i.toNat + 1 by omega, bestN, ← hr, show ((i.toNat : Nat) : Int) = i by omega]; rw [if_pos (by omega)]) _ _ _ (by omega) Y (lv_sub hl [0, 1, 3, 4, 5] rfl)
                      · have hm2 := L.m (i := r) (by omega) (by omega)
                        refine r_aload_n X dX8_need_137 hl 3 rfl ?_
                        refine g_8_12 (k := 100) X Y rfl wm_749 dX8_need_138 ?_
                        refine r_iload X dX8_need_141 hl 1 rfl ?_
                        refine g_ild (k := 107) X Y rfl (by omega) (by have q : ((al 107 : Nat) : Int) = 5 := rfl; omega) dX8_need_143 ?_
                        refine r_aload_n X dX8_need_144 hl 3 rfl ?_
                        refine g_8_12 (k := 100) X Y rfl wm_749 dX8_need_145 ?_
                        refine r_iload X dX8_need_148 hl 2 rfl ?_
                        refine g_ild (k := 107) X Y rfl (by omega) (by have q : ((al 107 : Nat) : Int) = 5 := rfl; omega) dX8_need_150 ?_
                        refine r_icmp_ge X (tgt := 159) dX8_need_151 (by decide) ⟨by omega, by omega⟩ ⟨by omega, by omega⟩ (fun c151 => ?_) (fun c151 => ?_)
                        · refine r_iload X dX8_need_159 hl 2 rfl ?_
                          refine r_istore X dX8_need_161 hl [(5, .int (iV (r))), (7, .int (iV (1))), (6, .int (iV (i))), (0, .ref (g.1 + 100)), (2, .int (iV (w))), (4, .int (iV (z)))] (by decide) rfl (fun ls hl => ?_)
                          refine r_iinc X dX8_need_163 hl 2 rfl [(6, .int (iV (i + 1))), (5, .int (iV (r))), (7, .int (iV (1))), (0, .ref (g.1 + 100)), (2, .int (iV (w))), (4, .int (iV (z)))] (by decide) rfl (fun ls hl => ?_)
                          refine r_goto X 99 dX8_need_166 (by decide) ?_
                          exact ih99 (i + 1) r (by omega) (by omega) (by rw [show (i + 1).toNat = i.toNat + 1 by omega, bestN, ← hr, show ((i.toNat : Nat) : Int) = i by omega]; rw [if_neg (by omega)]) _ _ _ (by omega) Y (lv_sub hl [0, 1, 3, 4, 5] rfl)
                        · refine r_iload X dX8_need_154 hl 1 rfl ?_
                          refine r_goto X 161 dX8_need_156 (by decide) ?_
                          refine r_istore X dX8_need_161 hl [(5, .int (iV (i))), (7, .int (iV (1))), (6, .int (iV (i))), (0, .ref (g.1 + 100)), (2, .int (iV (w))), (4, .int (iV (z)))] (by decide) rfl (fun ls hl => ?_)
                          refine r_iinc X dX8_need_163 hl 2 rfl [(6, .int (iV (i + 1))), (5, .int (iV (i))), (7, .int (iV (1))), (0, .ref (g.1 + 100)), (2, .int (iV (w))), (4, .int (iV (z)))] (by decide) rfl (fun ls hl => ?_)
                          refine r_goto X 99 dX8_need_166 (by decide) ?_
                          exact ih99 (i + 1) i (by omega) (by omega) (by rw [show (i + 1).toNat = i.toNat + 1 by omega, bestN, ← hr, show ((i.toNat : Nat) : Int) = i by omega]; rw [if_pos (by omega)]) _ _ _ (by omega) Y (lv_sub hl [0, 1, 3, 4, 5] rfl)
            exact loop99 (((a 16 3 - (0:Int)).toNat) + 1) 0 (-1) (by omega) (by omega) rfl _ _ _ (Nat.lt_succ_self _) Y (lv_sub hl [0, 1, 4, 6, 2] rfl)
          · refine r_iload X dX8_need_85 hl 0 rfl ?_
            refine r_goto X 91 dX8_need_87 (by decide) ?_
            obtain ⟨z, hz⟩ : ∃ q0, q0 = lacX a b q := ⟨_, rfl⟩
            refine r_eq (z' := z) (by rw [hz]; unfold lacX; (first | rw [show max 0 (q - a 18 1) = q - f 101 2 by omega] | rw [show max 0 (q - a 18 1) = 0 by omega]); omega) ?_
            have hzr : 0 ≤ z ∧ z ≤ 1000 := by rw [hz]; unfold lacX; have m0 : 0 ≤ max 0 (q - a 18 1) * costX a b := Int.mul_nonneg (by omega) (by omega); have m1 : max 0 (q - a 18 1) * costX a b ≤ 9 * 99 := Int.mul_le_mul (by omega) (by omega) (by omega) (by omega); omega
            refine r_istore X dX8_need_91 hl [(4, .int (iV (z))), (3, .int (iV (0))), (0, .ref (g.1 + 100)), (1, .int (iV (q))), (2, .int (iV (w)))] (by decide) rfl (fun ls hl => ?_)
            refine r_iconst X dX8_need_93 ?_
            refine r_istore X dX8_need_94 hl [(5, .int (iV ((-1)))), (4, .int (iV (z))), (3, .int (iV (0))), (0, .ref (g.1 + 100)), (1, .int (iV (q))), (2, .int (iV (w)))] (by decide) rfl (fun ls hl => ?_)
            refine r_iconst X dX8_need_96 ?_
            refine r_istore X dX8_need_97 hl [(6, .int (iV (0))), (5, .int (iV ((-1)))), (4, .int (iV (z))), (3, .int (iV (0))), (0, .ref (g.1 + 100)), (1, .int (iV (q))), (2, .int (iV (w)))] (by decide) rfl (fun ls hl => ?_)
            have loop99 : ∀ (N : Nat) (i : Int) (r : Int) (hi0 : 0 ≤ i) (hi1 : i ≤ a 16 3) (hr : r = bestN (yetX a b) (fun j => tget a b 16 j 1) z i.toNat) (H : Heap) (locs : List Loc) (ls : Array Slot), (a 16 3 - i).toNat < N → uY g 117 (cX g t f) s H locs → lv_has ls 8 [(6, .int (iV (i))), (5, .int (iV (r))), (0, .ref (g.1 + 100)), (2, .int (iV (w))), (4, .int (iV (z)))] → W p l e R s m args below meth c H locs 0 0 Q (F0 m 99 ls []) := by
              intro N
              induction N with
              | zero => intro i r hi0 hi1 hr H locs ls hmu Y hl; exact absurd hmu (Nat.not_lt_zero _)
              | succ N ih99 =>
                intro i r hi0 hi1 hr H locs ls hmu Y hl
                have hrr := bestN_rng (yetX a b) (fun j => tget a b 16 j 1) z i.toNat
                rw [← hr] at hrr
                refine r_iload X dX8_need_99 hl 0 rfl ?_
                refine r_aload_n X dX8_need_101 hl 2 rfl ?_
                refine g_8_10 (k := 100) X Y rfl wm_747 dX8_need_102 ?_
                refine r_icmp_ge X (tgt := 169) dX8_need_105 (by decide) ⟨by omega, by omega⟩ ⟨by omega, by omega⟩ (fun c105 => ?_) (fun c105 => ?_)
                · refine r_iload_n X dX8_need_169 hl 3 rfl ?_
                  refine r_if_ne X (tgt := 178) dX8_need_170 (by decide) ⟨by omega, by omega⟩ (fun c170 => ?_) (fun c170 => ?_)
                  · refine r_iload X dX8_need_178 hl 1 rfl ?_
                    exact ret _ _ _ _ _ _ _ dX8_need_180 Y ⟨by unfold neeX; rw [if_neg (by omega), if_neg (by omega), if_neg (by omega), ← hz, hr, show i = a 16 3 by omega], rfl, rfl⟩
                  · refine r_iload X dX8_need_173 hl 4 rfl ?_
                    refine r_goto X 180 dX8_need_175 (by decide) ?_
                    exact ret _ _ _ _ _ _ _ dX8_need_180 Y ⟨by unfold neeX; rw [if_neg (by omega), if_neg (by omega), if_pos (by omega)]; exact hz, rfl, rfl⟩
                · have hm := L.m hi0 (show i < a 16 3 by omega)
                  refine r_aload_n X dX8_need_108 hl 2 rfl ?_
                  refine r_iload X dX8_need_109 hl 0 rfl ?_
                  refine vF_i X Y [.int (iV (i))] [] (ct_X8_yetOf l g t f a b i L (by omega) (by omega)) mk_X8_yetOf mi_X8_yetOf wm_952 (by decide) (rv_8 Y rfl) rfl hl (Nat.le_of_ble_eq_true rfl) rfl dX8_need_111 (Nat.zero_le _) (Nat.zero_le _) (fun H locs Y => ?_)
                  have qy111 := yetX_rng L.1 i
                  refine r_iload X dX8_need_114 hl 4 rfl ?_
                  refine r_icmp_lt X (tgt := 123) dX8_need_116 (by decide) ⟨by omega, by omega⟩ ⟨by omega, by omega⟩ (fun c116 => ?_) (fun c116 => ?_)
                  · refine r_iconst X dX8_need_123 ?_
                    refine r_istore X dX8_need_124 hl [(7, .int (iV (0))), (6, .int (iV (i))), (5, .int (iV (r))), (0, .ref (g.1 + 100)), (2, .int (iV (w))), (4, .int (iV (z)))] (by decide) rfl (fun ls hl => ?_)
                    refine r_iload X dX8_need_126 hl 0 rfl ?_
                    refine r_if_eq X (tgt := 159) dX8_need_128 (by decide) ⟨by omega, by omega⟩ (fun c128 => ?_) (fun c128 => ?_)
                    · refine r_iload X dX8_need_159 hl 2 rfl ?_
                      refine r_istore X dX8_need_161 hl [(5, .int (iV (r))), (7, .int (iV (0))), (6, .int (iV (i))), (0, .ref (g.1 + 100)), (2, .int (iV (w))), (4, .int (iV (z)))] (by decide) rfl (fun ls hl => ?_)
                      refine r_iinc X dX8_need_163 hl 2 rfl [(6, .int (iV (i + 1))), (5, .int (iV (r))), (7, .int (iV (0))), (0, .ref (g.1 + 100)), (2, .int (iV (w))), (4, .int (iV (z)))] (by decide) rfl (fun ls hl => ?_)
                      refine r_goto X 99 dX8_need_166 (by decide) ?_
                      exact ih99 (i + 1) r (by omega) (by omega) (by rw [show (i + 1).toNat = i.toNat + 1 by omega, bestN, ← hr, show ((i.toNat : Nat) : Int) = i by omega]; rw [if_neg (by omega)]) _ _ _ (by omega) Y (lv_sub hl [0, 1, 3, 4, 5] rfl)
                    · exact absurd c128 (by omega)
                  · refine r_iconst X dX8_need_119 ?_
                    refine r_goto X 124 dX8_need_120 (by decide) ?_
                    refine r_istore X dX8_need_124 hl [(7, .int (iV (1))), (6, .int (iV (i))), (5, .int (iV (r))), (0, .ref (g.1 + 100)), (2, .int (iV (w))), (4, .int (iV (z)))] (by decide) rfl (fun ls hl => ?_)
                    refine r_iload X dX8_need_126 hl 0 rfl ?_
                    refine r_if_eq X (tgt := 159) dX8_need_128 (by decide) ⟨by omega, by omega⟩ (fun c128 => ?_) (fun c128 => ?_)
                    · exact absurd c128 (by omega)
                    · refine r_iload X dX8_need_131 hl 2 rfl ?_
                      refine r_iconst X dX8_need_133 ?_
                      refine r_icmp_eq X (tgt := 154) dX8_need_134 (by decide) ⟨by omega, by omega⟩ ⟨by omega, by omega⟩ (fun c134 => ?_) (fun c134 => ?_)
                      · refine r_iload X dX8_need_154 hl 1 rfl ?_
                        refine r_goto X 161 dX8_need_156 (by decide) ?_
                        refine r_istore X dX8_need_161 hl [(5, .int (iV (i))), (7, .int (iV (1))), (6, .int (iV (i))), (0, .ref (g.1 + 100)), (2, .int (iV (w))), (4, .int (iV (z)))] (by decide) rfl (fun ls hl => ?_)
                        refine r_iinc X dX8_need_163 hl 2 rfl [(6, .int (iV (i + 1))), (5, .int (iV (i))), (7, .int (iV (1))), (0, .ref (g.1 + 100)), (2, .int (iV (w))), (4, .int (iV (z)))] (by decide) rfl (fun ls hl => ?_)
                        refine r_goto X 99 dX8_need_166 (by decide) ?_
                        exact ih99 (i + 1) i (by omega) (by omega) (by rw [show (i + 1).toNat = i.toNat + 1 by omega, bestN, ← hr, show ((i.toNat : Nat) : Int) = i by omega]; rw [if_pos (by omega)]) _ _ _ (by omega) Y (lv_sub hl [0, 1, 3, 4, 5] rfl)
                      · have hm2 := L.m (i := r) (by omega) (by omega)
                        refine r_aload_n X dX8_need_137 hl 3 rfl ?_
                        refine g_8_12 (k := 100) X Y rfl wm_749 dX8_need_138 ?_
                        refine r_iload X dX8_need_141 hl 1 rfl ?_
                        refine g_ild (k := 107) X Y rfl (by omega) (by have q : ((al 107 : Nat) : Int) = 5 := rfl; omega) dX8_need_143 ?_
                        refine r_aload_n X dX8_need_144 hl 3 rfl ?_
                        refine g_8_12 (k := 100) X Y rfl wm_749 dX8_need_145 ?_
                        refine r_iload X dX8_need_148 hl 2 rfl ?_
                        refine g_ild (k := 107) X Y rfl (by omega) (by have q : ((al 107 : Nat) : Int) = 5 := rfl; omega) dX8_need_150 ?_
                        refine r_icmp_ge X (tgt := 159) dX8_need_151 (by decide) ⟨by omega, by omega⟩ ⟨by omega, by omega⟩ (fun c151 => ?_) (fun c151 => ?_)
                        · refine r_iload X dX8_need_159 hl 2 rfl ?_
                          refine r_istore X dX8_need_161 hl [(5, .int (iV (r))), (7, .int (iV (1))), (6, .int (iV (i))), (0, .ref (g.1 + 100)), (2, .int (iV (w))), (4, .int (iV (z)))] (by decide) rfl (fun ls hl => ?_)
                          refine r_iinc X dX8_need_163 hl 2 rfl [(6, .int (iV (i + 1))), (5, .int (iV (r))), (7, .int (iV (1))), (0, .ref (g.1 + 100)), (2, .int (iV (w))), (4, .int (iV (z)))] (by decide) rfl (fun ls hl => ?_)
                          refine r_goto X 99 dX8_need_166 (by decide) ?_
                          exact ih99 (i + 1) r (by omega) (by omega) (by rw [show (i + 1).toNat = i.toNat + 1 by omega, bestN, ← hr, show ((i.toNat : Nat) : Int) = i by omega]; rw [if_neg (by omega)]) _ _ _ (by omega) Y (lv_sub hl [0, 1, 3, 4, 5] rfl)
                        · refine r_iload X dX8_need_154 hl 1 rfl ?_
                          refine r_goto X 161 dX8_need_156 (by decide) ?_
                          refine r_istore X dX8_need_161 hl [(5, .int (iV (i))), (7, .int (iV (1))), (6, .int (iV (i))), (0, .ref (g.1 + 100)), (2, .int (iV (w))), (4, .int (iV (z)))] (by decide) rfl (fun ls hl => ?_)
                          refine r_iinc X dX8_need_163 hl 2 rfl [(6, .int (iV (i + 1))), (5, .int (iV (i))), (7, .int (iV (1))), (0, .ref (g.1 + 100)), (2, .int (iV (w))), (4, .int (iV (z)))] (by decide) rfl (fun ls hl => ?_)
                          refine r_goto X 99 dX8_need_166 (by decide) ?_
                          exact ih99 (i + 1) i (by omega) (by omega) (by rw [show (i + 1).toNat = i.toNat + 1 by omega, bestN, ← hr, show ((i.toNat : Nat) : Int) = i by omega]; rw [if_pos (by omega)]) _ _ _ (by omega) Y (lv_sub hl [0, 1, 3, 4, 5] rfl)
            exact loop99 (((a 16 3 - (0:Int)).toNat) + 1) 0 (-1) (by omega) (by omega) rfl _ _ _ (Nat.lt_succ_self _) Y (lv_sub hl [0, 1, 4, 6, 2] rfl)
        · refine r_iload_n X dX8_need_45 hl 1 rfl ?_
          refine r_aload_n X dX8_need_46 hl 0 rfl ?_
          refine g_8_0 (k := 100) X Y rfl wm_737 dX8_need_47 ?_
          refine r_iconst X dX8_need_50 ?_
          refine g_ild (k := 101) X Y rfl (by omega) (by have q : ((al 101 : Nat) : Int) = 1008 := rfl; omega) dX8_need_51 ?_
          refine r_isub X dX8_need_52 ?_
          refine r_goto X 57 dX8_need_53 (by decide) ?_
          refine r_istore_n X dX8_need_57 hl [(3, .int (iV (q - (f 101 2)))), (0, .ref (g.1 + 100)), (1, .int (iV (q))), (2, .int (iV (w)))] (by decide) rfl (fun ls hl => ?_)
          refine r_iload_n X dX8_need_58 hl 0 rfl ?_
          refine r_aload_n X dX8_need_59 hl 1 rfl ?_
          refine g_8_9 (k := 100) X Y rfl wm_746 dX8_need_60 ?_
          refine r_aload_n X dX8_need_63 hl 1 rfl ?_
          refine g_8_0 (k := 100) X Y rfl wm_737 dX8_need_64 ?_
          refine r_iconst X dX8_need_67 ?_
          refine g_ild (k := 101) X Y rfl (by omega) (by have q : ((al 101 : Nat) : Int) = 1008 := rfl; omega) dX8_need_68 ?_
          refine g_ild (k := 105) X Y rfl (by omega) (by have q : ((al 105 : Nat) : Int) = 7 := rfl; omega) dX8_need_69 ?_
          refine r_eq (z' := costX a b) (by rw [p0]; exact (hco (by omega)).1) ?_
          obtain ⟨hc1, hc2, hc3⟩ := hco (by omega)
          refine r_imul X dX8_need_70 ?_
          have mp0 : 0 ≤ (q - a 18 1) * costX a b ∨ q < a 18 1 := by rcases Int.lt_or_le q (a 18 1) with h9 | h9; exact Or.inr h9; exact Or.inl (Int.mul_nonneg (by omega) (by omega))
          have mp1 : (q - f 101 2) * costX a b ≤ 9 * 99 ∨ q < a 18 1 := by rcases Int.lt_or_le q (a 18 1) with h9 | h9; exact Or.inr h9; exact Or.inl (Int.mul_le_mul (by omega) (by omega) (by omega) (by omega))
          have mp2 : (q - f 101 2) * costX a b = (q - a 18 1) * costX a b := by rw [p2]
          refine r_aload_n X dX8_need_71 hl 1 rfl ?_
          refine g_8_0 (k := 100) X Y rfl wm_737 dX8_need_72 ?_
          refine r_iconst X dX8_need_75 ?_
          refine g_ild (k := 101) X Y rfl (by omega) (by have q : ((al 101 : Nat) : Int) = 1008 := rfl; omega) dX8_need_76 ?_
          refine r_isub X dX8_need_77 ?_
          refine r_istore X dX8_need_78 hl [(4, .int (iV (((q - (f 101 2)) * (costX a b)) - (f 101 3)))), (3, .int (iV (q - (f 101 2)))), (0, .ref (g.1 + 100)), (1, .int (iV (q))), (2, .int (iV (w)))] (by decide) rfl (fun ls hl => ?_)
          refine r_iload X dX8_need_80 hl 0 rfl ?_
          refine r_if_le X (tgt := 90) dX8_need_82 (by decide) ⟨by omega, by omega⟩ (fun c82 => ?_) (fun c82 => ?_)
          · refine r_iconst X dX8_need_90 ?_
            obtain ⟨z, hz⟩ : ∃ q0, q0 = lacX a b q := ⟨_, rfl⟩
            refine r_eq (z' := z) (by rw [hz]; unfold lacX; (first | rw [show max 0 (q - a 18 1) = q - f 101 2 by omega] | rw [show max 0 (q - a 18 1) = 0 by omega]); omega) ?_
            have hzr : 0 ≤ z ∧ z ≤ 1000 := by rw [hz]; unfold lacX; have m0 : 0 ≤ max 0 (q - a 18 1) * costX a b := Int.mul_nonneg (by omega) (by omega); have m1 : max 0 (q - a 18 1) * costX a b ≤ 9 * 99 := Int.mul_le_mul (by omega) (by omega) (by omega) (by omega); omega
            refine r_istore X dX8_need_91 hl [(4, .int (iV (z))), (3, .int (iV (q - (f 101 2)))), (0, .ref (g.1 + 100)), (1, .int (iV (q))), (2, .int (iV (w)))] (by decide) rfl (fun ls hl => ?_)
            refine r_iconst X dX8_need_93 ?_
            refine r_istore X dX8_need_94 hl [(5, .int (iV ((-1)))), (4, .int (iV (z))), (3, .int (iV (q - (f 101 2)))), (0, .ref (g.1 + 100)), (1, .int (iV (q))), (2, .int (iV (w)))] (by decide) rfl (fun ls hl => ?_)
            refine r_iconst X dX8_need_96 ?_
            refine r_istore X dX8_need_97 hl [(6, .int (iV (0))), (5, .int (iV ((-1)))), (4, .int (iV (z))), (3, .int (iV (q - (f 101 2)))), (0, .ref (g.1 + 100)), (1, .int (iV (q))), (2, .int (iV (w)))] (by decide) rfl (fun ls hl => ?_)
            have loop99 : ∀ (N : Nat) (i : Int) (r : Int) (hi0 : 0 ≤ i) (hi1 : i ≤ a 16 3) (hr : r = bestN (yetX a b) (fun j => tget a b 16 j 1) z i.toNat) (H : Heap) (locs : List Loc) (ls : Array Slot), (a 16 3 - i).toNat < N → uY g 117 (cX g t f) s H locs → lv_has ls 8 [(6, .int (iV (i))), (5, .int (iV (r))), (0, .ref (g.1 + 100)), (2, .int (iV (w))), (4, .int (iV (z)))] → W p l e R s m args below meth c H locs 0 0 Q (F0 m 99 ls []) := by
              intro N
              induction N with
              | zero => intro i r hi0 hi1 hr H locs ls hmu Y hl; exact absurd hmu (Nat.not_lt_zero _)
              | succ N ih99 =>
                intro i r hi0 hi1 hr H locs ls hmu Y hl
                have hrr := bestN_rng (yetX a b) (fun j => tget a b 16 j 1) z i.toNat
                rw [← hr] at hrr
                refine r_iload X dX8_need_99 hl 0 rfl ?_
                refine r_aload_n X dX8_need_101 hl 2 rfl ?_
                refine g_8_10 (k := 100) X Y rfl wm_747 dX8_need_102 ?_
                refine r_icmp_ge X (tgt := 169) dX8_need_105 (by decide) ⟨by omega, by omega⟩ ⟨by omega, by omega⟩ (fun c105 => ?_) (fun c105 => ?_)
                · refine r_iload_n X dX8_need_169 hl 3 rfl ?_
                  refine r_if_ne X (tgt := 178) dX8_need_170 (by decide) ⟨by omega, by omega⟩ (fun c170 => ?_) (fun c170 => ?_)
                  · refine r_iload X dX8_need_178 hl 1 rfl ?_
                    exact ret _ _ _ _ _ _ _ dX8_need_180 Y ⟨by unfold neeX; rw [if_neg (by omega), if_neg (by omega), if_neg (by omega), ← hz, hr, show i = a 16 3 by omega], rfl, rfl⟩
                  · refine r_iload X dX8_need_173 hl 4 rfl ?_
                    refine r_goto X 180 dX8_need_175 (by decide) ?_
                    exact ret _ _ _ _ _ _ _ dX8_need_180 Y ⟨by unfold neeX; rw [if_neg (by omega), if_neg (by omega), if_pos (by omega)]; exact hz, rfl, rfl⟩
                · have hm := L.m hi0 (show i < a 16 3 by omega)
                  refine r_aload_n X dX8_need_108 hl 2 rfl ?_
                  refine r_iload X dX8_need_109 hl 0 rfl ?_
                  refine vF_i X Y [.int (iV (i))] [] (ct_X8_yetOf l g t f a b i L (by omega) (by omega)) mk_X8_yetOf mi_X8_yetOf wm_952 (by decide) (rv_8 Y rfl) rfl hl (Nat.le_of_ble_eq_true rfl) rfl dX8_need_111 (Nat.zero_le _) (Nat.zero_le _) (fun H locs Y => ?_)
                  have qy111 := yetX_rng L.1 i
                  refine r_iload X dX8_need_114 hl 4 rfl ?_
                  refine r_icmp_lt X (tgt := 123) dX8_need_116 (by decide) ⟨by omega, by omega⟩ ⟨by omega, by omega⟩ (fun c116 => ?_) (fun c116 => ?_)
                  · refine r_iconst X dX8_need_123 ?_
                    refine r_istore X dX8_need_124 hl [(7, .int (iV (0))), (6, .int (iV (i))), (5, .int (iV (r))), (0, .ref (g.1 + 100)), (2, .int (iV (w))), (4, .int (iV (z)))] (by decide) rfl (fun ls hl => ?_)
                    refine r_iload X dX8_need_126 hl 0 rfl ?_
                    refine r_if_eq X (tgt := 159) dX8_need_128 (by decide) ⟨by omega, by omega⟩ (fun c128 => ?_) (fun c128 => ?_)
                    · refine r_iload X dX8_need_159 hl 2 rfl ?_
                      refine r_istore X dX8_need_161 hl [(5, .int (iV (r))), (7, .int (iV (0))), (6, .int (iV (i))), (0, .ref (g.1 + 100)), (2, .int (iV (w))), (4, .int (iV (z)))] (by decide) rfl (fun ls hl => ?_)
                      refine r_iinc X dX8_need_163 hl 2 rfl [(6, .int (iV (i + 1))), (5, .int (iV (r))), (7, .int (iV (0))), (0, .ref (g.1 + 100)), (2, .int (iV (w))), (4, .int (iV (z)))] (by decide) rfl (fun ls hl => ?_)
                      refine r_goto X 99 dX8_need_166 (by decide) ?_
                      exact ih99 (i + 1) r (by omega) (by omega) (by rw [show (i + 1).toNat = i.toNat + 1 by omega, bestN, ← hr, show ((i.toNat : Nat) : Int) = i by omega]; rw [if_neg (by omega)]) _ _ _ (by omega) Y (lv_sub hl [0, 1, 3, 4, 5] rfl)
                    · exact absurd c128 (by omega)
                  · refine r_iconst X dX8_need_119 ?_
                    refine r_goto X 124 dX8_need_120 (by decide) ?_
                    refine r_istore X dX8_need_124 hl [(7, .int (iV (1))), (6, .int (iV (i))), (5, .int (iV (r))), (0, .ref (g.1 + 100)), (2, .int (iV (w))), (4, .int (iV (z)))] (by decide) rfl (fun ls hl => ?_)
                    refine r_iload X dX8_need_126 hl 0 rfl ?_
                    refine r_if_eq X (tgt := 159) dX8_need_128 (by decide) ⟨by omega, by omega⟩ (fun c128 => ?_) (fun c128 => ?_)
                    · exact absurd c128 (by omega)
                    · refine r_iload X dX8_need_131 hl 2 rfl ?_
                      refine r_iconst X dX8_need_133 ?_
                      refine r_icmp_eq X (tgt := 154) dX8_need_134 (by decide) ⟨by omega, by omega⟩ ⟨by omega, by omega⟩ (fun c134 => ?_) (fun c134 => ?_)
                      · refine r_iload X dX8_need_154 hl 1 rfl ?_
                        refine r_goto X 161 dX8_need_156 (by decide) ?_
                        refine r_istore X dX8_need_161 hl [(5, .int (iV (i))), (7, .int (iV (1))), (6, .int (iV (i))), (0, .ref (g.1 + 100)), (2, .int (iV (w))), (4, .int (iV (z)))] (by decide) rfl (fun ls hl => ?_)
                        refine r_iinc X dX8_need_163 hl 2 rfl [(6, .int (iV (i + 1))), (5, .int (iV (i))), (7, .int (iV (1))), (0, .ref (g.1 + 100)), (2, .int (iV (w))), (4, .int (iV (z)))] (by decide) rfl (fun ls hl => ?_)
                        refine r_goto X 99 dX8_need_166 (by decide) ?_
                        exact ih99 (i + 1) i (by omega) (by omega) (by rw [show (i + 1).toNat = i.toNat + 1 by omega, bestN, ← hr, show ((i.toNat : Nat) : Int) = i by omega]; rw [if_pos (by omega)]) _ _ _ (by omega) Y (lv_sub hl [0, 1, 3, 4, 5] rfl)
                      · have hm2 := L.m (i := r) (by omega) (by omega)
                        refine r_aload_n X dX8_need_137 hl 3 rfl ?_
                        refine g_8_12 (k := 100) X Y rfl wm_749 dX8_need_138 ?_
                        refine r_iload X dX8_need_141 hl 1 rfl ?_
                        refine g_ild (k := 107) X Y rfl (by omega) (by have q : ((al 107 : Nat) : Int) = 5 := rfl; omega) dX8_need_143 ?_
                        refine r_aload_n X dX8_need_144 hl 3 rfl ?_
                        refine g_8_12 (k := 100) X Y rfl wm_749 dX8_need_145 ?_
                        refine r_iload X dX8_need_148 hl 2 rfl ?_
                        refine g_ild (k := 107) X Y rfl (by omega) (by have q : ((al 107 : Nat) : Int) = 5 := rfl; omega) dX8_need_150 ?_
                        refine r_icmp_ge X (tgt := 159) dX8_need_151 (by decide) ⟨by omega, by omega⟩ ⟨by omega, by omega⟩ (fun c151 => ?_) (fun c151 => ?_)
                        · refine r_iload X dX8_need_159 hl 2 rfl ?_
                          refine r_istore X dX8_need_161 hl [(5, .int (iV (r))), (7, .int (iV (1))), (6, .int (iV (i))), (0, .ref (g.1 + 100)), (2, .int (iV (w))), (4, .int (iV (z)))] (by decide) rfl (fun ls hl => ?_)
                          refine r_iinc X dX8_need_163 hl 2 rfl [(6, .int (iV (i + 1))), (5, .int (iV (r))), (7, .int (iV (1))), (0, .ref (g.1 + 100)), (2, .int (iV (w))), (4, .int (iV (z)))] (by decide) rfl (fun ls hl => ?_)
                          refine r_goto X 99 dX8_need_166 (by decide) ?_
                          exact ih99 (i + 1) r (by omega) (by omega) (by rw [show (i + 1).toNat = i.toNat + 1 by omega, bestN, ← hr, show ((i.toNat : Nat) : Int) = i by omega]; rw [if_neg (by omega)]) _ _ _ (by omega) Y (lv_sub hl [0, 1, 3, 4, 5] rfl)
                        · refine r_iload X dX8_need_154 hl 1 rfl ?_
                          refine r_goto X 161 dX8_need_156 (by decide) ?_
                          refine r_istore X dX8_need_161 hl [(5, .int (iV (i))), (7, .int (iV (1))), (6, .int (iV (i))), (0, .ref (g.1 + 100)), (2, .int (iV (w))), (4, .int (iV (z)))] (by decide) rfl (fun ls hl => ?_)
                          refine r_iinc X dX8_need_163 hl 2 rfl [(6, .int (iV (i + 1))), (5, .int (iV (i))), (7, .int (iV (1))), (0, .ref (g.1 + 100)), (2, .int (iV (w))), (4, .int (iV (z)))] (by decide) rfl (fun ls hl => ?_)
                          refine r_goto X 99 dX8_need_166 (by decide) ?_
                          exact ih99 (i + 1) i (by omega) (by omega) (by rw [show (i + 1).toNat = i.toNat + 1 by omega, bestN, ← hr, show ((i.toNat : Nat) : Int) = i by omega]; rw [if_pos (by omega)]) _ _ _ (by omega) Y (lv_sub hl [0, 1, 3, 4, 5] rfl)
            exact loop99 (((a 16 3 - (0:Int)).toNat) + 1) 0 (-1) (by omega) (by omega) rfl _ _ _ (Nat.lt_succ_self _) Y (lv_sub hl [0, 1, 4, 6, 2] rfl)
          · refine r_iload X dX8_need_85 hl 0 rfl ?_
            refine r_goto X 91 dX8_need_87 (by decide) ?_
            obtain ⟨z, hz⟩ : ∃ q0, q0 = lacX a b q := ⟨_, rfl⟩
            refine r_eq (z' := z) (by rw [hz]; unfold lacX; (first | rw [show max 0 (q - a 18 1) = q - f 101 2 by omega] | rw [show max 0 (q - a 18 1) = 0 by omega]); omega) ?_
            have hzr : 0 ≤ z ∧ z ≤ 1000 := by rw [hz]; unfold lacX; have m0 : 0 ≤ max 0 (q - a 18 1) * costX a b := Int.mul_nonneg (by omega) (by omega); have m1 : max 0 (q - a 18 1) * costX a b ≤ 9 * 99 := Int.mul_le_mul (by omega) (by omega) (by omega) (by omega); omega
            refine r_istore X dX8_need_91 hl [(4, .int (iV (z))), (3, .int (iV (q - (f 101 2)))), (0, .ref (g.1 + 100)), (1, .int (iV (q))), (2, .int (iV (w)))] (by decide) rfl (fun ls hl => ?_)
            refine r_iconst X dX8_need_93 ?_
            refine r_istore X dX8_need_94 hl [(5, .int (iV ((-1)))), (4, .int (iV (z))), (3, .int (iV (q - (f 101 2)))), (0, .ref (g.1 + 100)), (1, .int (iV (q))), (2, .int (iV (w)))] (by decide) rfl (fun ls hl => ?_)
            refine r_iconst X dX8_need_96 ?_
            refine r_istore X dX8_need_97 hl [(6, .int (iV (0))), (5, .int (iV ((-1)))), (4, .int (iV (z))), (3, .int (iV (q - (f 101 2)))), (0, .ref (g.1 + 100)), (1, .int (iV (q))), (2, .int (iV (w)))] (by decide) rfl (fun ls hl => ?_)
            have loop99 : ∀ (N : Nat) (i : Int) (r : Int) (hi0 : 0 ≤ i) (hi1 : i ≤ a 16 3) (hr : r = bestN (yetX a b) (fun j => tget a b 16 j 1) z i.toNat) (H : Heap) (locs : List Loc) (ls : Array Slot), (a 16 3 - i).toNat < N → uY g 117 (cX g t f) s H locs → lv_has ls 8 [(6, .int (iV (i))), (5, .int (iV (r))), (0, .ref (g.1 + 100)), (2, .int (iV (w))), (4, .int (iV (z)))] → W p l e R s m args below meth c H locs 0 0 Q (F0 m 99 ls []) := by
              intro N
              induction N with
              | zero => intro i r hi0 hi1 hr H locs ls hmu Y hl; exact absurd hmu (Nat.not_lt_zero _)
              | succ N ih99 =>
                intro i r hi0 hi1 hr H locs ls hmu Y hl
                have hrr := bestN_rng (yetX a b) (fun j => tget a b 16 j 1) z i.toNat
                rw [← hr] at hrr
                refine r_iload X dX8_need_99 hl 0 rfl ?_
                refine r_aload_n X dX8_need_101 hl 2 rfl ?_
                refine g_8_10 (k := 100) X Y rfl wm_747 dX8_need_102 ?_
                refine r_icmp_ge X (tgt := 169) dX8_need_105 (by decide) ⟨by omega, by omega⟩ ⟨by omega, by omega⟩ (fun c105 => ?_) (fun c105 => ?_)
                · refine r_iload_n X dX8_need_169 hl 3 rfl ?_
                  refine r_if_ne X (tgt := 178) dX8_need_170 (by decide) ⟨by omega, by omega⟩ (fun c170 => ?_) (fun c170 => ?_)
                  · refine r_iload X dX8_need_178 hl 1 rfl ?_
                    exact ret _ _ _ _ _ _ _ dX8_need_180 Y ⟨by unfold neeX; rw [if_neg (by omega), if_neg (by omega), if_neg (by omega), ← hz, hr, show i = a 16 3 by omega], rfl, rfl⟩
                  · refine r_iload X dX8_need_173 hl 4 rfl ?_
                    refine r_goto X 180 dX8_need_175 (by decide) ?_
                    exact ret _ _ _ _ _ _ _ dX8_need_180 Y ⟨by unfold neeX; rw [if_neg (by omega), if_neg (by omega), if_pos (by omega)]; exact hz, rfl, rfl⟩
                · have hm := L.m hi0 (show i < a 16 3 by omega)
                  refine r_aload_n X dX8_need_108 hl 2 rfl ?_
                  refine r_iload X dX8_need_109 hl 0 rfl ?_
                  refine vF_i X Y [.int (iV (i))] [] (ct_X8_yetOf l g t f a b i L (by omega) (by omega)) mk_X8_yetOf mi_X8_yetOf wm_952 (by decide) (rv_8 Y rfl) rfl hl (Nat.le_of_ble_eq_true rfl) rfl dX8_need_111 (Nat.zero_le _) (Nat.zero_le _) (fun H locs Y => ?_)
                  have qy111 := yetX_rng L.1 i
                  refine r_iload X dX8_need_114 hl 4 rfl ?_
                  refine r_icmp_lt X (tgt := 123) dX8_need_116 (by decide) ⟨by omega, by omega⟩ ⟨by omega, by omega⟩ (fun c116 => ?_) (fun c116 => ?_)
                  · refine r_iconst X dX8_need_123 ?_
                    refine r_istore X dX8_need_124 hl [(7, .int (iV (0))), (6, .int (iV (i))), (5, .int (iV (r))), (0, .ref (g.1 + 100)), (2, .int (iV (w))), (4, .int (iV (z)))] (by decide) rfl (fun ls hl => ?_)
                    refine r_iload X dX8_need_126 hl 0 rfl ?_
                    refine r_if_eq X (tgt := 159) dX8_need_128 (by decide) ⟨by omega, by omega⟩ (fun c128 => ?_) (fun c128 => ?_)
                    · refine r_iload X dX8_need_159 hl 2 rfl ?_
                      refine r_istore X dX8_need_161 hl [(5, .int (iV (r))), (7, .int (iV (0))), (6, .int (iV (i))), (0, .ref (g.1 + 100)), (2, .int (iV (w))), (4, .int (iV (z)))] (by decide) rfl (fun ls hl => ?_)
                      refine r_iinc X dX8_need_163 hl 2 rfl [(6, .int (iV (i + 1))), (5, .int (iV (r))), (7, .int (iV (0))), (0, .ref (g.1 + 100)), (2, .int (iV (w))), (4, .int (iV (z)))] (by decide) rfl (fun ls hl => ?_)
                      refine r_goto X 99 dX8_need_166 (by decide) ?_
                      exact ih99 (i + 1) r (by omega) (by omega) (by rw [show (i + 1).toNat = i.toNat + 1 by omega, bestN, ← hr, show ((i.toNat : Nat) : Int) = i by omega]; rw [if_neg (by omega)]) _ _ _ (by omega) Y (lv_sub hl [0, 1, 3, 4, 5] rfl)
                    · exact absurd c128 (by omega)
                  · refine r_iconst X dX8_need_119 ?_
                    refine r_goto X 124 dX8_need_120 (by decide) ?_
                    refine r_istore X dX8_need_124 hl [(7, .int (iV (1))), (6, .int (iV (i))), (5, .int (iV (r))), (0, .ref (g.1 + 100)), (2, .int (iV (w))), (4, .int (iV (z)))] (by decide) rfl (fun ls hl => ?_)
                    refine r_iload X dX8_need_126 hl 0 rfl ?_
                    refine r_if_eq X (tgt := 159) dX8_need_128 (by decide) ⟨by omega, by omega⟩ (fun c128 => ?_) (fun c128 => ?_)
                    · exact absurd c128 (by omega)
                    · refine r_iload X dX8_need_131 hl 2 rfl ?_
                      refine r_iconst X dX8_need_133 ?_
                      refine r_icmp_eq X (tgt := 154) dX8_need_134 (by decide) ⟨by omega, by omega⟩ ⟨by omega, by omega⟩ (fun c134 => ?_) (fun c134 => ?_)
                      · refine r_iload X dX8_need_154 hl 1 rfl ?_
                        refine r_goto X 161 dX8_need_156 (by decide) ?_
                        refine r_istore X dX8_need_161 hl [(5, .int (iV (i))), (7, .int (iV (1))), (6, .int (iV (i))), (0, .ref (g.1 + 100)), (2, .int (iV (w))), (4, .int (iV (z)))] (by decide) rfl (fun ls hl => ?_)
                        refine r_iinc X dX8_need_163 hl 2 rfl [(6, .int (iV (i + 1))), (5, .int (iV (i))), (7, .int (iV (1))), (0, .ref (g.1 + 100)), (2, .int (iV (w))), (4, .int (iV (z)))] (by decide) rfl (fun ls hl => ?_)
                        refine r_goto X 99 dX8_need_166 (by decide) ?_
                        exact ih99 (i + 1) i (by omega) (by omega) (by rw [show (i + 1).toNat = i.toNat + 1 by omega, bestN, ← hr, show ((i.toNat : Nat) : Int) = i by omega]; rw [if_pos (by omega)]) _ _ _ (by omega) Y (lv_sub hl [0, 1, 3, 4, 5] rfl)
                      · have hm2 := L.m (i := r) (by omega) (by omega)
                        refine r_aload_n X dX8_need_137 hl 3 rfl ?_
                        refine g_8_12 (k := 100) X Y rfl wm_749 dX8_need_138 ?_
                        refine r_iload X dX8_need_141 hl 1 rfl ?_
                        refine g_ild (k := 107) X Y rfl (by omega) (by have q : ((al 107 : Nat) : Int) = 5 := rfl; omega) dX8_need_143 ?_
                        refine r_aload_n X dX8_need_144 hl 3 rfl ?_
                        refine g_8_12 (k := 100) X Y rfl wm_749 dX8_need_145 ?_
                        refine r_iload X dX8_need_148 hl 2 rfl ?_
                        refine g_ild (k := 107) X Y rfl (by omega) (by have q : ((al 107 : Nat) : Int) = 5 := rfl; omega) dX8_need_150 ?_
                        refine r_icmp_ge X (tgt := 159) dX8_need_151 (by decide) ⟨by omega, by omega⟩ ⟨by omega, by omega⟩ (fun c151 => ?_) (fun c151 => ?_)
                        · refine r_iload X dX8_need_159 hl 2 rfl ?_
                          refine r_istore X dX8_need_161 hl [(5, .int (iV (r))), (7, .int (iV (1))), (6, .int (iV (i))), (0, .ref (g.1 + 100)), (2, .int (iV (w))), (4, .int (iV (z)))] (by decide) rfl (fun ls hl => ?_)
                          refine r_iinc X dX8_need_163 hl 2 rfl [(6, .int (iV (i + 1))), (5, .int (iV (r))), (7, .int (iV (1))), (0, .ref (g.1 + 100)), (2, .int (iV (w))), (4, .int (iV (z)))] (by decide) rfl (fun ls hl => ?_)
                          refine r_goto X 99 dX8_need_166 (by decide) ?_
                          exact ih99 (i + 1) r (by omega) (by omega) (by rw [show (i + 1).toNat = i.toNat + 1 by omega, bestN, ← hr, show ((i.toNat : Nat) : Int) = i by omega]; rw [if_neg (by omega)]) _ _ _ (by omega) Y (lv_sub hl [0, 1, 3, 4, 5] rfl)
                        · refine r_iload X dX8_need_154 hl 1 rfl ?_
                          refine r_goto X 161 dX8_need_156 (by decide) ?_
                          refine r_istore X dX8_need_161 hl [(5, .int (iV (i))), (7, .int (iV (1))), (6, .int (iV (i))), (0, .ref (g.1 + 100)), (2, .int (iV (w))), (4, .int (iV (z)))] (by decide) rfl (fun ls hl => ?_)
                          refine r_iinc X dX8_need_163 hl 2 rfl [(6, .int (iV (i + 1))), (5, .int (iV (i))), (7, .int (iV (1))), (0, .ref (g.1 + 100)), (2, .int (iV (w))), (4, .int (iV (z)))] (by decide) rfl (fun ls hl => ?_)
                          refine r_goto X 99 dX8_need_166 (by decide) ?_
                          exact ih99 (i + 1) i (by omega) (by omega) (by rw [show (i + 1).toNat = i.toNat + 1 by omega, bestN, ← hr, show ((i.toNat : Nat) : Int) = i by omega]; rw [if_pos (by omega)]) _ _ _ (by omega) Y (lv_sub hl [0, 1, 3, 4, 5] rfl)
            exact loop99 (((a 16 3 - (0:Int)).toNat) + 1) 0 (-1) (by omega) (by omega) rfl _ _ _ (Nat.lt_succ_self _) Y (lv_sub hl [0, 1, 4, 6, 2] rfl)
      · refine r_ldc X (-1000000003) wm_972 (by decide) dX8_need_32 ?_
        exact ret _ _ _ _ _ _ _ dX8_need_34 Y ⟨by unfold neeX; rw [if_neg (by omega), if_pos (by omega)], rfl, rfl⟩
    · refine r_ldc X (-1000000002) wm_855 (by decide) dX8_need_22 ?_
      exact ret _ _ _ _ _ _ _ dX8_need_24 Y ⟨by unfold neeX; rw [if_pos (by omega)], rfl, rfl⟩
set_option maxHeartbeats 4000000 in
set_option maxRecDepth 100000 in
theorem ct_X8_drift (l : Launch) (g : uG) (t : uN) (f : uF) (a : uN) (b : uF) (n : Int) (L : ML a b t f) (h2 : t 100 2 = a 21 2) (hP : PI a b) (hs : f 101 41 = a 0 11) (hr : 0 ≤ a 0 11 ∧ a 0 11 ≤ 2147483647) (hn : inI n) : cR_i l yX8_drift cX8_drift 4 (some .int) 3 g [.ref (g.1 + 100), .int (iV (n))] t f (DRQ a b t f n) := by
  refine eR_i (by decide +kernel) (Nat.le_of_ble_eq_true rfl) ?_
  intro p e R s m args below meth c Q ls H locs X Y hl ret
  have X : uX p 3 R s m args c cX8_drift 4 RX8 := X
  have hl : lv_has ls 4 [(0, .ref (g.1 + 100)), (1, .int (iV (n)))] := hl
  have hb := L.1.b
  obtain ⟨p0, p1, p2, p3, p4⟩ := L.p
  obtain ⟨v3, v4, v5, v6, v10⟩ := L.v
  have hk := L.2.1.2.1
  have hns := L.2.2.1
  have qp := inPortX_b a
  have hu := hP.2.1
  refine r_iload_n X dX8_drift_0 hl 1 rfl ?_
  refine r_i2l X dX8_drift_1 ⟨by omega, by omega⟩ ?_
  refine r_lconst X 1 dX8_drift_2 (by decide) ?_
  refine r_ldc2 X 7 wm_1007 (by decide) dX8_drift_3 ?_
  refine sF_i X Y [.long (lV (n)), .long (lV (1)), .long (lV (7))] [] (ct_X8_in l g t f n 1 7 ⟨by omega, by omega⟩ ⟨by omega, by omega⟩ ⟨by omega, by omega⟩) mk_X8_in mi_X8_in wm_852 (by decide) rfl hl (Nat.le_of_ble_eq_true rfl) rfl dX8_drift_6 (Nat.zero_le _) (Nat.zero_le _) (fun H locs Y => ?_)
  have qi6 := inX_b n 1 7
  refine r_if_ne X (tgt := 15) dX8_drift_9 (by decide) ⟨by omega, by omega⟩ (fun c9 => ?_) (fun c9 => ?_)
  · refine r_aload_n X dX8_drift_15 hl 0 rfl ?_
    refine vF_i X Y [] [] (ct_X8_where l g t f a b L) mk_X8_where mi_X8_where wm_907 (by decide) (rv_8 Y rfl) rfl hl (Nat.le_of_ble_eq_true rfl) rfl dX8_drift_16 (Nat.zero_le _) (Nat.zero_le _) (fun H locs Y => ?_)
    have qw16 := whereX_b hb.1.2.2.2
    refine r_if_eq X (tgt := 25) dX8_drift_19 (by decide) ⟨by omega, by omega⟩ (fun c19 => ?_) (fun c19 => ?_)
    · refine r_aload_n X dX8_drift_25 hl 0 rfl ?_
      refine vF_v X Y [] [] (ct_X8_minds l g t f (by omega) (by omega)) mk_X8_minds mi_X8_minds wm_982 (by decide) (rv_8 Y rfl) rfl hl (Nat.le_of_ble_eq_true rfl) rfl dX8_drift_26 (Nat.zero_le _) (Nat.zero_le _) (fun H locs Y => ?_)
      obtain ⟨tq1, htq1⟩ : ∃ q, q = minT t := ⟨_, rfl⟩
      obtain ⟨fq2, hfq2⟩ : ∃ q, q = minF t f := ⟨_, rfl⟩
      have Y : uY g 117 (cX g tq1 fq2) s H locs := by rw [htq1, hfq2]; exact Y
      have LM : ML (remT a) (putF a b) tq1 fq2 := by rw [htq1, hfq2]; exact L.rem hP.1 (by omega)
      have hs41 : fq2 101 41 = remT a 0 11 := by rw [hfq2, minF_lo (by omega) (by omega), hs, remT_off hP.1 (by omega) (by omega)]
      refine r_iconst X dX8_drift_29 ?_
      refine r_istore_n X dX8_drift_30 hl [(2, .int (iV (0))), (0, .ref (g.1 + 100)), (1, .int (iV (n)))] (by decide) rfl (fun ls hl => ?_)
      have loop31 : ∀ (N : Nat) (i : Int) (A : uN) (fz : uF) (hi0 : 0 ≤ i) (hi1 : i ≤ n) (hL : ML A (putF a b) tq1 fz) (hz : fz 101 41 = A 0 11) (hzr : 0 ≤ A 0 11 ∧ A 0 11 ≤ 2147483647) (he : driN (putF a b) (n - i).toNat A = driN (putF a b) n.toNat (remT a)) (hF : ∀ k j, ¬ (k = 101 ∧ (j = 0 ∨ j = 1 ∨ j = 2 ∨ j = 41)) → fz k j = minF t f k j) (H : Heap) (locs : List Loc) (ls : Array Slot), (n - i).toNat < N → uY g 117 (cX g tq1 fz) s H locs → lv_has ls 4 [(2, .int (iV (i))), (0, .ref (g.1 + 100)), (1, .int (iV (n)))] → W p l e R s m args below meth c H locs 0 0 Q (F0 m 31 ls []) := by
        intro N
        induction N with
        | zero => intro i A fz hi0 hi1 hL hz hzr he hF H locs ls hmu Y hl; exact absurd hmu (Nat.not_lt_zero _)
        | succ N ih31 =>
          intro i A fz hi0 hi1 hL hz hzr he hF H locs ls hmu Y hl
          have hAb := hL.1.b
          obtain ⟨g0, g1, g2, g3, g4⟩ := hL.p
          have hAk := hL.2.1.2.1
          have hpA := inPortX_b A
          refine r_iload_n X dX8_drift_31 hl 0 rfl ?_
          refine r_iload_n X dX8_drift_32 hl 2 rfl ?_
          refine r_icmp_ge X (tgt := 85) dX8_drift_33 (by decide) ⟨by omega, by omega⟩ ⟨by omega, by omega⟩ (fun c33 => ?_) (fun c33 => ?_)
          · refine r_aload_n X dX8_drift_85 hl 1 rfl ?_
            refine vF_i X Y [] [] (ct_X8_where l g tq1 fz A (putF a b) hL) mk_X8_where mi_X8_where wm_907 (by decide) (rv_8 Y rfl) rfl hl (Nat.le_of_ble_eq_true rfl) rfl dX8_drift_86 (Nat.zero_le _) (Nat.zero_le _) (fun H locs Y => ?_)
            have qw86 := whereX_b hAb.1.2.2.2
            exact ret _ _ _ _ _ _ _ dX8_drift_89 Y (by have hA : driN (putF a b) n.toNat (remT a) = A := (by rw [← he, show (n - i).toNat = 0 by omega]; rfl); have hq : driX a b n = whereX A := (by unfold driX; rw [if_neg (by omega), if_neg (by omega), hA]); exact ⟨hq.symm, Or.inr ⟨by omega, htq1, by rw [hA]; exact hL, by rw [hA]; exact hz, hF⟩⟩)
          · refine r_aload_n X dX8_drift_36 hl 1 rfl ?_
            refine vF_i X Y [] [] (ct_X8_where l g tq1 fz A (putF a b) hL) mk_X8_where mi_X8_where wm_907 (by decide) (rv_8 Y rfl) rfl hl (Nat.le_of_ble_eq_true rfl) rfl dX8_drift_37 (Nat.zero_le _) (Nat.zero_le _) (fun H locs Y => ?_)
            have qw37 := whereX_b hAb.1.2.2.2
            refine r_if_ne X (tgt := 85) dX8_drift_40 (by decide) ⟨by omega, by omega⟩ (fun c40 => ?_) (fun c40 => ?_)
            · refine r_aload_n X dX8_drift_85 hl 1 rfl ?_
              refine vF_i X Y [] [] (ct_X8_where l g tq1 fz A (putF a b) hL) mk_X8_where mi_X8_where wm_907 (by decide) (rv_8 Y rfl) rfl hl (Nat.le_of_ble_eq_true rfl) rfl dX8_drift_86 (Nat.zero_le _) (Nat.zero_le _) (fun H locs Y => ?_)
              have qw86 := whereX_b hAb.1.2.2.2
              exact ret _ _ _ _ _ _ _ dX8_drift_89 Y (by have hA : driN (putF a b) n.toNat (remT a) = A := (by rw [← he]; exact driN_stop _ (by omega) _); have hq : driX a b n = whereX A := (by unfold driX; rw [if_neg (by omega), if_neg (by omega), hA]); exact ⟨hq.symm, Or.inr ⟨by omega, htq1, by rw [hA]; exact hL, by rw [hA]; exact hz, hF⟩⟩)
            · refine r_aload_n X dX8_drift_43 hl 1 rfl ?_
              refine r_aload_n X dX8_drift_44 hl 1 rfl ?_
              refine g_8_0 (k := 100) X Y rfl wm_737 dX8_drift_45 ?_
              refine r_iconst X dX8_drift_48 ?_
              refine g_ild (k := 101) X Y rfl (by omega) (by have q : ((al 101 : Nat) : Int) = 1008 := rfl; omega) dX8_drift_49 ?_
              refine r_aload_n X dX8_drift_50 hl 1 rfl ?_
              refine g_8_0 (k := 100) X Y rfl wm_737 dX8_drift_51 ?_
              refine r_iconst X dX8_drift_54 ?_
              refine g_ild (k := 101) X Y rfl (by omega) (by have q : ((al 101 : Nat) : Int) = 1008 := rfl; omega) dX8_drift_55 ?_
              have h77 : A 18 3 < A 14 3 := by omega
              refine vF_i X Y [.int (iV (fz 101 0)), .int (iV (fz 101 2))] [] (ct_X8_oddsOf l g tq1 fz A (putF a b) (fz 101 0) (fz 101 2) hL (by omega) (by omega) (by omega) (by omega)) mk_X8_oddsOf mi_X8_oddsOf wm_940 (by decide) (rv_8 Y rfl) rfl hl (Nat.le_of_ble_eq_true rfl) rfl dX8_drift_56 (Nat.zero_le _) (Nat.zero_le _) (fun H locs Y => ?_)
              have qo56 := oddX_rng hL.1.1 (fz 101 0) (fz 101 2) (by omega) (by omega)
              refine r_istore_n X dX8_drift_59 hl [(3, .int (iV (oddX A (putF a b) 11 (fz 101 0) (fz 101 2)))), (2, .int (iV (i))), (0, .ref (g.1 + 100)), (1, .int (iV (n)))] (by decide) rfl (fun ls hl => ?_)
              refine r_aload_n X dX8_drift_60 hl 2 rfl ?_
              refine r_aload_n X dX8_drift_61 hl 2 rfl ?_
              refine r_bipush X 100 dX8_drift_62 (by decide) ?_
              refine vF_i X Y [.int (iV (100))] [.ref (g.1 + 100)] (ct_X8_draw l g tq1 fz 100 (A 0 11) (by omega) (by omega) hz hzr.1 hzr.2) mk_X8_draw mi_X8_draw wm_1008 (by decide) (rv_8 Y rfl) rfl hl (Nat.le_of_ble_eq_true rfl) rfl dX8_drift_64 (Nat.zero_le _) (Nat.zero_le _) (fun H locs Y => ?_)
              obtain ⟨fq3, hfq3⟩ : ∃ q, q = upA fz 101 41 (nextS (A 0 11)) := ⟨_, rfl⟩
              have Y : uY g 117 (cX g tq1 fq3) s H locs := by rw [hfq3]; exact Y
              have hdr := drawX_rng A
              have hde : drawX A = ((nextS (A 0 11)).tdiv 65536).tmod 100 := rfl
              refine r_iload_n X dX8_drift_67 hl 0 rfl ?_
              refine r_icmp_lt X (tgt := 75) dX8_drift_68 (by decide) ⟨by omega, by omega⟩ ⟨by omega, by omega⟩ (fun c68 => ?_) (fun c68 => ?_)
              · refine r_iconst X dX8_drift_75 ?_
                refine vF_v X Y [.int (iV (0))] [] (ct_X8_sails l g tq1 fq3 0 (by omega) (by rw [hfq3, upA_i _ _ _ (by omega)]; omega)) mk_X8_sails mi_X8_sails wm_999 (by decide) (rv_8 Y rfl) rfl hl (Nat.le_of_ble_eq_true rfl) rfl dX8_drift_76 (Nat.zero_le _) (Nat.zero_le _) (fun H locs Y => ?_)
                obtain ⟨fq4, hfq4⟩ : ∃ q, q = saiF fq3 0 := ⟨_, rfl⟩
                have Y : uY g 117 (cX g tq1 fq4) s H locs := by rw [hfq4]; exact Y
                refine r_iinc X dX8_drift_79 hl 1 rfl [(2, .int (iV (i + 1))), (3, .int (iV (oddX A (putF a b) 11 (fz 101 0) (fz 101 2)))), (0, .ref (g.1 + 100)), (1, .int (iV (n)))] (by decide) rfl (fun ls hl => ?_)
                refine r_goto X 31 dX8_drift_82 (by decide) ?_
                exact ih31 (i + 1) (dri1 A (putF a b)) fq4 (by omega) (by omega) (by have e : (if oddX A (putF a b) 11 (A 18 3) (A 18 1) ≤ drawX A then (1 : Int) else 0) = 0 := if_neg (by unfold drawX; rw [g0, g2] at *; omega); have q := hL.dri (by omega); rw [e] at q; rw [hfq4, hfq3]; exact q) (by rw [dri1_seed, hfq4, saiF_hi _ _ (by omega), hfq3, upA_s]) (by rw [dri1_seed]; exact nextS_rng _) (by rw [← he, driN_step (putF a b) (A := A) (k := n - i) (by omega) (by omega), show n - i - 1 = n - (i + 1) by omega]) (fun k j q => by rw [hfq4, saiF_hi _ _ (by omega), hfq3, upA_ne _ _ (by omega)]; exact hF k j q) _ _ _ (by omega) Y (lv_sub hl [0, 2, 3] rfl)
              · refine r_iconst X dX8_drift_71 ?_
                refine r_goto X 76 dX8_drift_72 (by decide) ?_
                refine vF_v X Y [.int (iV (1))] [] (ct_X8_sails l g tq1 fq3 1 (by omega) (by rw [hfq3, upA_i _ _ _ (by omega)]; omega)) mk_X8_sails mi_X8_sails wm_999 (by decide) (rv_8 Y rfl) rfl hl (Nat.le_of_ble_eq_true rfl) rfl dX8_drift_76 (Nat.zero_le _) (Nat.zero_le _) (fun H locs Y => ?_)
                obtain ⟨fq4, hfq4⟩ : ∃ q, q = saiF fq3 1 := ⟨_, rfl⟩
                have Y : uY g 117 (cX g tq1 fq4) s H locs := by rw [hfq4]; exact Y
                refine r_iinc X dX8_drift_79 hl 1 rfl [(2, .int (iV (i + 1))), (3, .int (iV (oddX A (putF a b) 11 (fz 101 0) (fz 101 2)))), (0, .ref (g.1 + 100)), (1, .int (iV (n)))] (by decide) rfl (fun ls hl => ?_)
                refine r_goto X 31 dX8_drift_82 (by decide) ?_
                exact ih31 (i + 1) (dri1 A (putF a b)) fq4 (by omega) (by omega) (by have e : (if oddX A (putF a b) 11 (A 18 3) (A 18 1) ≤ drawX A then (1 : Int) else 0) = 1 := if_pos (by unfold drawX; rw [g0, g2] at *; omega); have q := hL.dri (by omega); rw [e] at q; rw [hfq4, hfq3]; exact q) (by rw [dri1_seed, hfq4, saiF_hi _ _ (by omega), hfq3, upA_s]) (by rw [dri1_seed]; exact nextS_rng _) (by rw [← he, driN_step (putF a b) (A := A) (k := n - i) (by omega) (by omega), show n - i - 1 = n - (i + 1) by omega]) (fun k j q => by rw [hfq4, saiF_hi _ _ (by omega), hfq3, upA_ne _ _ (by omega)]; exact hF k j q) _ _ _ (by omega) Y (lv_sub hl [0, 2, 3] rfl)
      exact loop31 (((n - (0:Int)).toNat) + 1) 0 (remT a) fq2 (by omega) (by omega) LM hs41 (by rw [remT_off hP.1 (by omega) (by omega)]; exact hr) (by rw [show n - 0 = n by omega]) (fun k j _ => by rw [hfq2]) _ _ _ (Nat.lt_succ_self _) Y (lv_sub hl [0, 1, 2] rfl)
    · refine r_ldc X (-1000000003) wm_972 (by decide) dX8_drift_22 ?_
      exact ret _ _ _ _ _ _ _ dX8_drift_24 Y ⟨by unfold driX; rw [if_neg (by omega), if_pos (by omega)], Or.inl ⟨by decide, rfl, rfl⟩⟩
  · refine r_ldc X (-1000000002) wm_855 (by decide) dX8_drift_12 ?_
    exact ret _ _ _ _ _ _ _ dX8_drift_14 Y ⟨by unfold driX; rw [if_pos (by omega)], Or.inl ⟨by decide, rfl, rfl⟩⟩
set_option maxHeartbeats 4000000 in
set_option maxRecDepth 100000 in
theorem ct_X8_hurt (l : Launch) (g : uG) (t : uN) (f : uF) (a : uN) (b : uF) (m0 v fr : Int) (L : ML a b t f) (hm : inI m0) (hv : inI v) (hf : fr = 0 ∨ fr = 1) : cR_i l yX8_hurt cX8_hurt 6 (some .int) 4 g [.ref (g.1 + 100), .int (iV (m0)), .int (iV (v)), .int (iV (fr))] t f (fun z t2 f2 => z = hurX a b m0 v fr ∧ Scr t f t2 f2) := by
  refine eR_i (by decide +kernel) (Nat.le_of_ble_eq_true rfl) ?_
  intro p e R s m args below meth c Q ls H locs X Y hl ret
  have X : uX p 4 R s m args c cX8_hurt 6 RX8 := X
  have hl : lv_has ls 6 [(0, .ref (g.1 + 100)), (1, .int (iV (m0))), (2, .int (iV (v))), (3, .int (iV (fr)))] := hl
  have hb := L.1.b
  obtain ⟨p0, p1, p2, p3, p4⟩ := L.p
  obtain ⟨v3, v4, v5, v6, v10⟩ := L.v
  have hk := L.2.1.2.1
  have hns := L.2.2.1
  have hsh := L.1.1.2.2.2
  refine r_aload_n X dX8_hurt_0 hl 0 rfl ?_
  refine r_iload_n X dX8_hurt_1 hl 1 rfl ?_
  refine vF_i X Y [.int (iV (m0))] [] (ct_X8_isLender l g t f a b m0 L ⟨by omega, by omega⟩) mk_X8_isLender mi_X8_isLender wm_948 (by decide) (rv_8 Y rfl) rfl hl (Nat.le_of_ble_eq_true rfl) rfl dX8_hurt_2 (Nat.zero_le _) (Nat.zero_le _) (fun H locs Y => ?_)
  have qh2 := thas_b a 16 m0
  refine r_if_ne X (tgt := 11) dX8_hurt_5 (by decide) ⟨by omega, by omega⟩ (fun c5 => ?_) (fun c5 => ?_)
  · refine r_iload_n X dX8_hurt_11 hl 2 rfl ?_
    refine r_i2l X dX8_hurt_12 ⟨by omega, by omega⟩ ?_
    refine r_lconst X 1 dX8_hurt_13 (by decide) ?_
    refine r_ldc2 X 999 wm_981 (by decide) dX8_hurt_14 ?_
    refine sF_i X Y [.long (lV (v)), .long (lV (1)), .long (lV (999))] [] (ct_X8_in l g t f v 1 999 ⟨by omega, by omega⟩ ⟨by omega, by omega⟩ ⟨by omega, by omega⟩) mk_X8_in mi_X8_in wm_852 (by decide) rfl hl (Nat.le_of_ble_eq_true rfl) rfl dX8_hurt_17 (Nat.zero_le _) (Nat.zero_le _) (fun H locs Y => ?_)
    have qi17 := inX_b v 1 999
    refine r_if_ne X (tgt := 26) dX8_hurt_20 (by decide) ⟨by omega, by omega⟩ (fun c20 => ?_) (fun c20 => ?_)
    · refine r_aload_n X dX8_hurt_26 hl 0 rfl ?_
      refine vF_i X Y [] [] (ct_X8_isGone l g t f a b L) mk_X8_isGone mi_X8_isGone wm_1020 (by decide) (rv_8 Y rfl) rfl hl (Nat.le_of_ble_eq_true rfl) rfl dX8_hurt_27 (Nat.zero_le _) (Nat.zero_le _) (fun H locs Y => ?_)
      have qg27 := goneX_b hb.1.2.2.2
      refine r_if_eq X (tgt := 36) dX8_hurt_30 (by decide) ⟨by omega, by omega⟩ (fun c30 => ?_) (fun c30 => ?_)
      · refine r_aload_n X dX8_hurt_36 hl 0 rfl ?_
        refine r_iconst X dX8_hurt_37 ?_
        refine r_aload_n X dX8_hurt_38 hl 0 rfl ?_
        refine g_8_4 (k := 100) X Y rfl wm_741 dX8_hurt_39 ?_
        refine r_eq (z' := tget a b 12 0 0) v4 ?_
        refine vR_v X Y [.int (iV (0)), .int (iV (tget a b 12 0 0))] [] (ct_X8_paysHome l g t f 0 (tget a b 12 0 0) (a 19 3) (fun i => tget a b 19 i 2) (fun i => tget a b 19 i 3) L.py (by omega) (by omega) (by omega) (by show 0 ≤ f 101 3; omega) (by show f 101 3 ≤ 20000; omega)) mk_X8_paysHome mi_X8_paysHome wm_923 (by decide) (rv_8 Y rfl) rfl hl (Nat.le_of_ble_eq_true rfl) rfl dX8_hurt_42 (Nat.zero_le _) (Nat.zero_le _) (fun tq1 fq1 H locs hq1 Y => ?_)
        have hnw := hq1.now L
        have hsc := hq1.scr
        have L1 := L.scr hsc
        have p1b := L1.p
        have v1b := L1.v
        refine r_iconst X dX8_hurt_45 ?_
        refine r_istore X dX8_hurt_46 hl [(4, .int (iV (0))), (0, .ref (g.1 + 100)), (1, .int (iV (m0))), (2, .int (iV (v))), (3, .int (iV (fr)))] (by decide) rfl (fun ls hl => ?_)
        have loop48 : ∀ (N : Nat) (i : Int) (fz : uF) (hi0 : 0 ≤ i) (hi1 : i ≤ a 19 3) (hF : ∀ k j, k ≠ 113 → fz k j = fq1 k j) (hb4 : ∀ j, 0 ≤ j → j < i → fz 113 j = paidX a b j) (H : Heap) (locs : List Loc) (ls : Array Slot), (a 19 3 - i).toNat < N → uY g 117 (cX g tq1 fz) s H locs → lv_has ls 6 [(4, .int (iV (i))), (0, .ref (g.1 + 100)), (1, .int (iV (m0))), (2, .int (iV (v))), (3, .int (iV (fr)))] → W p l e R s m args below meth c H locs 0 0 Q (F0 m 48 ls []) := by
          intro N
          induction N with
          | zero => intro i fz hi0 hi1 hF hb4 H locs ls hmu Y hl; exact absurd hmu (Nat.not_lt_zero _)
          | succ N ih48 =>
            intro i fz hi0 hi1 hF hb4 H locs ls hmu Y hl
            have e4 : fz 101 4 = a 19 3 := by rw [hF 101 4 (by decide)]; exact p1b.2.2.2.2
            have hL4 : ML a b tq1 fz := L.scr (hsc.tr ⟨fun _ _ _ => rfl, fun k j q => hF k j (by omega)⟩)
            refine r_iload X dX8_hurt_48 hl 0 rfl ?_
            refine r_aload_n X dX8_hurt_50 hl 1 rfl ?_
            refine g_8_0 (k := 100) X Y rfl wm_737 dX8_hurt_51 ?_
            refine r_iconst X dX8_hurt_54 ?_
            refine g_ild (k := 101) X Y rfl (by omega) (by have q : ((al 101 : Nat) : Int) = 1008 := rfl; omega) dX8_hurt_55 ?_
            refine r_icmp_ge X (tgt := 79) dX8_hurt_56 (by decide) ⟨by omega, by omega⟩ ⟨by omega, by omega⟩ (fun c56 => ?_) (fun c56 => ?_)
            · have ei : i = a 19 3 := by omega
              have hs1 : ∀ k j, k ≠ 112 → k ≠ 113 → fz k j = f k j := fun k j q1 q2 => by rw [hF k j q2]; exact hq1.2.1 k j q1
              refine r_aload_n X dX8_hurt_79 hl 1 rfl ?_
              refine r_iconst X dX8_hurt_80 ?_
              refine r_bipush X 42 dX8_hurt_81 (by decide) ?_
              refine vF_v X Y [.int (iV (0)), .int (iV (42))] [] (ct_X8_copy l g tq1 fz 0 42 (by omega) (by omega) (by omega) (by omega) (by omega)) mk_X8_copy mi_X8_copy wm_973 (by decide) (rv_8 Y rfl) rfl hl (Nat.le_of_ble_eq_true rfl) rfl dX8_hurt_83 (Nat.zero_le _) (Nat.zero_le _) (fun H locs Y => ?_)
              obtain ⟨fq2, hfq2⟩ : ∃ q, q = cpW fz 0 42 := ⟨_, rfl⟩
              have Y : uY g 117 (cX g tq1 fq2) s H locs := by rw [hfq2]; exact Y
              refine r_aload_n X dX8_hurt_86 hl 1 rfl ?_
              refine r_bipush X 42 dX8_hurt_87 (by decide) ?_
              refine r_iload_n X dX8_hurt_89 hl 2 rfl ?_
              refine r_iload_n X dX8_hurt_90 hl 3 rfl ?_
              refine r_iload_n X dX8_hurt_91 hl 4 rfl ?_
              refine vF_v X Y [.int (iV (42)), .int (iV (m0)), .int (iV (v)), .int (iV (fr))] [] (ct_X8_takesLoan l g tq1 fq2 42 m0 v fr (Or.inr rfl) (by rw [hfq2]; unfold cpW; rw [if_pos rfl, if_pos (by omega)]; show 0 ≤ fz 101 4; omega) (by rw [hfq2]; unfold cpW; rw [if_pos rfl, if_pos (by omega)]; show fz 101 4 ≤ 8; omega) hf) mk_X8_takesLoan mi_X8_takesLoan wm_986 (by decide) (rv_8 Y rfl) rfl hl (Nat.le_of_ble_eq_true rfl) rfl dX8_hurt_92 (Nat.zero_le _) (Nat.zero_le _) (fun H locs Y => ?_)
              obtain ⟨fq3, hfq3⟩ : ∃ q, q = takL fq2 42 m0 v fr := ⟨_, rfl⟩
              have Y : uY g 117 (cX g tq1 fq3) s H locs := by rw [hfq3]; exact Y
              obtain ⟨hy1, hy2, hy3, hy4⟩ := hur_py (m := m0) (v := v) (fr := fr) L hs1 (by omega) (by omega) (by omega) (by omega) hf hfq2 hfq3
              refine r_aload_n X dX8_hurt_95 hl 1 rfl ?_
              refine r_bipush X 42 dX8_hurt_96 (by decide) ?_
              refine r_aload_n X dX8_hurt_98 hl 1 rfl ?_
              refine g_8_4 (k := 100) X Y rfl wm_741 dX8_hurt_99 ?_
              refine r_eq (z' := tget a b 12 0 0) (by rw [v1b.2.1]) ?_
              refine vR_v X Y [.int (iV (42)), .int (iV (tget a b 12 0 0))] [] (ct_X8_paysHome l g tq1 fq3 42 (tget a b 12 0 0) (a 19 3 + 1) (hK a b fr) (hD a b m0 v) hy1 (by have := v1b.2.2.1; omega) (by omega) (by omega) (by omega) (by omega)) mk_X8_paysHome mi_X8_paysHome wm_923 (by decide) (rv_8 Y rfl) rfl hl (Nat.le_of_ble_eq_true rfl) rfl dX8_hurt_102 (Nat.zero_le _) (Nat.zero_le _) (fun tq4 fq4 H locs hq4 Y => ?_)
              have hv5 : tq1 100 5 = tget a b 12 0 1 := by rw [hsc.1 100 5 (by omega)]; exact v5
              have hpa : ∀ i, 0 ≤ i → i < a 19 3 → fq4 112 i = paidS a b 18 i (hurSh a b m0 v fr) (hurFr a b m0 v fr) := fun i i0 i1 => by rw [hq4.2.2 i i0 (by omega), hv5]; exact hur_val L.1 hf hy2 i0 i1
              have hbe : ∀ i, 0 ≤ i → i < a 19 3 → fq4 113 i = paidX a b i := fun i i0 i1 => by rw [hq4.2.1 113 i (by decide), hy4]; exact hb4 i i0 (by omega)
              have e45 : fq4 101 4 = a 19 3 := by rw [hq4.2.1 101 4 (by decide), hy3 101 4 (by omega)]; exact p4
              have hsc2 : Scr t f tq4 fq4 := hsc.tr ⟨fun k j q => hq4.scr.1 k j q, fun k j q => by rw [hq4.scr.2 k j q, hy3 k j q, hsc.2 k j q]⟩
              refine r_iconst X dX8_hurt_105 ?_
              refine r_istore X dX8_hurt_106 hl [(4, .int (iV (0))), (0, .ref (g.1 + 100)), (1, .int (iV (m0))), (2, .int (iV (v))), (3, .int (iV (fr)))] (by decide) rfl (fun ls hl => ?_)
              refine r_iconst X dX8_hurt_108 ?_
              refine r_istore X dX8_hurt_109 hl [(5, .int (iV (0))), (4, .int (iV (0))), (0, .ref (g.1 + 100)), (1, .int (iV (m0))), (2, .int (iV (v))), (3, .int (iV (fr)))] (by decide) rfl (fun ls hl => ?_)
              have loop111 : ∀ (N : Nat) (z : Int) (k : Int) (hk0 : 0 ≤ k) (hk1 : k ≤ a 19 3) (hz : z = bitN (hurC a b m0 v fr) k.toNat) (H : Heap) (locs : List Loc) (ls : Array Slot), (a 19 3 - k).toNat < N → uY g 117 (cX g tq4 fq4) s H locs → lv_has ls 6 [(5, .int (iV (k))), (4, .int (iV (z))), (0, .ref (g.1 + 100))] → W p l e R s m args below meth c H locs 0 0 Q (F0 m 111 ls []) := by
                intro N
                induction N with
                | zero => intro z k hk0 hk1 hz H locs ls hmu Y hl; exact absurd hmu (Nat.not_lt_zero _)
                | succ N ih111 =>
                  intro z k hk0 hk1 hz H locs ls hmu Y hl
                  have hbr := bitN_r (c := (hurC a b m0 v fr)) hk0
                  rw [← hz] at hbr
                  have hbb : pow2 k ≤ 256 := by rcases (show k = 0 ∨ k = 1 ∨ k = 2 ∨ k = 3 ∨ k = 4 ∨ k = 5 ∨ k = 6 ∨ k = 7 ∨ k = 8 by omega) with q | q | q | q | q | q | q | q | q <;> subst q <;> decide
                  refine r_iload X dX8_hurt_111 hl 0 rfl ?_
                  refine r_aload_n X dX8_hurt_113 hl 2 rfl ?_
                  refine g_8_0 (k := 100) X Y rfl wm_737 dX8_hurt_114 ?_
                  refine r_iconst X dX8_hurt_117 ?_
                  refine g_ild (k := 101) X Y rfl (by omega) (by have q : ((al 101 : Nat) : Int) = 1008 := rfl; omega) dX8_hurt_118 ?_
                  refine r_icmp_ge X (tgt := 158) dX8_hurt_119 (by decide) ⟨by omega, by omega⟩ ⟨by omega, by omega⟩ (fun c119 => ?_) (fun c119 => ?_)
                  · refine r_iload X dX8_hurt_158 hl 1 rfl ?_
                    exact ret _ _ _ _ _ _ _ dX8_hurt_160 Y ⟨by unfold hurX; rw [if_neg (by omega), if_neg (by omega), if_pos (by omega), hz, show k = a 19 3 by omega], hsc2⟩
                  · have hpk := hpa k hk0 (by omega)
                    have hbk := hbe k hk0 (by omega)
                    have hr1 := paidS_rng L.1.2 k (hurSh a b m0 v fr) (hurFr a b m0 v fr)
                    have hr2 : 0 ≤ paidX a b k ∧ paidX a b k ≤ 2997 := paidS_rng L.1.2 k _ _
                    refine r_iload X dX8_hurt_122 hl 1 rfl ?_
                    refine r_aload_n X dX8_hurt_124 hl 2 rfl ?_
                    refine g_8_26 (k := 100) X Y rfl wm_763 dX8_hurt_125 ?_
                    refine r_iload X dX8_hurt_128 hl 0 rfl ?_
                    refine g_ild (k := 112) X Y rfl (by omega) (by have q : ((al 112 : Nat) : Int) = 9 := rfl; omega) dX8_hurt_130 ?_
                    refine r_aload_n X dX8_hurt_131 hl 2 rfl ?_
                    refine g_8_28 (k := 100) X Y rfl wm_765 dX8_hurt_132 ?_
                    refine r_iload X dX8_hurt_135 hl 0 rfl ?_
                    refine g_ild (k := 113) X Y rfl (by omega) (by have q : ((al 113 : Nat) : Int) = 9 := rfl; omega) dX8_hurt_137 ?_
                    refine r_icmp_ge X (tgt := 148) dX8_hurt_138 (by decide) ⟨by omega, by omega⟩ ⟨by omega, by omega⟩ (fun c138 => ?_) (fun c138 => ?_)
                    · refine r_iconst X dX8_hurt_148 ?_
                      refine r_or0 X dX8_hurt_149 ?_
                      refine r_istore X dX8_hurt_150 hl [(4, .int (iV (z))), (5, .int (iV (k))), (0, .ref (g.1 + 100))] (by decide) rfl (fun ls hl => ?_)
                      refine r_iinc X dX8_hurt_152 hl 1 rfl [(5, .int (iV (k + 1))), (4, .int (iV (z))), (0, .ref (g.1 + 100))] (by decide) rfl (fun ls hl => ?_)
                      refine r_goto X 111 dX8_hurt_155 (by decide) ?_
                      exact ih111 z (k + 1) (by omega) (by omega) (by first | (rw [bitN_1 (c := (hurC a b m0 v fr)) hk0 (by unfold hurC; exact if_pos (by omega)), ← hz]) | (rw [bitN_0 (c := (hurC a b m0 v fr)) hk0 (by unfold hurC; rw [if_neg (by omega)]; decide), ← hz])) _ _ _ (by omega) Y (lv_sub hl [0, 1, 2] rfl)
                    · refine r_iconst X dX8_hurt_141 ?_
                      refine r_iload X dX8_hurt_142 hl 0 rfl ?_
                      refine r_shl X dX8_hurt_144 (by omega) (by omega) ?_
                      refine r_goto X 149 dX8_hurt_145 (by decide) ?_
                      refine r_orp X dX8_hurt_149 (by omega) (by omega) (by omega) (by omega) ?_
                      refine r_istore X dX8_hurt_150 hl [(4, .int (iV (z + pow2 k))), (5, .int (iV (k))), (0, .ref (g.1 + 100))] (by decide) rfl (fun ls hl => ?_)
                      refine r_iinc X dX8_hurt_152 hl 1 rfl [(5, .int (iV (k + 1))), (4, .int (iV (z + pow2 k))), (0, .ref (g.1 + 100))] (by decide) rfl (fun ls hl => ?_)
                      refine r_goto X 111 dX8_hurt_155 (by decide) ?_
                      exact ih111 (z + pow2 k) (k + 1) (by omega) (by omega) (by first | (rw [bitN_1 (c := (hurC a b m0 v fr)) hk0 (by unfold hurC; exact if_pos (by omega)), ← hz]) | (rw [bitN_0 (c := (hurC a b m0 v fr)) hk0 (by unfold hurC; rw [if_neg (by omega)]; decide), ← hz])) _ _ _ (by omega) Y (lv_sub hl [0, 1, 2] rfl)
              exact loop111 (((a 19 3 - (0:Int)).toNat) + 1) 0 0 (by omega) (by omega) rfl _ _ _ (Nat.lt_succ_self _) Y (lv_sub hl [0, 1, 2] rfl)
            · refine r_aload_n X dX8_hurt_59 hl 1 rfl ?_
              refine g_8_28 (k := 100) X Y rfl wm_765 dX8_hurt_60 ?_
              refine r_iload X dX8_hurt_63 hl 0 rfl ?_
              refine r_aload_n X dX8_hurt_65 hl 1 rfl ?_
              refine g_8_26 (k := 100) X Y rfl wm_763 dX8_hurt_66 ?_
              refine r_iload X dX8_hurt_69 hl 0 rfl ?_
              refine g_ild (k := 112) X Y rfl (by omega) (by have q : ((al 112 : Nat) : Int) = 9 := rfl; omega) dX8_hurt_71 ?_
              refine p_ist (k := 113) X Y rfl (by omega) (by have q : ((al 113 : Nat) : Int) = 9 := rfl; omega) dX8_hurt_72 (fun H locs Y => ?_)
              obtain ⟨fq2, hfq2⟩ : ∃ q, q = upA fz 113 i (fz 112 i) := ⟨_, rfl⟩
              have Y : uY g 117 (cX g tq1 fq2) s H locs := by rw [hfq2]; exact Y
              refine r_iinc X dX8_hurt_73 hl 0 rfl [(4, .int (iV (i + 1))), (0, .ref (g.1 + 100)), (1, .int (iV (m0))), (2, .int (iV (v))), (3, .int (iV (fr)))] (by decide) rfl (fun ls hl => ?_)
              refine r_goto X 48 dX8_hurt_76 (by decide) ?_
              exact ih48 (i + 1) fq2 (by omega) (by omega) (fun k j q => by rw [hfq2, upA_k _ _ _ _ q]; exact hF k j q) (fun j j0 j1 => by rw [hfq2]; rcases (show j = i ∨ ¬ j = i by omega) with q | q; (rw [q, upA_s, hF 112 i (by decide)]; exact hnw.2 i hi0 (by omega)); (rw [upA_i _ _ _ q]; exact hb4 j j0 (by omega))) _ _ _ (by omega) Y (lv_sub hl [0, 1, 2, 3, 4] rfl)
        exact loop48 (((a 19 3 - (0:Int)).toNat) + 1) 0 fq1 (by omega) (by omega) (fun _ _ _ => rfl) (fun j j0 j1 => absurd j1 (by omega)) _ _ _ (Nat.lt_succ_self _) Y (lv_sub hl [0, 1, 2, 3, 4] rfl)
      · refine r_ldc X (-1000000003) wm_972 (by decide) dX8_hurt_33 ?_
        exact ret _ _ _ _ _ _ _ dX8_hurt_35 Y ⟨by unfold hurX; rw [if_neg (by omega), if_neg (by omega), if_neg (by omega)], Scr.rf t f⟩
    · refine r_ldc X (-1000000002) wm_855 (by decide) dX8_hurt_23 ?_
      exact ret _ _ _ _ _ _ _ dX8_hurt_25 Y ⟨by unfold hurX; rw [if_neg (by omega), if_pos (by omega)], Scr.rf t f⟩
  · refine r_ldc X (-1000000001) wm_939 (by decide) dX8_hurt_8 ?_
    exact ret _ _ _ _ _ _ _ dX8_hurt_10 Y ⟨by unfold hurX; rw [if_pos (by omega)], Scr.rf t f⟩
set_option maxHeartbeats 4000000 in
set_option maxRecDepth 100000 in
theorem ct_X8_worth (l : Launch) (g : uG) (t : uN) (f : uF) (a : uN) (b : uF) (w : Int) (L : ML a b t f) (hT : TI a b) (h31 : t 100 31 = a 96 3) (h4 : ∀ i, 0 ≤ i → i < a 96 3 → f 114 i = tget a b 96 i 0 ∧ f 115 i = tget a b 96 i 1) (hw : inI w) : cR_i l yX8_worth cX8_worth 8 (some .int) 4 g [.ref (g.1 + 100), .int (iV (w))] t f (fun z t2 f2 => z = worX a b w ∧ Scr t f t2 f2) := by
  refine eR_i (by decide +kernel) (Nat.le_of_ble_eq_true rfl) ?_
  intro p e R s m args below meth c Q ls H locs X Y hl ret
  have X : uX p 4 R s m args c cX8_worth 8 RX8 := X
  have hl : lv_has ls 8 [(0, .ref (g.1 + 100)), (1, .int (iV (w)))] := hl
  have hb := L.1.b
  obtain ⟨p0, p1, p2, p3, p4⟩ := L.p
  obtain ⟨v3, v4, v5, v6, v10⟩ := L.v
  have hk := L.2.1.2.1
  have hns := L.2.2.1
  have hsh := L.1.1.2.2.2
  have h96 : 0 ≤ a 96 3 ∧ a 96 3 ≤ 6 := hT.1
  obtain ⟨lw, hlw⟩ : ∃ q0, q0 = leaN a b (a 96 3).toNat := ⟨_, rfl⟩
  obtain ⟨gw, hgw⟩ : ∃ q0, q0 = greN a b (a 96 3).toNat := ⟨_, rfl⟩
  have hlr := leaN_rng L.1 hT (a 96 3).toNat
  have hgr := greN_rng L.1 hT (a 96 3).toNat
  rw [← hlw] at hlr
  rw [← hgw] at hgr
  refine r_iload_n X dX8_worth_0 hl 1 rfl ?_
  refine r_i2l X dX8_worth_1 ⟨by omega, by omega⟩ ?_
  refine r_lconst X 0 dX8_worth_2 (by decide) ?_
  refine r_ldc2 X 2 wm_1086 (by decide) dX8_worth_3 ?_
  refine sF_i X Y [.long (lV (w)), .long (lV (0)), .long (lV (2))] [] (ct_X8_in l g t f w 0 2 ⟨by omega, by omega⟩ ⟨by omega, by omega⟩ ⟨by omega, by omega⟩) mk_X8_in mi_X8_in wm_852 (by decide) rfl hl (Nat.le_of_ble_eq_true rfl) rfl dX8_worth_6 (Nat.zero_le _) (Nat.zero_le _) (fun H locs Y => ?_)
  have qi6 := inX_b w 0 2
  refine r_if_ne X (tgt := 15) dX8_worth_9 (by decide) ⟨by omega, by omega⟩ (fun c9 => ?_) (fun c9 => ?_)
  · refine r_aload_n X dX8_worth_15 hl 0 rfl ?_
    refine vF_i X Y [] [] (ct_X8_isGone l g t f a b L) mk_X8_isGone mi_X8_isGone wm_1020 (by decide) (rv_8 Y rfl) rfl hl (Nat.le_of_ble_eq_true rfl) rfl dX8_worth_16 (Nat.zero_le _) (Nat.zero_le _) (fun H locs Y => ?_)
    have qg16 := goneX_b hb.1.2.2.2
    refine r_if_eq X (tgt := 25) dX8_worth_19 (by decide) ⟨by omega, by omega⟩ (fun c19 => ?_) (fun c19 => ?_)
    · refine r_iconst X dX8_worth_25 ?_
      refine r_istore_n X dX8_worth_26 hl [(2, .int (iV (0))), (0, .ref (g.1 + 100)), (1, .int (iV (w)))] (by decide) rfl (fun ls hl => ?_)
      refine r_iconst X dX8_worth_27 ?_
      refine r_istore_n X dX8_worth_28 hl [(3, .int (iV ((-1)))), (2, .int (iV (0))), (0, .ref (g.1 + 100)), (1, .int (iV (w)))] (by decide) rfl (fun ls hl => ?_)
      refine r_iconst X dX8_worth_29 ?_
      refine r_istore X dX8_worth_30 hl [(4, .int (iV ((-1)))), (3, .int (iV ((-1)))), (2, .int (iV (0))), (0, .ref (g.1 + 100)), (1, .int (iV (w)))] (by decide) rfl (fun ls hl => ?_)
      refine r_iconst X dX8_worth_32 ?_
      refine r_istore X dX8_worth_33 hl [(5, .int (iV (0))), (4, .int (iV ((-1)))), (3, .int (iV ((-1)))), (2, .int (iV (0))), (0, .ref (g.1 + 100)), (1, .int (iV (w)))] (by decide) rfl (fun ls hl => ?_)
      have loop35 : ∀ (N : Nat) (x : Int) (n : Int) (le0 : Int) (mo : Int) (tz : uN) (fz : uF) (hx0 : 0 ≤ x) (hx1 : x ≤ 1000) (hnn : n = max 0 (min (x - 1) gw - lw + 1)) (hlm : (n = 0 ∧ le0 = -1 ∧ mo = -1) ∨ (¬ n = 0 ∧ le0 = lw ∧ mo = min (x - 1) gw)) (hS : Scr t f tz fz) (H : Heap) (locs : List Loc) (ls : Array Slot), (1000 - x).toNat < N → uY g 117 (cX g tz fz) s H locs → lv_has ls 8 [(5, .int (iV (x))), (2, .int (iV (n))), (3, .int (iV (le0))), (4, .int (iV (mo))), (0, .ref (g.1 + 100)), (1, .int (iV (w)))] → W p l e R s m args below meth c H locs 0 0 Q (F0 m 35 ls []) := by
        intro N
        induction N with
        | zero => intro x n le0 mo tz fz hx0 hx1 hnn hlm hS H locs ls hmu Y hl; exact absurd hmu (Nat.not_lt_zero _)
        | succ N ih35 =>
          intro x n le0 mo tz fz hx0 hx1 hnn hlm hS H locs ls hmu Y hl
          have L1 := L.scr hS
          have p1b := L1.p
          have v1b := L1.v
          refine r_iload X dX8_worth_35 hl 0 rfl ?_
          refine r_sipush X 999 dX8_worth_37 (by decide) ?_
          refine r_icmp_gt X (tgt := 168) dX8_worth_40 (by decide) ⟨by omega, by omega⟩ ⟨by omega, by omega⟩ (fun c40 => ?_) (fun c40 => ?_)
          · refine r_iload_n X dX8_worth_168 hl 5 rfl ?_
            refine r_if_ne X (tgt := 176) dX8_worth_169 (by decide) ⟨by omega, by omega⟩ (fun c169 => ?_) (fun c169 => ?_)
            · refine r_iload_n X dX8_worth_176 hl 5 rfl ?_
              refine r_iconst X dX8_worth_177 ?_
              refine r_icmp_ne X (tgt := 185) dX8_worth_178 (by decide) ⟨by omega, by omega⟩ ⟨by omega, by omega⟩ (fun c178 => ?_) (fun c178 => ?_)
              · refine r_iload X dX8_worth_185 hl 3 rfl ?_
                exact ret _ _ _ _ _ _ _ dX8_worth_187 Y ⟨by unfold worX; rw [if_neg (by omega), if_pos (by omega), if_neg (by omega), ← hlw, ← hgw]; rcases (show max 0 (gw - lw + 1) = 0 ∨ ¬ max 0 (gw - lw + 1) = 0 by omega) with q | q; (rw [if_pos q]; omega); (rw [if_neg q]; rw [if_neg (by omega)]; omega), hS⟩
              · refine r_iload_n X dX8_worth_181 hl 2 rfl ?_
                refine r_goto X 187 dX8_worth_182 (by decide) ?_
                exact ret _ _ _ _ _ _ _ dX8_worth_187 Y ⟨by unfold worX; rw [if_neg (by omega), if_pos (by omega), if_neg (by omega), ← hlw, ← hgw]; rcases (show max 0 (gw - lw + 1) = 0 ∨ ¬ max 0 (gw - lw + 1) = 0 by omega) with q | q; (rw [if_pos q]; omega); (rw [if_neg q]; rw [if_pos (by omega)]; omega), hS⟩
            · refine r_iload_n X dX8_worth_172 hl 1 rfl ?_
              refine r_goto X 187 dX8_worth_173 (by decide) ?_
              exact ret _ _ _ _ _ _ _ dX8_worth_187 Y ⟨by unfold worX; rw [if_neg (by omega), if_pos (by omega), if_pos (by omega), ← hlw, ← hgw]; omega, hS⟩
          · refine r_aload_n X dX8_worth_43 hl 4 rfl ?_
            refine r_iconst X dX8_worth_44 ?_
            refine r_iload X dX8_worth_45 hl 0 rfl ?_
            refine vR_v X Y [.int (iV (0)), .int (iV (x))] [] (ct_X8_paysHome l g tz fz 0 x (a 19 3) (fun i => tget a b 19 i 2) (fun i => tget a b 19 i 3) L1.py (by have := v1b.2.2.1; omega) (by omega) (by omega) (by show 0 ≤ fz 101 3; have := p1b.2.2.2.1; omega) (by show fz 101 3 ≤ 20000; have := p1b.2.2.2.1; omega)) mk_X8_paysHome mi_X8_paysHome wm_923 (by decide) (rv_8 Y rfl) rfl hl (Nat.le_of_ble_eq_true rfl) rfl dX8_worth_47 (Nat.zero_le _) (Nat.zero_le _) (fun tq1 fq1 H locs hq1 Y => ?_)
            have sc2 := hS.tr hq1.scr
            have L2 := L.scr sc2
            have p2b := L2.p
            have hpv := hq1.at L1
            have h14 : ∀ i, 0 ≤ i → i < a 96 3 → fq1 114 i = tget a b 96 i 0 ∧ fq1 115 i = tget a b 96 i 1 := fun i i0 i1 => by rw [sc2.2 114 i (by omega), sc2.2 115 i (by omega)]; exact h4 i i0 i1
            have e31 : tq1 100 31 = a 96 3 := by rw [sc2.1 100 31 (by omega)]; exact h31
            refine r_iconst X dX8_worth_50 ?_
            refine r_istore X dX8_worth_51 hl [(6, .int (iV (1))), (5, .int (iV (x))), (2, .int (iV (n))), (3, .int (iV (le0))), (4, .int (iV (mo))), (0, .ref (g.1 + 100)), (1, .int (iV (w)))] (by decide) rfl (fun ls hl => ?_)
            refine r_iconst X dX8_worth_53 ?_
            refine r_istore X dX8_worth_54 hl [(7, .int (iV (0))), (6, .int (iV (1))), (5, .int (iV (x))), (2, .int (iV (n))), (3, .int (iV (le0))), (4, .int (iV (mo))), (0, .ref (g.1 + 100)), (1, .int (iV (w)))] (by decide) rfl (fun ls hl => ?_)
            have loop56 : ∀ (N : Nat) (k : Int) (y : Int) (hk0 : 0 ≤ k) (hk1 : k ≤ a 96 3) (hy : y = woB a b x k.toNat) (H : Heap) (locs : List Loc) (ls : Array Slot), (a 96 3 - k).toNat < N → uY g 117 (cX g tq1 fq1) s H locs → lv_has ls 8 [(7, .int (iV (k))), (6, .int (iV (y))), (0, .ref (g.1 + 100)), (1, .int (iV (w))), (2, .int (iV (n))), (3, .int (iV (le0))), (4, .int (iV (mo))), (5, .int (iV (x)))] → W p l e R s m args below meth c H locs 0 0 Q (F0 m 56 ls []) := by
              intro N
              induction N with
              | zero => intro k y hk0 hk1 hy H locs ls hmu Y hl; exact absurd hmu (Nat.not_lt_zero _)
              | succ N ih56 =>
                intro k y hk0 hk1 hy H locs ls hmu Y hl
                have hwb := woB_b a b x k.toNat
                rw [← hy] at hwb
                refine r_iload X dX8_worth_56 hl 0 rfl ?_
                refine r_aload_n X dX8_worth_58 hl 2 rfl ?_
                refine g_8_31 (k := 100) X Y rfl wm_768 dX8_worth_59 ?_
                refine r_icmp_ge X (tgt := 119) dX8_worth_62 (by decide) ⟨by omega, by omega⟩ ⟨by omega, by omega⟩ (fun c62 => ?_) (fun c62 => ?_)
                · rw [show k.toNat = (a 96 3).toNat by omega, ← hlw, ← hgw] at hwb
                  refine r_iload X dX8_worth_119 hl 1 rfl ?_
                  refine r_if_eq X (tgt := 133) dX8_worth_121 (by decide) ⟨by omega, by omega⟩ (fun c121 => ?_) (fun c121 => ?_)
                  · refine r_iload_n X dX8_worth_133 hl 5 rfl ?_
                    refine r_istore_n X dX8_worth_134 hl [(3, .int (iV (le0))), (7, .int (iV (k))), (6, .int (iV (y))), (0, .ref (g.1 + 100)), (1, .int (iV (w))), (2, .int (iV (n))), (4, .int (iV (mo))), (5, .int (iV (x)))] (by decide) rfl (fun ls hl => ?_)
                    refine r_iload X dX8_worth_135 hl 2 rfl ?_
                    refine r_if_eq X (tgt := 145) dX8_worth_137 (by decide) ⟨by omega, by omega⟩ (fun c137 => ?_) (fun c137 => ?_)
                    · refine r_iload X dX8_worth_145 hl 6 rfl ?_
                      refine r_istore X dX8_worth_147 hl [(4, .int (iV (mo))), (3, .int (iV (le0))), (7, .int (iV (k))), (6, .int (iV (y))), (0, .ref (g.1 + 100)), (1, .int (iV (w))), (2, .int (iV (n))), (5, .int (iV (x)))] (by decide) rfl (fun ls hl => ?_)
                      refine r_iload_n X dX8_worth_149 hl 6 rfl ?_
                      refine r_iload X dX8_worth_150 hl 3 rfl ?_
                      refine r_if_eq X (tgt := 159) dX8_worth_152 (by decide) ⟨by omega, by omega⟩ (fun c152 => ?_) (fun c152 => ?_)
                      · refine r_iconst X dX8_worth_159 ?_
                        refine r_iadd X dX8_worth_160 ?_
                        refine r_istore_n X dX8_worth_161 hl [(2, .int (iV (n + 0))), (4, .int (iV (mo))), (3, .int (iV (le0))), (7, .int (iV (k))), (6, .int (iV (y))), (0, .ref (g.1 + 100)), (1, .int (iV (w))), (5, .int (iV (x)))] (by decide) rfl (fun ls hl => ?_)
                        refine r_iinc X dX8_worth_162 hl 7 rfl [(5, .int (iV (x + 1))), (2, .int (iV (n + 0))), (4, .int (iV (mo))), (3, .int (iV (le0))), (7, .int (iV (k))), (6, .int (iV (y))), (0, .ref (g.1 + 100)), (1, .int (iV (w)))] (by decide) rfl (fun ls hl => ?_)
                        refine r_goto X 35 dX8_worth_165 (by decide) ?_
                        exact ih35 (x + 1) (n + 0) le0 mo tq1 fq1 (by omega) (by omega) (by omega) (by omega) sc2 _ _ _ (by omega) Y (lv_sub hl [0, 1, 3, 2, 6, 7] rfl)
                      · refine r_iconst X dX8_worth_155 ?_
                        refine r_goto X 160 dX8_worth_156 (by decide) ?_
                        refine r_iadd X dX8_worth_160 ?_
                        refine r_istore_n X dX8_worth_161 hl [(2, .int (iV (n + 1))), (4, .int (iV (mo))), (3, .int (iV (le0))), (7, .int (iV (k))), (6, .int (iV (y))), (0, .ref (g.1 + 100)), (1, .int (iV (w))), (5, .int (iV (x)))] (by decide) rfl (fun ls hl => ?_)
                        refine r_iinc X dX8_worth_162 hl 7 rfl [(5, .int (iV (x + 1))), (2, .int (iV (n + 1))), (4, .int (iV (mo))), (3, .int (iV (le0))), (7, .int (iV (k))), (6, .int (iV (y))), (0, .ref (g.1 + 100)), (1, .int (iV (w)))] (by decide) rfl (fun ls hl => ?_)
                        refine r_goto X 35 dX8_worth_165 (by decide) ?_
                        exact ih35 (x + 1) (n + 1) le0 mo tq1 fq1 (by omega) (by omega) (by omega) (by omega) sc2 _ _ _ (by omega) Y (lv_sub hl [0, 1, 3, 2, 6, 7] rfl)
                    · refine r_iload X dX8_worth_140 hl 7 rfl ?_
                      refine r_goto X 147 dX8_worth_142 (by decide) ?_
                      refine r_istore X dX8_worth_147 hl [(4, .int (iV (x))), (3, .int (iV (le0))), (7, .int (iV (k))), (6, .int (iV (y))), (0, .ref (g.1 + 100)), (1, .int (iV (w))), (2, .int (iV (n))), (5, .int (iV (x)))] (by decide) rfl (fun ls hl => ?_)
                      refine r_iload_n X dX8_worth_149 hl 6 rfl ?_
                      refine r_iload X dX8_worth_150 hl 3 rfl ?_
                      refine r_if_eq X (tgt := 159) dX8_worth_152 (by decide) ⟨by omega, by omega⟩ (fun c152 => ?_) (fun c152 => ?_)
                      · refine r_iconst X dX8_worth_159 ?_
                        refine r_iadd X dX8_worth_160 ?_
                        refine r_istore_n X dX8_worth_161 hl [(2, .int (iV (n + 0))), (4, .int (iV (x))), (3, .int (iV (le0))), (7, .int (iV (k))), (6, .int (iV (y))), (0, .ref (g.1 + 100)), (1, .int (iV (w))), (5, .int (iV (x)))] (by decide) rfl (fun ls hl => ?_)
                        refine r_iinc X dX8_worth_162 hl 7 rfl [(5, .int (iV (x + 1))), (2, .int (iV (n + 0))), (4, .int (iV (x))), (3, .int (iV (le0))), (7, .int (iV (k))), (6, .int (iV (y))), (0, .ref (g.1 + 100)), (1, .int (iV (w)))] (by decide) rfl (fun ls hl => ?_)
                        refine r_goto X 35 dX8_worth_165 (by decide) ?_
                        exact ih35 (x + 1) (n + 0) le0 x tq1 fq1 (by omega) (by omega) (by omega) (by omega) sc2 _ _ _ (by omega) Y (lv_sub hl [0, 1, 3, 2, 6, 7] rfl)
                      · refine r_iconst X dX8_worth_155 ?_
                        refine r_goto X 160 dX8_worth_156 (by decide) ?_
                        refine r_iadd X dX8_worth_160 ?_
                        refine r_istore_n X dX8_worth_161 hl [(2, .int (iV (n + 1))), (4, .int (iV (x))), (3, .int (iV (le0))), (7, .int (iV (k))), (6, .int (iV (y))), (0, .ref (g.1 + 100)), (1, .int (iV (w))), (5, .int (iV (x)))] (by decide) rfl (fun ls hl => ?_)
                        refine r_iinc X dX8_worth_162 hl 7 rfl [(5, .int (iV (x + 1))), (2, .int (iV (n + 1))), (4, .int (iV (x))), (3, .int (iV (le0))), (7, .int (iV (k))), (6, .int (iV (y))), (0, .ref (g.1 + 100)), (1, .int (iV (w)))] (by decide) rfl (fun ls hl => ?_)
                        refine r_goto X 35 dX8_worth_165 (by decide) ?_
                        exact ih35 (x + 1) (n + 1) le0 x tq1 fq1 (by omega) (by omega) (by omega) (by omega) sc2 _ _ _ (by omega) Y (lv_sub hl [0, 1, 3, 2, 6, 7] rfl)
                  · refine r_iload_n X dX8_worth_124 hl 4 rfl ?_
                    refine r_if_ne X (tgt := 133) dX8_worth_125 (by decide) ⟨by omega, by omega⟩ (fun c125 => ?_) (fun c125 => ?_)
                    · refine r_iload_n X dX8_worth_133 hl 5 rfl ?_
                      refine r_istore_n X dX8_worth_134 hl [(3, .int (iV (le0))), (7, .int (iV (k))), (6, .int (iV (y))), (0, .ref (g.1 + 100)), (1, .int (iV (w))), (2, .int (iV (n))), (4, .int (iV (mo))), (5, .int (iV (x)))] (by decide) rfl (fun ls hl => ?_)
                      refine r_iload X dX8_worth_135 hl 2 rfl ?_
                      refine r_if_eq X (tgt := 145) dX8_worth_137 (by decide) ⟨by omega, by omega⟩ (fun c137 => ?_) (fun c137 => ?_)
                      · refine r_iload X dX8_worth_145 hl 6 rfl ?_
                        refine r_istore X dX8_worth_147 hl [(4, .int (iV (mo))), (3, .int (iV (le0))), (7, .int (iV (k))), (6, .int (iV (y))), (0, .ref (g.1 + 100)), (1, .int (iV (w))), (2, .int (iV (n))), (5, .int (iV (x)))] (by decide) rfl (fun ls hl => ?_)
                        refine r_iload_n X dX8_worth_149 hl 6 rfl ?_
                        refine r_iload X dX8_worth_150 hl 3 rfl ?_
                        refine r_if_eq X (tgt := 159) dX8_worth_152 (by decide) ⟨by omega, by omega⟩ (fun c152 => ?_) (fun c152 => ?_)
                        · refine r_iconst X dX8_worth_159 ?_
                          refine r_iadd X dX8_worth_160 ?_
                          refine r_istore_n X dX8_worth_161 hl [(2, .int (iV (n + 0))), (4, .int (iV (mo))), (3, .int (iV (le0))), (7, .int (iV (k))), (6, .int (iV (y))), (0, .ref (g.1 + 100)), (1, .int (iV (w))), (5, .int (iV (x)))] (by decide) rfl (fun ls hl => ?_)
                          refine r_iinc X dX8_worth_162 hl 7 rfl [(5, .int (iV (x + 1))), (2, .int (iV (n + 0))), (4, .int (iV (mo))), (3, .int (iV (le0))), (7, .int (iV (k))), (6, .int (iV (y))), (0, .ref (g.1 + 100)), (1, .int (iV (w)))] (by decide) rfl (fun ls hl => ?_)
                          refine r_goto X 35 dX8_worth_165 (by decide) ?_
                          exact ih35 (x + 1) (n + 0) le0 mo tq1 fq1 (by omega) (by omega) (by omega) (by omega) sc2 _ _ _ (by omega) Y (lv_sub hl [0, 1, 3, 2, 6, 7] rfl)
                        · refine r_iconst X dX8_worth_155 ?_
                          refine r_goto X 160 dX8_worth_156 (by decide) ?_
                          refine r_iadd X dX8_worth_160 ?_
                          refine r_istore_n X dX8_worth_161 hl [(2, .int (iV (n + 1))), (4, .int (iV (mo))), (3, .int (iV (le0))), (7, .int (iV (k))), (6, .int (iV (y))), (0, .ref (g.1 + 100)), (1, .int (iV (w))), (5, .int (iV (x)))] (by decide) rfl (fun ls hl => ?_)
                          refine r_iinc X dX8_worth_162 hl 7 rfl [(5, .int (iV (x + 1))), (2, .int (iV (n + 1))), (4, .int (iV (mo))), (3, .int (iV (le0))), (7, .int (iV (k))), (6, .int (iV (y))), (0, .ref (g.1 + 100)), (1, .int (iV (w)))] (by decide) rfl (fun ls hl => ?_)
                          refine r_goto X 35 dX8_worth_165 (by decide) ?_
                          exact ih35 (x + 1) (n + 1) le0 mo tq1 fq1 (by omega) (by omega) (by omega) (by omega) sc2 _ _ _ (by omega) Y (lv_sub hl [0, 1, 3, 2, 6, 7] rfl)
                      · refine r_iload X dX8_worth_140 hl 7 rfl ?_
                        refine r_goto X 147 dX8_worth_142 (by decide) ?_
                        refine r_istore X dX8_worth_147 hl [(4, .int (iV (x))), (3, .int (iV (le0))), (7, .int (iV (k))), (6, .int (iV (y))), (0, .ref (g.1 + 100)), (1, .int (iV (w))), (2, .int (iV (n))), (5, .int (iV (x)))] (by decide) rfl (fun ls hl => ?_)
                        refine r_iload_n X dX8_worth_149 hl 6 rfl ?_
                        refine r_iload X dX8_worth_150 hl 3 rfl ?_
                        refine r_if_eq X (tgt := 159) dX8_worth_152 (by decide) ⟨by omega, by omega⟩ (fun c152 => ?_) (fun c152 => ?_)
                        · refine r_iconst X dX8_worth_159 ?_
                          refine r_iadd X dX8_worth_160 ?_
                          refine r_istore_n X dX8_worth_161 hl [(2, .int (iV (n + 0))), (4, .int (iV (x))), (3, .int (iV (le0))), (7, .int (iV (k))), (6, .int (iV (y))), (0, .ref (g.1 + 100)), (1, .int (iV (w))), (5, .int (iV (x)))] (by decide) rfl (fun ls hl => ?_)
                          refine r_iinc X dX8_worth_162 hl 7 rfl [(5, .int (iV (x + 1))), (2, .int (iV (n + 0))), (4, .int (iV (x))), (3, .int (iV (le0))), (7, .int (iV (k))), (6, .int (iV (y))), (0, .ref (g.1 + 100)), (1, .int (iV (w)))] (by decide) rfl (fun ls hl => ?_)
                          refine r_goto X 35 dX8_worth_165 (by decide) ?_
                          exact ih35 (x + 1) (n + 0) le0 x tq1 fq1 (by omega) (by omega) (by omega) (by omega) sc2 _ _ _ (by omega) Y (lv_sub hl [0, 1, 3, 2, 6, 7] rfl)
                        · refine r_iconst X dX8_worth_155 ?_
                          refine r_goto X 160 dX8_worth_156 (by decide) ?_
                          refine r_iadd X dX8_worth_160 ?_
                          refine r_istore_n X dX8_worth_161 hl [(2, .int (iV (n + 1))), (4, .int (iV (x))), (3, .int (iV (le0))), (7, .int (iV (k))), (6, .int (iV (y))), (0, .ref (g.1 + 100)), (1, .int (iV (w))), (5, .int (iV (x)))] (by decide) rfl (fun ls hl => ?_)
                          refine r_iinc X dX8_worth_162 hl 7 rfl [(5, .int (iV (x + 1))), (2, .int (iV (n + 1))), (4, .int (iV (x))), (3, .int (iV (le0))), (7, .int (iV (k))), (6, .int (iV (y))), (0, .ref (g.1 + 100)), (1, .int (iV (w)))] (by decide) rfl (fun ls hl => ?_)
                          refine r_goto X 35 dX8_worth_165 (by decide) ?_
                          exact ih35 (x + 1) (n + 1) le0 x tq1 fq1 (by omega) (by omega) (by omega) (by omega) sc2 _ _ _ (by omega) Y (lv_sub hl [0, 1, 3, 2, 6, 7] rfl)
                    · refine r_iload X dX8_worth_128 hl 7 rfl ?_
                      refine r_goto X 134 dX8_worth_130 (by decide) ?_
                      refine r_istore_n X dX8_worth_134 hl [(3, .int (iV (x))), (7, .int (iV (k))), (6, .int (iV (y))), (0, .ref (g.1 + 100)), (1, .int (iV (w))), (2, .int (iV (n))), (4, .int (iV (mo))), (5, .int (iV (x)))] (by decide) rfl (fun ls hl => ?_)
                      refine r_iload X dX8_worth_135 hl 2 rfl ?_
                      refine r_if_eq X (tgt := 145) dX8_worth_137 (by decide) ⟨by omega, by omega⟩ (fun c137 => ?_) (fun c137 => ?_)
                      · refine r_iload X dX8_worth_145 hl 6 rfl ?_
                        refine r_istore X dX8_worth_147 hl [(4, .int (iV (mo))), (3, .int (iV (x))), (7, .int (iV (k))), (6, .int (iV (y))), (0, .ref (g.1 + 100)), (1, .int (iV (w))), (2, .int (iV (n))), (5, .int (iV (x)))] (by decide) rfl (fun ls hl => ?_)
                        refine r_iload_n X dX8_worth_149 hl 6 rfl ?_
                        refine r_iload X dX8_worth_150 hl 3 rfl ?_
                        refine r_if_eq X (tgt := 159) dX8_worth_152 (by decide) ⟨by omega, by omega⟩ (fun c152 => ?_) (fun c152 => ?_)
                        · refine r_iconst X dX8_worth_159 ?_
                          refine r_iadd X dX8_worth_160 ?_
                          refine r_istore_n X dX8_worth_161 hl [(2, .int (iV (n + 0))), (4, .int (iV (mo))), (3, .int (iV (x))), (7, .int (iV (k))), (6, .int (iV (y))), (0, .ref (g.1 + 100)), (1, .int (iV (w))), (5, .int (iV (x)))] (by decide) rfl (fun ls hl => ?_)
                          refine r_iinc X dX8_worth_162 hl 7 rfl [(5, .int (iV (x + 1))), (2, .int (iV (n + 0))), (4, .int (iV (mo))), (3, .int (iV (x))), (7, .int (iV (k))), (6, .int (iV (y))), (0, .ref (g.1 + 100)), (1, .int (iV (w)))] (by decide) rfl (fun ls hl => ?_)
                          refine r_goto X 35 dX8_worth_165 (by decide) ?_
                          exact ih35 (x + 1) (n + 0) x mo tq1 fq1 (by omega) (by omega) (by omega) (by omega) sc2 _ _ _ (by omega) Y (lv_sub hl [0, 1, 3, 2, 6, 7] rfl)
                        · refine r_iconst X dX8_worth_155 ?_
                          refine r_goto X 160 dX8_worth_156 (by decide) ?_
                          refine r_iadd X dX8_worth_160 ?_
                          refine r_istore_n X dX8_worth_161 hl [(2, .int (iV (n + 1))), (4, .int (iV (mo))), (3, .int (iV (x))), (7, .int (iV (k))), (6, .int (iV (y))), (0, .ref (g.1 + 100)), (1, .int (iV (w))), (5, .int (iV (x)))] (by decide) rfl (fun ls hl => ?_)
                          refine r_iinc X dX8_worth_162 hl 7 rfl [(5, .int (iV (x + 1))), (2, .int (iV (n + 1))), (4, .int (iV (mo))), (3, .int (iV (x))), (7, .int (iV (k))), (6, .int (iV (y))), (0, .ref (g.1 + 100)), (1, .int (iV (w)))] (by decide) rfl (fun ls hl => ?_)
                          refine r_goto X 35 dX8_worth_165 (by decide) ?_
                          exact ih35 (x + 1) (n + 1) x mo tq1 fq1 (by omega) (by omega) (by omega) (by omega) sc2 _ _ _ (by omega) Y (lv_sub hl [0, 1, 3, 2, 6, 7] rfl)
                      · refine r_iload X dX8_worth_140 hl 7 rfl ?_
                        refine r_goto X 147 dX8_worth_142 (by decide) ?_
                        refine r_istore X dX8_worth_147 hl [(4, .int (iV (x))), (3, .int (iV (x))), (7, .int (iV (k))), (6, .int (iV (y))), (0, .ref (g.1 + 100)), (1, .int (iV (w))), (2, .int (iV (n))), (5, .int (iV (x)))] (by decide) rfl (fun ls hl => ?_)
                        refine r_iload_n X dX8_worth_149 hl 6 rfl ?_
                        refine r_iload X dX8_worth_150 hl 3 rfl ?_
                        refine r_if_eq X (tgt := 159) dX8_worth_152 (by decide) ⟨by omega, by omega⟩ (fun c152 => ?_) (fun c152 => ?_)
                        · refine r_iconst X dX8_worth_159 ?_
                          refine r_iadd X dX8_worth_160 ?_
                          refine r_istore_n X dX8_worth_161 hl [(2, .int (iV (n + 0))), (4, .int (iV (x))), (3, .int (iV (x))), (7, .int (iV (k))), (6, .int (iV (y))), (0, .ref (g.1 + 100)), (1, .int (iV (w))), (5, .int (iV (x)))] (by decide) rfl (fun ls hl => ?_)
                          refine r_iinc X dX8_worth_162 hl 7 rfl [(5, .int (iV (x + 1))), (2, .int (iV (n + 0))), (4, .int (iV (x))), (3, .int (iV (x))), (7, .int (iV (k))), (6, .int (iV (y))), (0, .ref (g.1 + 100)), (1, .int (iV (w)))] (by decide) rfl (fun ls hl => ?_)
                          refine r_goto X 35 dX8_worth_165 (by decide) ?_
                          exact ih35 (x + 1) (n + 0) x x tq1 fq1 (by omega) (by omega) (by omega) (by omega) sc2 _ _ _ (by omega) Y (lv_sub hl [0, 1, 3, 2, 6, 7] rfl)
                        · refine r_iconst X dX8_worth_155 ?_
                          refine r_goto X 160 dX8_worth_156 (by decide) ?_
                          refine r_iadd X dX8_worth_160 ?_
                          refine r_istore_n X dX8_worth_161 hl [(2, .int (iV (n + 1))), (4, .int (iV (x))), (3, .int (iV (x))), (7, .int (iV (k))), (6, .int (iV (y))), (0, .ref (g.1 + 100)), (1, .int (iV (w))), (5, .int (iV (x)))] (by decide) rfl (fun ls hl => ?_)
                          refine r_iinc X dX8_worth_162 hl 7 rfl [(5, .int (iV (x + 1))), (2, .int (iV (n + 1))), (4, .int (iV (x))), (3, .int (iV (x))), (7, .int (iV (k))), (6, .int (iV (y))), (0, .ref (g.1 + 100)), (1, .int (iV (w)))] (by decide) rfl (fun ls hl => ?_)
                          refine r_goto X 35 dX8_worth_165 (by decide) ?_
                          exact ih35 (x + 1) (n + 1) x x tq1 fq1 (by omega) (by omega) (by omega) (by omega) sc2 _ _ _ (by omega) Y (lv_sub hl [0, 1, 3, 2, 6, 7] rfl)
                · have hk4 := h14 k hk0 (by omega)
                  have hTk := hT.2 k
                  have hwo := wor_eq L.1 hT (n := k) (w := x) hx0 (by omega)
                  refine r_iload X dX8_worth_65 hl 1 rfl ?_
                  refine r_if_eq X (tgt := 110) dX8_worth_67 (by decide) ⟨by omega, by omega⟩ (fun c67 => ?_) (fun c67 => ?_)
                  · refine r_iconst X dX8_worth_110 ?_
                    refine r_istore X dX8_worth_111 hl [(6, .int (iV (0))), (7, .int (iV (k))), (0, .ref (g.1 + 100)), (1, .int (iV (w))), (2, .int (iV (n))), (3, .int (iV (le0))), (4, .int (iV (mo))), (5, .int (iV (x)))] (by decide) rfl (fun ls hl => ?_)
                    refine r_iinc X dX8_worth_113 hl 1 rfl [(7, .int (iV (k + 1))), (6, .int (iV (0))), (0, .ref (g.1 + 100)), (1, .int (iV (w))), (2, .int (iV (n))), (3, .int (iV (le0))), (4, .int (iV (mo))), (5, .int (iV (x)))] (by decide) rfl (fun ls hl => ?_)
                    refine r_goto X 56 dX8_worth_116 (by decide) ?_
                    exact ih56 (k + 1) 0 (by omega) (by omega) (by rw [show (k + 1).toNat = k.toNat + 1 by omega, woB_s, show ((k.toNat : Nat) : Int) = k by omega, ← hy]; exact (if_neg (fun q => by have h9 := hwo.mpr q.2; have h8 := q.1; omega)).symm) _ _ _ (by omega) Y (lv_sub hl [0, 1, 2, 3, 4, 5, 6, 7] rfl)
                  · refine r_aload_n X dX8_worth_70 hl 2 rfl ?_
                    refine r_aload_n X dX8_worth_71 hl 2 rfl ?_
                    refine g_8_32 (k := 100) X Y rfl wm_769 dX8_worth_72 ?_
                    refine r_iload X dX8_worth_75 hl 0 rfl ?_
                    refine g_ild (k := 114) X Y rfl (by omega) (by have q : ((al 114 : Nat) : Int) = 6 := rfl; omega) dX8_worth_77 ?_
                    refine r_eq (z' := tget a b 96 k 0) hk4.1 ?_
                    refine vF_i X Y [.int (iV (tget a b 96 k 0))] [] (ct_X8_isLoan l g tq1 fq1 a b (tget a b 96 k 0) L2 ⟨by omega, by omega⟩) mk_X8_isLoan mi_X8_isLoan wm_960 (by decide) (rv_8 Y rfl) rfl hl (Nat.le_of_ble_eq_true rfl) rfl dX8_worth_78 (Nat.zero_le _) (Nat.zero_le _) (fun H locs Y => ?_)
                    have qh78 := thas_b a 19 (tget a b 96 k 0)
                    refine r_if_eq X (tgt := 110) dX8_worth_81 (by decide) ⟨by omega, by omega⟩ (fun c81 => ?_) (fun c81 => ?_)
                    · refine r_iconst X dX8_worth_110 ?_
                      refine r_istore X dX8_worth_111 hl [(6, .int (iV (0))), (7, .int (iV (k))), (0, .ref (g.1 + 100)), (1, .int (iV (w))), (2, .int (iV (n))), (3, .int (iV (le0))), (4, .int (iV (mo))), (5, .int (iV (x)))] (by decide) rfl (fun ls hl => ?_)
                      refine r_iinc X dX8_worth_113 hl 1 rfl [(7, .int (iV (k + 1))), (6, .int (iV (0))), (0, .ref (g.1 + 100)), (1, .int (iV (w))), (2, .int (iV (n))), (3, .int (iV (le0))), (4, .int (iV (mo))), (5, .int (iV (x)))] (by decide) rfl (fun ls hl => ?_)
                      refine r_goto X 56 dX8_worth_116 (by decide) ?_
                      exact ih56 (k + 1) 0 (by omega) (by omega) (by rw [show (k + 1).toNat = k.toNat + 1 by omega, woB_s, show ((k.toNat : Nat) : Int) = k by omega, ← hy]; exact (if_neg (fun q => by have h9 := hwo.mpr q.2; have h8 := q.1; omega)).symm) _ _ _ (by omega) Y (lv_sub hl [0, 1, 2, 3, 4, 5, 6, 7] rfl)
                    · refine r_aload_n X dX8_worth_84 hl 2 rfl ?_
                      refine g_8_26 (k := 100) X Y rfl wm_763 dX8_worth_85 ?_
                      refine r_aload_n X dX8_worth_88 hl 2 rfl ?_
                      refine g_8_32 (k := 100) X Y rfl wm_769 dX8_worth_89 ?_
                      refine r_iload X dX8_worth_92 hl 0 rfl ?_
                      refine g_ild (k := 114) X Y rfl (by omega) (by have q : ((al 114 : Nat) : Int) = 6 := rfl; omega) dX8_worth_94 ?_
                      refine r_eq (z' := tget a b 96 k 0) hk4.1 ?_
                      have hpk := hpv (tget a b 96 k 0) (by omega) (by omega)
                      have hpr := paidS_rng L.1.2 (tget a b 96 k 0) (x + a 18 2 + max 0 (tget a b 12 0 1 - dueS a b 18 0 1)) (tget a b 12 0 1)
                      refine g_ild (k := 112) X Y rfl (by omega) (by have q : ((al 112 : Nat) : Int) = 9 := rfl; omega) dX8_worth_95 ?_
                      refine r_eq (z' := paidS a b 18 (tget a b 96 k 0) (x + a 18 2 + max 0 (tget a b 12 0 1 - dueS a b 18 0 1)) (tget a b 12 0 1)) hpk ?_
                      refine r_aload_n X dX8_worth_96 hl 2 rfl ?_
                      refine g_8_33 (k := 100) X Y rfl wm_770 dX8_worth_97 ?_
                      refine r_iload X dX8_worth_100 hl 0 rfl ?_
                      refine g_ild (k := 115) X Y rfl (by omega) (by have q : ((al 115 : Nat) : Int) = 6 := rfl; omega) dX8_worth_102 ?_
                      refine r_eq (z' := tget a b 96 k 1) hk4.2 ?_
                      refine r_icmp_ne X (tgt := 110) dX8_worth_103 (by decide) ⟨by omega, by omega⟩ ⟨by omega, by omega⟩ (fun c103 => ?_) (fun c103 => ?_)
                      · refine r_iconst X dX8_worth_110 ?_
                        refine r_istore X dX8_worth_111 hl [(6, .int (iV (0))), (7, .int (iV (k))), (0, .ref (g.1 + 100)), (1, .int (iV (w))), (2, .int (iV (n))), (3, .int (iV (le0))), (4, .int (iV (mo))), (5, .int (iV (x)))] (by decide) rfl (fun ls hl => ?_)
                        refine r_iinc X dX8_worth_113 hl 1 rfl [(7, .int (iV (k + 1))), (6, .int (iV (0))), (0, .ref (g.1 + 100)), (1, .int (iV (w))), (2, .int (iV (n))), (3, .int (iV (le0))), (4, .int (iV (mo))), (5, .int (iV (x)))] (by decide) rfl (fun ls hl => ?_)
                        refine r_goto X 56 dX8_worth_116 (by decide) ?_
                        exact ih56 (k + 1) 0 (by omega) (by omega) (by rw [show (k + 1).toNat = k.toNat + 1 by omega, woB_s, show ((k.toNat : Nat) : Int) = k by omega, ← hy]; exact (if_neg (fun q => by have h9 := hwo.mpr q.2; have h8 := q.1; omega)).symm) _ _ _ (by omega) Y (lv_sub hl [0, 1, 2, 3, 4, 5, 6, 7] rfl)
                      · refine r_iconst X dX8_worth_106 ?_
                        refine r_goto X 111 dX8_worth_107 (by decide) ?_
                        refine r_istore X dX8_worth_111 hl [(6, .int (iV (1))), (7, .int (iV (k))), (0, .ref (g.1 + 100)), (1, .int (iV (w))), (2, .int (iV (n))), (3, .int (iV (le0))), (4, .int (iV (mo))), (5, .int (iV (x)))] (by decide) rfl (fun ls hl => ?_)
                        refine r_iinc X dX8_worth_113 hl 1 rfl [(7, .int (iV (k + 1))), (6, .int (iV (1))), (0, .ref (g.1 + 100)), (1, .int (iV (w))), (2, .int (iV (n))), (3, .int (iV (le0))), (4, .int (iV (mo))), (5, .int (iV (x)))] (by decide) rfl (fun ls hl => ?_)
                        refine r_goto X 56 dX8_worth_116 (by decide) ?_
                        exact ih56 (k + 1) 1 (by omega) (by omega) (by rw [show (k + 1).toNat = k.toNat + 1 by omega, woB_s, show ((k.toNat : Nat) : Int) = k by omega, ← hy]; exact (if_pos ⟨by omega, hwo.mp ⟨by omega, by omega⟩⟩).symm) _ _ _ (by omega) Y (lv_sub hl [0, 1, 2, 3, 4, 5, 6, 7] rfl)
            exact loop56 (((a 96 3 - (0:Int)).toNat) + 1) 0 1 (by omega) (by omega) (by unfold woB; rw [if_pos]; show (0 : Int) ≤ x ∧ x ≤ 999; omega) _ _ _ (Nat.lt_succ_self _) Y (lv_sub hl [0, 1, 6, 7, 3, 4, 5, 2] rfl)
      exact loop35 (((1000 - (0:Int)).toNat) + 1) 0 0 (-1) (-1) t f (by omega) (by omega) (by omega) (by omega) (Scr.rf t f) _ _ _ (Nat.lt_succ_self _) Y (lv_sub hl [0, 3, 2, 1, 4, 5] rfl)
    · refine r_ldc X (-1000000003) wm_972 (by decide) dX8_worth_22 ?_
      exact ret _ _ _ _ _ _ _ dX8_worth_24 Y ⟨by unfold worX; rw [if_neg (by omega), if_neg (by omega)], Scr.rf t f⟩
  · refine r_ldc X (-1000000002) wm_855 (by decide) dX8_worth_12 ?_
    exact ret _ _ _ _ _ _ _ dX8_worth_14 Y ⟨by unfold worX; rw [if_pos (by omega)], Scr.rf t f⟩

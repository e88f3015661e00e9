/-! the model's plan by contract -/
set_option maxHeartbeats 4000000 in
set_option maxRecDepth 100000 in
theorem ct_X8_findPlan (l : Launch) (g : uG) (t : uN) (f : uF) (a : uN) (b : uF) (b0 : Int → Int) (L : ML a b t f) : cR_v l yX8_findPlan cX8_findPlan 12 4 g [.ref (g.1 + 100)] t f (FPQ a b b0 t f) := by
  refine eR_v (by decide +kernel) (Nat.le_of_ble_eq_true rfl) ?_
  intro p e R s m args below meth c Q ls H locs X Y hl ret
  have X : uX p 4 R s m args c cX8_findPlan 12 RX8 := X
  have hl : lv_has ls 12 [(0, .ref (g.1 + 100))] := hl
  have hb := L.1.b
  obtain ⟨p0, p1, p2, p3, p4⟩ := L.p
  obtain ⟨v3, v4, v5, v6, v10⟩ := L.v
  have hk := L.2.1.2.1
  have hns := L.2.2.1
  obtain ⟨n, hn⟩ : ∃ q0, q0 = a 14 3 - a 18 3 := ⟨_, rfl⟩
  refine r_aload_n X dX8_findPlan_0 hl 0 rfl ?_
  refine g_8_6 (k := 100) X Y rfl wm_743 dX8_findPlan_1 ?_
  refine r_aload_n X dX8_findPlan_4 hl 0 rfl ?_
  refine g_8_0 (k := 100) X Y rfl wm_737 dX8_findPlan_5 ?_
  refine r_iconst X dX8_findPlan_8 ?_
  refine g_ild (k := 101) X Y rfl (by omega) (by have q : ((al 101 : Nat) : Int) = 1008 := rfl; omega) dX8_findPlan_9 ?_
  refine r_isub X dX8_findPlan_10 ?_
  refine r_eq (z' := n) (by omega) ?_
  refine r_istore_n X dX8_findPlan_11 hl [(1, .int (iV (n))), (0, .ref (g.1 + 100))] (by decide) rfl (fun ls hl => ?_)
  refine r_iconst X dX8_findPlan_12 ?_
  refine r_istore_n X dX8_findPlan_13 hl [(2, .int (iV (1))), (1, .int (iV (n))), (0, .ref (g.1 + 100))] (by decide) rfl (fun ls hl => ?_)
  refine r_iconst X dX8_findPlan_14 ?_
  refine r_istore_n X dX8_findPlan_15 hl [(3, .int (iV (0))), (2, .int (iV (1))), (1, .int (iV (n))), (0, .ref (g.1 + 100))] (by decide) rfl (fun ls hl => ?_)
  have loop16 : ∀ (N : Nat) (i : Int) (z : Int) (hi0 : 0 ≤ i) (hi1 : i ≤ n) (hz : z = pw3 i.toNat) (H : Heap) (locs : List Loc) (ls : Array Slot), (n - i).toNat < N → uY g 117 (cX g t f) s H locs → lv_has ls 12 [(2, .int (iV (z))), (3, .int (iV (i))), (0, .ref (g.1 + 100)), (1, .int (iV (n)))] → W p l e R s m args below meth c H locs 0 0 Q (F0 m 16 ls []) := by
    intro N
    induction N with
    | zero => intro i z hi0 hi1 hz H locs ls hmu Y hl; exact absurd hmu (Nat.not_lt_zero _)
    | succ N ih16 =>
      intro i z hi0 hi1 hz H locs ls hmu Y hl
      have hzr := p3_le (n := i.toNat) (by omega)
      rw [← hz] at hzr
      refine r_iload_n X dX8_findPlan_16 hl 1 rfl ?_
      refine r_iload_n X dX8_findPlan_17 hl 3 rfl ?_
      refine r_icmp_ge X (tgt := 31) dX8_findPlan_18 (by decide) ⟨by omega, by omega⟩ ⟨by omega, by omega⟩ (fun c18 => ?_) (fun c18 => ?_)
      · have hz9 : z = pw3 (a 14 3 - a 18 3).toNat := by rw [hz, show i = n by omega, hn]
        refine r_aload_n X dX8_findPlan_31 hl 2 rfl ?_
        refine r_iconst X dX8_findPlan_32 ?_
        refine p_8_29 (k := 100) X Y rfl wm_766 dX8_findPlan_33 (fun H locs Y => ?_)
        obtain ⟨tq1, htq1⟩ : ∃ q, q = up2 t 100 29 (0) := ⟨_, rfl⟩
        have Y : uY g 117 (cX g tq1 f) s H locs := by rw [htq1]; exact Y
        refine r_aload_n X dX8_findPlan_36 hl 2 rfl ?_
        refine r_ldc2 X (-1) wm_1067 (by decide) dX8_findPlan_37 ?_
        refine p_8_30 (k := 100) X Y rfl wm_767 dX8_findPlan_40 (fun H locs Y => ?_)
        obtain ⟨tq2, htq2⟩ : ∃ q, q = up2 tq1 100 30 ((-1)) := ⟨_, rfl⟩
        have Y : uY g 117 (cX g tq2 f) s H locs := by rw [htq2]; exact Y
        refine r_iconst X dX8_findPlan_43 ?_
        refine r_istore_n X dX8_findPlan_44 hl [(3, .int (iV (0))), (2, .int (iV (z))), (0, .ref (g.1 + 100)), (1, .int (iV (n)))] (by decide) rfl (fun ls hl => ?_)
        have loop45 : ∀ (N : Nat) (c0 : Int) (tz : uN) (fz : uF) (hc0 : 0 ≤ c0) (hc1 : c0 ≤ z) (hS : Scr t f tz fz) (hr : RELC a (tz 100 29) (plC a b b0 c0.toNat)) (hm : tz 100 30 = (plC a b b0 c0.toNat).1) (H : Heap) (locs : List Loc) (ls : Array Slot), (z - c0).toNat < N → uY g 117 (cX g tz fz) s H locs → lv_has ls 12 [(3, .int (iV (c0))), (0, .ref (g.1 + 100)), (1, .int (iV (n))), (2, .int (iV (z)))] → W p l e R s m args below meth c H locs 0 0 Q (F0 m 45 ls []) := by
          intro N
          induction N with
          | zero => intro c0 tz fz hc0 hc1 hS hr hm H locs ls hmu Y hl; exact absurd hmu (Nat.not_lt_zero _)
          | succ N ih45 =>
            intro c0 tz fz hc0 hc1 hS hr hm H locs ls hmu Y hl
            have L1 := L.scr hS
            have p1b := L1.p
            have v1b := L1.v
            refine r_iload_n X dX8_findPlan_45 hl 0 rfl ?_
            refine r_iload_n X dX8_findPlan_46 hl 3 rfl ?_
            refine r_icmp_ge X (tgt := 301) dX8_findPlan_47 (by decide) ⟨by omega, by omega⟩ ⟨by omega, by omega⟩ (fun c47 => ?_) (fun c47 => ?_)
            · exact ret _ _ _ _ _ _ dX8_findPlan_301 Y ⟨hS, by rw [← plC_end, show 3 ^ (a 14 3 - a 18 3).toNat = c0.toNat from by have h9 := hz9; unfold pw3 at h9; omega]; exact hr, by rw [← plC_end, show 3 ^ (a 14 3 - a 18 3).toNat = c0.toNat from by have h9 := hz9; unfold pw3 at h9; omega]; exact hm⟩
            · have hc9 : c0.toNat < 3 ^ (a 14 3 - a 18 3).toNat := by have h9 := hz9; unfold pw3 at h9; omega
              refine r_iload_n X dX8_findPlan_50 hl 3 rfl ?_
              refine r_istore X dX8_findPlan_51 hl [(4, .int (iV (z))), (3, .int (iV (c0))), (0, .ref (g.1 + 100)), (1, .int (iV (n))), (2, .int (iV (z)))] (by decide) rfl (fun ls hl => ?_)
              refine r_aload_n X dX8_findPlan_53 hl 2 rfl ?_
              refine g_8_0 (k := 100) X Y rfl wm_737 dX8_findPlan_54 ?_
              refine r_iconst X dX8_findPlan_57 ?_
              refine g_ild (k := 101) X Y rfl (by omega) (by have q : ((al 101 : Nat) : Int) = 1008 := rfl; omega) dX8_findPlan_58 ?_
              refine r_eq (z' := a 18 1) p1b.2.2.1 ?_
              refine r_istore X dX8_findPlan_59 hl [(5, .int (iV (a 18 1))), (4, .int (iV (z))), (3, .int (iV (c0))), (0, .ref (g.1 + 100)), (1, .int (iV (n))), (2, .int (iV (z)))] (by decide) rfl (fun ls hl => ?_)
              refine r_aload_n X dX8_findPlan_61 hl 3 rfl ?_
              refine g_8_0 (k := 100) X Y rfl wm_737 dX8_findPlan_62 ?_
              refine r_iconst X dX8_findPlan_65 ?_
              refine g_ild (k := 101) X Y rfl (by omega) (by have q : ((al 101 : Nat) : Int) = 1008 := rfl; omega) dX8_findPlan_66 ?_
              refine r_eq (z' := a 18 2) p1b.2.2.2.1 ?_
              refine r_istore X dX8_findPlan_67 hl [(6, .int (iV (a 18 2))), (5, .int (iV (a 18 1))), (4, .int (iV (z))), (3, .int (iV (c0))), (0, .ref (g.1 + 100)), (1, .int (iV (n))), (2, .int (iV (z)))] (by decide) rfl (fun ls hl => ?_)
              refine r_ldc2 X 1000000 wm_1032 (by decide) dX8_findPlan_69 ?_
              refine r_lstore X dX8_findPlan_72 hl [(7, .long (lV (1000000))), (6, .int (iV (a 18 2))), (5, .int (iV (a 18 1))), (4, .int (iV (z))), (3, .int (iV (c0))), (0, .ref (g.1 + 100)), (1, .int (iV (n))), (2, .int (iV (z)))] (by decide) rfl (fun ls hl => ?_)
              refine r_iconst X dX8_findPlan_74 ?_
              refine r_istore X dX8_findPlan_75 hl [(9, .int (iV (1))), (7, .long (lV (1000000))), (6, .int (iV (a 18 2))), (5, .int (iV (a 18 1))), (4, .int (iV (z))), (3, .int (iV (c0))), (0, .ref (g.1 + 100)), (1, .int (iV (n))), (2, .int (iV (z)))] (by decide) rfl (fun ls hl => ?_)
              refine r_aload_n X dX8_findPlan_77 hl 6 rfl ?_
              refine g_8_0 (k := 100) X Y rfl wm_737 dX8_findPlan_78 ?_
              refine r_iconst X dX8_findPlan_81 ?_
              refine g_ild (k := 101) X Y rfl (by omega) (by have q : ((al 101 : Nat) : Int) = 1008 := rfl; omega) dX8_findPlan_82 ?_
              refine r_eq (z' := a 18 3) p1b.1 ?_
              refine r_istore X dX8_findPlan_83 hl [(10, .int (iV (a 18 3))), (9, .int (iV (1))), (7, .long (lV (1000000))), (6, .int (iV (a 18 2))), (5, .int (iV (a 18 1))), (4, .int (iV (z))), (3, .int (iV (c0))), (0, .ref (g.1 + 100)), (1, .int (iV (n))), (2, .int (iV (z)))] (by decide) rfl (fun ls hl => ?_)
              have loop85 : ∀ (N : Nat) (q : Int) (x4 : Int) (st : Int) (pu : Int) (ch : Int) (y : Int) (pre : Int → Int) (hq0 : a 18 3 ≤ q) (hq1 : q ≤ a 14 3) (hW : (y = 1 ∧ WYA a b c0.toNat (plC a b b0 c0.toNat) q x4 st pu ch pre) ∨ (y = 0 ∧ wyC a b c0.toNat (plC a b b0 c0.toNat) = (plC a b b0 c0.toNat))) (H : Heap) (locs : List Loc) (ls : Array Slot), (a 14 3 - q).toNat < N → uY g 117 (cX g tz fz) s H locs → lv_has ls 12 [(10, .int (iV (q))), (4, .int (iV (x4))), (5, .int (iV (st))), (6, .int (iV (pu))), (7, .long (lV (ch))), (9, .int (iV (y))), (0, .ref (g.1 + 100)), (3, .int (iV (c0))), (1, .int (iV (n))), (2, .int (iV (z)))] → W p l e R s m args below meth c H locs 0 0 Q (F0 m 85 ls []) := by
                intro N
                induction N with
                | zero => intro q x4 st pu ch y pre hq0 hq1 hW H locs ls hmu Y hl; exact absurd hmu (Nat.not_lt_zero _)
                | succ N ih85 =>
                  intro q x4 st pu ch y pre hq0 hq1 hW H locs ls hmu Y hl
                  have hyr : y = 0 ∨ y = 1 := by rcases hW with h9 | h9; exact Or.inr h9.1; exact Or.inl h9.1
                  refine r_iload X dX8_findPlan_85 hl 0 rfl ?_
                  refine r_aload_n X dX8_findPlan_87 hl 6 rfl ?_
                  refine g_8_6 (k := 100) X Y rfl wm_743 dX8_findPlan_88 ?_
                  refine r_icmp_ge X (tgt := 205) dX8_findPlan_91 (by decide) ⟨by omega, by omega⟩ ⟨by omega, by omega⟩ (fun c91 => ?_) (fun c91 => ?_)
                  · refine r_iload X dX8_findPlan_205 hl 5 rfl ?_
                    refine r_if_eq X (tgt := 295) dX8_findPlan_207 (by decide) ⟨by omega, by omega⟩ (fun c207 => ?_) (fun c207 => ?_)
                    · have hcut : wyC a b c0.toNat (plC a b b0 c0.toNat) = (plC a b b0 c0.toNat) := by rcases hW with h9 | h9; exact absurd h9.1 (by omega); exact h9.2
                      refine r_iinc X dX8_findPlan_295 hl 7 rfl [(3, .int (iV (c0 + 1))), (10, .int (iV (q))), (4, .int (iV (x4))), (5, .int (iV (st))), (6, .int (iV (pu))), (7, .long (lV (ch))), (9, .int (iV (y))), (0, .ref (g.1 + 100)), (1, .int (iV (n))), (2, .int (iV (z)))] (by decide) rfl (fun ls hl => ?_)
                      refine r_goto X 45 dX8_findPlan_298 (by decide) ?_
                      exact ih45 (c0 + 1) tz fz (by omega) (by omega) hS (by rw [plC_s _ _ _ hc0, hcut]; exact hr) (by rw [plC_s _ _ _ hc0, hcut]; exact hm) _ _ _ (by omega) Y (lv_sub hl [0, 7, 8, 9] rfl)
                    · obtain ⟨hy1, hWA⟩ : y = 1 ∧ WYA a b c0.toNat (plC a b b0 c0.toNat) q x4 st pu ch pre := by rcases hW with h9 | h9; exact h9; exact absurd h9.1 c207
                      obtain ⟨wa, wb, wc, wd, we, -, -, -⟩ := id hWA
                      refine r_aload_n X dX8_findPlan_210 hl 6 rfl ?_
                      refine r_iconst X dX8_findPlan_211 ?_
                      refine r_bipush X 42 dX8_findPlan_212 (by decide) ?_
                      refine vF_v X Y [.int (iV (0)), .int (iV (42))] [] (ct_X8_copy l g tz fz 0 42 (by omega) (by omega) (by omega) (by omega) (by omega)) mk_X8_copy mi_X8_copy wm_973 (by decide) (rv_8 Y rfl) rfl hl (Nat.le_of_ble_eq_true rfl) rfl dX8_findPlan_214 (Nat.zero_le _) (Nat.zero_le _) (fun H locs Y => ?_)
                      obtain ⟨fq3, hfq3⟩ : ∃ q, q = cpW fz 0 42 := ⟨_, rfl⟩
                      have Y : uY g 117 (cX g tz fq3) s H locs := by rw [hfq3]; exact Y
                      refine r_aload_n X dX8_findPlan_217 hl 6 rfl ?_
                      refine g_8_0 (k := 100) X Y rfl wm_737 dX8_findPlan_218 ?_
                      refine r_bipush X 45 dX8_findPlan_221 (by decide) ?_
                      refine r_iload X dX8_findPlan_223 hl 3 rfl ?_
                      refine p_ist (k := 101) X Y rfl (by omega) (by have q : ((al 101 : Nat) : Int) = 1008 := rfl; omega) dX8_findPlan_225 (fun H locs Y => ?_)
                      obtain ⟨fq4, hfq4⟩ : ∃ q, q = upA fq3 101 45 pu := ⟨_, rfl⟩
                      have Y : uY g 117 (cX g tz fq4) s H locs := by rw [hfq4]; exact Y
                      obtain ⟨hy1b, hy2, hy3⟩ := pla_py (pu := pu) L1 hfq3 hfq4
                      refine r_aload_n X dX8_findPlan_226 hl 6 rfl ?_
                      refine r_bipush X 42 dX8_findPlan_227 (by decide) ?_
                      refine r_aload_n X dX8_findPlan_229 hl 6 rfl ?_
                      refine g_8_4 (k := 100) X Y rfl wm_741 dX8_findPlan_230 ?_
                      refine r_eq (z' := tget a b 12 0 0) v1b.2.1 ?_
                      refine vR_v X Y [.int (iV (42)), .int (iV (tget a b 12 0 0))] [] (ct_X8_paysHome l g tz fq4 42 (tget a b 12 0 0) (a 19 3) (fun i => tget a b 19 i 2) (fun i => tget a b 19 i 3) hy1b (by have := v1b.2.2.1; omega) (by omega) (by omega) (by omega) (by omega)) mk_X8_paysHome mi_X8_paysHome wm_923 (by decide) (rv_8 Y rfl) rfl hl (Nat.le_of_ble_eq_true rfl) rfl dX8_findPlan_233 (Nat.zero_le _) (Nat.zero_le _) (fun tq5 fq5 H locs hq5 Y => ?_)
                      refine r_lload X dX8_findPlan_236 hl 4 rfl ?_
                      refine r_aload_n X dX8_findPlan_238 hl 6 rfl ?_
                      refine g_8_27 (k := 100) X Y rfl wm_764 dX8_findPlan_239 ?_
                      have hlb := lbpX_rng L.1
                      refine r_eq (z' := max 0 (lbpX a b + pu)) (pla_rest hy2 v1b.2.2.1 hq5) ?_
                      refine r_i2l X dX8_findPlan_242 ⟨by omega, by omega⟩ ?_
                      refine r_lmul X dX8_findPlan_243 ?_
                      have m0 : 0 ≤ ch * max 0 (lbpX a b + pu) := Int.mul_nonneg we.1 (by omega)
                      have m1 : ch * max 0 (lbpX a b + pu) ≤ 1000000 * 12000 := Int.mul_le_mul we.2 (by omega) (by omega) (by omega)
                      refine r_ldc2 X 1000 wm_1068 (by decide) dX8_findPlan_244 ?_
                      refine r_ldiv X dX8_findPlan_247 ⟨by omega, by omega⟩ ⟨by omega, by omega⟩ (by omega) ?_
                      obtain ⟨mu, hmu⟩ : ∃ q0, q0 = (ch * max 0 (lbpX a b + pu)).tdiv 1000 := ⟨_, rfl⟩
                      refine r_eql (z' := mu) hmu.symm ?_
                      have hmur : 0 ≤ mu ∧ mu ≤ 12000000 := by rw [hmu, Int.tdiv_eq_ediv_of_nonneg m0]; omega
                      obtain ⟨mm, hmm⟩ : ∃ q0, q0 = (plC a b b0 c0.toNat).1 := ⟨_, rfl⟩
                      have hmr : -1 ≤ mm ∧ mm ≤ 12000000 := by rw [hmm]; rcases hr with h9 | h9; omega; omega
                      have hcb := cmpZ_b mu mm
                      have hpm : tq5 100 30 = mm := by rw [hq5.1, up2_ne _ _ (by omega), hm, hmm]
                      have hpb : tq5 100 29 = tz 100 29 := by rw [hq5.1, up2_ne _ _ (by omega)]
                      refine r_lstore X dX8_findPlan_248 hl [(10, .long (lV (mu))), (4, .int (iV (x4))), (5, .int (iV (st))), (6, .int (iV (pu))), (7, .long (lV (ch))), (9, .int (iV (y))), (0, .ref (g.1 + 100)), (3, .int (iV (c0))), (1, .int (iV (n))), (2, .int (iV (z)))] (by decide) rfl (fun ls hl => ?_)
                      refine r_aload_n X dX8_findPlan_250 hl 6 rfl ?_
                      refine r_lload X dX8_findPlan_251 hl 0 rfl ?_
                      refine r_aload_n X dX8_findPlan_253 hl 6 rfl ?_
                      refine g_8_30 (k := 100) X Y rfl wm_767 dX8_findPlan_254 ?_
                      refine r_eql (z' := mm) hpm ?_
                      refine r_lcmp X dX8_findPlan_257 ⟨by omega, by omega⟩ ⟨by omega, by omega⟩ ?_
                      refine r_if_le X (tgt := 265) dX8_findPlan_258 (by decide) ⟨by omega, by omega⟩ (fun c258 => ?_) (fun c258 => ?_)
                      · refine r_aload_n X dX8_findPlan_265 hl 6 rfl ?_
                        refine g_8_29 (k := 100) X Y rfl wm_766 dX8_findPlan_266 ?_
                        refine p_8_29 (k := 100) X Y rfl wm_766 dX8_findPlan_269 (fun H locs Y => ?_)
                        obtain ⟨tq6, htq6⟩ : ∃ q, q = up2 tq5 100 29 (tq5 100 29) := ⟨_, rfl⟩
                        have Y : uY g 117 (cX g tq6 fq5) s H locs := by rw [htq6]; exact Y
                        refine r_aload_n X dX8_findPlan_272 hl 6 rfl ?_
                        refine r_lload X dX8_findPlan_273 hl 0 rfl ?_
                        refine r_aload_n X dX8_findPlan_275 hl 6 rfl ?_
                        refine g_8_30 (k := 100) X Y rfl wm_767 dX8_findPlan_276 ?_
                        refine r_eql (z' := mm) (by rw [htq6, up2_ne _ _ (by omega)]; exact hpm) ?_
                        refine r_lcmp X dX8_findPlan_279 ⟨by omega, by omega⟩ ⟨by omega, by omega⟩ ?_
                        refine r_if_le X (tgt := 288) dX8_findPlan_280 (by decide) ⟨by omega, by omega⟩ (fun c280 => ?_) (fun c280 => ?_)
                        · refine r_aload_n X dX8_findPlan_288 hl 6 rfl ?_
                          refine g_8_30 (k := 100) X Y rfl wm_767 dX8_findPlan_289 ?_
                          refine r_eql (z' := mm) (by rw [htq6, up2_ne _ _ (by omega)]; exact hpm) ?_
                          refine p_8_30 (k := 100) X Y rfl wm_767 dX8_findPlan_292 (fun H locs Y => ?_)
                          obtain ⟨tq7, htq7⟩ : ∃ q, q = up2 tq6 100 30 (mm) := ⟨_, rfl⟩
                          have Y : uY g 117 (cX g tq7 fq5) s H locs := by rw [htq7]; exact Y
                          refine r_iinc X dX8_findPlan_295 hl 7 rfl [(3, .int (iV (c0 + 1))), (10, .long (lV (mu))), (4, .int (iV (x4))), (5, .int (iV (st))), (6, .int (iV (pu))), (7, .long (lV (ch))), (9, .int (iV (y))), (0, .ref (g.1 + 100)), (1, .int (iV (n))), (2, .int (iV (z)))] (by decide) rfl (fun ls hl => ?_)
                          refine r_goto X 45 dX8_findPlan_298 (by decide) ?_
                          exact ih45 (c0 + 1) tq7 fq5 (by omega) (by omega) (hS.tr ⟨fun k j q => by rw [htq7, htq6, up2_ne _ _ (by omega), up2_ne _ _ (by omega), hq5.scr.1 k j q], fun k j q => by rw [hq5.scr.2 k j q, hy3 k j q]⟩) (by rw [plC_s _ _ _ hc0, WYA_end hWA (by omega), if_pos (by omega), htq7, htq6, up2_ne _ _ (by omega), up2_s, hpb]; exact hr) (by rw [plC_s _ _ _ hc0, WYA_end hWA (by omega), if_pos (by omega), htq7, up2_s]; exact hmm) _ _ _ (by omega) Y (lv_sub hl [0, 7, 8, 9] rfl)
                        · exact absurd c280 (by omega)
                      · refine r_iload_n X dX8_findPlan_261 hl 7 rfl ?_
                        refine r_goto X 269 dX8_findPlan_262 (by decide) ?_
                        refine p_8_29 (k := 100) X Y rfl wm_766 dX8_findPlan_269 (fun H locs Y => ?_)
                        obtain ⟨tq6, htq6⟩ : ∃ q, q = up2 tq5 100 29 (c0) := ⟨_, rfl⟩
                        have Y : uY g 117 (cX g tq6 fq5) s H locs := by rw [htq6]; exact Y
                        refine r_aload_n X dX8_findPlan_272 hl 6 rfl ?_
                        refine r_lload X dX8_findPlan_273 hl 0 rfl ?_
                        refine r_aload_n X dX8_findPlan_275 hl 6 rfl ?_
                        refine g_8_30 (k := 100) X Y rfl wm_767 dX8_findPlan_276 ?_
                        refine r_eql (z' := mm) (by rw [htq6, up2_ne _ _ (by omega)]; exact hpm) ?_
                        refine r_lcmp X dX8_findPlan_279 ⟨by omega, by omega⟩ ⟨by omega, by omega⟩ ?_
                        refine r_if_le X (tgt := 288) dX8_findPlan_280 (by decide) ⟨by omega, by omega⟩ (fun c280 => ?_) (fun c280 => ?_)
                        · exact absurd c280 (by omega)
                        · refine r_lload X dX8_findPlan_283 hl 0 rfl ?_
                          refine r_goto X 292 dX8_findPlan_285 (by decide) ?_
                          refine p_8_30 (k := 100) X Y rfl wm_767 dX8_findPlan_292 (fun H locs Y => ?_)
                          obtain ⟨tq7, htq7⟩ : ∃ q, q = up2 tq6 100 30 (mu) := ⟨_, rfl⟩
                          have Y : uY g 117 (cX g tq7 fq5) s H locs := by rw [htq7]; exact Y
                          refine r_iinc X dX8_findPlan_295 hl 7 rfl [(3, .int (iV (c0 + 1))), (10, .long (lV (mu))), (4, .int (iV (x4))), (5, .int (iV (st))), (6, .int (iV (pu))), (7, .long (lV (ch))), (9, .int (iV (y))), (0, .ref (g.1 + 100)), (1, .int (iV (n))), (2, .int (iV (z)))] (by decide) rfl (fun ls hl => ?_)
                          refine r_goto X 45 dX8_findPlan_298 (by decide) ?_
                          exact ih45 (c0 + 1) tq7 fq5 (by omega) (by omega) (hS.tr ⟨fun k j q => by rw [htq7, htq6, up2_ne _ _ (by omega), up2_ne _ _ (by omega), hq5.scr.1 k j q], fun k j q => by rw [hq5.scr.2 k j q, hy3 k j q]⟩) (by rw [plC_s _ _ _ hc0, htq7, htq6, up2_ne _ _ (by omega), up2_s]; exact (RELC_new L.1 hWA (by omega) hc0 (by omega) (by omega)).1) (by rw [plC_s _ _ _ hc0, htq7, up2_s, (RELC_new L.1 hWA (by omega) hc0 (by omega) (by omega)).2]; exact hmu) _ _ _ (by omega) Y (lv_sub hl [0, 7, 8, 9] rfl)
                  · refine r_iload X dX8_findPlan_94 hl 5 rfl ?_
                    refine r_if_eq X (tgt := 205) dX8_findPlan_96 (by decide) ⟨by omega, by omega⟩ (fun c96 => ?_) (fun c96 => ?_)
                    · refine r_iload X dX8_findPlan_205 hl 5 rfl ?_
                      refine r_if_eq X (tgt := 295) dX8_findPlan_207 (by decide) ⟨by omega, by omega⟩ (fun c207 => ?_) (fun c207 => ?_)
                      · have hcut : wyC a b c0.toNat (plC a b b0 c0.toNat) = (plC a b b0 c0.toNat) := by rcases hW with h9 | h9; exact absurd h9.1 (by omega); exact h9.2
                        refine r_iinc X dX8_findPlan_295 hl 7 rfl [(3, .int (iV (c0 + 1))), (10, .int (iV (q))), (4, .int (iV (x4))), (5, .int (iV (st))), (6, .int (iV (pu))), (7, .long (lV (ch))), (9, .int (iV (y))), (0, .ref (g.1 + 100)), (1, .int (iV (n))), (2, .int (iV (z)))] (by decide) rfl (fun ls hl => ?_)
                        refine r_goto X 45 dX8_findPlan_298 (by decide) ?_
                        exact ih45 (c0 + 1) tz fz (by omega) (by omega) hS (by rw [plC_s _ _ _ hc0, hcut]; exact hr) (by rw [plC_s _ _ _ hc0, hcut]; exact hm) _ _ _ (by omega) Y (lv_sub hl [0, 7, 8, 9] rfl)
                      · exact absurd c207 (by omega)
                    · obtain ⟨hy1, hWA⟩ : y = 1 ∧ WYA a b c0.toNat (plC a b b0 c0.toNat) q x4 st pu ch pre := by rcases hW with h9 | h9; exact h9; exact absurd h9.1 c96
                      obtain ⟨wa, wb, wc, wd, we, -, -, -⟩ := id hWA
                      have hx4 := p3_le (n := (a 14 3 - q).toNat) (by omega)
                      rw [← wb] at hx4
                      refine r_iload X dX8_findPlan_99 hl 1 rfl ?_
                      refine r_iconst X dX8_findPlan_101 ?_
                      refine r_idiv X dX8_findPlan_102 ⟨by omega, by omega⟩ ⟨by omega, by omega⟩ (by omega) ?_
                      obtain ⟨x5, hx5⟩ : ∃ q0, q0 = pw3 (a 14 3 - q - 1).toNat := ⟨_, rfl⟩
                      have hx5r := p3_le (n := (a 14 3 - q - 1).toNat) (by omega)
                      rw [← hx5] at hx5r
                      refine r_eq (z' := x5) (by rw [wb, hx5, show (a 14 3 - q).toNat = (a 14 3 - q - 1).toNat + 1 by omega, p3_d]) ?_
                      refine r_istore X dX8_findPlan_103 hl [(4, .int (iV (x5))), (10, .int (iV (q))), (5, .int (iV (st))), (6, .int (iV (pu))), (7, .long (lV (ch))), (9, .int (iV (y))), (0, .ref (g.1 + 100)), (3, .int (iV (c0))), (1, .int (iV (n))), (2, .int (iV (z)))] (by decide) rfl (fun ls hl => ?_)
                      refine r_iload_n X dX8_findPlan_105 hl 7 rfl ?_
                      refine r_iload X dX8_findPlan_106 hl 0 rfl ?_
                      refine r_idiv X dX8_findPlan_108 ⟨by omega, by omega⟩ ⟨by omega, by omega⟩ (by omega) ?_
                      have hdv : 0 ≤ c0.tdiv x5 ∧ c0.tdiv x5 ≤ c0 := by rw [Int.tdiv_eq_ediv_of_nonneg hc0]; exact ⟨Int.ediv_nonneg hc0 (by omega), Int.ediv_le_self _ hc0⟩
                      refine r_iconst X dX8_findPlan_109 ?_
                      refine r_irem X dX8_findPlan_110 ⟨by omega, by omega⟩ ⟨by omega, by omega⟩ (by omega) ?_
                      obtain ⟨k, hk9⟩ : ∃ q0, q0 = dg3 c0.toNat (a 14 3 - q - 1).toNat := ⟨_, rfl⟩
                      refine r_eq (z' := k) (by rw [hx5, dg3_of hc0, hk9]) ?_
                      have hkr := dg3_rng c0.toNat (a 14 3 - q - 1).toNat
                      rw [← hk9] at hkr
                      have hleq := L1.l (i := q) (by omega) (by omega)
                      refine r_istore X dX8_findPlan_111 hl [(11, .int (iV (k))), (4, .int (iV (x5))), (10, .int (iV (q))), (5, .int (iV (st))), (6, .int (iV (pu))), (7, .long (lV (ch))), (9, .int (iV (y))), (0, .ref (g.1 + 100)), (3, .int (iV (c0))), (1, .int (iV (n))), (2, .int (iV (z)))] (by decide) rfl (fun ls hl => ?_)
                      refine r_iload X dX8_findPlan_113 hl 4 rfl ?_
                      refine r_iload X dX8_findPlan_115 hl 0 rfl ?_
                      refine r_aload_n X dX8_findPlan_117 hl 7 rfl ?_
                      refine g_8_9 (k := 100) X Y rfl wm_746 dX8_findPlan_118 ?_
                      refine r_iload X dX8_findPlan_121 hl 2 rfl ?_
                      refine g_ild (k := 105) X Y rfl (by omega) (by have q : ((al 105 : Nat) : Int) = 7 := rfl; omega) dX8_findPlan_123 ?_
                      refine r_eq (z' := tget a b 14 q 2) hleq.1.2.2 ?_
                      have hlg := L.1.leg q
                      have hm0 : 0 ≤ k * tget a b 14 q 2 := Int.mul_nonneg hkr.1 hlg.2.2.1
                      have hm1 : k * tget a b 14 q 2 ≤ 2 * 99 := Int.mul_le_mul hkr.2 hlg.2.2.2 hlg.2.2.1 (by omega)
                      refine r_imul X dX8_findPlan_124 ?_
                      refine r_isub X dX8_findPlan_125 ?_
                      refine r_istore X dX8_findPlan_126 hl [(6, .int (iV (pu - (k * (tget a b 14 q 2))))), (11, .int (iV (k))), (4, .int (iV (x5))), (10, .int (iV (q))), (5, .int (iV (st))), (7, .long (lV (ch))), (9, .int (iV (y))), (0, .ref (g.1 + 100)), (3, .int (iV (c0))), (1, .int (iV (n))), (2, .int (iV (z)))] (by decide) rfl (fun ls hl => ?_)
                      refine r_iload X dX8_findPlan_128 hl 4 rfl ?_
                      refine r_iload X dX8_findPlan_130 hl 1 rfl ?_
                      refine r_iadd X dX8_findPlan_132 ?_
                      refine r_istore X dX8_findPlan_133 hl [(5, .int (iV (st + k))), (6, .int (iV (pu - (k * (tget a b 14 q 2))))), (11, .int (iV (k))), (4, .int (iV (x5))), (10, .int (iV (q))), (7, .long (lV (ch))), (9, .int (iV (y))), (0, .ref (g.1 + 100)), (3, .int (iV (c0))), (1, .int (iV (n))), (2, .int (iV (z)))] (by decide) rfl (fun ls hl => ?_)
                      refine r_iload X dX8_findPlan_135 hl 1 rfl ?_
                      refine r_if_lt X (tgt := 151) dX8_findPlan_137 (by decide) ⟨by omega, by omega⟩ (fun c137 => ?_) (fun c137 => ?_)
                      · refine r_iconst X dX8_findPlan_151 ?_
                        refine r_istore X dX8_findPlan_152 hl [(9, .int (iV (0))), (5, .int (iV (st + k))), (6, .int (iV (pu - (k * (tget a b 14 q 2))))), (11, .int (iV (k))), (4, .int (iV (x5))), (10, .int (iV (q))), (7, .long (lV (ch))), (0, .ref (g.1 + 100)), (3, .int (iV (c0))), (1, .int (iV (n))), (2, .int (iV (z)))] (by decide) rfl (fun ls hl => ?_)
                        refine r_iload X dX8_findPlan_154 hl 0 rfl ?_
                        refine r_if_eq X (tgt := 181) dX8_findPlan_156 (by decide) ⟨by omega, by omega⟩ (fun c156 => ?_) (fun c156 => ?_)
                        · refine r_lconst X 0 dX8_findPlan_181 (by decide) ?_
                          refine r_lstore X dX8_findPlan_182 hl [(7, .long (lV (0))), (9, .int (iV (0))), (5, .int (iV (st + k))), (6, .int (iV (pu - (k * (tget a b 14 q 2))))), (11, .int (iV (k))), (4, .int (iV (x5))), (10, .int (iV (q))), (0, .ref (g.1 + 100)), (3, .int (iV (c0))), (1, .int (iV (n))), (2, .int (iV (z)))] (by decide) rfl (fun ls hl => ?_)
                          refine r_iload X dX8_findPlan_184 hl 2 rfl ?_
                          refine r_iload X dX8_findPlan_186 hl 2 rfl ?_
                          refine r_if_le X (tgt := 195) dX8_findPlan_188 (by decide) ⟨by omega, by omega⟩ (fun c188 => ?_) (fun c188 => ?_)
                          · refine r_iconst X dX8_findPlan_195 ?_
                            refine r_isub X dX8_findPlan_196 ?_
                            refine r_istore X dX8_findPlan_197 hl [(5, .int (iV ((st + k) - 0))), (7, .long (lV (0))), (9, .int (iV (0))), (6, .int (iV (pu - (k * (tget a b 14 q 2))))), (11, .int (iV (k))), (4, .int (iV (x5))), (10, .int (iV (q))), (0, .ref (g.1 + 100)), (3, .int (iV (c0))), (1, .int (iV (n))), (2, .int (iV (z)))] (by decide) rfl (fun ls hl => ?_)
                            refine r_iinc X dX8_findPlan_199 hl 6 rfl [(10, .int (iV (q + 1))), (5, .int (iV ((st + k) - 0))), (7, .long (lV (0))), (9, .int (iV (0))), (6, .int (iV (pu - (k * (tget a b 14 q 2))))), (11, .int (iV (k))), (4, .int (iV (x5))), (0, .ref (g.1 + 100)), (3, .int (iV (c0))), (1, .int (iV (n))), (2, .int (iV (z)))] (by decide) rfl (fun ls hl => ?_)
                            refine r_goto X 85 dX8_findPlan_202 (by decide) ?_
                            exact ih85 (q + 1) x5 ((st + k) - 0) (pu - (k * (tget a b 14 q 2))) 0 0 pre (by omega) (by omega) (Or.inr ⟨rfl, WYA_cut hWA (by omega) hk9 (by omega)⟩) _ _ _ (by omega) Y (lv_sub hl [0, 6, 1, 4, 2, 3, 7, 8, 9, 10] rfl)
                          · refine r_iconst X dX8_findPlan_191 ?_
                            refine r_goto X 196 dX8_findPlan_192 (by decide) ?_
                            refine r_isub X dX8_findPlan_196 ?_
                            refine r_istore X dX8_findPlan_197 hl [(5, .int (iV ((st + k) - 1))), (7, .long (lV (0))), (9, .int (iV (0))), (6, .int (iV (pu - (k * (tget a b 14 q 2))))), (11, .int (iV (k))), (4, .int (iV (x5))), (10, .int (iV (q))), (0, .ref (g.1 + 100)), (3, .int (iV (c0))), (1, .int (iV (n))), (2, .int (iV (z)))] (by decide) rfl (fun ls hl => ?_)
                            refine r_iinc X dX8_findPlan_199 hl 6 rfl [(10, .int (iV (q + 1))), (5, .int (iV ((st + k) - 1))), (7, .long (lV (0))), (9, .int (iV (0))), (6, .int (iV (pu - (k * (tget a b 14 q 2))))), (11, .int (iV (k))), (4, .int (iV (x5))), (0, .ref (g.1 + 100)), (3, .int (iV (c0))), (1, .int (iV (n))), (2, .int (iV (z)))] (by decide) rfl (fun ls hl => ?_)
                            refine r_goto X 85 dX8_findPlan_202 (by decide) ?_
                            exact ih85 (q + 1) x5 ((st + k) - 1) (pu - (k * (tget a b 14 q 2))) 0 0 pre (by omega) (by omega) (Or.inr ⟨rfl, WYA_cut hWA (by omega) hk9 (by omega)⟩) _ _ _ (by omega) Y (lv_sub hl [0, 6, 1, 4, 2, 3, 7, 8, 9, 10] rfl)
                        · exact absurd c156 (by omega)
                      · refine r_iload X dX8_findPlan_140 hl 0 rfl ?_
                        refine r_bipush X 9 dX8_findPlan_142 (by decide) ?_
                        refine r_icmp_gt X (tgt := 151) dX8_findPlan_144 (by decide) ⟨by omega, by omega⟩ ⟨by omega, by omega⟩ (fun c144 => ?_) (fun c144 => ?_)
                        · refine r_iconst X dX8_findPlan_151 ?_
                          refine r_istore X dX8_findPlan_152 hl [(9, .int (iV (0))), (5, .int (iV (st + k))), (6, .int (iV (pu - (k * (tget a b 14 q 2))))), (11, .int (iV (k))), (4, .int (iV (x5))), (10, .int (iV (q))), (7, .long (lV (ch))), (0, .ref (g.1 + 100)), (3, .int (iV (c0))), (1, .int (iV (n))), (2, .int (iV (z)))] (by decide) rfl (fun ls hl => ?_)
                          refine r_iload X dX8_findPlan_154 hl 0 rfl ?_
                          refine r_if_eq X (tgt := 181) dX8_findPlan_156 (by decide) ⟨by omega, by omega⟩ (fun c156 => ?_) (fun c156 => ?_)
                          · refine r_lconst X 0 dX8_findPlan_181 (by decide) ?_
                            refine r_lstore X dX8_findPlan_182 hl [(7, .long (lV (0))), (9, .int (iV (0))), (5, .int (iV (st + k))), (6, .int (iV (pu - (k * (tget a b 14 q 2))))), (11, .int (iV (k))), (4, .int (iV (x5))), (10, .int (iV (q))), (0, .ref (g.1 + 100)), (3, .int (iV (c0))), (1, .int (iV (n))), (2, .int (iV (z)))] (by decide) rfl (fun ls hl => ?_)
                            refine r_iload X dX8_findPlan_184 hl 2 rfl ?_
                            refine r_iload X dX8_findPlan_186 hl 2 rfl ?_
                            refine r_if_le X (tgt := 195) dX8_findPlan_188 (by decide) ⟨by omega, by omega⟩ (fun c188 => ?_) (fun c188 => ?_)
                            · refine r_iconst X dX8_findPlan_195 ?_
                              refine r_isub X dX8_findPlan_196 ?_
                              refine r_istore X dX8_findPlan_197 hl [(5, .int (iV ((st + k) - 0))), (7, .long (lV (0))), (9, .int (iV (0))), (6, .int (iV (pu - (k * (tget a b 14 q 2))))), (11, .int (iV (k))), (4, .int (iV (x5))), (10, .int (iV (q))), (0, .ref (g.1 + 100)), (3, .int (iV (c0))), (1, .int (iV (n))), (2, .int (iV (z)))] (by decide) rfl (fun ls hl => ?_)
                              refine r_iinc X dX8_findPlan_199 hl 6 rfl [(10, .int (iV (q + 1))), (5, .int (iV ((st + k) - 0))), (7, .long (lV (0))), (9, .int (iV (0))), (6, .int (iV (pu - (k * (tget a b 14 q 2))))), (11, .int (iV (k))), (4, .int (iV (x5))), (0, .ref (g.1 + 100)), (3, .int (iV (c0))), (1, .int (iV (n))), (2, .int (iV (z)))] (by decide) rfl (fun ls hl => ?_)
                              refine r_goto X 85 dX8_findPlan_202 (by decide) ?_
                              exact ih85 (q + 1) x5 ((st + k) - 0) (pu - (k * (tget a b 14 q 2))) 0 0 pre (by omega) (by omega) (Or.inr ⟨rfl, WYA_cut hWA (by omega) hk9 (by omega)⟩) _ _ _ (by omega) Y (lv_sub hl [0, 6, 1, 4, 2, 3, 7, 8, 9, 10] rfl)
                            · refine r_iconst X dX8_findPlan_191 ?_
                              refine r_goto X 196 dX8_findPlan_192 (by decide) ?_
                              refine r_isub X dX8_findPlan_196 ?_
                              refine r_istore X dX8_findPlan_197 hl [(5, .int (iV ((st + k) - 1))), (7, .long (lV (0))), (9, .int (iV (0))), (6, .int (iV (pu - (k * (tget a b 14 q 2))))), (11, .int (iV (k))), (4, .int (iV (x5))), (10, .int (iV (q))), (0, .ref (g.1 + 100)), (3, .int (iV (c0))), (1, .int (iV (n))), (2, .int (iV (z)))] (by decide) rfl (fun ls hl => ?_)
                              refine r_iinc X dX8_findPlan_199 hl 6 rfl [(10, .int (iV (q + 1))), (5, .int (iV ((st + k) - 1))), (7, .long (lV (0))), (9, .int (iV (0))), (6, .int (iV (pu - (k * (tget a b 14 q 2))))), (11, .int (iV (k))), (4, .int (iV (x5))), (0, .ref (g.1 + 100)), (3, .int (iV (c0))), (1, .int (iV (n))), (2, .int (iV (z)))] (by decide) rfl (fun ls hl => ?_)
                              refine r_goto X 85 dX8_findPlan_202 (by decide) ?_
                              exact ih85 (q + 1) x5 ((st + k) - 1) (pu - (k * (tget a b 14 q 2))) 0 0 pre (by omega) (by omega) (Or.inr ⟨rfl, WYA_cut hWA (by omega) hk9 (by omega)⟩) _ _ _ (by omega) Y (lv_sub hl [0, 6, 1, 4, 2, 3, 7, 8, 9, 10] rfl)
                          · exact absurd c156 (by omega)
                        · refine r_iconst X dX8_findPlan_147 ?_
                          refine r_goto X 152 dX8_findPlan_148 (by decide) ?_
                          refine r_istore X dX8_findPlan_152 hl [(9, .int (iV (1))), (5, .int (iV (st + k))), (6, .int (iV (pu - (k * (tget a b 14 q 2))))), (11, .int (iV (k))), (4, .int (iV (x5))), (10, .int (iV (q))), (7, .long (lV (ch))), (0, .ref (g.1 + 100)), (3, .int (iV (c0))), (1, .int (iV (n))), (2, .int (iV (z)))] (by decide) rfl (fun ls hl => ?_)
                          refine r_iload X dX8_findPlan_154 hl 0 rfl ?_
                          refine r_if_eq X (tgt := 181) dX8_findPlan_156 (by decide) ⟨by omega, by omega⟩ (fun c156 => ?_) (fun c156 => ?_)
                          · exact absurd c156 (by omega)
                          · refine r_lload X dX8_findPlan_159 hl 6 rfl ?_
                            refine r_bipush X 100 dX8_findPlan_161 (by decide) ?_
                            refine r_aload_n X dX8_findPlan_163 hl 7 rfl ?_
                            refine r_iload X dX8_findPlan_164 hl 5 rfl ?_
                            refine r_iload X dX8_findPlan_166 hl 1 rfl ?_
                            refine vF_i X Y [.int (iV (q)), .int (iV (st + k))] [.int (iV (100)), .long (lV (ch))] (ct_X8_oddsOf l g tz fz a b q (st + k) L1 (by omega) (by omega) (by omega) (by omega)) mk_X8_oddsOf mi_X8_oddsOf wm_940 (by decide) (rv_8 Y rfl) rfl hl (Nat.le_of_ble_eq_true rfl) rfl dX8_findPlan_168 (Nat.zero_le _) (Nat.zero_le _) (fun H locs Y => ?_)
                            have qo168 := oddX_rng L.1.1 q (st + k) (by omega) (by omega)
                            have hs9 := step_rng we.1 we.2 qo168.1 qo168.2.1
                            refine r_isub X dX8_findPlan_171 ?_
                            refine r_i2l X dX8_findPlan_172 ⟨by omega, by omega⟩ ?_
                            refine r_lmul X dX8_findPlan_173 ?_
                            refine r_ldc2 X 100 wm_1033 (by decide) dX8_findPlan_174 ?_
                            refine r_ldiv X dX8_findPlan_177 ⟨by omega, by omega⟩ ⟨by omega, by omega⟩ (by omega) ?_
                            refine r_goto X 182 dX8_findPlan_178 (by decide) ?_
                            refine r_lstore X dX8_findPlan_182 hl [(7, .long (lV ((ch * (100 - (oddX a b 11 q (st + k)))).tdiv 100))), (9, .int (iV (1))), (5, .int (iV (st + k))), (6, .int (iV (pu - (k * (tget a b 14 q 2))))), (11, .int (iV (k))), (4, .int (iV (x5))), (10, .int (iV (q))), (0, .ref (g.1 + 100)), (3, .int (iV (c0))), (1, .int (iV (n))), (2, .int (iV (z)))] (by decide) rfl (fun ls hl => ?_)
                            refine r_iload X dX8_findPlan_184 hl 2 rfl ?_
                            refine r_iload X dX8_findPlan_186 hl 2 rfl ?_
                            refine r_if_le X (tgt := 195) dX8_findPlan_188 (by decide) ⟨by omega, by omega⟩ (fun c188 => ?_) (fun c188 => ?_)
                            · refine r_iconst X dX8_findPlan_195 ?_
                              refine r_isub X dX8_findPlan_196 ?_
                              refine r_istore X dX8_findPlan_197 hl [(5, .int (iV ((st + k) - 0))), (7, .long (lV ((ch * (100 - (oddX a b 11 q (st + k)))).tdiv 100))), (9, .int (iV (1))), (6, .int (iV (pu - (k * (tget a b 14 q 2))))), (11, .int (iV (k))), (4, .int (iV (x5))), (10, .int (iV (q))), (0, .ref (g.1 + 100)), (3, .int (iV (c0))), (1, .int (iV (n))), (2, .int (iV (z)))] (by decide) rfl (fun ls hl => ?_)
                              refine r_iinc X dX8_findPlan_199 hl 6 rfl [(10, .int (iV (q + 1))), (5, .int (iV ((st + k) - 0))), (7, .long (lV ((ch * (100 - (oddX a b 11 q (st + k)))).tdiv 100))), (9, .int (iV (1))), (6, .int (iV (pu - (k * (tget a b 14 q 2))))), (11, .int (iV (k))), (4, .int (iV (x5))), (0, .ref (g.1 + 100)), (3, .int (iV (c0))), (1, .int (iV (n))), (2, .int (iV (z)))] (by decide) rfl (fun ls hl => ?_)
                              refine r_goto X 85 dX8_findPlan_202 (by decide) ?_
                              exact ih85 (q + 1) x5 ((st + k) - 0) (pu - (k * (tget a b 14 q 2))) ((ch * (100 - (oddX a b 11 q (st + k)))).tdiv 100) 1 (up1 pre (q - a 18 3) k) (by omega) (by omega) (by have e9 : max 0 (st + k - 1) = (st + k) - 0 := (by omega); rw [← e9, hx5]; exact Or.inl ⟨rfl, WYA_step L.1 hWA (by omega) hk9 (by omega)⟩) _ _ _ (by omega) Y (lv_sub hl [0, 6, 1, 4, 2, 3, 7, 8, 9, 10] rfl)
                            · refine r_iconst X dX8_findPlan_191 ?_
                              refine r_goto X 196 dX8_findPlan_192 (by decide) ?_
                              refine r_isub X dX8_findPlan_196 ?_
                              refine r_istore X dX8_findPlan_197 hl [(5, .int (iV ((st + k) - 1))), (7, .long (lV ((ch * (100 - (oddX a b 11 q (st + k)))).tdiv 100))), (9, .int (iV (1))), (6, .int (iV (pu - (k * (tget a b 14 q 2))))), (11, .int (iV (k))), (4, .int (iV (x5))), (10, .int (iV (q))), (0, .ref (g.1 + 100)), (3, .int (iV (c0))), (1, .int (iV (n))), (2, .int (iV (z)))] (by decide) rfl (fun ls hl => ?_)
                              refine r_iinc X dX8_findPlan_199 hl 6 rfl [(10, .int (iV (q + 1))), (5, .int (iV ((st + k) - 1))), (7, .long (lV ((ch * (100 - (oddX a b 11 q (st + k)))).tdiv 100))), (9, .int (iV (1))), (6, .int (iV (pu - (k * (tget a b 14 q 2))))), (11, .int (iV (k))), (4, .int (iV (x5))), (0, .ref (g.1 + 100)), (3, .int (iV (c0))), (1, .int (iV (n))), (2, .int (iV (z)))] (by decide) rfl (fun ls hl => ?_)
                              refine r_goto X 85 dX8_findPlan_202 (by decide) ?_
                              exact ih85 (q + 1) x5 ((st + k) - 1) (pu - (k * (tget a b 14 q 2))) ((ch * (100 - (oddX a b 11 q (st + k)))).tdiv 100) 1 (up1 pre (q - a 18 3) k) (by omega) (by omega) (by have e9 : max 0 (st + k - 1) = (st + k) - 1 := (by omega); rw [← e9, hx5]; exact Or.inl ⟨rfl, WYA_step L.1 hWA (by omega) hk9 (by omega)⟩) _ _ _ (by omega) Y (lv_sub hl [0, 6, 1, 4, 2, 3, 7, 8, 9, 10] rfl)
              exact loop85 (((a 14 3 - a 18 3).toNat) + 1) (a 18 3) z (a 18 1) (a 18 2) 1000000 1 (preC a) (by omega) (by omega) (Or.inl ⟨rfl, by rw [hz9]; exact WYA_init L.1 hk hc9⟩) _ _ _ (Nat.lt_succ_self _) Y (lv_sub hl [0, 5, 4, 3, 2, 1, 7, 6, 8, 9] rfl)
        exact loop45 (((z - (0:Int)).toNat) + 1) 0 tq2 f (by omega) (by omega) ⟨fun k j q => by rw [htq2, htq1, up2_ne _ _ (by omega), up2_ne _ _ (by omega)], fun _ _ _ => rfl⟩ (Or.inl ⟨rfl, by rw [htq2, htq1, up2_ne _ _ (by omega), up2_s]⟩) (by rw [htq2, up2_s]; rfl) _ _ _ (Nat.lt_succ_self _) Y (lv_sub hl [0, 2, 3, 1] rfl)
      · refine r_iload_n X dX8_findPlan_21 hl 0 rfl ?_
        refine r_iconst X dX8_findPlan_22 ?_
        refine r_imul X dX8_findPlan_23 ?_
        refine r_istore_n X dX8_findPlan_24 hl [(2, .int (iV (z * 3))), (3, .int (iV (i))), (0, .ref (g.1 + 100)), (1, .int (iV (n)))] (by decide) rfl (fun ls hl => ?_)
        refine r_iinc X dX8_findPlan_25 hl 1 rfl [(3, .int (iV (i + 1))), (2, .int (iV (z * 3))), (0, .ref (g.1 + 100)), (1, .int (iV (n)))] (by decide) rfl (fun ls hl => ?_)
        refine r_goto X 16 dX8_findPlan_28 (by decide) ?_
        exact ih16 (i + 1) (z * 3) (by omega) (by omega) (by rw [show (i + 1).toNat = i.toNat + 1 by omega, p3_s, hz]) _ _ _ (by omega) Y (lv_sub hl [1, 0, 2, 3] rfl)
  exact loop16 (((n - (0:Int)).toNat) + 1) 0 1 (by omega) (by omega) rfl _ _ _ (Nat.lt_succ_self _) Y (lv_sub hl [1, 0, 3, 2] rfl)
set_option maxHeartbeats 4000000 in
set_option maxRecDepth 100000 in
theorem ct_X8_plan (l : Launch) (g : uG) (t : uN) (f : uF) (a : uN) (b : uF) (i : Int) (b0 : Int → Int) (L : ML a b t f) (hi : inI i) : cR_i l yX8_plan cX8_plan 5 (some .int) 5 g [.ref (g.1 + 100), .int (iV (i))] t f (fun z t2 f2 => Scr t f t2 f2 ∧ z = plaM a b b0 i ∧ (goneX a = 0 → (plS a b (lbpX a b) b0).2 (-1) = a 14 3 - a 18 3)) := by
  refine eR_i (by decide +kernel) (Nat.le_of_ble_eq_true rfl) ?_
  intro p e R s m args below meth c Q ls H locs X Y hl ret
  have X : uX p 5 R s m args c cX8_plan 5 RX8 := X
  have hl : lv_has ls 5 [(0, .ref (g.1 + 100)), (1, .int (iV (i)))] := hl
  have hb := L.1.b
  obtain ⟨p0, p1, p2, p3, p4⟩ := L.p
  obtain ⟨v3, v4, v5, v6, v10⟩ := L.v
  have hk := L.2.1.2.1
  have hns := L.2.2.1
  obtain ⟨n, hn⟩ : ∃ q0, q0 = a 14 3 - a 18 3 := ⟨_, rfl⟩
  refine r_aload_n X dX8_plan_0 hl 0 rfl ?_
  refine vF_i X Y [] [] (ct_X8_isGone l g t f a b L) mk_X8_isGone mi_X8_isGone wm_1020 (by decide) (rv_8 Y rfl) rfl hl (Nat.le_of_ble_eq_true rfl) rfl dX8_plan_1 (Nat.zero_le _) (Nat.zero_le _) (fun H locs Y => ?_)
  have qg1 := goneX_b hb.1.2.2.2
  refine r_if_eq X (tgt := 10) dX8_plan_4 (by decide) ⟨by omega, by omega⟩ (fun c4 => ?_) (fun c4 => ?_)
  · refine r_aload_n X dX8_plan_10 hl 0 rfl ?_
    refine vR_v X Y [] [] (ct_X8_findPlan l g t f a b b0 L) mk_X8_findPlan mi_X8_findPlan wm_1063 (by decide) (rv_8 Y rfl) rfl hl (Nat.le_of_ble_eq_true rfl) rfl dX8_plan_11 (Nat.zero_le _) (Nat.zero_le _) (fun tq1 fq1 H locs hq1 Y => ?_)
    obtain ⟨hS, hrr, hmm⟩ := hq1
    obtain ⟨ha1, ha2, ha3, ha4⟩ := RELC_all L.1 hrr
    have L1 := L.scr hS
    have p1b := L1.p
    have v1b := L1.v
    obtain ⟨pb, hpb⟩ : ∃ q0, q0 = tq1 100 29 := ⟨_, rfl⟩
    rw [← hpb] at ha2 ha4
    refine r_aload_n X dX8_plan_14 hl 0 rfl ?_
    refine g_8_6 (k := 100) X Y rfl wm_743 dX8_plan_15 ?_
    refine r_aload_n X dX8_plan_18 hl 0 rfl ?_
    refine g_8_0 (k := 100) X Y rfl wm_737 dX8_plan_19 ?_
    refine r_iconst X dX8_plan_22 ?_
    refine g_ild (k := 101) X Y rfl (by omega) (by have q : ((al 101 : Nat) : Int) = 1008 := rfl; omega) dX8_plan_23 ?_
    refine r_isub X dX8_plan_24 ?_
    refine r_eq (z' := n) (by omega) ?_
    refine r_istore_n X dX8_plan_25 hl [(2, .int (iV (n))), (0, .ref (g.1 + 100)), (1, .int (iV (i)))] (by decide) rfl (fun ls hl => ?_)
    refine r_iload_n X dX8_plan_26 hl 2 rfl ?_
    refine r_iconst X dX8_plan_27 ?_
    refine r_icmp_ne X (tgt := 37) dX8_plan_28 (by decide) ⟨by omega, by omega⟩ ⟨by omega, by omega⟩ (fun c28 => ?_) (fun c28 => ?_)
    · refine r_iload_n X dX8_plan_37 hl 2 rfl ?_
      refine r_i2l X dX8_plan_38 ⟨by omega, by omega⟩ ?_
      refine r_lconst X 0 dX8_plan_39 (by decide) ?_
      refine r_iload_n X dX8_plan_40 hl 0 rfl ?_
      refine r_iconst X dX8_plan_41 ?_
      refine r_isub X dX8_plan_42 ?_
      refine r_i2l X dX8_plan_43 ⟨by omega, by omega⟩ ?_
      refine sF_i X Y [.long (lV (i)), .long (lV (0)), .long (lV (n - 1))] [] (ct_X8_in l g tq1 fq1 i 0 (n - 1) ⟨by omega, by omega⟩ ⟨by omega, by omega⟩ ⟨by omega, by omega⟩) mk_X8_in mi_X8_in wm_852 (by decide) rfl hl (Nat.le_of_ble_eq_true rfl) rfl dX8_plan_44 (Nat.zero_le _) (Nat.zero_le _) (fun H locs Y => ?_)
      have qi44 := inX_b i 0 (n - 1)
      refine r_if_ne X (tgt := 52) dX8_plan_47 (by decide) ⟨by omega, by omega⟩ (fun c47 => ?_) (fun c47 => ?_)
      · refine r_aload_n X dX8_plan_52 hl 1 rfl ?_
        refine g_8_29 (k := 100) X Y rfl wm_766 dX8_plan_53 ?_
        refine r_eq (z' := pb) hpb.symm ?_
        refine r_istore_n X dX8_plan_56 hl [(3, .int (iV (pb))), (2, .int (iV (n))), (0, .ref (g.1 + 100)), (1, .int (iV (i)))] (by decide) rfl (fun ls hl => ?_)
        refine r_iload_n X dX8_plan_57 hl 1 rfl ?_
        refine r_iconst X dX8_plan_58 ?_
        refine r_isub X dX8_plan_59 ?_
        refine r_istore X dX8_plan_60 hl [(4, .int (iV (n - 1))), (3, .int (iV (pb))), (2, .int (iV (n))), (0, .ref (g.1 + 100)), (1, .int (iV (i)))] (by decide) rfl (fun ls hl => ?_)
        have loop62 : ∀ (N : Nat) (k : Int) (z : Int) (hk0 : i ≤ k) (hk1 : k ≤ n - 1) (hz : z = dv3 pb.toNat (n - 1 - k).toNat) (H : Heap) (locs : List Loc) (ls : Array Slot), (k - i).toNat < N → uY g 117 (cX g tq1 fq1) s H locs → lv_has ls 5 [(4, .int (iV (k))), (3, .int (iV (z))), (0, .ref (g.1 + 100)), (1, .int (iV (i)))] → W p l e R s m args below meth c H locs 0 0 Q (F0 m 62 ls []) := by
          intro N
          induction N with
          | zero => intro k z hk0 hk1 hz H locs ls hmu Y hl; exact absurd hmu (Nat.not_lt_zero _)
          | succ N ih62 =>
            intro k z hk0 hk1 hz H locs ls hmu Y hl
            have hzr := dv3_rng pb.toNat (n - 1 - k).toNat
            rw [← hz] at hzr
            refine r_iload X dX8_plan_62 hl 0 rfl ?_
            refine r_iload_n X dX8_plan_64 hl 3 rfl ?_
            refine r_icmp_le X (tgt := 78) dX8_plan_65 (by decide) ⟨by omega, by omega⟩ ⟨by omega, by omega⟩ (fun c65 => ?_) (fun c65 => ?_)
            · refine r_iload_n X dX8_plan_78 hl 1 rfl ?_
              refine r_iconst X dX8_plan_79 ?_
              refine r_irem X dX8_plan_80 ⟨by omega, by omega⟩ ⟨by omega, by omega⟩ (by omega) ?_
              exact ret _ _ _ _ _ _ _ dX8_plan_81 Y ⟨hS, by unfold plaM; rw [if_pos (by omega), if_neg (by omega), if_pos (by omega), hz, dv3_m, ha4 i (by omega) (by omega), show k = i by omega, hn, show a 14 3 - a 18 3 - 1 - i = n - 1 - i by omega, hn], fun _ => ha3⟩
            · refine r_iload_n X dX8_plan_68 hl 1 rfl ?_
              refine r_iconst X dX8_plan_69 ?_
              refine r_idiv X dX8_plan_70 ⟨by omega, by omega⟩ ⟨by omega, by omega⟩ (by omega) ?_
              refine r_istore_n X dX8_plan_71 hl [(3, .int (iV (z.tdiv 3))), (4, .int (iV (k))), (0, .ref (g.1 + 100)), (1, .int (iV (i)))] (by decide) rfl (fun ls hl => ?_)
              refine r_iinc X dX8_plan_72 hl 1 rfl [(4, .int (iV (k + (-1)))), (3, .int (iV (z.tdiv 3))), (0, .ref (g.1 + 100)), (1, .int (iV (i)))] (by decide) rfl (fun ls hl => ?_)
              refine r_goto X 62 dX8_plan_75 (by decide) ?_
              exact ih62 (k + (-1)) (z.tdiv 3) (by omega) (by omega) (by rw [hz, dv3_s, show (n - 1 - k).toNat + 1 = (n - 1 - (k + -1)).toNat by omega]) _ _ _ (by omega) Y (lv_sub hl [0, 1, 2, 3] rfl)
        exact loop62 (((n - 1 - i).toNat) + 1) (n - 1) pb (by omega) (by omega) (by rw [show (n - 1 - (n - 1)).toNat = 0 by omega]; unfold dv3; rw [Nat.pow_zero, Nat.div_one]; omega) _ _ _ (Nat.lt_succ_self _) Y (lv_sub hl [0, 1, 3, 4] rfl)
      · refine r_iconst X dX8_plan_50 ?_
        exact ret _ _ _ _ _ _ _ dX8_plan_51 Y ⟨hS, by unfold plaM; rw [if_pos (by omega), if_neg (by omega), if_neg (by omega)], fun _ => ha3⟩
    · refine r_aload_n X dX8_plan_31 hl 1 rfl ?_
      refine g_8_30 (k := 100) X Y rfl wm_767 dX8_plan_32 ?_
      refine r_eql (z' := (plS a b (lbpX a b) b0).1) hmm ?_
      refine r_l2i X dX8_plan_35 ?_
      exact ret _ _ _ _ _ _ _ dX8_plan_36 Y ⟨hS, by unfold plaM; rw [if_pos (by omega), if_pos (by omega)], fun _ => ha3⟩
  · refine r_ldc X (-1000000003) wm_972 (by decide) dX8_plan_7 ?_
    exact ret _ _ _ _ _ _ _ dX8_plan_9 Y ⟨Scr.rf t f, by unfold plaM; rw [if_neg (by omega)], fun h9 => absurd h9 (by omega)⟩

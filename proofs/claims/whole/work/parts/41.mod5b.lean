/-! the model's numbers by contract -/
set_option maxHeartbeats 4000000 in
set_option maxRecDepth 100000 in
theorem ct_X8_takesNumber (l : Launch) (g : uG) (t : uN) (f : uF) (x : Int → Int) (n : Int) (lo hi b : Int) (HT : TM x n t f) (hlo : leastT b.toNat = lo) (hhi : greatT b.toNat = hi) : cR_i l yX8_takesNumber cX8_takesNumber 3 (some .boolean) 3 g [.ref (g.1 + 100), .int (iV (lo)), .int (iV (hi))] t f (TNQ x b t f) := by
  refine eR_z (by decide +kernel) (Nat.le_of_ble_eq_true rfl) ?_
  intro p e R s m args below meth c Q ls H locs X Y hl ret
  have X : uX p 3 R s m args c cX8_takesNumber 3 RX8 := X
  have hl : lv_has ls 3 [(0, .ref (g.1 + 100)), (1, .int (iV (lo))), (2, .int (iV (hi)))] := hl
  have hx := HT.1
  have hn := hx.1
  have h14 := HT.2.1
  have h8 := HT.2.2.1
  have hat := HT.2.2.2
  have hlr := leastT_rng b.toNat
  have hhr := greatT_rng b.toNat
  refine r_aload_n X dX8_takesNumber_0 hl 0 rfl ?_
  refine vF_i X Y [] [] (ct_X8_here l g t f x n HT) mk_X8_here mi_X8_here wm_861 (by decide) (rv_8 Y rfl) rfl hl (Nat.le_of_ble_eq_true rfl) rfl dX8_takesNumber_1 (Nat.zero_le _) (Nat.zero_le _) (fun H locs Y => ?_)
  obtain ⟨tq1, htq1⟩ : ∃ q, q = up2 (up2 t 100 15 (sk x (t 100 15))) 100 16 (sk x (t 100 15)) := ⟨_, rfl⟩
  have Y : uY g 117 (cX g tq1 f) s H locs := by rw [htq1]; exact Y
  obtain ⟨qq, hq⟩ : ∃ q0, q0 = sk x (t 100 15) := ⟨_, rfl⟩
  rw [← hq] at htq1
  refine r_eq (z' := ltA x n qq) (by rw [hq]) ?_
  have hqr := sk_rng hx hat.1 hat.2
  have hqe := sk_end hx hat.1 hat.2
  rw [← hq] at hqr hqe
  have qa := ltA_b hx qq
  have g16 : tq1 100 16 = qq := by rw [htq1, up2_s]
  have g15 : tq1 100 15 = qq := by rw [htq1, up2_ne _ _ (by omega), up2_s]
  have gfr : RDf t tq1 := by rw [htq1]; exact ((RDf.rf t).up _ (Or.inl rfl)).up _ (Or.inr (Or.inl rfl))
  have g18 : tq1 100 18 = t 100 18 := by rw [htq1, up2_ne _ _ (by omega), up2_ne _ _ (by omega)]
  have g19 : tq1 100 19 = t 100 19 := by rw [htq1, up2_ne _ _ (by omega), up2_ne _ _ (by omega)]
  refine r_i2l X dX8_takesNumber_4 ⟨by omega, by omega⟩ ?_
  refine r_ldc2 X 48 wm_885 (by decide) dX8_takesNumber_5 ?_
  refine r_ldc2 X 57 wm_886 (by decide) dX8_takesNumber_8 ?_
  refine sF_i X Y [.long (lV (ltA x n qq)), .long (lV (48)), .long (lV (57))] [] (ct_X8_in l g tq1 f (ltA x n qq) 48 57 ⟨by omega, by omega⟩ ⟨by omega, by omega⟩ ⟨by omega, by omega⟩) mk_X8_in mi_X8_in wm_852 (by decide) rfl hl (Nat.le_of_ble_eq_true rfl) rfl dX8_takesNumber_11 (Nat.zero_le _) (Nat.zero_le _) (fun H locs Y => ?_)
  have qi11 := inX_b (ltA x n qq) 48 57
  refine r_if_ne X (tgt := 27) dX8_takesNumber_14 (by decide) ⟨by omega, by omega⟩ (fun c14 => ?_) (fun c14 => ?_)
  · have hdq : 48 ≤ x qq ∧ x qq ≤ 57 ∧ qq < n := by omega
    clear qa qi11 c14
    refine r_aload_n X dX8_takesNumber_27 hl 0 rfl ?_
    refine r_iconst X dX8_takesNumber_28 ?_
    refine p_8_17 (k := 100) X Y rfl wm_754 dX8_takesNumber_29 (fun H locs Y => ?_)
    obtain ⟨tq2, htq2⟩ : ∃ q, q = up2 tq1 100 17 (0) := ⟨_, rfl⟩
    have Y : uY g 117 (cX g tq2 f) s H locs := by rw [htq2]; exact Y
    have loop32 : ∀ (N : Nat) (v : Int) (nu : Int) (va : Int) (tz : uN) (hv0 : qq ≤ v) (hv1 : v ≤ n) (hd : dg x (220 - (v - qq)).toNat v va = dg x 220 qq 0) (hb : NB qq v va nu) (hz15 : tz 100 15 = v) (hz17 : tz 100 17 = nu) (hzf : ∀ k j, ¬ (k = 100 ∧ (j = 15 ∨ j = 17)) → tz k j = tq1 k j) (H : Heap) (locs : List Loc) (ls : Array Slot), (n - v).toNat < N → uY g 117 (cX g tz f) s H locs → lv_has ls 3 [(0, .ref (g.1 + 100)), (1, .int (iV (lo))), (2, .int (iV (hi)))] → W p l e R s m args below meth c H locs 0 0 Q (F0 m 32 ls []) := by
      intro N
      induction N with
      | zero => intro v nu va tz hv0 hv1 hd hb hz15 hz17 hzf H locs ls hmu Y hl; exact absurd hmu (Nat.not_lt_zero _)
      | succ N ih32 =>
        intro v nu va tz hv0 hv1 hd hb hz15 hz17 hzf H locs ls hmu Y hl
        have hnr := NB_r hb
        have HT1 : TM x n tz f := HT.of (by rw [hzf 100 14 (by omega)]; exact gfr 100 14 (by unfold rdj; omega)) (by omega) (fun _ => rfl)
        have hz16 : tz 100 16 = qq := by rw [hzf 100 16 (by omega)]; exact g16
        refine r_aload_n X dX8_takesNumber_32 hl 0 rfl ?_
        refine r_aload_n X dX8_takesNumber_33 hl 0 rfl ?_
        refine g_8_15 (k := 100) X Y rfl wm_752 dX8_takesNumber_34 ?_
        refine r_eq (z' := v) hz15 ?_
        refine vF_i X Y [.int (iV (v))] [] (ct_X8_letterAt l g tz f x n v HT1 (by omega) (by omega)) mk_X8_letterAt mi_X8_letterAt wm_865 (by decide) (rv_8 Y rfl) rfl hl (Nat.le_of_ble_eq_true rfl) rfl dX8_takesNumber_37 (Nat.zero_le _) (Nat.zero_le _) (fun H locs Y => ?_)
        have qa37 := ltA_b hx v
        refine r_i2l X dX8_takesNumber_40 ⟨by omega, by omega⟩ ?_
        refine r_ldc2 X 48 wm_885 (by decide) dX8_takesNumber_41 ?_
        refine r_ldc2 X 57 wm_886 (by decide) dX8_takesNumber_44 ?_
        refine sF_i X Y [.long (lV (ltA x n v)), .long (lV (48)), .long (lV (57))] [] (ct_X8_in l g tz f (ltA x n v) 48 57 ⟨by omega, by omega⟩ ⟨by omega, by omega⟩ ⟨by omega, by omega⟩) mk_X8_in mi_X8_in wm_852 (by decide) rfl hl (Nat.le_of_ble_eq_true rfl) rfl dX8_takesNumber_47 (Nat.zero_le _) (Nat.zero_le _) (fun H locs Y => ?_)
        have qi47 := inX_b (ltA x n v) 48 57
        refine r_if_eq X (tgt := 109) dX8_takesNumber_50 (by decide) ⟨by omega, by omega⟩ (fun c50 => ?_) (fun c50 => ?_)
        · have hnd : ¬ (48 ≤ x v ∧ x v ≤ 57) := by omega
          clear qa37 qi47 c50
          have hvq : qq + 1 ≤ v := by rcases (show v = qq ∨ qq + 1 ≤ v by omega) with h9 | h9; (rw [h9] at hnd; omega); exact h9
          have hbe := NB_e hb
          rw [dg_stop hnd] at hd
          have hE : dE x qq = v := by unfold dE; rw [← hd]
          have hV : dV x qq = va := by unfold dV; rw [← hd]
          refine r_aload_n X dX8_takesNumber_109 hl 0 rfl ?_
          refine g_8_15 (k := 100) X Y rfl wm_752 dX8_takesNumber_110 ?_
          refine r_eq (z' := v) hz15 ?_
          refine r_aload_n X dX8_takesNumber_113 hl 0 rfl ?_
          refine g_8_16 (k := 100) X Y rfl wm_753 dX8_takesNumber_114 ?_
          refine r_eq (z' := qq) hz16 ?_
          refine r_isub X dX8_takesNumber_117 ?_
          refine r_iconst X dX8_takesNumber_118 ?_
          refine r_icmp_ge X (tgt := 137) dX8_takesNumber_119 (by decide) ⟨by omega, by omega⟩ ⟨by omega, by omega⟩ (fun c119 => ?_) (fun c119 => ?_)
          · refine r_aload_n X dX8_takesNumber_137 hl 0 rfl ?_
            refine r_iconst X dX8_takesNumber_138 ?_
            refine r_aload_n X dX8_takesNumber_139 hl 0 rfl ?_
            refine g_8_16 (k := 100) X Y rfl wm_753 dX8_takesNumber_140 ?_
            refine r_eq (z' := qq) hz16 ?_
            refine vF_i X Y [.int (iV (2)), .int (iV (qq))] [] (ct_X8_fails l g tz f 2 qq ⟨by omega, by omega⟩ ⟨by omega, by omega⟩) mk_X8_fails mi_X8_fails wm_873 (by decide) (rv_8 Y rfl) rfl hl (Nat.le_of_ble_eq_true rfl) rfl dX8_takesNumber_143 (Nat.zero_le _) (Nat.zero_le _) (fun H locs Y => ?_)
            obtain ⟨tq3, htq3⟩ : ∃ q, q = up2 (up2 tz 100 18 2) 100 19 qq := ⟨_, rfl⟩
            have Y : uY g 117 (cX g tq3 f) s H locs := by rw [htq3]; exact Y
            refine r_if_eq X (tgt := 153) dX8_takesNumber_146 (by decide) ⟨by omega, by omega⟩ (fun c146 => ?_) (fun c146 => ?_)
            · refine r_iconst X dX8_takesNumber_153 ?_
              exact ret _ _ _ _ _ _ _ dX8_takesNumber_154 Y (by first | exact Or.inl rfl | exact Or.inr rfl | omega) (by have hK : numK x b qq = 2 := (by unfold numK; rw [if_neg (by omega), if_neg (by omega)]); exact ⟨rfl, by rw [htq3]; exact (RDf.up (RDf.up (fun k j hkj => by rw [hzf k j (by unfold rdj at hkj; omega)]; exact gfr k j hkj) _ (Or.inr (Or.inr (Or.inr (Or.inl rfl))))) _ (Or.inr (Or.inr (Or.inr (Or.inr rfl))))), Or.inr ⟨by rw [← hq]; omega, rfl, by rw [htq3, up2_ne _ _ (by omega), up2_s, ← hq, hK], by rw [htq3, up2_s, hq]⟩⟩)
            · exact absurd c146 (by omega)
          · refine r_aload_n X dX8_takesNumber_122 hl 0 rfl ?_
            refine g_8_17 (k := 100) X Y rfl wm_754 dX8_takesNumber_123 ?_
            refine r_eq (z' := nu) hz17 ?_
            refine r_i2l X dX8_takesNumber_126 ⟨by omega, by omega⟩ ?_
            refine r_iload_n X dX8_takesNumber_127 hl 1 rfl ?_
            refine r_i2l X dX8_takesNumber_128 ⟨by omega, by omega⟩ ?_
            refine r_iload_n X dX8_takesNumber_129 hl 2 rfl ?_
            refine r_i2l X dX8_takesNumber_130 ⟨by omega, by omega⟩ ?_
            refine sF_i X Y [.long (lV (nu)), .long (lV (lo)), .long (lV (hi))] [] (ct_X8_in l g tz f nu lo hi ⟨by omega, by omega⟩ ⟨by omega, by omega⟩ ⟨by omega, by omega⟩) mk_X8_in mi_X8_in wm_852 (by decide) rfl hl (Nat.le_of_ble_eq_true rfl) rfl dX8_takesNumber_131 (Nat.zero_le _) (Nat.zero_le _) (fun H locs Y => ?_)
            have qi131 := inX_b nu lo hi
            refine r_if_ne X (tgt := 149) dX8_takesNumber_134 (by decide) ⟨by omega, by omega⟩ (fun c134 => ?_) (fun c134 => ?_)
            · refine r_iconst X dX8_takesNumber_149 ?_
              refine r_goto X 154 dX8_takesNumber_150 (by decide) ?_
              exact ret _ _ _ _ _ _ _ dX8_takesNumber_154 Y (by first | exact Or.inl rfl | exact Or.inr rfl | omega) (by have hK : numK x b qq = 0 := (by unfold numK; rw [if_neg (by omega), if_pos (by omega)]); exact ⟨rfl, (fun k j hkj => by rw [hzf k j (by unfold rdj at hkj; omega)]; exact gfr k j hkj), Or.inl ⟨by rw [← hq]; exact hK, rfl, by rw [← hq]; omega, by rw [← hq]; omega, by rw [hzf 100 18 (by omega)]; exact g18, by rw [hzf 100 19 (by omega)]; exact g19⟩⟩)
            · refine r_aload_n X dX8_takesNumber_137 hl 0 rfl ?_
              refine r_iconst X dX8_takesNumber_138 ?_
              refine r_aload_n X dX8_takesNumber_139 hl 0 rfl ?_
              refine g_8_16 (k := 100) X Y rfl wm_753 dX8_takesNumber_140 ?_
              refine r_eq (z' := qq) hz16 ?_
              refine vF_i X Y [.int (iV (2)), .int (iV (qq))] [] (ct_X8_fails l g tz f 2 qq ⟨by omega, by omega⟩ ⟨by omega, by omega⟩) mk_X8_fails mi_X8_fails wm_873 (by decide) (rv_8 Y rfl) rfl hl (Nat.le_of_ble_eq_true rfl) rfl dX8_takesNumber_143 (Nat.zero_le _) (Nat.zero_le _) (fun H locs Y => ?_)
              obtain ⟨tq3, htq3⟩ : ∃ q, q = up2 (up2 tz 100 18 2) 100 19 qq := ⟨_, rfl⟩
              have Y : uY g 117 (cX g tq3 f) s H locs := by rw [htq3]; exact Y
              refine r_if_eq X (tgt := 153) dX8_takesNumber_146 (by decide) ⟨by omega, by omega⟩ (fun c146 => ?_) (fun c146 => ?_)
              · refine r_iconst X dX8_takesNumber_153 ?_
                exact ret _ _ _ _ _ _ _ dX8_takesNumber_154 Y (by first | exact Or.inl rfl | exact Or.inr rfl | omega) (by have hK : numK x b qq = 2 := (by unfold numK; rw [if_neg (by omega), if_neg (by omega)]); exact ⟨rfl, by rw [htq3]; exact (RDf.up (RDf.up (fun k j hkj => by rw [hzf k j (by unfold rdj at hkj; omega)]; exact gfr k j hkj) _ (Or.inr (Or.inr (Or.inr (Or.inl rfl))))) _ (Or.inr (Or.inr (Or.inr (Or.inr rfl))))), Or.inr ⟨by rw [← hq]; omega, rfl, by rw [htq3, up2_ne _ _ (by omega), up2_s, ← hq, hK], by rw [htq3, up2_s, hq]⟩⟩)
              · exact absurd c146 (by omega)
        · have hdv : (48 ≤ x v ∧ x v ≤ 57) ∧ v < n ∧ ltA x n v = x v := by omega
          clear qa37 qi47 c50
          refine r_aload_n X dX8_takesNumber_53 hl 0 rfl ?_
          refine r_aload_n X dX8_takesNumber_54 hl 0 rfl ?_
          refine g_8_15 (k := 100) X Y rfl wm_752 dX8_takesNumber_55 ?_
          refine r_eq (z' := v) hz15 ?_
          refine r_aload_n X dX8_takesNumber_58 hl 0 rfl ?_
          refine g_8_16 (k := 100) X Y rfl wm_753 dX8_takesNumber_59 ?_
          refine r_eq (z' := qq) hz16 ?_
          refine r_isub X dX8_takesNumber_62 ?_
          refine r_iconst X dX8_takesNumber_63 ?_
          refine r_icmp_ge X (tgt := 89) dX8_takesNumber_64 (by decide) ⟨by omega, by omega⟩ ⟨by omega, by omega⟩ (fun c64 => ?_) (fun c64 => ?_)
          · refine r_aload_n X dX8_takesNumber_89 hl 0 rfl ?_
            refine g_8_17 (k := 100) X Y rfl wm_754 dX8_takesNumber_90 ?_
            refine r_eq (z' := nu) hz17 ?_
            refine p_8_17 (k := 100) X Y rfl wm_754 dX8_takesNumber_93 (fun H locs Y => ?_)
            obtain ⟨tq3, htq3⟩ : ∃ q, q = up2 tz 100 17 (nu) := ⟨_, rfl⟩
            have Y : uY g 117 (cX g tq3 f) s H locs := by rw [htq3]; exact Y
            refine r_aload_n X dX8_takesNumber_96 hl 0 rfl ?_
            refine r_dup X dX8_takesNumber_97 rfl ?_
            refine g_8_15 (k := 100) X Y rfl wm_752 dX8_takesNumber_98 ?_
            refine r_eq (z' := v) (by rw [htq3, up2_ne _ _ (by omega)]; exact hz15) ?_
            refine r_iconst X dX8_takesNumber_101 ?_
            refine r_iadd X dX8_takesNumber_102 ?_
            refine p_8_15 (k := 100) X Y rfl wm_752 dX8_takesNumber_103 (fun H locs Y => ?_)
            obtain ⟨tq4, htq4⟩ : ∃ q, q = up2 tq3 100 15 (v + 1) := ⟨_, rfl⟩
            have Y : uY g 117 (cX g tq4 f) s H locs := by rw [htq4]; exact Y
            refine r_goto X 32 dX8_takesNumber_106 (by decide) ?_
            exact ih32 (v + 1) nu (min va 999 * 10 + x v - 48) tq4 (by omega) (by omega) (by rw [← hd, show (220 - (v - qq)).toNat = (220 - (v + 1 - qq)).toNat + 1 by omega, dg, if_pos hdv.1]) (NB_k hb _ (by omega)) (by rw [htq4, up2_s]) (by rw [htq4, up2_ne _ _ (by omega), htq3, up2_s]) (fun k j hkj => by rw [htq4, up2_ne _ _ (by omega), htq3, up2_ne _ _ (by omega)]; exact hzf k j hkj) _ _ _ (by omega) Y (lv_sub hl [0, 1, 2] rfl)
          · refine r_bipush X 10 dX8_takesNumber_67 (by decide) ?_
            refine r_aload_n X dX8_takesNumber_69 hl 0 rfl ?_
            refine g_8_17 (k := 100) X Y rfl wm_754 dX8_takesNumber_70 ?_
            refine r_eq (z' := nu) hz17 ?_
            refine r_imul X dX8_takesNumber_73 ?_
            refine r_aload_n X dX8_takesNumber_74 hl 0 rfl ?_
            refine r_aload_n X dX8_takesNumber_75 hl 0 rfl ?_
            refine g_8_15 (k := 100) X Y rfl wm_752 dX8_takesNumber_76 ?_
            refine r_eq (z' := v) hz15 ?_
            refine vF_i X Y [.int (iV (v))] [.int (iV (10 * nu)), .ref (g.1 + 100)] (ct_X8_letterAt l g tz f x n v HT1 (by omega) (by omega)) mk_X8_letterAt mi_X8_letterAt wm_865 (by decide) (rv_8 Y rfl) rfl hl (Nat.le_of_ble_eq_true rfl) rfl dX8_takesNumber_79 (Nat.zero_le _) (Nat.zero_le _) (fun H locs Y => ?_)
            have qa79 := ltA_b hx v
            clear qa79
            refine r_iadd X dX8_takesNumber_82 ?_
            refine r_bipush X 48 dX8_takesNumber_83 (by decide) ?_
            refine r_isub X dX8_takesNumber_85 ?_
            refine r_goto X 93 dX8_takesNumber_86 (by decide) ?_
            refine r_eq (z' := 10 * nu + ltA x n v - 48) (by omega) ?_
            refine p_8_17 (k := 100) X Y rfl wm_754 dX8_takesNumber_93 (fun H locs Y => ?_)
            obtain ⟨tq3, htq3⟩ : ∃ q, q = up2 tz 100 17 (10 * nu + ltA x n v - 48) := ⟨_, rfl⟩
            have Y : uY g 117 (cX g tq3 f) s H locs := by rw [htq3]; exact Y
            refine r_aload_n X dX8_takesNumber_96 hl 0 rfl ?_
            refine r_dup X dX8_takesNumber_97 rfl ?_
            refine g_8_15 (k := 100) X Y rfl wm_752 dX8_takesNumber_98 ?_
            refine r_eq (z' := v) (by rw [htq3, up2_ne _ _ (by omega)]; exact hz15) ?_
            refine r_iconst X dX8_takesNumber_101 ?_
            refine r_iadd X dX8_takesNumber_102 ?_
            refine p_8_15 (k := 100) X Y rfl wm_752 dX8_takesNumber_103 (fun H locs Y => ?_)
            obtain ⟨tq4, htq4⟩ : ∃ q, q = up2 tq3 100 15 (v + 1) := ⟨_, rfl⟩
            have Y : uY g 117 (cX g tq4 f) s H locs := by rw [htq4]; exact Y
            refine r_goto X 32 dX8_takesNumber_106 (by decide) ?_
            exact ih32 (v + 1) (10 * nu + ltA x n v - 48) (min va 999 * 10 + x v - 48) tq4 (by omega) (by omega) (by rw [← hd, show (220 - (v - qq)).toNat = (220 - (v + 1 - qq)).toNat + 1 by omega, dg, if_pos hdv.1]) (by rw [hdv.2.2]; exact NB_s hb hdv.1.1 hdv.1.2 (by omega)) (by rw [htq4, up2_s]) (by rw [htq4, up2_ne _ _ (by omega), htq3, up2_s]) (fun k j hkj => by rw [htq4, up2_ne _ _ (by omega), htq3, up2_ne _ _ (by omega)]; exact hzf k j hkj) _ _ _ (by omega) Y (lv_sub hl [0, 1, 2] rfl)
    exact loop32 (((n - qq).toNat) + 1) qq 0 0 tq2 (by omega) (by omega) (by rw [show (220 - (qq - qq)).toNat = 220 by omega]) (NB_i qq) (by rw [htq2, up2_ne _ _ (by omega)]; exact g15) (by rw [htq2, up2_s]) (fun k j hkj => by rw [htq2, up2_ne _ _ (by omega)]) _ _ _ (Nat.lt_succ_self _) Y (lv_sub hl [0, 1, 2] rfl)
  · refine r_aload_n X dX8_takesNumber_17 hl 0 rfl ?_
    refine r_iconst X dX8_takesNumber_18 ?_
    refine r_aload_n X dX8_takesNumber_19 hl 0 rfl ?_
    refine g_8_16 (k := 100) X Y rfl wm_753 dX8_takesNumber_20 ?_
    refine r_eq (z' := qq) g16 ?_
    refine vF_i X Y [.int (iV (1)), .int (iV (qq))] [] (ct_X8_fails l g tq1 f 1 qq ⟨by omega, by omega⟩ ⟨by omega, by omega⟩) mk_X8_fails mi_X8_fails wm_873 (by decide) (rv_8 Y rfl) rfl hl (Nat.le_of_ble_eq_true rfl) rfl dX8_takesNumber_23 (Nat.zero_le _) (Nat.zero_le _) (fun H locs Y => ?_)
    obtain ⟨tq2, htq2⟩ : ∃ q, q = up2 (up2 tq1 100 18 1) 100 19 qq := ⟨_, rfl⟩
    have Y : uY g 117 (cX g tq2 f) s H locs := by rw [htq2]; exact Y
    exact ret _ _ _ _ _ _ _ dX8_takesNumber_26 Y (by first | exact Or.inl rfl | exact Or.inr rfl | omega) ⟨rfl, by rw [htq2]; exact (gfr.up _ (Or.inr (Or.inr (Or.inr (Or.inl rfl))))).up _ (Or.inr (Or.inr (Or.inr (Or.inr rfl)))), Or.inr ⟨by rw [← hq, numK_1 (by omega)]; decide, rfl, by rw [htq2, up2_ne _ _ (by omega), up2_s, ← hq, numK_1 (by omega)], by rw [htq2, up2_s, hq]⟩⟩

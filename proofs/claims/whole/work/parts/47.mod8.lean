/-! the model's voyage by contract -/
set_option maxHeartbeats 4000000 in
set_option maxRecDepth 100000 in
theorem ct_X8_voyage (l : Launch) (g : uG) (t : uN) (f : uF) (x : Int → Int) (n : Int) (hx : txt x n) (h14 : t 100 14 = n) (h8 : ∀ p, 0 ≤ p → p < n → f 108 p = x p) : cR_i l yX8_voyage cX8_voyage 4 (some .int) 6 g [.ref (g.1 + 100)] t f (VM8 x n t f) := by
  refine eR_i (by decide +kernel) (Nat.le_of_ble_eq_true rfl) ?_
  intro p e R s m args below meth c Q ls H locs X Y hl ret
  have X : uX p 6 R s m args c cX8_voyage 4 RX8 := X
  have hl : lv_has ls 4 [(0, .ref (g.1 + 100))] := hl
  have hn := hx.1
  refine r_aload_n X dX8_voyage_0 hl 0 rfl ?_
  refine r_iconst X dX8_voyage_1 ?_
  refine p_8_15 (k := 100) X Y rfl wm_752 dX8_voyage_2 (fun H locs Y => ?_)
  obtain ⟨tq1, htq1⟩ : ∃ q, q = up2 t 100 15 (0) := ⟨_, rfl⟩
  have Y : uY g 117 (cX g tq1 f) s H locs := by rw [htq1]; exact Y
  refine r_aload_n X dX8_voyage_5 hl 0 rfl ?_
  refine r_iconst X dX8_voyage_6 ?_
  refine p_8_18 (k := 100) X Y rfl wm_755 dX8_voyage_7 (fun H locs Y => ?_)
  obtain ⟨tq2, htq2⟩ : ∃ q, q = up2 tq1 100 18 (0) := ⟨_, rfl⟩
  have Y : uY g 117 (cX g tq2 f) s H locs := by rw [htq2]; exact Y
  refine r_aload_n X dX8_voyage_10 hl 0 rfl ?_
  refine r_iconst X dX8_voyage_11 ?_
  refine p_8_19 (k := 100) X Y rfl wm_756 dX8_voyage_12 (fun H locs Y => ?_)
  obtain ⟨tq3, htq3⟩ : ∃ q, q = up2 tq2 100 19 ((-1)) := ⟨_, rfl⟩
  have Y : uY g 117 (cX g tq3 f) s H locs := by rw [htq3]; exact Y
  refine r_aload_n X dX8_voyage_15 hl 0 rfl ?_
  refine r_iconst X dX8_voyage_16 ?_
  refine p_8_20 (k := 100) X Y rfl wm_757 (by first | exact Or.inl rfl | exact Or.inr rfl | omega) dX8_voyage_17 (fun H locs Y => ?_)
  obtain ⟨tq4, htq4⟩ : ∃ q, q = up2 tq3 100 20 (0) := ⟨_, rfl⟩
  have Y : uY g 117 (cX g tq4 f) s H locs := by rw [htq4]; exact Y
  refine r_aload_n X dX8_voyage_20 hl 0 rfl ?_
  refine r_iconst X dX8_voyage_21 ?_
  refine p_8_22 (k := 100) X Y rfl wm_759 dX8_voyage_22 (fun H locs Y => ?_)
  obtain ⟨tq5, htq5⟩ : ∃ q, q = up2 tq4 100 22 (0) := ⟨_, rfl⟩
  have Y : uY g 117 (cX g tq5 f) s H locs := by rw [htq5]; exact Y
  refine r_aload_n X dX8_voyage_25 hl 0 rfl ?_
  refine r_iconst X dX8_voyage_26 ?_
  refine p_8_24 (k := 100) X Y rfl wm_761 dX8_voyage_27 (fun H locs Y => ?_)
  obtain ⟨tq6, htq6⟩ : ∃ q, q = up2 tq5 100 24 (0) := ⟨_, rfl⟩
  have Y : uY g 117 (cX g tq6 f) s H locs := by rw [htq6]; exact Y
  refine r_iconst X dX8_voyage_30 ?_
  refine r_istore_n X dX8_voyage_31 hl [(1, .int (iV (1))), (0, .ref (g.1 + 100))] (by decide) rfl (fun ls hl => ?_)
  have loop32 : ∀ (N : Nat) (y : Int) (tz : uN) (fz : uF) (hyr : y = 0 ∨ y = 1) (hV : VI8 x n t f y tz fz) (H : Heap) (locs : List Loc) (ls : Array Slot), (y * (n + 1 - tz 100 15)).toNat < N → uY g 117 (cX g tz fz) s H locs → lv_has ls 4 [(1, .int (iV (y))), (0, .ref (g.1 + 100))] → W p l e R s m args below meth c H locs 0 0 Q (F0 m 32 ls []) := by
    intro N
    induction N with
    | zero => intro y tz fz hyr hV H locs ls hmu Y hl; exact absurd hmu (Nat.not_lt_zero _)
    | succ N ih32 =>
      intro y tz fz hyr hV H locs ls hmu Y hl
      refine r_iload_n X dX8_voyage_32 hl 0 rfl ?_
      refine r_if_eq X (tgt := 52) dX8_voyage_33 (by decide) ⟨by omega, by omega⟩ (fun c33 => ?_) (fun c33 => ?_)
      · refine r_aload_n X dX8_voyage_52 hl 1 rfl ?_
        refine r_iconst X dX8_voyage_53 ?_
        refine p_8_14 (k := 100) X Y rfl wm_751 dX8_voyage_54 (fun H locs Y => ?_)
        obtain ⟨tq7, htq7⟩ : ∃ q, q = up2 tz 100 14 (0) := ⟨_, rfl⟩
        have Y : uY g 117 (cX g tq7 fz) s H locs := by rw [htq7]; exact Y
        refine r_iload_n X dX8_voyage_57 hl 0 rfl ?_
        refine r_if_ne X (tgt := 69) dX8_voyage_58 (by decide) ⟨by omega, by omega⟩ (fun c58 => ?_) (fun c58 => ?_)
        · exact absurd c58 (by omega)
        · refine r_bipush X (-10) dX8_voyage_61 (by decide) ?_
          refine r_aload_n X dX8_voyage_63 hl 1 rfl ?_
          refine g_8_18 (k := 100) X Y rfl wm_755 dX8_voyage_64 ?_
          refine r_eq (z' := tz 100 18) (by rw [htq7, up2_ne _ _ (by omega)]) ?_
          refine r_isub X dX8_voyage_67 ?_
          exact ret _ _ _ _ _ _ _ dX8_voyage_68 Y (VM8_bad hV (by omega) htq7)
      · have hy1 : y = 1 := by omega
        have hV1 : VI8 x n t f 1 tz fz := hy1 ▸ hV
        have HT1 : TM x n tz fz := hV1.tm ⟨hx, h14, h8⟩
        have hat := HT1.2.2.2
        have hct := hV1.cnt
        refine r_aload_n X dX8_voyage_36 hl 1 rfl ?_
        refine vF_i X Y [] [] (ct_X8_here l g tz fz x n HT1) mk_X8_here mi_X8_here wm_861 (by decide) (rv_8 Y rfl) rfl hl (Nat.le_of_ble_eq_true rfl) rfl dX8_voyage_37 (Nat.zero_le _) (Nat.zero_le _) (fun H locs Y => ?_)
        obtain ⟨tq7, htq7⟩ : ∃ q, q = up2 (up2 tz 100 15 (sk x (tz 100 15))) 100 16 (sk x (tz 100 15)) := ⟨_, rfl⟩
        have Y : uY g 117 (cX g tq7 fz) s H locs := by rw [htq7]; exact Y
        obtain ⟨pp, hpp⟩ : ∃ q0, q0 = sk x (tz 100 15) := ⟨_, rfl⟩
        rw [← hpp] at htq7
        refine r_eq (z' := ltA x n pp) (by rw [hpp]) ?_
        have hpr := sk_rng hx hat.1 hat.2
        have hpe := sk_end hx hat.1 hat.2
        rw [← hpp] at hpr hpe
        have qa := ltA_b hx pp
        have g15 : tq7 100 15 = pp := by rw [htq7, up2_ne _ _ (by omega), up2_s]
        have gfr : RDf tz tq7 := by rw [htq7]; exact ((RDf.rf tz).up _ (Or.inl rfl)).up _ (Or.inr (Or.inl rfl))
        have g20 : tq7 100 20 = tz 100 20 := gfr 100 20 (by unfold rdj; omega)
        have g22 : tq7 100 22 = tz 100 22 := gfr 100 22 (by unfold rdj; omega)
        have g24 : tq7 100 24 = tz 100 24 := gfr 100 24 (by unfold rdj; omega)
        have g19 : tq7 100 19 = -1 := by rw [htq7, up2_ne _ _ (by omega), up2_ne _ _ (by omega)]; exact hV1.one.2.2.1
        refine r_iconst X dX8_voyage_40 ?_
        refine r_icmp_eq X (tgt := 52) dX8_voyage_41 (by decide) ⟨by omega, by omega⟩ ⟨by omega, by omega⟩ (fun c41 => ?_) (fun c41 => ?_)
        · refine r_aload_n X dX8_voyage_52 hl 1 rfl ?_
          refine r_iconst X dX8_voyage_53 ?_
          refine p_8_14 (k := 100) X Y rfl wm_751 dX8_voyage_54 (fun H locs Y => ?_)
          obtain ⟨tq8, htq8⟩ : ∃ q, q = up2 tq7 100 14 (0) := ⟨_, rfl⟩
          have Y : uY g 117 (cX g tq8 fz) s H locs := by rw [htq8]; exact Y
          refine r_iload_n X dX8_voyage_57 hl 0 rfl ?_
          refine r_if_ne X (tgt := 69) dX8_voyage_58 (by decide) ⟨by omega, by omega⟩ (fun c58 => ?_) (fun c58 => ?_)
          · have hRC := VI8_end hV1 (by omega)
            obtain ⟨c9, hc9⟩ : ∃ q0, q0 = (paR x n).2.1 := ⟨_, rfl⟩
            obtain ⟨D9, hD9⟩ : ∃ q0, q0 = (paR x n).2.2 := ⟨_, rfl⟩
            rw [← hc9, ← hD9] at hRC
            obtain ⟨hR9, hC9⟩ := hRC
            have b0 : tz 100 20 = c9 0 := (hC9 0 (by omega)).1
            have b1 : tz 100 22 = c9 1 := (hC9 1 (by omega)).1
            have b2 : tz 100 24 = c9 2 := (hC9 2 (by omega)).1
            have hr3 : (0 ≤ c9 0 ∧ c9 0 ≤ 1) ∧ (0 ≤ c9 1 ∧ c9 1 ≤ 7) ∧ (0 ≤ c9 2 ∧ c9 2 ≤ 5) := by omega
            clear qa
            have k20 : tq8 100 20 = c9 0 := by rw [htq8, up2_ne _ _ (by omega)]; omega
            have k22 : tq8 100 22 = c9 1 := by rw [htq8, up2_ne _ _ (by omega)]; omega
            have k24 : tq8 100 24 = c9 2 := by rw [htq8, up2_ne _ _ (by omega)]; omega
            refine r_aload_n X dX8_voyage_69 hl 1 rfl ?_
            refine r_aload_n X dX8_voyage_70 hl 1 rfl ?_
            refine g_8_20 (k := 100) X Y rfl wm_757 dX8_voyage_71 ?_
            refine r_eq (z' := c9 0) k20 ?_
            refine p_8_3 (k := 100) X Y rfl wm_740 (by first | exact Or.inl rfl | exact Or.inr rfl | omega) dX8_voyage_74 (fun H locs Y => ?_)
            obtain ⟨tq9, htq9⟩ : ∃ q, q = up2 tq8 100 3 (c9 0) := ⟨_, rfl⟩
            have Y : uY g 117 (cX g tq9 fz) s H locs := by rw [htq9]; exact Y
            refine r_aload_n X dX8_voyage_77 hl 1 rfl ?_
            refine r_aload_n X dX8_voyage_78 hl 1 rfl ?_
            refine g_8_3 (k := 100) X Y rfl wm_740 dX8_voyage_79 ?_
            refine r_eq (z' := c9 0) (by rw [htq9, up2_s]) ?_
            refine r_if_eq X (tgt := 94) dX8_voyage_82 (by decide) ⟨by omega, by omega⟩ (fun c82 => ?_) (fun c82 => ?_)
            · refine r_iconst X dX8_voyage_94 ?_
              refine p_8_4 (k := 100) X Y rfl wm_741 dX8_voyage_95 (fun H locs Y => ?_)
              obtain ⟨tq10, htq10⟩ : ∃ q, q = up2 tq9 100 4 (0) := ⟨_, rfl⟩
              have Y : uY g 117 (cX g tq10 fz) s H locs := by rw [htq10]; exact Y
              refine r_aload_n X dX8_voyage_98 hl 1 rfl ?_
              refine r_aload_n X dX8_voyage_99 hl 1 rfl ?_
              refine g_8_3 (k := 100) X Y rfl wm_740 dX8_voyage_100 ?_
              refine r_eq (z' := c9 0) (by rw [htq10, up2_ne _ _ (by omega), htq9, up2_s]) ?_
              refine r_if_eq X (tgt := 115) dX8_voyage_103 (by decide) ⟨by omega, by omega⟩ (fun c103 => ?_) (fun c103 => ?_)
              · refine r_iconst X dX8_voyage_115 ?_
                refine p_8_5 (k := 100) X Y rfl wm_742 dX8_voyage_116 (fun H locs Y => ?_)
                obtain ⟨tq11, htq11⟩ : ∃ q, q = up2 tq10 100 5 (0) := ⟨_, rfl⟩
                have Y : uY g 117 (cX g tq11 fz) s H locs := by rw [htq11]; exact Y
                refine r_aload_n X dX8_voyage_119 hl 1 rfl ?_
                refine r_aload_n X dX8_voyage_120 hl 1 rfl ?_
                refine g_8_22 (k := 100) X Y rfl wm_759 dX8_voyage_121 ?_
                refine r_eq (z' := c9 1) (by rw [htq11, up2_ne _ _ (by omega), htq10, up2_ne _ _ (by omega), htq9, up2_ne _ _ (by omega)]; exact k22) ?_
                refine p_8_6 (k := 100) X Y rfl wm_743 dX8_voyage_124 (fun H locs Y => ?_)
                obtain ⟨tq12, htq12⟩ : ∃ q, q = up2 tq11 100 6 (c9 1) := ⟨_, rfl⟩
                have Y : uY g 117 (cX g tq12 fz) s H locs := by rw [htq12]; exact Y
                refine r_aload_n X dX8_voyage_127 hl 1 rfl ?_
                refine r_aload_n X dX8_voyage_128 hl 1 rfl ?_
                refine g_8_24 (k := 100) X Y rfl wm_761 dX8_voyage_129 ?_
                refine r_eq (z' := c9 2) (by rw [htq12, up2_ne _ _ (by omega), htq11, up2_ne _ _ (by omega), htq10, up2_ne _ _ (by omega), htq9, up2_ne _ _ (by omega)]; exact k24) ?_
                refine p_8_10 (k := 100) X Y rfl wm_747 dX8_voyage_132 (fun H locs Y => ?_)
                obtain ⟨tq13, htq13⟩ : ∃ q, q = up2 tq12 100 10 (c9 2) := ⟨_, rfl⟩
                have Y : uY g 117 (cX g tq13 fz) s H locs := by rw [htq13]; exact Y
                refine r_iconst X dX8_voyage_135 ?_
                refine r_istore_n X dX8_voyage_136 hl [(2, .int (iV (0))), (1, .int (iV (y))), (0, .ref (g.1 + 100))] (by decide) rfl (fun ls hl => ?_)
                have loop137 : ∀ (N : Nat) (i : Int) (fl : uF) (hi0 : 0 ≤ i) (hi1 : i ≤ c9 1) (hLG : LGI fz i fl) (H : Heap) (locs : List Loc) (ls : Array Slot), (c9 1 - i).toNat < N → uY g 117 (cX g tq13 fl) s H locs → lv_has ls 4 [(2, .int (iV (i))), (0, .ref (g.1 + 100)), (1, .int (iV (y)))] → W p l e R s m args below meth c H locs 0 0 Q (F0 m 137 ls []) := by
                  intro N
                  induction N with
                  | zero => intro i fl hi0 hi1 hLG H locs ls hmu Y hl; exact absurd hmu (Nat.not_lt_zero _)
                  | succ N ih137 =>
                    intro i fl hi0 hi1 hLG H locs ls hmu Y hl
                    refine r_iload_n X dX8_voyage_137 hl 0 rfl ?_
                    refine r_aload_n X dX8_voyage_138 hl 1 rfl ?_
                    refine g_8_6 (k := 100) X Y rfl wm_743 dX8_voyage_139 ?_
                    refine r_eq (z' := c9 1) (by rw [htq13, up2_ne _ _ (by omega), htq12, up2_s]) ?_
                    refine r_icmp_ge X (tgt := 197) dX8_voyage_142 (by decide) ⟨by omega, by omega⟩ ⟨by omega, by omega⟩ (fun c142 => ?_) (fun c142 => ?_)
                    · refine r_iconst X dX8_voyage_197 ?_
                      refine r_istore_n X dX8_voyage_198 hl [(2, .int (iV (0))), (0, .ref (g.1 + 100)), (1, .int (iV (y)))] (by decide) rfl (fun ls hl => ?_)
                      have loop199 : ∀ (N : Nat) (i2 : Int) (fm : uF) (hj0 : 0 ≤ i2) (hj1 : i2 ≤ c9 2) (hLM : LMI fl i2 fm) (H : Heap) (locs : List Loc) (ls : Array Slot), (c9 2 - i2).toNat < N → uY g 117 (cX g tq13 fm) s H locs → lv_has ls 4 [(2, .int (iV (i2))), (0, .ref (g.1 + 100)), (1, .int (iV (y)))] → W p l e R s m args below meth c H locs 0 0 Q (F0 m 199 ls []) := by
                        intro N
                        induction N with
                        | zero => intro i2 fm hj0 hj1 hLM H locs ls hmu Y hl; exact absurd hmu (Nat.not_lt_zero _)
                        | succ N ih199 =>
                          intro i2 fm hj0 hj1 hLM H locs ls hmu Y hl
                          refine r_iload_n X dX8_voyage_199 hl 0 rfl ?_
                          refine r_aload_n X dX8_voyage_200 hl 1 rfl ?_
                          refine g_8_10 (k := 100) X Y rfl wm_747 dX8_voyage_201 ?_
                          refine r_eq (z' := c9 2) (by rw [htq13, up2_s]) ?_
                          refine r_icmp_ge X (tgt := 243) dX8_voyage_204 (by decide) ⟨by omega, by omega⟩ ⟨by omega, by omega⟩ (fun c204 => ?_) (fun c204 => ?_)
                          · refine r_aload_n X dX8_voyage_243 hl 1 rfl ?_
                            refine g_8_0 (k := 100) X Y rfl wm_737 dX8_voyage_244 ?_
                            refine r_bipush X 41 dX8_voyage_247 (by decide) ?_
                            refine g_ild (k := 101) X Y rfl (by omega) (by have q : ((al 101 : Nat) : Int) = 1008 := rfl; omega) dX8_voyage_249 ?_
                            obtain ⟨sd, hsd⟩ : ∃ q0, q0 = f 101 41 := ⟨_, rfl⟩
                            refine r_eq (z' := sd) (by rw [hLM.1 101 41 (by omega) (by omega), hLG.1 101 41 (by omega) (by omega) (by omega), hV1.2.1 101 41 (by omega), hsd]) ?_
                            refine r_istore_n X dX8_voyage_250 hl [(2, .int (iV (sd))), (0, .ref (g.1 + 100)), (1, .int (iV (y)))] (by decide) rfl (fun ls hl => ?_)
                            refine r_iconst X dX8_voyage_251 ?_
                            refine r_istore_n X dX8_voyage_252 hl [(3, .int (iV (0))), (2, .int (iV (sd))), (0, .ref (g.1 + 100)), (1, .int (iV (y)))] (by decide) rfl (fun ls hl => ?_)
                            have loop253 : ∀ (N : Nat) (i3 : Int) (fw : uF) (hk0 : 0 ≤ i3) (hk1 : i3 ≤ 42) (hLW : LWI fm i3 fw) (H : Heap) (locs : List Loc) (ls : Array Slot), (42 - i3).toNat < N → uY g 117 (cX g tq13 fw) s H locs → lv_has ls 4 [(3, .int (iV (i3))), (2, .int (iV (sd))), (0, .ref (g.1 + 100)), (1, .int (iV (y)))] → W p l e R s m args below meth c H locs 0 0 Q (F0 m 253 ls []) := by
                              intro N
                              induction N with
                              | zero => intro i3 fw hk0 hk1 hLW H locs ls hmu Y hl; exact absurd hmu (Nat.not_lt_zero _)
                              | succ N ih253 =>
                                intro i3 fw hk0 hk1 hLW H locs ls hmu Y hl
                                refine r_iload_n X dX8_voyage_253 hl 0 rfl ?_
                                refine r_bipush X 42 dX8_voyage_254 (by decide) ?_
                                refine r_icmp_ge X (tgt := 272) dX8_voyage_256 (by decide) ⟨by omega, by omega⟩ ⟨by omega, by omega⟩ (fun c256 => ?_) (fun c256 => ?_)
                                · refine r_aload_n X dX8_voyage_272 hl 2 rfl ?_
                                  refine g_8_0 (k := 100) X Y rfl wm_737 dX8_voyage_273 ?_
                                  refine r_iconst X dX8_voyage_276 ?_
                                  refine r_aload_n X dX8_voyage_277 hl 2 rfl ?_
                                  refine g_8_3 (k := 100) X Y rfl wm_740 dX8_voyage_278 ?_
                                  refine r_eq (z' := c9 0) (by rw [htq13, up2_ne _ _ (by omega), htq12, up2_ne _ _ (by omega), htq11, up2_ne _ _ (by omega), htq10, up2_ne _ _ (by omega), htq9, up2_s]) ?_
                                  refine r_if_eq X (tgt := 293) dX8_voyage_281 (by decide) ⟨by omega, by omega⟩ (fun c281 => ?_) (fun c281 => ?_)
                                  · refine r_iconst X dX8_voyage_293 ?_
                                    refine p_ist (k := 101) X Y rfl (by omega) (by have q : ((al 101 : Nat) : Int) = 1008 := rfl; omega) dX8_voyage_294 (fun H locs Y => ?_)
                                    obtain ⟨fq14, hfq14⟩ : ∃ q, q = upA fw 101 2 0 := ⟨_, rfl⟩
                                    have Y : uY g 117 (cX g tq13 fq14) s H locs := by rw [hfq14]; exact Y
                                    refine r_aload_n X dX8_voyage_295 hl 2 rfl ?_
                                    refine g_8_0 (k := 100) X Y rfl wm_737 dX8_voyage_296 ?_
                                    refine r_iconst X dX8_voyage_299 ?_
                                    refine r_aload_n X dX8_voyage_300 hl 2 rfl ?_
                                    refine g_8_3 (k := 100) X Y rfl wm_740 dX8_voyage_301 ?_
                                    refine r_eq (z' := c9 0) (by rw [htq13, up2_ne _ _ (by omega), htq12, up2_ne _ _ (by omega), htq11, up2_ne _ _ (by omega), htq10, up2_ne _ _ (by omega), htq9, up2_s]) ?_
                                    refine r_if_eq X (tgt := 316) dX8_voyage_304 (by decide) ⟨by omega, by omega⟩ (fun c304 => ?_) (fun c304 => ?_)
                                    · refine r_iconst X dX8_voyage_316 ?_
                                      refine p_ist (k := 101) X Y rfl (by omega) (by have q : ((al 101 : Nat) : Int) = 1008 := rfl; omega) dX8_voyage_317 (fun H locs Y => ?_)
                                      obtain ⟨fq15, hfq15⟩ : ∃ q, q = upA fq14 101 3 0 := ⟨_, rfl⟩
                                      have Y : uY g 117 (cX g tq13 fq15) s H locs := by rw [hfq15]; exact Y
                                      refine r_aload_n X dX8_voyage_318 hl 2 rfl ?_
                                      refine g_8_0 (k := 100) X Y rfl wm_737 dX8_voyage_319 ?_
                                      refine r_bipush X 41 dX8_voyage_322 (by decide) ?_
                                      refine r_iload_n X dX8_voyage_324 hl 1 rfl ?_
                                      refine p_ist (k := 101) X Y rfl (by omega) (by have q : ((al 101 : Nat) : Int) = 1008 := rfl; omega) dX8_voyage_325 (fun H locs Y => ?_)
                                      obtain ⟨fq16, hfq16⟩ : ∃ q, q = upA fq15 101 41 sd := ⟨_, rfl⟩
                                      have Y : uY g 117 (cX g tq13 fq16) s H locs := by rw [hfq16]; exact Y
                                      refine r_aload_n X dX8_voyage_326 hl 2 rfl ?_
                                      refine r_iconst X dX8_voyage_327 ?_
                                      refine p_8_31 (k := 100) X Y rfl wm_768 dX8_voyage_328 (fun H locs Y => ?_)
                                      obtain ⟨tq17, htq17⟩ : ∃ q, q = up2 tq13 100 31 (0) := ⟨_, rfl⟩
                                      have Y : uY g 117 (cX g tq17 fq16) s H locs := by rw [htq17]; exact Y
                                      refine r_aload_n X dX8_voyage_331 hl 2 rfl ?_
                                      refine r_iconst X dX8_voyage_332 ?_
                                      refine p_8_34 (k := 100) X Y rfl wm_771 dX8_voyage_333 (fun H locs Y => ?_)
                                      obtain ⟨tq18, htq18⟩ : ∃ q, q = up2 tq17 100 34 (0) := ⟨_, rfl⟩
                                      have Y : uY g 117 (cX g tq18 fq16) s H locs := by rw [htq18]; exact Y
                                      refine r_aload_n X dX8_voyage_336 hl 2 rfl ?_
                                      refine r_iconst X dX8_voyage_337 ?_
                                      refine p_8_2 (k := 100) X Y rfl wm_739 dX8_voyage_338 (fun H locs Y => ?_)
                                      obtain ⟨tq19, htq19⟩ : ∃ q, q = up2 tq18 100 2 (0) := ⟨_, rfl⟩
                                      have Y : uY g 117 (cX g tq19 fq16) s H locs := by rw [htq19]; exact Y
                                      refine r_aload_n X dX8_voyage_341 hl 2 rfl ?_
                                      refine g_8_1 (k := 100) X Y rfl wm_738 dX8_voyage_342 ?_
                                      refine r_iconst X dX8_voyage_345 ?_
                                      refine r_iconst X dX8_voyage_346 ?_
                                      refine p_zst (k := 102) X Y rfl (by first | exact Or.inl rfl | exact Or.inr rfl | omega) (by omega) (by have q : ((al 102 : Nat) : Int) = 2 := rfl; omega) dX8_voyage_347 (fun H locs Y => ?_)
                                      obtain ⟨fq20, hfq20⟩ : ∃ q, q = upA fq16 102 0 0 := ⟨_, rfl⟩
                                      have Y : uY g 117 (cX g tq19 fq20) s H locs := by rw [hfq20]; exact Y
                                      refine r_aload_n X dX8_voyage_348 hl 2 rfl ?_
                                      refine g_8_1 (k := 100) X Y rfl wm_738 dX8_voyage_349 ?_
                                      refine r_iconst X dX8_voyage_352 ?_
                                      refine r_iconst X dX8_voyage_353 ?_
                                      refine p_zst (k := 102) X Y rfl (by first | exact Or.inl rfl | exact Or.inr rfl | omega) (by omega) (by have q : ((al 102 : Nat) : Int) = 2 := rfl; omega) dX8_voyage_354 (fun H locs Y => ?_)
                                      obtain ⟨fq21, hfq21⟩ : ∃ q, q = upA fq20 102 1 0 := ⟨_, rfl⟩
                                      have Y : uY g 117 (cX g tq19 fq21) s H locs := by rw [hfq21]; exact Y
                                      refine r_aload_n X dX8_voyage_355 hl 2 rfl ?_
                                      refine g_8_6 (k := 100) X Y rfl wm_743 dX8_voyage_356 ?_
                                      refine r_eq (z' := c9 1) (by rw [htq19, up2_ne _ _ (by omega), htq18, up2_ne _ _ (by omega), htq17, up2_ne _ _ (by omega), htq13, up2_ne _ _ (by omega), htq12, up2_s]) ?_
                                      exact ret _ _ _ _ _ _ _ dX8_voyage_359 Y (Or.inr ⟨by rw [hR9], by rw [hR9], by rw [← hc9]; exact hr3, by rw [← hc9, ← hD9]; exact VS8_of hV1 hC9 hr3 (by rw [show i = c9 1 by omega] at hLG; exact hLG) (by rw [show i2 = c9 2 by omega] at hLM; exact hLM) (by rw [show i3 = 42 by omega] at hLW; exact hLW) hfq14 hfq15 (by rw [← hsd]; exact hfq16) hfq20 hfq21 (Or.inl ⟨by omega, rfl, rfl, rfl, rfl⟩) gfr g19 (by rw [htq19, htq18, htq17, htq13, htq12, htq11, htq10, htq9, htq8])⟩)
                                    · exact absurd c304 (by omega)
                                  · exact absurd c281 (by omega)
                                · refine r_aload_n X dX8_voyage_259 hl 2 rfl ?_
                                  refine g_8_0 (k := 100) X Y rfl wm_737 dX8_voyage_260 ?_
                                  refine r_iload_n X dX8_voyage_263 hl 0 rfl ?_
                                  refine r_iconst X dX8_voyage_264 ?_
                                  refine p_ist (k := 101) X Y rfl (by omega) (by have q : ((al 101 : Nat) : Int) = 1008 := rfl; omega) dX8_voyage_265 (fun H locs Y => ?_)
                                  obtain ⟨fq14, hfq14⟩ : ∃ q, q = upA fw 101 i3 0 := ⟨_, rfl⟩
                                  have Y : uY g 117 (cX g tq13 fq14) s H locs := by rw [hfq14]; exact Y
                                  refine r_iinc X dX8_voyage_266 hl 0 rfl [(3, .int (iV (i3 + 1))), (2, .int (iV (sd))), (0, .ref (g.1 + 100)), (1, .int (iV (y)))] (by decide) rfl (fun ls hl => ?_)
                                  refine r_goto X 253 dX8_voyage_269 (by decide) ?_
                                  exact ih253 (i3 + 1) fq14 (by omega) (by omega) (LWI_step hLW hk0 (by omega) hfq14) _ _ _ (by omega) Y (lv_sub hl [0, 1, 2, 3] rfl)
                            exact loop253 (((42 - (0:Int)).toNat) + 1) 0 fm (by omega) (by omega) ⟨fun _ _ _ => rfl, fun i i0 i1 => absurd i1 (by omega)⟩ _ _ _ (Nat.lt_succ_self _) Y (lv_sub hl [0, 1, 2, 3] rfl)
                          · refine r_aload_n X dX8_voyage_207 hl 1 rfl ?_
                            refine g_8_11 (k := 100) X Y rfl wm_748 dX8_voyage_208 ?_
                            refine r_iload_n X dX8_voyage_211 hl 0 rfl ?_
                            refine r_aload_n X dX8_voyage_212 hl 1 rfl ?_
                            refine g_8_25 (k := 100) X Y rfl wm_762 dX8_voyage_213 ?_
                            refine r_iconst X dX8_voyage_216 ?_
                            refine r_iload_n X dX8_voyage_217 hl 0 rfl ?_
                            refine r_imul X dX8_voyage_218 ?_
                            refine g_ild (k := 111) X Y rfl (by omega) (by have q : ((al 111 : Nat) : Int) = 10 := rfl; omega) dX8_voyage_219 ?_
                            refine p_ist (k := 106) X Y rfl (by omega) (by have q : ((al 106 : Nat) : Int) = 5 := rfl; omega) dX8_voyage_220 (fun H locs Y => ?_)
                            obtain ⟨fq14, hfq14⟩ : ∃ q, q = upA fm 106 i2 (fm 111 (2 * i2)) := ⟨_, rfl⟩
                            have Y : uY g 117 (cX g tq13 fq14) s H locs := by rw [hfq14]; exact Y
                            refine r_aload_n X dX8_voyage_221 hl 1 rfl ?_
                            refine g_8_12 (k := 100) X Y rfl wm_749 dX8_voyage_222 ?_
                            refine r_iload_n X dX8_voyage_225 hl 0 rfl ?_
                            refine r_aload_n X dX8_voyage_226 hl 1 rfl ?_
                            refine g_8_25 (k := 100) X Y rfl wm_762 dX8_voyage_227 ?_
                            refine r_iconst X dX8_voyage_230 ?_
                            refine r_iload_n X dX8_voyage_231 hl 0 rfl ?_
                            refine r_imul X dX8_voyage_232 ?_
                            refine r_iconst X dX8_voyage_233 ?_
                            refine r_iadd X dX8_voyage_234 ?_
                            refine g_ild (k := 111) X Y rfl (by omega) (by have q : ((al 111 : Nat) : Int) = 10 := rfl; omega) dX8_voyage_235 ?_
                            refine p_ist (k := 107) X Y rfl (by omega) (by have q : ((al 107 : Nat) : Int) = 5 := rfl; omega) dX8_voyage_236 (fun H locs Y => ?_)
                            obtain ⟨fq15, hfq15⟩ : ∃ q, q = upA fq14 107 i2 (fq14 111 ((2 * i2) + 1)) := ⟨_, rfl⟩
                            have Y : uY g 117 (cX g tq13 fq15) s H locs := by rw [hfq15]; exact Y
                            refine r_iinc X dX8_voyage_237 hl 0 rfl [(2, .int (iV (i2 + 1))), (0, .ref (g.1 + 100)), (1, .int (iV (y)))] (by decide) rfl (fun ls hl => ?_)
                            refine r_goto X 199 dX8_voyage_240 (by decide) ?_
                            exact ih199 (i2 + 1) fq15 (by omega) (by omega) (LMI_step hLM hfq14 hfq15) _ _ _ (by omega) Y (lv_sub hl [0, 1, 2] rfl)
                      exact loop199 (((c9 2 - 0).toNat) + 1) 0 fl (by omega) (by omega) ⟨fun _ _ _ _ => rfl, fun i i0 i1 => absurd i1 (by omega)⟩ _ _ _ (Nat.lt_succ_self _) Y (lv_sub hl [0, 1, 2] rfl)
                    · refine r_aload_n X dX8_voyage_145 hl 1 rfl ?_
                      refine g_8_7 (k := 100) X Y rfl wm_744 dX8_voyage_146 ?_
                      refine r_iload_n X dX8_voyage_149 hl 0 rfl ?_
                      refine r_aload_n X dX8_voyage_150 hl 1 rfl ?_
                      refine g_8_23 (k := 100) X Y rfl wm_760 dX8_voyage_151 ?_
                      refine r_iconst X dX8_voyage_154 ?_
                      refine r_iload_n X dX8_voyage_155 hl 0 rfl ?_
                      refine r_imul X dX8_voyage_156 ?_
                      refine g_ild (k := 110) X Y rfl (by omega) (by have q : ((al 110 : Nat) : Int) = 21 := rfl; omega) dX8_voyage_157 ?_
                      refine p_ist (k := 103) X Y rfl (by omega) (by have q : ((al 103 : Nat) : Int) = 7 := rfl; omega) dX8_voyage_158 (fun H locs Y => ?_)
                      obtain ⟨fq14, hfq14⟩ : ∃ q, q = upA fl 103 i (fl 110 (3 * i)) := ⟨_, rfl⟩
                      have Y : uY g 117 (cX g tq13 fq14) s H locs := by rw [hfq14]; exact Y
                      refine r_aload_n X dX8_voyage_159 hl 1 rfl ?_
                      refine g_8_8 (k := 100) X Y rfl wm_745 dX8_voyage_160 ?_
                      refine r_iload_n X dX8_voyage_163 hl 0 rfl ?_
                      refine r_aload_n X dX8_voyage_164 hl 1 rfl ?_
                      refine g_8_23 (k := 100) X Y rfl wm_760 dX8_voyage_165 ?_
                      refine r_iconst X dX8_voyage_168 ?_
                      refine r_iload_n X dX8_voyage_169 hl 0 rfl ?_
                      refine r_imul X dX8_voyage_170 ?_
                      refine r_iconst X dX8_voyage_171 ?_
                      refine r_iadd X dX8_voyage_172 ?_
                      refine g_ild (k := 110) X Y rfl (by omega) (by have q : ((al 110 : Nat) : Int) = 21 := rfl; omega) dX8_voyage_173 ?_
                      refine p_ist (k := 104) X Y rfl (by omega) (by have q : ((al 104 : Nat) : Int) = 7 := rfl; omega) dX8_voyage_174 (fun H locs Y => ?_)
                      obtain ⟨fq15, hfq15⟩ : ∃ q, q = upA fq14 104 i (fq14 110 ((3 * i) + 1)) := ⟨_, rfl⟩
                      have Y : uY g 117 (cX g tq13 fq15) s H locs := by rw [hfq15]; exact Y
                      refine r_aload_n X dX8_voyage_175 hl 1 rfl ?_
                      refine g_8_9 (k := 100) X Y rfl wm_746 dX8_voyage_176 ?_
                      refine r_iload_n X dX8_voyage_179 hl 0 rfl ?_
                      refine r_aload_n X dX8_voyage_180 hl 1 rfl ?_
                      refine g_8_23 (k := 100) X Y rfl wm_760 dX8_voyage_181 ?_
                      refine r_iconst X dX8_voyage_184 ?_
                      refine r_iload_n X dX8_voyage_185 hl 0 rfl ?_
                      refine r_imul X dX8_voyage_186 ?_
                      refine r_iconst X dX8_voyage_187 ?_
                      refine r_iadd X dX8_voyage_188 ?_
                      refine g_ild (k := 110) X Y rfl (by omega) (by have q : ((al 110 : Nat) : Int) = 21 := rfl; omega) dX8_voyage_189 ?_
                      refine p_ist (k := 105) X Y rfl (by omega) (by have q : ((al 105 : Nat) : Int) = 7 := rfl; omega) dX8_voyage_190 (fun H locs Y => ?_)
                      obtain ⟨fq16, hfq16⟩ : ∃ q, q = upA fq15 105 i (fq15 110 ((3 * i) + 2)) := ⟨_, rfl⟩
                      have Y : uY g 117 (cX g tq13 fq16) s H locs := by rw [hfq16]; exact Y
                      refine r_iinc X dX8_voyage_191 hl 0 rfl [(2, .int (iV (i + 1))), (0, .ref (g.1 + 100)), (1, .int (iV (y)))] (by decide) rfl (fun ls hl => ?_)
                      refine r_goto X 137 dX8_voyage_194 (by decide) ?_
                      exact ih137 (i + 1) fq16 (by omega) (by omega) (LGI_step hLG hfq14 hfq15 hfq16) _ _ _ (by omega) Y (lv_sub hl [0, 1, 2] rfl)
                exact loop137 (((c9 1 - 0).toNat) + 1) 0 fz (by omega) (by omega) ⟨fun _ _ _ _ _ => rfl, fun i i0 i1 => absurd i1 (by omega)⟩ _ _ _ (Nat.lt_succ_self _) Y (lv_sub hl [0, 2, 1] rfl)
              · exact absurd c103 (by omega)
            · refine r_aload_n X dX8_voyage_85 hl 1 rfl ?_
              refine g_8_21 (k := 100) X Y rfl wm_758 dX8_voyage_86 ?_
              refine r_iconst X dX8_voyage_89 ?_
              refine g_ild (k := 109) X Y rfl (by omega) (by have q : ((al 109 : Nat) : Int) = 4 := rfl; omega) dX8_voyage_90 ?_
              refine r_goto X 95 dX8_voyage_91 (by decide) ?_
              refine p_8_4 (k := 100) X Y rfl wm_741 dX8_voyage_95 (fun H locs Y => ?_)
              obtain ⟨tq10, htq10⟩ : ∃ q, q = up2 tq9 100 4 (fz 109 0) := ⟨_, rfl⟩
              have Y : uY g 117 (cX g tq10 fz) s H locs := by rw [htq10]; exact Y
              refine r_aload_n X dX8_voyage_98 hl 1 rfl ?_
              refine r_aload_n X dX8_voyage_99 hl 1 rfl ?_
              refine g_8_3 (k := 100) X Y rfl wm_740 dX8_voyage_100 ?_
              refine r_eq (z' := c9 0) (by rw [htq10, up2_ne _ _ (by omega), htq9, up2_s]) ?_
              refine r_if_eq X (tgt := 115) dX8_voyage_103 (by decide) ⟨by omega, by omega⟩ (fun c103 => ?_) (fun c103 => ?_)
              · exact absurd c103 (by omega)
              · refine r_aload_n X dX8_voyage_106 hl 1 rfl ?_
                refine g_8_21 (k := 100) X Y rfl wm_758 dX8_voyage_107 ?_
                refine r_iconst X dX8_voyage_110 ?_
                refine g_ild (k := 109) X Y rfl (by omega) (by have q : ((al 109 : Nat) : Int) = 4 := rfl; omega) dX8_voyage_111 ?_
                refine r_goto X 116 dX8_voyage_112 (by decide) ?_
                refine p_8_5 (k := 100) X Y rfl wm_742 dX8_voyage_116 (fun H locs Y => ?_)
                obtain ⟨tq11, htq11⟩ : ∃ q, q = up2 tq10 100 5 (fz 109 1) := ⟨_, rfl⟩
                have Y : uY g 117 (cX g tq11 fz) s H locs := by rw [htq11]; exact Y
                refine r_aload_n X dX8_voyage_119 hl 1 rfl ?_
                refine r_aload_n X dX8_voyage_120 hl 1 rfl ?_
                refine g_8_22 (k := 100) X Y rfl wm_759 dX8_voyage_121 ?_
                refine r_eq (z' := c9 1) (by rw [htq11, up2_ne _ _ (by omega), htq10, up2_ne _ _ (by omega), htq9, up2_ne _ _ (by omega)]; exact k22) ?_
                refine p_8_6 (k := 100) X Y rfl wm_743 dX8_voyage_124 (fun H locs Y => ?_)
                obtain ⟨tq12, htq12⟩ : ∃ q, q = up2 tq11 100 6 (c9 1) := ⟨_, rfl⟩
                have Y : uY g 117 (cX g tq12 fz) s H locs := by rw [htq12]; exact Y
                refine r_aload_n X dX8_voyage_127 hl 1 rfl ?_
                refine r_aload_n X dX8_voyage_128 hl 1 rfl ?_
                refine g_8_24 (k := 100) X Y rfl wm_761 dX8_voyage_129 ?_
                refine r_eq (z' := c9 2) (by rw [htq12, up2_ne _ _ (by omega), htq11, up2_ne _ _ (by omega), htq10, up2_ne _ _ (by omega), htq9, up2_ne _ _ (by omega)]; exact k24) ?_
                refine p_8_10 (k := 100) X Y rfl wm_747 dX8_voyage_132 (fun H locs Y => ?_)
                obtain ⟨tq13, htq13⟩ : ∃ q, q = up2 tq12 100 10 (c9 2) := ⟨_, rfl⟩
                have Y : uY g 117 (cX g tq13 fz) s H locs := by rw [htq13]; exact Y
                refine r_iconst X dX8_voyage_135 ?_
                refine r_istore_n X dX8_voyage_136 hl [(2, .int (iV (0))), (1, .int (iV (y))), (0, .ref (g.1 + 100))] (by decide) rfl (fun ls hl => ?_)
                have loop137 : ∀ (N : Nat) (i : Int) (fl : uF) (hi0 : 0 ≤ i) (hi1 : i ≤ c9 1) (hLG : LGI fz i fl) (H : Heap) (locs : List Loc) (ls : Array Slot), (c9 1 - i).toNat < N → uY g 117 (cX g tq13 fl) s H locs → lv_has ls 4 [(2, .int (iV (i))), (0, .ref (g.1 + 100)), (1, .int (iV (y)))] → W p l e R s m args below meth c H locs 0 0 Q (F0 m 137 ls []) := by
                  intro N
                  induction N with
                  | zero => intro i fl hi0 hi1 hLG H locs ls hmu Y hl; exact absurd hmu (Nat.not_lt_zero _)
                  | succ N ih137 =>
                    intro i fl hi0 hi1 hLG H locs ls hmu Y hl
                    refine r_iload_n X dX8_voyage_137 hl 0 rfl ?_
                    refine r_aload_n X dX8_voyage_138 hl 1 rfl ?_
                    refine g_8_6 (k := 100) X Y rfl wm_743 dX8_voyage_139 ?_
                    refine r_eq (z' := c9 1) (by rw [htq13, up2_ne _ _ (by omega), htq12, up2_s]) ?_
                    refine r_icmp_ge X (tgt := 197) dX8_voyage_142 (by decide) ⟨by omega, by omega⟩ ⟨by omega, by omega⟩ (fun c142 => ?_) (fun c142 => ?_)
                    · refine r_iconst X dX8_voyage_197 ?_
                      refine r_istore_n X dX8_voyage_198 hl [(2, .int (iV (0))), (0, .ref (g.1 + 100)), (1, .int (iV (y)))] (by decide) rfl (fun ls hl => ?_)
                      have loop199 : ∀ (N : Nat) (i2 : Int) (fm : uF) (hj0 : 0 ≤ i2) (hj1 : i2 ≤ c9 2) (hLM : LMI fl i2 fm) (H : Heap) (locs : List Loc) (ls : Array Slot), (c9 2 - i2).toNat < N → uY g 117 (cX g tq13 fm) s H locs → lv_has ls 4 [(2, .int (iV (i2))), (0, .ref (g.1 + 100)), (1, .int (iV (y)))] → W p l e R s m args below meth c H locs 0 0 Q (F0 m 199 ls []) := by
                        intro N
                        induction N with
                        | zero => intro i2 fm hj0 hj1 hLM H locs ls hmu Y hl; exact absurd hmu (Nat.not_lt_zero _)
                        | succ N ih199 =>
                          intro i2 fm hj0 hj1 hLM H locs ls hmu Y hl
                          refine r_iload_n X dX8_voyage_199 hl 0 rfl ?_
                          refine r_aload_n X dX8_voyage_200 hl 1 rfl ?_
                          refine g_8_10 (k := 100) X Y rfl wm_747 dX8_voyage_201 ?_
                          refine r_eq (z' := c9 2) (by rw [htq13, up2_s]) ?_
                          refine r_icmp_ge X (tgt := 243) dX8_voyage_204 (by decide) ⟨by omega, by omega⟩ ⟨by omega, by omega⟩ (fun c204 => ?_) (fun c204 => ?_)
                          · refine r_aload_n X dX8_voyage_243 hl 1 rfl ?_
                            refine g_8_0 (k := 100) X Y rfl wm_737 dX8_voyage_244 ?_
                            refine r_bipush X 41 dX8_voyage_247 (by decide) ?_
                            refine g_ild (k := 101) X Y rfl (by omega) (by have q : ((al 101 : Nat) : Int) = 1008 := rfl; omega) dX8_voyage_249 ?_
                            obtain ⟨sd, hsd⟩ : ∃ q0, q0 = f 101 41 := ⟨_, rfl⟩
                            refine r_eq (z' := sd) (by rw [hLM.1 101 41 (by omega) (by omega), hLG.1 101 41 (by omega) (by omega) (by omega), hV1.2.1 101 41 (by omega), hsd]) ?_
                            refine r_istore_n X dX8_voyage_250 hl [(2, .int (iV (sd))), (0, .ref (g.1 + 100)), (1, .int (iV (y)))] (by decide) rfl (fun ls hl => ?_)
                            refine r_iconst X dX8_voyage_251 ?_
                            refine r_istore_n X dX8_voyage_252 hl [(3, .int (iV (0))), (2, .int (iV (sd))), (0, .ref (g.1 + 100)), (1, .int (iV (y)))] (by decide) rfl (fun ls hl => ?_)
                            have loop253 : ∀ (N : Nat) (i3 : Int) (fw : uF) (hk0 : 0 ≤ i3) (hk1 : i3 ≤ 42) (hLW : LWI fm i3 fw) (H : Heap) (locs : List Loc) (ls : Array Slot), (42 - i3).toNat < N → uY g 117 (cX g tq13 fw) s H locs → lv_has ls 4 [(3, .int (iV (i3))), (2, .int (iV (sd))), (0, .ref (g.1 + 100)), (1, .int (iV (y)))] → W p l e R s m args below meth c H locs 0 0 Q (F0 m 253 ls []) := by
                              intro N
                              induction N with
                              | zero => intro i3 fw hk0 hk1 hLW H locs ls hmu Y hl; exact absurd hmu (Nat.not_lt_zero _)
                              | succ N ih253 =>
                                intro i3 fw hk0 hk1 hLW H locs ls hmu Y hl
                                refine r_iload_n X dX8_voyage_253 hl 0 rfl ?_
                                refine r_bipush X 42 dX8_voyage_254 (by decide) ?_
                                refine r_icmp_ge X (tgt := 272) dX8_voyage_256 (by decide) ⟨by omega, by omega⟩ ⟨by omega, by omega⟩ (fun c256 => ?_) (fun c256 => ?_)
                                · refine r_aload_n X dX8_voyage_272 hl 2 rfl ?_
                                  refine g_8_0 (k := 100) X Y rfl wm_737 dX8_voyage_273 ?_
                                  refine r_iconst X dX8_voyage_276 ?_
                                  refine r_aload_n X dX8_voyage_277 hl 2 rfl ?_
                                  refine g_8_3 (k := 100) X Y rfl wm_740 dX8_voyage_278 ?_
                                  refine r_eq (z' := c9 0) (by rw [htq13, up2_ne _ _ (by omega), htq12, up2_ne _ _ (by omega), htq11, up2_ne _ _ (by omega), htq10, up2_ne _ _ (by omega), htq9, up2_s]) ?_
                                  refine r_if_eq X (tgt := 293) dX8_voyage_281 (by decide) ⟨by omega, by omega⟩ (fun c281 => ?_) (fun c281 => ?_)
                                  · exact absurd c281 (by omega)
                                  · refine r_aload_n X dX8_voyage_284 hl 2 rfl ?_
                                    refine g_8_21 (k := 100) X Y rfl wm_758 dX8_voyage_285 ?_
                                    refine r_iconst X dX8_voyage_288 ?_
                                    refine g_ild (k := 109) X Y rfl (by omega) (by have q : ((al 109 : Nat) : Int) = 4 := rfl; omega) dX8_voyage_289 ?_
                                    refine r_goto X 294 dX8_voyage_290 (by decide) ?_
                                    refine r_eq (z' := fz 109 2) (by rw [hLW.1 109 _ (by omega), hLM.1 109 _ (by omega) (by omega), hLG.1 109 _ (by omega) (by omega) (by omega)]) ?_
                                    refine p_ist (k := 101) X Y rfl (by omega) (by have q : ((al 101 : Nat) : Int) = 1008 := rfl; omega) dX8_voyage_294 (fun H locs Y => ?_)
                                    obtain ⟨fq14, hfq14⟩ : ∃ q, q = upA fw 101 2 (fz 109 2) := ⟨_, rfl⟩
                                    have Y : uY g 117 (cX g tq13 fq14) s H locs := by rw [hfq14]; exact Y
                                    refine r_aload_n X dX8_voyage_295 hl 2 rfl ?_
                                    refine g_8_0 (k := 100) X Y rfl wm_737 dX8_voyage_296 ?_
                                    refine r_iconst X dX8_voyage_299 ?_
                                    refine r_aload_n X dX8_voyage_300 hl 2 rfl ?_
                                    refine g_8_3 (k := 100) X Y rfl wm_740 dX8_voyage_301 ?_
                                    refine r_eq (z' := c9 0) (by rw [htq13, up2_ne _ _ (by omega), htq12, up2_ne _ _ (by omega), htq11, up2_ne _ _ (by omega), htq10, up2_ne _ _ (by omega), htq9, up2_s]) ?_
                                    refine r_if_eq X (tgt := 316) dX8_voyage_304 (by decide) ⟨by omega, by omega⟩ (fun c304 => ?_) (fun c304 => ?_)
                                    · exact absurd c304 (by omega)
                                    · refine r_aload_n X dX8_voyage_307 hl 2 rfl ?_
                                      refine g_8_21 (k := 100) X Y rfl wm_758 dX8_voyage_308 ?_
                                      refine r_iconst X dX8_voyage_311 ?_
                                      refine g_ild (k := 109) X Y rfl (by omega) (by have q : ((al 109 : Nat) : Int) = 4 := rfl; omega) dX8_voyage_312 ?_
                                      refine r_goto X 317 dX8_voyage_313 (by decide) ?_
                                      refine r_eq (z' := fz 109 3) (by rw [hfq14, upA_k _ _ _ _ (by decide), hLW.1 109 _ (by omega), hLM.1 109 _ (by omega) (by omega), hLG.1 109 _ (by omega) (by omega) (by omega)]) ?_
                                      refine p_ist (k := 101) X Y rfl (by omega) (by have q : ((al 101 : Nat) : Int) = 1008 := rfl; omega) dX8_voyage_317 (fun H locs Y => ?_)
                                      obtain ⟨fq15, hfq15⟩ : ∃ q, q = upA fq14 101 3 (fz 109 3) := ⟨_, rfl⟩
                                      have Y : uY g 117 (cX g tq13 fq15) s H locs := by rw [hfq15]; exact Y
                                      refine r_aload_n X dX8_voyage_318 hl 2 rfl ?_
                                      refine g_8_0 (k := 100) X Y rfl wm_737 dX8_voyage_319 ?_
                                      refine r_bipush X 41 dX8_voyage_322 (by decide) ?_
                                      refine r_iload_n X dX8_voyage_324 hl 1 rfl ?_
                                      refine p_ist (k := 101) X Y rfl (by omega) (by have q : ((al 101 : Nat) : Int) = 1008 := rfl; omega) dX8_voyage_325 (fun H locs Y => ?_)
                                      obtain ⟨fq16, hfq16⟩ : ∃ q, q = upA fq15 101 41 sd := ⟨_, rfl⟩
                                      have Y : uY g 117 (cX g tq13 fq16) s H locs := by rw [hfq16]; exact Y
                                      refine r_aload_n X dX8_voyage_326 hl 2 rfl ?_
                                      refine r_iconst X dX8_voyage_327 ?_
                                      refine p_8_31 (k := 100) X Y rfl wm_768 dX8_voyage_328 (fun H locs Y => ?_)
                                      obtain ⟨tq17, htq17⟩ : ∃ q, q = up2 tq13 100 31 (0) := ⟨_, rfl⟩
                                      have Y : uY g 117 (cX g tq17 fq16) s H locs := by rw [htq17]; exact Y
                                      refine r_aload_n X dX8_voyage_331 hl 2 rfl ?_
                                      refine r_iconst X dX8_voyage_332 ?_
                                      refine p_8_34 (k := 100) X Y rfl wm_771 dX8_voyage_333 (fun H locs Y => ?_)
                                      obtain ⟨tq18, htq18⟩ : ∃ q, q = up2 tq17 100 34 (0) := ⟨_, rfl⟩
                                      have Y : uY g 117 (cX g tq18 fq16) s H locs := by rw [htq18]; exact Y
                                      refine r_aload_n X dX8_voyage_336 hl 2 rfl ?_
                                      refine r_iconst X dX8_voyage_337 ?_
                                      refine p_8_2 (k := 100) X Y rfl wm_739 dX8_voyage_338 (fun H locs Y => ?_)
                                      obtain ⟨tq19, htq19⟩ : ∃ q, q = up2 tq18 100 2 (0) := ⟨_, rfl⟩
                                      have Y : uY g 117 (cX g tq19 fq16) s H locs := by rw [htq19]; exact Y
                                      refine r_aload_n X dX8_voyage_341 hl 2 rfl ?_
                                      refine g_8_1 (k := 100) X Y rfl wm_738 dX8_voyage_342 ?_
                                      refine r_iconst X dX8_voyage_345 ?_
                                      refine r_iconst X dX8_voyage_346 ?_
                                      refine p_zst (k := 102) X Y rfl (by first | exact Or.inl rfl | exact Or.inr rfl | omega) (by omega) (by have q : ((al 102 : Nat) : Int) = 2 := rfl; omega) dX8_voyage_347 (fun H locs Y => ?_)
                                      obtain ⟨fq20, hfq20⟩ : ∃ q, q = upA fq16 102 0 0 := ⟨_, rfl⟩
                                      have Y : uY g 117 (cX g tq19 fq20) s H locs := by rw [hfq20]; exact Y
                                      refine r_aload_n X dX8_voyage_348 hl 2 rfl ?_
                                      refine g_8_1 (k := 100) X Y rfl wm_738 dX8_voyage_349 ?_
                                      refine r_iconst X dX8_voyage_352 ?_
                                      refine r_iconst X dX8_voyage_353 ?_
                                      refine p_zst (k := 102) X Y rfl (by first | exact Or.inl rfl | exact Or.inr rfl | omega) (by omega) (by have q : ((al 102 : Nat) : Int) = 2 := rfl; omega) dX8_voyage_354 (fun H locs Y => ?_)
                                      obtain ⟨fq21, hfq21⟩ : ∃ q, q = upA fq20 102 1 0 := ⟨_, rfl⟩
                                      have Y : uY g 117 (cX g tq19 fq21) s H locs := by rw [hfq21]; exact Y
                                      refine r_aload_n X dX8_voyage_355 hl 2 rfl ?_
                                      refine g_8_6 (k := 100) X Y rfl wm_743 dX8_voyage_356 ?_
                                      refine r_eq (z' := c9 1) (by rw [htq19, up2_ne _ _ (by omega), htq18, up2_ne _ _ (by omega), htq17, up2_ne _ _ (by omega), htq13, up2_ne _ _ (by omega), htq12, up2_s]) ?_
                                      exact ret _ _ _ _ _ _ _ dX8_voyage_359 Y (Or.inr ⟨by rw [hR9], by rw [hR9], by rw [← hc9]; exact hr3, by rw [← hc9, ← hD9]; exact VS8_of hV1 hC9 hr3 (by rw [show i = c9 1 by omega] at hLG; exact hLG) (by rw [show i2 = c9 2 by omega] at hLM; exact hLM) (by rw [show i3 = 42 by omega] at hLW; exact hLW) hfq14 hfq15 (by rw [← hsd]; exact hfq16) hfq20 hfq21 (Or.inr ⟨by omega, rfl, rfl, rfl, rfl⟩) gfr g19 (by rw [htq19, htq18, htq17, htq13, htq12, htq11, htq10, htq9, htq8])⟩)
                                · refine r_aload_n X dX8_voyage_259 hl 2 rfl ?_
                                  refine g_8_0 (k := 100) X Y rfl wm_737 dX8_voyage_260 ?_
                                  refine r_iload_n X dX8_voyage_263 hl 0 rfl ?_
                                  refine r_iconst X dX8_voyage_264 ?_
                                  refine p_ist (k := 101) X Y rfl (by omega) (by have q : ((al 101 : Nat) : Int) = 1008 := rfl; omega) dX8_voyage_265 (fun H locs Y => ?_)
                                  obtain ⟨fq14, hfq14⟩ : ∃ q, q = upA fw 101 i3 0 := ⟨_, rfl⟩
                                  have Y : uY g 117 (cX g tq13 fq14) s H locs := by rw [hfq14]; exact Y
                                  refine r_iinc X dX8_voyage_266 hl 0 rfl [(3, .int (iV (i3 + 1))), (2, .int (iV (sd))), (0, .ref (g.1 + 100)), (1, .int (iV (y)))] (by decide) rfl (fun ls hl => ?_)
                                  refine r_goto X 253 dX8_voyage_269 (by decide) ?_
                                  exact ih253 (i3 + 1) fq14 (by omega) (by omega) (LWI_step hLW hk0 (by omega) hfq14) _ _ _ (by omega) Y (lv_sub hl [0, 1, 2, 3] rfl)
                            exact loop253 (((42 - (0:Int)).toNat) + 1) 0 fm (by omega) (by omega) ⟨fun _ _ _ => rfl, fun i i0 i1 => absurd i1 (by omega)⟩ _ _ _ (Nat.lt_succ_self _) Y (lv_sub hl [0, 1, 2, 3] rfl)
                          · refine r_aload_n X dX8_voyage_207 hl 1 rfl ?_
                            refine g_8_11 (k := 100) X Y rfl wm_748 dX8_voyage_208 ?_
                            refine r_iload_n X dX8_voyage_211 hl 0 rfl ?_
                            refine r_aload_n X dX8_voyage_212 hl 1 rfl ?_
                            refine g_8_25 (k := 100) X Y rfl wm_762 dX8_voyage_213 ?_
                            refine r_iconst X dX8_voyage_216 ?_
                            refine r_iload_n X dX8_voyage_217 hl 0 rfl ?_
                            refine r_imul X dX8_voyage_218 ?_
                            refine g_ild (k := 111) X Y rfl (by omega) (by have q : ((al 111 : Nat) : Int) = 10 := rfl; omega) dX8_voyage_219 ?_
                            refine p_ist (k := 106) X Y rfl (by omega) (by have q : ((al 106 : Nat) : Int) = 5 := rfl; omega) dX8_voyage_220 (fun H locs Y => ?_)
                            obtain ⟨fq14, hfq14⟩ : ∃ q, q = upA fm 106 i2 (fm 111 (2 * i2)) := ⟨_, rfl⟩
                            have Y : uY g 117 (cX g tq13 fq14) s H locs := by rw [hfq14]; exact Y
                            refine r_aload_n X dX8_voyage_221 hl 1 rfl ?_
                            refine g_8_12 (k := 100) X Y rfl wm_749 dX8_voyage_222 ?_
                            refine r_iload_n X dX8_voyage_225 hl 0 rfl ?_
                            refine r_aload_n X dX8_voyage_226 hl 1 rfl ?_
                            refine g_8_25 (k := 100) X Y rfl wm_762 dX8_voyage_227 ?_
                            refine r_iconst X dX8_voyage_230 ?_
                            refine r_iload_n X dX8_voyage_231 hl 0 rfl ?_
                            refine r_imul X dX8_voyage_232 ?_
                            refine r_iconst X dX8_voyage_233 ?_
                            refine r_iadd X dX8_voyage_234 ?_
                            refine g_ild (k := 111) X Y rfl (by omega) (by have q : ((al 111 : Nat) : Int) = 10 := rfl; omega) dX8_voyage_235 ?_
                            refine p_ist (k := 107) X Y rfl (by omega) (by have q : ((al 107 : Nat) : Int) = 5 := rfl; omega) dX8_voyage_236 (fun H locs Y => ?_)
                            obtain ⟨fq15, hfq15⟩ : ∃ q, q = upA fq14 107 i2 (fq14 111 ((2 * i2) + 1)) := ⟨_, rfl⟩
                            have Y : uY g 117 (cX g tq13 fq15) s H locs := by rw [hfq15]; exact Y
                            refine r_iinc X dX8_voyage_237 hl 0 rfl [(2, .int (iV (i2 + 1))), (0, .ref (g.1 + 100)), (1, .int (iV (y)))] (by decide) rfl (fun ls hl => ?_)
                            refine r_goto X 199 dX8_voyage_240 (by decide) ?_
                            exact ih199 (i2 + 1) fq15 (by omega) (by omega) (LMI_step hLM hfq14 hfq15) _ _ _ (by omega) Y (lv_sub hl [0, 1, 2] rfl)
                      exact loop199 (((c9 2 - 0).toNat) + 1) 0 fl (by omega) (by omega) ⟨fun _ _ _ _ => rfl, fun i i0 i1 => absurd i1 (by omega)⟩ _ _ _ (Nat.lt_succ_self _) Y (lv_sub hl [0, 1, 2] rfl)
                    · refine r_aload_n X dX8_voyage_145 hl 1 rfl ?_
                      refine g_8_7 (k := 100) X Y rfl wm_744 dX8_voyage_146 ?_
                      refine r_iload_n X dX8_voyage_149 hl 0 rfl ?_
                      refine r_aload_n X dX8_voyage_150 hl 1 rfl ?_
                      refine g_8_23 (k := 100) X Y rfl wm_760 dX8_voyage_151 ?_
                      refine r_iconst X dX8_voyage_154 ?_
                      refine r_iload_n X dX8_voyage_155 hl 0 rfl ?_
                      refine r_imul X dX8_voyage_156 ?_
                      refine g_ild (k := 110) X Y rfl (by omega) (by have q : ((al 110 : Nat) : Int) = 21 := rfl; omega) dX8_voyage_157 ?_
                      refine p_ist (k := 103) X Y rfl (by omega) (by have q : ((al 103 : Nat) : Int) = 7 := rfl; omega) dX8_voyage_158 (fun H locs Y => ?_)
                      obtain ⟨fq14, hfq14⟩ : ∃ q, q = upA fl 103 i (fl 110 (3 * i)) := ⟨_, rfl⟩
                      have Y : uY g 117 (cX g tq13 fq14) s H locs := by rw [hfq14]; exact Y
                      refine r_aload_n X dX8_voyage_159 hl 1 rfl ?_
                      refine g_8_8 (k := 100) X Y rfl wm_745 dX8_voyage_160 ?_
                      refine r_iload_n X dX8_voyage_163 hl 0 rfl ?_
                      refine r_aload_n X dX8_voyage_164 hl 1 rfl ?_
                      refine g_8_23 (k := 100) X Y rfl wm_760 dX8_voyage_165 ?_
                      refine r_iconst X dX8_voyage_168 ?_
                      refine r_iload_n X dX8_voyage_169 hl 0 rfl ?_
                      refine r_imul X dX8_voyage_170 ?_
                      refine r_iconst X dX8_voyage_171 ?_
                      refine r_iadd X dX8_voyage_172 ?_
                      refine g_ild (k := 110) X Y rfl (by omega) (by have q : ((al 110 : Nat) : Int) = 21 := rfl; omega) dX8_voyage_173 ?_
                      refine p_ist (k := 104) X Y rfl (by omega) (by have q : ((al 104 : Nat) : Int) = 7 := rfl; omega) dX8_voyage_174 (fun H locs Y => ?_)
                      obtain ⟨fq15, hfq15⟩ : ∃ q, q = upA fq14 104 i (fq14 110 ((3 * i) + 1)) := ⟨_, rfl⟩
                      have Y : uY g 117 (cX g tq13 fq15) s H locs := by rw [hfq15]; exact Y
                      refine r_aload_n X dX8_voyage_175 hl 1 rfl ?_
                      refine g_8_9 (k := 100) X Y rfl wm_746 dX8_voyage_176 ?_
                      refine r_iload_n X dX8_voyage_179 hl 0 rfl ?_
                      refine r_aload_n X dX8_voyage_180 hl 1 rfl ?_
                      refine g_8_23 (k := 100) X Y rfl wm_760 dX8_voyage_181 ?_
                      refine r_iconst X dX8_voyage_184 ?_
                      refine r_iload_n X dX8_voyage_185 hl 0 rfl ?_
                      refine r_imul X dX8_voyage_186 ?_
                      refine r_iconst X dX8_voyage_187 ?_
                      refine r_iadd X dX8_voyage_188 ?_
                      refine g_ild (k := 110) X Y rfl (by omega) (by have q : ((al 110 : Nat) : Int) = 21 := rfl; omega) dX8_voyage_189 ?_
                      refine p_ist (k := 105) X Y rfl (by omega) (by have q : ((al 105 : Nat) : Int) = 7 := rfl; omega) dX8_voyage_190 (fun H locs Y => ?_)
                      obtain ⟨fq16, hfq16⟩ : ∃ q, q = upA fq15 105 i (fq15 110 ((3 * i) + 2)) := ⟨_, rfl⟩
                      have Y : uY g 117 (cX g tq13 fq16) s H locs := by rw [hfq16]; exact Y
                      refine r_iinc X dX8_voyage_191 hl 0 rfl [(2, .int (iV (i + 1))), (0, .ref (g.1 + 100)), (1, .int (iV (y)))] (by decide) rfl (fun ls hl => ?_)
                      refine r_goto X 137 dX8_voyage_194 (by decide) ?_
                      exact ih137 (i + 1) fq16 (by omega) (by omega) (LGI_step hLG hfq14 hfq15 hfq16) _ _ _ (by omega) Y (lv_sub hl [0, 1, 2] rfl)
                exact loop137 (((c9 1 - 0).toNat) + 1) 0 fz (by omega) (by omega) ⟨fun _ _ _ _ _ => rfl, fun i i0 i1 => absurd i1 (by omega)⟩ _ _ _ (Nat.lt_succ_self _) Y (lv_sub hl [0, 2, 1] rfl)
          · exact absurd c58 (by omega)
        · have HT2 : TM x n tq7 fz := HT1.of (gfr 100 14 (by unfold rdj; omega)) (by omega) (fun _ => rfl)
          have hps : pp = sk x (tq7 100 15) := by rw [g15, sk_no hpe]
          refine r_aload_n X dX8_voyage_44 hl 1 rfl ?_
          refine vR_i X Y [] [] (ct_X8_takesClause l g tq7 fz x n pp (wordZ (x pp)) HT2 hps rfl (by omega) (by omega) (by omega) (by omega)) mk_X8_takesClause mi_X8_takesClause wm_869 (by decide) (rv_8 Y rfl) rfl hl (Nat.le_of_ble_eq_true rfl) rfl dX8_voyage_45 (Nat.zero_le _) (Nat.zero_le _) (fun zq8 tq8 fq8 H locs hq8 Y => ?_)
          have hst := VI8_step hx hV1 hpp (by omega) htq7 hq8
          have hzr : zq8 = 0 ∨ zq8 = 1 := by rcases hst.2 with h9 | h9; exact Or.inl h9; exact Or.inr h9.1
          refine r_istore_n X dX8_voyage_48 hl [(1, .int (iV (zq8))), (0, .ref (g.1 + 100))] (by decide) rfl (fun ls hl => ?_)
          refine r_goto X 32 dX8_voyage_49 (by decide) ?_
          exact ih32 zq8 tq8 fq8 (by omega) hst.1 _ _ _ (by rcases hst.2 with h9 | h9; (rw [h9, Int.zero_mul]; rw [hy1, Int.one_mul] at hmu; omega); (rw [h9.1, Int.one_mul]; rw [hy1, Int.one_mul] at hmu; omega)) Y (lv_sub hl [0, 1] rfl)
  exact loop32 (((1 * (n + 1 - tq6 100 15)).toNat) + 1) 1 tq6 f (by omega) (VI8_init hx (by rw [htq6, htq5, htq4, htq3, htq2, htq1])) _ _ _ (Nat.lt_succ_self _) Y (lv_sub hl [0, 1] rfl)

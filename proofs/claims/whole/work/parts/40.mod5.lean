/-! the model's reader by contract -/
set_option maxHeartbeats 4000000 in
set_option maxRecDepth 100000 in
theorem ct_X8_letterAt (l : Launch) (g : uG) (t : uN) (f : uF) (x : Int → Int) (n : Int) (k : Int) (HT : TM x n t f) (hk0 : 0 ≤ k) (hk1 : k ≤ 220) : cF_i l yX8_letterAt cX8_letterAt 2 (some .int) 1 g [.ref (g.1 + 100), .int (iV (k))] t f (ltA x n k) (t) (f) := by
  refine eF_i (by decide +kernel) (Nat.le_of_ble_eq_true rfl) ?_
  intro p e R s m args below meth c Q ls H locs X Y hl ret
  have X : uX p 1 R s m args c cX8_letterAt 2 RX8 := X
  have hl : lv_has ls 2 [(0, .ref (g.1 + 100)), (1, .int (iV (k)))] := hl
  have hx := HT.1
  have hn := hx.1
  have h14 := HT.2.1
  have h8 := HT.2.2.1
  have hat := HT.2.2.2
  have qa := ltA_b hx k
  refine r_iload_n X dX8_letterAt_0 hl 1 rfl ?_
  refine r_aload_n X dX8_letterAt_1 hl 0 rfl ?_
  refine g_8_14 (k := 100) X Y rfl wm_751 dX8_letterAt_2 ?_
  refine r_icmp_ge X (tgt := 17) dX8_letterAt_5 (by decide) ⟨by omega, by omega⟩ ⟨by omega, by omega⟩ (fun c5 => ?_) (fun c5 => ?_)
  · refine r_iconst X dX8_letterAt_17 ?_
    exact ret _ _ _ _ _ _ _ dX8_letterAt_18 Y ⟨by omega, rfl, rfl⟩
  · refine r_aload_n X dX8_letterAt_8 hl 0 rfl ?_
    refine g_8_13 (k := 100) X Y rfl wm_750 dX8_letterAt_9 ?_
    refine r_iload_n X dX8_letterAt_12 hl 1 rfl ?_
    refine g_ild (k := 108) X Y rfl (by omega) (by have q : ((al 108 : Nat) : Int) = 220 := rfl; omega) dX8_letterAt_13 ?_
    refine r_eq (z' := x k) (h8 k hk0 (by omega)) ?_
    refine r_goto X 18 dX8_letterAt_14 (by decide) ?_
    exact ret _ _ _ _ _ _ _ dX8_letterAt_18 Y ⟨by omega, rfl, rfl⟩
set_option maxHeartbeats 4000000 in
set_option maxRecDepth 100000 in
theorem ct_X8_here (l : Launch) (g : uG) (t : uN) (f : uF) (x : Int → Int) (n : Int) (HT : TM x n t f) : cF_i l yX8_here cX8_here 1 (some .int) 2 g [.ref (g.1 + 100)] t f (ltA x n (sk x (t 100 15))) (up2 (up2 t 100 15 (sk x (t 100 15))) 100 16 (sk x (t 100 15))) (f) := by
  refine eF_i (by decide +kernel) (Nat.le_of_ble_eq_true rfl) ?_
  intro p e R s m args below meth c Q ls H locs X Y hl ret
  have X : uX p 2 R s m args c cX8_here 1 RX8 := X
  have hl : lv_has ls 1 [(0, .ref (g.1 + 100))] := hl
  have hx := HT.1
  have hn := hx.1
  have h14 := HT.2.1
  have h8 := HT.2.2.1
  have hat := HT.2.2.2
  have loop0 : ∀ (N : Nat) (v : Int) (tz : uN) (hv0 : 0 ≤ v) (hv1 : v ≤ n) (hk : sk x v = sk x (t 100 15)) (htz : tz = up2 t 100 15 v) (H : Heap) (locs : List Loc) (ls : Array Slot), (n - v).toNat < N → uY g 117 (cX g tz f) s H locs → lv_has ls 1 [(0, .ref (g.1 + 100))] → W p l e R s m args below meth c H locs 0 0 Q (F0 m 0 ls []) := by
    intro N
    induction N with
    | zero => intro v tz hv0 hv1 hk htz H locs ls hmu Y hl; exact absurd hmu (Nat.not_lt_zero _)
    | succ N ih0 =>
      intro v tz hv0 hv1 hk htz H locs ls hmu Y hl
      have e15 : tz 100 15 = v := by rw [htz, up2_s]
      have HT1 : TM x n tz f := HT.of (by rw [htz, up2_ne _ _ (by omega)]) (by omega) (fun _ => rfl)
      refine r_aload_n X dX8_here_0 hl 0 rfl ?_
      refine r_aload_n X dX8_here_1 hl 0 rfl ?_
      refine g_8_15 (k := 100) X Y rfl wm_752 dX8_here_2 ?_
      refine r_eq (z' := v) e15 ?_
      refine vF_i X Y [.int (iV (v))] [] (ct_X8_letterAt l g tz f x n v HT1 (by omega) (by omega)) mk_X8_letterAt mi_X8_letterAt wm_865 (by decide) (rv_8 Y rfl) rfl hl (Nat.le_of_ble_eq_true rfl) rfl dX8_here_5 (Nat.zero_le _) (Nat.zero_le _) (fun H locs Y => ?_)
      have qa5 := ltA_b hx v
      refine r_bipush X 32 dX8_here_8 (by decide) ?_
      refine r_icmp_ne X (tgt := 26) dX8_here_10 (by decide) ⟨by omega, by omega⟩ ⟨by omega, by omega⟩ (fun c10 => ?_) (fun c10 => ?_)
      · have hv9 : sk x (t 100 15) = v := by rw [← hk]; exact sk_no (by omega)
        refine r_aload_n X dX8_here_26 hl 0 rfl ?_
        refine r_aload_n X dX8_here_27 hl 0 rfl ?_
        refine g_8_15 (k := 100) X Y rfl wm_752 dX8_here_28 ?_
        refine r_eq (z' := v) e15 ?_
        refine p_8_16 (k := 100) X Y rfl wm_753 dX8_here_31 (fun H locs Y => ?_)
        obtain ⟨tq1, htq1⟩ : ∃ q, q = up2 tz 100 16 (v) := ⟨_, rfl⟩
        have Y : uY g 117 (cX g tq1 f) s H locs := by rw [htq1]; exact Y
        have HT2 : TM x n tq1 f := HT1.of (by rw [htq1, up2_ne _ _ (by omega)]) (by rw [htq1, up2_ne _ _ (by omega)]; omega) (fun _ => rfl)
        refine r_aload_n X dX8_here_34 hl 0 rfl ?_
        refine r_aload_n X dX8_here_35 hl 0 rfl ?_
        refine g_8_15 (k := 100) X Y rfl wm_752 dX8_here_36 ?_
        refine r_eq (z' := v) (by rw [htq1, up2_ne _ _ (by omega)]; exact e15) ?_
        refine vF_i X Y [.int (iV (v))] [] (ct_X8_letterAt l g tq1 f x n v HT2 (by omega) (by omega)) mk_X8_letterAt mi_X8_letterAt wm_865 (by decide) (rv_8 Y rfl) rfl hl (Nat.le_of_ble_eq_true rfl) rfl dX8_here_39 (Nat.zero_le _) (Nat.zero_le _) (fun H locs Y => ?_)
        have qa39 := ltA_b hx v
        exact ret _ _ _ _ _ _ _ dX8_here_42 Y ⟨by rw [hv9], by rw [htq1, htz, hv9], rfl⟩
      · refine r_aload_n X dX8_here_13 hl 0 rfl ?_
        refine r_dup X dX8_here_14 rfl ?_
        refine g_8_15 (k := 100) X Y rfl wm_752 dX8_here_15 ?_
        refine r_eq (z' := v) e15 ?_
        refine r_iconst X dX8_here_18 ?_
        refine r_iadd X dX8_here_19 ?_
        refine p_8_15 (k := 100) X Y rfl wm_752 dX8_here_20 (fun H locs Y => ?_)
        obtain ⟨tq1, htq1⟩ : ∃ q, q = up2 tz 100 15 (v + 1) := ⟨_, rfl⟩
        have Y : uY g 117 (cX g tq1 f) s H locs := by rw [htq1]; exact Y
        refine r_goto X 0 dX8_here_23 (by decide) ?_
        exact ih0 (v + 1) tq1 (by omega) (by omega) (by rw [← hk, sk_step hx hv0 hv1 (by omega)]) (by rw [htq1, htz, up2_up]) _ _ _ (by omega) Y (lv_sub hl [0] rfl)
  exact loop0 (((n - t 100 15).toNat) + 1) (t 100 15) t hat.1 hat.2 rfl (up2_id t 100 15).symm _ _ _ (Nat.lt_succ_self _) Y (lv_sub hl [0] rfl)
set_option maxHeartbeats 4000000 in
set_option maxRecDepth 100000 in
theorem ct_X8_fails (l : Launch) (g : uG) (t : uN) (f : uF) (u v : Int) (hu : inI u) (hv : inI v) : cF_i l yX8_fails cX8_fails 3 (some .boolean) 1 g [.ref (g.1 + 100), .int (iV (u)), .int (iV (v))] t f (0) (up2 (up2 t 100 18 u) 100 19 v) (f) := by
  refine eF_z (by decide +kernel) (Nat.le_of_ble_eq_true rfl) ?_
  intro p e R s m args below meth c Q ls H locs X Y hl ret
  have X : uX p 1 R s m args c cX8_fails 3 RX8 := X
  have hl : lv_has ls 3 [(0, .ref (g.1 + 100)), (1, .int (iV (u))), (2, .int (iV (v)))] := hl
  refine r_aload_n X dX8_fails_0 hl 0 rfl ?_
  refine r_iload_n X dX8_fails_1 hl 1 rfl ?_
  refine p_8_18 (k := 100) X Y rfl wm_755 dX8_fails_2 (fun H locs Y => ?_)
  obtain ⟨tq1, htq1⟩ : ∃ q, q = up2 t 100 18 (u) := ⟨_, rfl⟩
  have Y : uY g 117 (cX g tq1 f) s H locs := by rw [htq1]; exact Y
  refine r_aload_n X dX8_fails_5 hl 0 rfl ?_
  refine r_iload_n X dX8_fails_6 hl 2 rfl ?_
  refine p_8_19 (k := 100) X Y rfl wm_756 dX8_fails_7 (fun H locs Y => ?_)
  obtain ⟨tq2, htq2⟩ : ∃ q, q = up2 tq1 100 19 (v) := ⟨_, rfl⟩
  have Y : uY g 117 (cX g tq2 f) s H locs := by rw [htq2]; exact Y
  refine r_iconst X dX8_fails_10 ?_
  exact ret _ _ _ _ _ _ _ dX8_fails_11 Y (by first | exact Or.inl rfl | exact Or.inr rfl | omega) (by subst htq1 htq2; exact ⟨rfl, rfl, rfl⟩)
set_option maxHeartbeats 4000000 in
set_option maxRecDepth 100000 in
theorem ct_X8_takes (l : Launch) (g : uG) (t : uN) (f : uF) (x : Int → Int) (n : Int) (HT : TM x n t f) : cR_i l yX8_takes cX8_takes 2 (some .boolean) 3 g [.ref (g.1 + 100), .int (iV (59))] t f (TKQ x t f) := by
  refine eR_z (by decide +kernel) (Nat.le_of_ble_eq_true rfl) ?_
  intro p e R s m args below meth c Q ls H locs X Y hl ret
  have X : uX p 3 R s m args c cX8_takes 2 RX8 := X
  have hl : lv_has ls 2 [(0, .ref (g.1 + 100)), (1, .int (iV (59)))] := hl
  have hx := HT.1
  have hn := hx.1
  have h14 := HT.2.1
  have h8 := HT.2.2.1
  have hat := HT.2.2.2
  refine r_aload_n X dX8_takes_0 hl 0 rfl ?_
  refine vF_i X Y [] [] (ct_X8_here l g t f x n HT) mk_X8_here mi_X8_here wm_861 (by decide) (rv_8 Y rfl) rfl hl (Nat.le_of_ble_eq_true rfl) rfl dX8_takes_1 (Nat.zero_le _) (Nat.zero_le _) (fun H locs Y => ?_)
  obtain ⟨tq1, htq1⟩ : ∃ q, q = up2 (up2 t 100 15 (sk x (t 100 15))) 100 16 (sk x (t 100 15)) := ⟨_, rfl⟩
  have Y : uY g 117 (cX g tq1 f) s H locs := by rw [htq1]; exact Y
  obtain ⟨qq, hq⟩ : ∃ q0, q0 = sk x (t 100 15) := ⟨_, rfl⟩
  rw [← hq] at htq1
  refine r_eq (z' := ltA x n qq) (by rw [hq]) ?_
  have hqr := sk_rng hx hat.1 hat.2
  have hqe := sk_end hx hat.1 hat.2
  rw [← hq] at hqr hqe
  have qa := ltA_b hx qq
  have g16 : tq1 100 16 = qq := by rw [htq1, up2_s]
  have g15 : tq1 100 15 = qq := by rw [htq1, up2_ne _ _ (by omega), up2_s]
  have gfr : RDf t tq1 := by rw [htq1]; exact ((RDf.rf t).up _ (Or.inl rfl)).up _ (Or.inr (Or.inl rfl))
  have g18 : tq1 100 18 = t 100 18 := by rw [htq1, up2_ne _ _ (by omega), up2_ne _ _ (by omega)]
  have g19 : tq1 100 19 = t 100 19 := by rw [htq1, up2_ne _ _ (by omega), up2_ne _ _ (by omega)]
  refine r_iload_n X dX8_takes_4 hl 1 rfl ?_
  refine r_icmp_eq X (tgt := 18) dX8_takes_5 (by decide) ⟨by omega, by omega⟩ ⟨by omega, by omega⟩ (fun c5 => ?_) (fun c5 => ?_)
  · refine r_aload_n X dX8_takes_18 hl 0 rfl ?_
    refine r_dup X dX8_takes_19 rfl ?_
    refine g_8_15 (k := 100) X Y rfl wm_752 dX8_takes_20 ?_
    refine r_eq (z' := qq) g15 ?_
    refine r_iconst X dX8_takes_23 ?_
    refine r_iadd X dX8_takes_24 ?_
    refine p_8_15 (k := 100) X Y rfl wm_752 dX8_takes_25 (fun H locs Y => ?_)
    obtain ⟨tq2, htq2⟩ : ∃ q, q = up2 tq1 100 15 (qq + 1) := ⟨_, rfl⟩
    have Y : uY g 117 (cX g tq2 f) s H locs := by rw [htq2]; exact Y
    refine r_iconst X dX8_takes_28 ?_
    exact ret _ _ _ _ _ _ _ dX8_takes_29 Y (by first | exact Or.inl rfl | exact Or.inr rfl | omega) ⟨rfl, by rw [htq2]; exact gfr.up _ (Or.inl rfl), Or.inl ⟨by rw [← hq]; omega, rfl, by rw [htq2, up2_s, hq], by rw [htq2, up2_ne _ _ (by omega)]; exact g18, by rw [htq2, up2_ne _ _ (by omega)]; exact g19⟩⟩
  · refine r_aload_n X dX8_takes_8 hl 0 rfl ?_
    refine r_iconst X dX8_takes_9 ?_
    refine r_aload_n X dX8_takes_10 hl 0 rfl ?_
    refine g_8_16 (k := 100) X Y rfl wm_753 dX8_takes_11 ?_
    refine r_eq (z' := qq) g16 ?_
    refine vF_i X Y [.int (iV (1)), .int (iV (qq))] [] (ct_X8_fails l g tq1 f 1 qq ⟨by omega, by omega⟩ ⟨by omega, by omega⟩) mk_X8_fails mi_X8_fails wm_873 (by decide) (rv_8 Y rfl) rfl hl (Nat.le_of_ble_eq_true rfl) rfl dX8_takes_14 (Nat.zero_le _) (Nat.zero_le _) (fun H locs Y => ?_)
    obtain ⟨tq2, htq2⟩ : ∃ q, q = up2 (up2 tq1 100 18 1) 100 19 qq := ⟨_, rfl⟩
    have Y : uY g 117 (cX g tq2 f) s H locs := by rw [htq2]; exact Y
    exact ret _ _ _ _ _ _ _ dX8_takes_17 Y (by first | exact Or.inl rfl | exact Or.inr rfl | omega) ⟨rfl, by rw [htq2]; exact (gfr.up _ (Or.inr (Or.inr (Or.inr (Or.inl rfl))))).up _ (Or.inr (Or.inr (Or.inr (Or.inr rfl)))), Or.inr ⟨by rw [← hq]; omega, rfl, by rw [htq2, up2_ne _ _ (by omega), up2_s], by rw [htq2, up2_s, hq]⟩⟩

/-! the planner by contract -/
set_option maxHeartbeats 4000000 in
set_option maxRecDepth 100000 in
theorem ct_X2_tryPoints (l : Launch) (g : uG) (t : uN) (f : uF) (n : Nat) (hF : TF l g n) (co : Int → Int) (od : Int → Int → Int) (L fi P : Int) (po st pu ch : Int) (pre : Int → Int) (mb : Int × (Int → Int)) (k : Int) (hB : PLB P (n + 1) po st pu ch L fi pre mb) (hE : PLE co od L fi P t f) (hD : PLD P t f mb) (hpre : ∀ i, 0 ≤ i → i < po → f 93 i = pre i) (hk : 0 ≤ k ∧ k ≤ 2) : cR_v l yX2_tryPoints cX2_tryPoints 8 (7 + 2 * n) g [.ref (g.1 + 91), .int (iV (po)), .int (iV (k)), .int (iV (st + k)), .int (iV (pu)), .int (iV (ch))] t f (PLQ co od L fi P t f po pre (plk co od L fi n po st pu ch pre k mb)) := by
  refine eR_v (by decide +kernel) (Nat.le_of_ble_eq_true rfl) ?_
  intro p e R s m args below meth c Q ls H locs X Y hl ret
  have X : uX p (7 + 2 * n) R s m args c cX2_tryPoints 8 RX2 := X
  have hl : lv_has ls 8 [(0, .ref (g.1 + 91)), (1, .int (iV (po))), (2, .int (iV (k))), (3, .int (iV (st + k))), (4, .int (iV (pu))), (5, .int (iV (ch)))] := hl
  obtain ⟨⟨b1, b2, b3, b4, b5⟩, b6, b7, b8, b9, b10, b11⟩ := hB
  have e3 : t 91 3 = fi := hE.2.2.2.1
  have e92 : t 92 3 = P := hE.2.2.2.2.1
  have hv := hE.2.2.2.2.2.2
  have hco : tget t f 14 (fi + po) 2 = co (fi + po) := hE.1 _
  have hcr := (hv.2.1 (fi + po)).2.2
  change 0 ≤ tget t f 14 (fi + po) 2 ∧ tget t f 14 (fi + po) 2 ≤ 99 at hcr
  have hod := oddX_rng hv (fi + po) (st + k)
  rw [hE.2.1] at hod
  refine r_aload_n X dX2_tryPoints_0 hl 0 rfl ?_
  refine g_2_3 (k := 91) X Y rfl wm_237 dX2_tryPoints_1 ?_
  refine r_iload_n X dX2_tryPoints_4 hl 1 rfl ?_
  refine r_iadd X dX2_tryPoints_5 ?_
  refine r_eq (z' := fi + po) (by rw [e3]) ?_
  refine r_istore X dX2_tryPoints_6 hl [(6, .int (iV (fi + po))), (0, .ref (g.1 + 91)), (1, .int (iV (po))), (2, .int (iV (k))), (3, .int (iV (st + k))), (4, .int (iV (pu))), (5, .int (iV (ch)))] (by decide) rfl (fun ls hl => ?_)
  refine r_iload X dX2_tryPoints_8 hl 5 rfl ?_
  refine r_iload_n X dX2_tryPoints_10 hl 3 rfl ?_
  refine r_aload_n X dX2_tryPoints_11 hl 1 rfl ?_
  refine g_2_0 (k := 91) X Y rfl wm_234 dX2_tryPoints_12 ?_
  refine g_6_1 (k := 11) X Y rfl wm_123 dX2_tryPoints_15 ?_
  refine r_iload X dX2_tryPoints_18 hl 0 rfl ?_
  refine r_iconst X dX2_tryPoints_20 ?_
  refine vF_i X Y [.int (iV (fi + po)), .int (iV (2))] [.int (iV (k)), .int (iV (pu))] (ct_X5_get l g t f 14 (fi + po) 2 rfl hv.1.2.1 ⟨by omega, by omega⟩ ⟨by omega, by omega⟩) mk_X5_get mi_X5_get wm_649 (by omega) (rv_5 Y rfl) rfl hl (Nat.le_of_ble_eq_true rfl) rfl dX2_tryPoints_21 (Nat.zero_le _) (Nat.zero_le _) (fun H locs Y => ?_)
  refine r_eq (z' := co (fi + po)) hco ?_
  rw [hco] at hcr
  have hm0 : 0 ≤ k * co (fi + po) := Int.mul_nonneg (by omega) (by omega)
  have hm1 : k * co (fi + po) ≤ 2 * 99 := Int.mul_le_mul (by omega) (by omega) (by omega) (by omega)
  refine r_imul X dX2_tryPoints_24 ?_
  refine r_isub X dX2_tryPoints_25 ?_
  refine r_istore X dX2_tryPoints_26 hl [(7, .int (iV (pu - (k * (co (fi + po)))))), (6, .int (iV (fi + po))), (0, .ref (g.1 + 91)), (1, .int (iV (po))), (2, .int (iV (k))), (3, .int (iV (st + k))), (4, .int (iV (pu))), (5, .int (iV (ch)))] (by decide) rfl (fun ls hl => ?_)
  refine r_iload_n X dX2_tryPoints_28 hl 5 rfl ?_
  refine r_bipush X 9 dX2_tryPoints_29 (by decide) ?_
  refine r_icmp_gt X (tgt := 39) dX2_tryPoints_31 (by decide) ⟨by omega, by omega⟩ ⟨by omega, by omega⟩ (fun c31 => ?_) (fun c31 => ?_)
  · exact ret _ _ _ _ _ _ dX2_tryPoints_39 Y ⟨hE, by unfold plk; rw [if_pos (by omega)]; exact hD, hpre, PLfr.rf, by unfold plk; rw [if_pos (by omega)]; exact b11⟩
  · refine r_iload X dX2_tryPoints_34 hl 0 rfl ?_
    refine r_if_ge X (tgt := 40) dX2_tryPoints_36 (by decide) ⟨by omega, by omega⟩ (fun c36 => ?_) (fun c36 => ?_)
    · refine r_aload_n X dX2_tryPoints_40 hl 2 rfl ?_
      refine g_2_1 (k := 91) X Y rfl wm_235 dX2_tryPoints_41 ?_
      refine r_iload_n X dX2_tryPoints_44 hl 3 rfl ?_
      refine r_iconst X dX2_tryPoints_45 ?_
      refine r_iload_n X dX2_tryPoints_46 hl 4 rfl ?_
      refine vF_v X Y [.int (iV (po)), .int (iV (0)), .int (iV (k))] [] (ct_X5_set l g t f 92 po 0 k rfl (show tOK t 92 from (show 0 ≤ t 92 3 ∧ t 92 3 ≤ 7 by omega)) ⟨by omega, by omega⟩ ⟨by omega, by omega⟩) mk_X5_set mi_X5_set wm_650 (by omega) (rv_5 Y rfl) rfl hl (Nat.le_of_ble_eq_true rfl) rfl dX2_tryPoints_47 (Nat.zero_le _) (Nat.zero_le _) (fun H locs Y => ?_)
      obtain ⟨fq1, hfq1⟩ : ∃ q, q = tset t f 92 po 0 k := ⟨_, rfl⟩
      have Y : uY g 117 (cX g t fq1) s H locs := by rw [hfq1]; exact Y
      have hf93 : ∀ i, fq1 93 i = up1 (f 93) po k i := fun i => by rw [hfq1]; unfold tset; rw [show tw 92 = 1 from rfl, if_pos ⟨by omega, by omega, by omega, by omega⟩, show po * 1 + 0 = po by omega]; simp [upA]
      have hfo : ∀ c i, c ≠ 93 → fq1 c i = f c i := fun c i hc => by rw [hfq1]; unfold tset; split <;> first | exact upA_k _ _ _ _ hc | rfl
      have hfr : PLfr t f t fq1 := ⟨fun _ _ _ _ => rfl, fun c i h1 _ => hfo c i h1⟩
      have hE1 : PLE co od L fi P t fq1 := hE.fr hfr hE.2.2.2.2.2.1
      have hvz := hE1.2.2.2.2.2.2
      have hD1 : PLD P t fq1 mb := ⟨hD.1, hD.2.1, fun i h0 h1 => by rw [hfo 95 i (by decide)]; exact hD.2.2 i h0 h1⟩
      have hs := step_rng b8.1 b8.2 (hod (by omega) (by omega)).1 (hod (by omega) (by omega)).2.1
      refine r_aload_n X dX2_tryPoints_50 hl 2 rfl ?_
      refine r_iload_n X dX2_tryPoints_51 hl 3 rfl ?_
      refine r_iconst X dX2_tryPoints_52 ?_
      refine r_iadd X dX2_tryPoints_53 ?_
      refine r_iconst X dX2_tryPoints_54 ?_
      refine r_iload_n X dX2_tryPoints_55 hl 5 rfl ?_
      refine r_iconst X dX2_tryPoints_56 ?_
      refine r_isub X dX2_tryPoints_57 ?_
      refine r_max X hl (by omega) (Nat.zero_le _) (Nat.zero_le _) wm_642 (Nat.le_of_ble_eq_true rfl) dX2_tryPoints_58 ⟨by omega, by omega⟩ ⟨by omega, by omega⟩ ?_
      refine r_iload X dX2_tryPoints_61 hl 0 rfl ?_
      refine r_aload_n X dX2_tryPoints_63 hl 2 rfl ?_
      refine g_2_0 (k := 91) X Y rfl wm_234 dX2_tryPoints_64 ?_
      refine r_iload X dX2_tryPoints_67 hl 1 rfl ?_
      refine r_iload_n X dX2_tryPoints_69 hl 5 rfl ?_
      refine r_iload X dX2_tryPoints_70 hl 7 rfl ?_
      refine vF_i X Y [.int (iV (fi + po)), .int (iV (st + k)), .int (iV (ch))] [.int (iV (pu - (k * (co (fi + po))))), .int (iV (max 0 ((st + k) - 1))), .int (iV (po + 1)), .ref (g.1 + 91)] (ct_X6_comeThrough l g t fq1 11 (fi + po) (st + k) ch rfl hvz ⟨by omega, by omega⟩ (by omega) (by omega) (by omega) (by omega)) mk_X6_comeThrough mi_X6_comeThrough wm_651 (by omega) (rv_6 Y rfl) rfl hl (Nat.le_of_ble_eq_true rfl) rfl dX2_tryPoints_72 (Nat.zero_le _) (Nat.zero_le _) (fun H locs Y => ?_)
      refine r_eq (z' := (ch * (100 - od (fi + po) (st + k))).tdiv 100) (by rw [hE1.2.1]) ?_
      refine vR_v X Y [.int (iV (po + 1)), .int (iV (max 0 ((st + k) - 1))), .int (iV (pu - (k * (co (fi + po))))), .int (iV ((ch * (100 - od (fi + po) (st + k))).tdiv 100))] [] (hF co od L fi P t fq1 (po + 1) (max 0 ((st + k) - 1)) (pu - (k * (co (fi + po)))) ((ch * (100 - od (fi + po) (st + k))).tdiv 100) (up1 pre po k) mb ⟨⟨by omega, by omega, by omega, by omega, by omega⟩, ⟨by omega, by omega⟩, ⟨by omega, by omega⟩, ⟨by omega, by omega⟩, b9, by show (if (-1 : Int) = po then _ else _) = _; rw [if_neg (by omega)]; exact b10, b11⟩ hE1 hD1 (fun i h0 h1 => by rw [hf93]; unfold up1; split <;> first | rfl | exact hpre i h0 (by omega))) mk_X2_tryFrom mi_X2_tryFrom wm_638 (by omega) (rv_2 Y rfl) rfl hl (Nat.le_of_ble_eq_true rfl) rfl dX2_tryPoints_75 (Nat.zero_le _) (Nat.zero_le _) (fun tq2 fq2 H locs hq2 Y => ?_)
      exact ret _ _ _ _ _ _ dX2_tryPoints_78 Y ⟨hq2.1, by unfold plk; rw [if_neg (by omega)]; exact hq2.2.1, fun i h0 h1 => by rw [hq2.2.2.1 i h0 (by omega)]; unfold up1; rw [if_neg (by omega)], hfr.tr hq2.2.2.2.1, by unfold plk; rw [if_neg (by omega)]; exact hq2.2.2.2.2⟩
    · exact ret _ _ _ _ _ _ dX2_tryPoints_39 Y ⟨hE, by unfold plk; rw [if_pos (by omega)]; exact hD, hpre, PLfr.rf, by unfold plk; rw [if_pos (by omega)]; exact b11⟩
set_option maxHeartbeats 4000000 in
set_option maxRecDepth 100000 in
theorem ct_X2_tryFrom_0 (l : Launch) (g : uG) (t : uN) (f : uF) (co : Int → Int) (od : Int → Int → Int) (L fi P : Int) (po st pu ch : Int) (pre : Int → Int) (mb : Int × (Int → Int)) (hB : PLB P 0 po st pu ch L fi pre mb) (hE : PLE co od L fi P t f) (hD : PLD P t f mb) (hpre : ∀ i, 0 ≤ i → i < po → f 93 i = pre i) : cR_v l yX2_tryFrom cX2_tryFrom 8 (6 + 2 * 0) g [.ref (g.1 + 91), .int (iV (po)), .int (iV (st)), .int (iV (pu)), .int (iV (ch))] t f (PLQ co od L fi P t f po pre (pl co od L fi 0 po st pu ch pre mb)) := by
  refine eR_v (by decide +kernel) (Nat.le_of_ble_eq_true rfl) ?_
  intro p e R s m args below meth c Q ls H locs X Y hl ret
  have X : uX p (6 + 2 * 0) R s m args c cX2_tryFrom 8 RX2 := X
  have hl : lv_has ls 8 [(0, .ref (g.1 + 91)), (1, .int (iV (po))), (2, .int (iV (st))), (3, .int (iV (pu))), (4, .int (iV (ch)))] := hl
  obtain ⟨⟨b1, b2, b3, b4, b5⟩, b6, b7, b8, b9, b10, b11⟩ := hB
  have e92 : t 92 3 = P := hE.2.2.2.2.1
  have e4 : t 91 4 = L := hE.2.2.1
  have e5 : t 91 5 = mb.1 := hD.1
  have hv := hE.2.2.2.2.2.2
  have m0 : 0 ≤ ch * max 0 (L + pu) := Int.mul_nonneg (by omega) (by omega)
  have m1 : ch * max 0 (L + pu) ≤ 1000000 * 12000 := Int.mul_le_mul (by omega) (by omega) (by omega) (by omega)
  have m2 : 0 ≤ (ch * max 0 (L + pu)).tdiv 1000 ∧ (ch * max 0 (L + pu)).tdiv 1000 ≤ 12000000 := by rw [Int.tdiv_eq_ediv_of_nonneg m0]; omega
  have hcz : 0 < cmpZ ((ch * max 0 (L + pu)).tdiv 1000) mb.1 ↔ mb.1 < (ch * max 0 (L + pu)).tdiv 1000 := by unfold cmpZ; split <;> (try split) <;> omega
  have hcz2 : -1 ≤ cmpZ ((ch * max 0 (L + pu)).tdiv 1000) mb.1 ∧ cmpZ ((ch * max 0 (L + pu)).tdiv 1000) mb.1 ≤ 1 := by unfold cmpZ; split <;> (try split) <;> omega
  refine r_iload X dX2_tryFrom_0 hl 4 rfl ?_
  refine r_i2l X dX2_tryFrom_2 ⟨by omega, by omega⟩ ?_
  refine r_iconst X dX2_tryFrom_3 ?_
  refine r_aload_n X dX2_tryFrom_4 hl 0 rfl ?_
  refine g_2_4 (k := 91) X Y rfl wm_238 dX2_tryFrom_5 ?_
  refine r_iload_n X dX2_tryFrom_8 hl 3 rfl ?_
  refine r_iadd X dX2_tryFrom_9 ?_
  refine r_eq (z' := L + pu) (by rw [e4]) ?_
  refine r_max X hl (by omega) (Nat.zero_le _) (Nat.zero_le _) wm_642 (Nat.le_of_ble_eq_true rfl) dX2_tryFrom_10 ⟨by omega, by omega⟩ ⟨by omega, by omega⟩ ?_
  refine r_i2l X dX2_tryFrom_13 ⟨by omega, by omega⟩ ?_
  refine r_lmul X dX2_tryFrom_14 ?_
  refine r_ldc2 X 1000 wm_643 (by decide) dX2_tryFrom_15 ?_
  refine r_ldiv X dX2_tryFrom_18 ⟨by omega, by omega⟩ ⟨by omega, by omega⟩ (by omega) ?_
  refine r_lstore X dX2_tryFrom_19 hl [(5, .long (lV ((ch * (max 0 (L + pu))).tdiv 1000))), (0, .ref (g.1 + 91)), (1, .int (iV (po))), (2, .int (iV (st))), (3, .int (iV (pu))), (4, .int (iV (ch)))] (by decide) rfl (fun ls hl => ?_)
  refine r_lload X dX2_tryFrom_21 hl 0 rfl ?_
  refine r_aload_n X dX2_tryFrom_23 hl 1 rfl ?_
  refine g_2_5 (k := 91) X Y rfl wm_239 dX2_tryFrom_24 ?_
  refine r_eql (z' := mb.1) e5 ?_
  refine r_lcmp X dX2_tryFrom_27 ⟨by omega, by omega⟩ ⟨by omega, by omega⟩ ?_
  refine r_if_gt X (tgt := 32) dX2_tryFrom_28 (by decide) ⟨by omega, by omega⟩ (fun c28 => ?_) (fun c28 => ?_)
  · refine r_iload_n X dX2_tryFrom_32 hl 2 rfl ?_
    refine r_aload_n X dX2_tryFrom_33 hl 1 rfl ?_
    refine g_2_1 (k := 91) X Y rfl wm_235 dX2_tryFrom_34 ?_
    refine vF_i X Y [] [.int (iV (po))] (ct_X5_rows l g t f 92 rfl) mk_X5_rows mi_X5_rows wm_635 (by omega) (rv_5 Y rfl) rfl hl (Nat.le_of_ble_eq_true rfl) rfl dX2_tryFrom_37 (Nat.zero_le _) (Nat.zero_le _) (fun H locs Y => ?_)
    refine r_icmp_lt X (tgt := 61) dX2_tryFrom_40 (by decide) ⟨by omega, by omega⟩ ⟨by omega, by omega⟩ (fun c40 => ?_) (fun c40 => ?_)
    · exact absurd c40 (by omega)
    · refine r_aload_n X dX2_tryFrom_43 hl 1 rfl ?_
      refine r_lload X dX2_tryFrom_44 hl 0 rfl ?_
      refine p_2_5 (k := 91) X Y rfl wm_239 dX2_tryFrom_46 (fun H locs Y => ?_)
      obtain ⟨tq1, htq1⟩ : ∃ q, q = up2 t 91 5 ((ch * (max 0 (L + pu))).tdiv 1000) := ⟨_, rfl⟩
      have Y : uY g 117 (cX g tq1 f) s H locs := by rw [htq1]; exact Y
      refine r_aload_n X dX2_tryFrom_49 hl 1 rfl ?_
      refine g_2_2 (k := 91) X Y rfl wm_236 dX2_tryFrom_50 ?_
      refine r_aload_n X dX2_tryFrom_53 hl 1 rfl ?_
      refine g_2_1 (k := 91) X Y rfl wm_235 dX2_tryFrom_54 ?_
      refine vF_v X Y [.ref (g.1 + 92)] [] (ct_X5_become l g tq1 f 94 92 rfl (by rw [htq1]; exact tOK_k (by decide) hE.2.2.2.2.2.1) rfl (by rw [htq1]; exact tOK_k (by decide) (show tOK t 92 from (show 0 ≤ t 92 3 ∧ t 92 3 ≤ 7 by omega))) rfl rfl) mk_X5_become mi_X5_become wm_644 (by omega) (rv_5 Y rfl) rfl hl (Nat.le_of_ble_eq_true rfl) rfl dX2_tryFrom_57 (Nat.zero_le _) (Nat.zero_le _) (fun H locs Y => ?_)
      obtain ⟨tq2, htq2⟩ : ∃ q, q = up2 tq1 94 3 (tq1 92 3) := ⟨_, rfl⟩
      obtain ⟨fq3, hfq3⟩ : ∃ q, q = cpA f (92 + 1) (94 + 1) (tw 94 * tm 94) := ⟨_, rfl⟩
      have Y : uY g 117 (cX g tq2 fq3) s H locs := by rw [htq2, hfq3]; exact Y
      have e94 : tq2 94 3 = P := by rw [htq2, up2_s, htq1, up2_k _ _ _ _ (by decide), e92]
      have hf95 : ∀ i, 0 ≤ i → i < P → fq3 95 i = f 93 i := fun i h0 h1 => by rw [hfq3]; exact cpA_in h0 (show i < 1 * 7 by omega)
      have hfr : PLfr t f tq2 fq3 := ⟨fun k j h1 h2 => by rw [htq2, up2_ne _ _ h2, htq1, up2_ne _ _ h1], fun k i h1 h2 => by rw [hfq3]; exact cpA_off h2 i⟩
      have h945 : tOK tq2 94 := show 0 ≤ tq2 94 3 ∧ tq2 94 3 ≤ 7 by omega
      exact ret _ _ _ _ _ _ dX2_tryFrom_60 Y ⟨hE.fr hfr h945, by rw [pl, if_neg (by omega)]; exact ⟨by rw [htq2, up2_k _ _ _ _ (by decide), htq1, up2_s], by rw [e94]; exact b10.symm, fun i h0 h1 => by rw [hf95 i h0 h1]; exact hpre i h0 (by omega)⟩, fun i h0 h1 => by rw [hfq3, cpA_off (by decide)]; exact hpre i h0 h1, hfr, by rw [pl, if_neg (by omega)]; exact ⟨by show -1 ≤ (ch * max 0 (L + pu)).tdiv 1000; omega, by show (ch * max 0 (L + pu)).tdiv 1000 ≤ _; omega⟩⟩
  · exact ret _ _ _ _ _ _ dX2_tryFrom_31 Y ⟨hE, by rw [pl_cut (fun l => by rw [← hE.1 l]; exact (hv.2.1 l).2.2.1) (fun l q h0 h1 => by rw [← hE.2.1 l q]; exact ⟨(oddX_rng hv l q h0 h1).1, (oddX_rng hv l q h0 h1).2.1⟩) 0 _ _ _ _ _ _ (by omega) (by omega) (by omega) (by omega)]; exact hD, hpre, PLfr.rf, by rw [pl_cut (fun l => by rw [← hE.1 l]; exact (hv.2.1 l).2.2.1) (fun l q h0 h1 => by rw [← hE.2.1 l q]; exact ⟨(oddX_rng hv l q h0 h1).1, (oddX_rng hv l q h0 h1).2.1⟩) 0 _ _ _ _ _ _ (by omega) (by omega) (by omega) (by omega)]; exact b11⟩
set_option maxHeartbeats 4000000 in
set_option maxRecDepth 100000 in
theorem ct_X2_tryFrom_s (l : Launch) (g : uG) (t : uN) (f : uF) (n : Nat) (hF : TF l g n) (co : Int → Int) (od : Int → Int → Int) (L fi P : Int) (po st pu ch : Int) (pre : Int → Int) (mb : Int × (Int → Int)) (hB : PLB P (n + 1) po st pu ch L fi pre mb) (hE : PLE co od L fi P t f) (hD : PLD P t f mb) (hpre : ∀ i, 0 ≤ i → i < po → f 93 i = pre i) : cR_v l yX2_tryFrom cX2_tryFrom 8 (6 + 2 * (n + 1)) g [.ref (g.1 + 91), .int (iV (po)), .int (iV (st)), .int (iV (pu)), .int (iV (ch))] t f (PLQ co od L fi P t f po pre (pl co od L fi (n + 1) po st pu ch pre mb)) := by
  refine eR_v (by decide +kernel) (Nat.le_of_ble_eq_true rfl) ?_
  intro p e R s m args below meth c Q ls H locs X Y hl ret
  have X : uX p (6 + 2 * (n + 1)) R s m args c cX2_tryFrom 8 RX2 := X
  have hl : lv_has ls 8 [(0, .ref (g.1 + 91)), (1, .int (iV (po))), (2, .int (iV (st))), (3, .int (iV (pu))), (4, .int (iV (ch)))] := hl
  obtain ⟨⟨b1, b2, b3, b4, b5⟩, b6, b7, b8, b9, b10, b11⟩ := hB
  have e92 : t 92 3 = P := hE.2.2.2.2.1
  have e4 : t 91 4 = L := hE.2.2.1
  have e5 : t 91 5 = mb.1 := hD.1
  have hv := hE.2.2.2.2.2.2
  have m0 : 0 ≤ ch * max 0 (L + pu) := Int.mul_nonneg (by omega) (by omega)
  have m1 : ch * max 0 (L + pu) ≤ 1000000 * 12000 := Int.mul_le_mul (by omega) (by omega) (by omega) (by omega)
  have m2 : 0 ≤ (ch * max 0 (L + pu)).tdiv 1000 ∧ (ch * max 0 (L + pu)).tdiv 1000 ≤ 12000000 := by rw [Int.tdiv_eq_ediv_of_nonneg m0]; omega
  have hcz : 0 < cmpZ ((ch * max 0 (L + pu)).tdiv 1000) mb.1 ↔ mb.1 < (ch * max 0 (L + pu)).tdiv 1000 := by unfold cmpZ; split <;> (try split) <;> omega
  have hcz2 : -1 ≤ cmpZ ((ch * max 0 (L + pu)).tdiv 1000) mb.1 ∧ cmpZ ((ch * max 0 (L + pu)).tdiv 1000) mb.1 ≤ 1 := by unfold cmpZ; split <;> (try split) <;> omega
  refine r_iload X dX2_tryFrom_0 hl 4 rfl ?_
  refine r_i2l X dX2_tryFrom_2 ⟨by omega, by omega⟩ ?_
  refine r_iconst X dX2_tryFrom_3 ?_
  refine r_aload_n X dX2_tryFrom_4 hl 0 rfl ?_
  refine g_2_4 (k := 91) X Y rfl wm_238 dX2_tryFrom_5 ?_
  refine r_iload_n X dX2_tryFrom_8 hl 3 rfl ?_
  refine r_iadd X dX2_tryFrom_9 ?_
  refine r_eq (z' := L + pu) (by rw [e4]) ?_
  refine r_max X hl (by omega) (Nat.zero_le _) (Nat.zero_le _) wm_642 (Nat.le_of_ble_eq_true rfl) dX2_tryFrom_10 ⟨by omega, by omega⟩ ⟨by omega, by omega⟩ ?_
  refine r_i2l X dX2_tryFrom_13 ⟨by omega, by omega⟩ ?_
  refine r_lmul X dX2_tryFrom_14 ?_
  refine r_ldc2 X 1000 wm_643 (by decide) dX2_tryFrom_15 ?_
  refine r_ldiv X dX2_tryFrom_18 ⟨by omega, by omega⟩ ⟨by omega, by omega⟩ (by omega) ?_
  refine r_lstore X dX2_tryFrom_19 hl [(5, .long (lV ((ch * (max 0 (L + pu))).tdiv 1000))), (0, .ref (g.1 + 91)), (1, .int (iV (po))), (2, .int (iV (st))), (3, .int (iV (pu))), (4, .int (iV (ch)))] (by decide) rfl (fun ls hl => ?_)
  refine r_lload X dX2_tryFrom_21 hl 0 rfl ?_
  refine r_aload_n X dX2_tryFrom_23 hl 1 rfl ?_
  refine g_2_5 (k := 91) X Y rfl wm_239 dX2_tryFrom_24 ?_
  refine r_eql (z' := mb.1) e5 ?_
  refine r_lcmp X dX2_tryFrom_27 ⟨by omega, by omega⟩ ⟨by omega, by omega⟩ ?_
  refine r_if_gt X (tgt := 32) dX2_tryFrom_28 (by decide) ⟨by omega, by omega⟩ (fun c28 => ?_) (fun c28 => ?_)
  · refine r_iload_n X dX2_tryFrom_32 hl 2 rfl ?_
    refine r_aload_n X dX2_tryFrom_33 hl 1 rfl ?_
    refine g_2_1 (k := 91) X Y rfl wm_235 dX2_tryFrom_34 ?_
    refine vF_i X Y [] [.int (iV (po))] (ct_X5_rows l g t f 92 rfl) mk_X5_rows mi_X5_rows wm_635 (by omega) (rv_5 Y rfl) rfl hl (Nat.le_of_ble_eq_true rfl) rfl dX2_tryFrom_37 (Nat.zero_le _) (Nat.zero_le _) (fun H locs Y => ?_)
    refine r_icmp_lt X (tgt := 61) dX2_tryFrom_40 (by decide) ⟨by omega, by omega⟩ ⟨by omega, by omega⟩ (fun c40 => ?_) (fun c40 => ?_)
    · refine r_iconst X dX2_tryFrom_61 ?_
      refine r_istore X dX2_tryFrom_62 hl [(7, .int (iV (0))), (5, .long (lV ((ch * (max 0 (L + pu))).tdiv 1000))), (0, .ref (g.1 + 91)), (1, .int (iV (po))), (2, .int (iV (st))), (3, .int (iV (pu))), (4, .int (iV (ch)))] (by decide) rfl (fun ls hl => ?_)
      have loop64 : ∀ (N : Nat) (k : Int) (tz : uN) (fz : uF) (hk0 : 0 ≤ k) (hk1 : k ≤ 3) (hq : PLQ co od L fi P t f po pre (plF co od L fi n po st pu ch pre mb k.toNat) tz fz) (H : Heap) (locs : List Loc) (ls : Array Slot), (3 - k).toNat < N → uY g 117 (cX g tz fz) s H locs → lv_has ls 8 [(7, .int (iV (k))), (0, .ref (g.1 + 91)), (1, .int (iV (po))), (2, .int (iV (st))), (3, .int (iV (pu))), (4, .int (iV (ch)))] → W p l e R s m args below meth c H locs 0 0 Q (F0 m 64 ls []) := by
        intro N
        induction N with
        | zero => intro k tz fz hk0 hk1 hq H locs ls hmu Y hl; exact absurd hmu (Nat.not_lt_zero _)
        | succ N ih =>
          intro k tz fz hk0 hk1 hq H locs ls hmu Y hl
          refine r_iload X dX2_tryFrom_64 hl 0 rfl ?_
          refine r_iconst X dX2_tryFrom_66 ?_
          refine r_icmp_gt X (tgt := 90) dX2_tryFrom_67 (by decide) ⟨by omega, by omega⟩ ⟨by omega, by omega⟩ (fun c67 => ?_) (fun c67 => ?_)
          · exact ret _ _ _ _ _ _ dX2_tryFrom_90 Y (by rw [pl_succ]; rw [show k.toNat = 3 by omega] at hq; exact hq)
          · refine r_aload_n X dX2_tryFrom_70 hl 1 rfl ?_
            refine r_iload_n X dX2_tryFrom_71 hl 2 rfl ?_
            refine r_iload X dX2_tryFrom_72 hl 0 rfl ?_
            refine r_iload_n X dX2_tryFrom_74 hl 3 rfl ?_
            refine r_iload X dX2_tryFrom_75 hl 0 rfl ?_
            refine r_iadd X dX2_tryFrom_77 ?_
            refine r_iload_n X dX2_tryFrom_78 hl 4 rfl ?_
            refine r_iload X dX2_tryFrom_79 hl 5 rfl ?_
            refine vR_v X Y [.int (iV (po)), .int (iV (k)), .int (iV (st + k)), .int (iV (pu)), .int (iV (ch))] [] (ct_X2_tryPoints l g tz fz n hF co od L fi P po st pu ch pre (plF co od L fi n po st pu ch pre mb k.toNat) k ⟨⟨by omega, by omega, by omega, by omega, by omega⟩, b6, b7, b8, b9, b10, hq.2.2.2.2⟩ hq.1 hq.2.1 hq.2.2.1 ⟨by omega, by omega⟩) mk_X2_tryPoints mi_X2_tryPoints wm_645 (by omega) (rv_2 Y rfl) rfl hl (Nat.le_of_ble_eq_true rfl) rfl dX2_tryFrom_81 (Nat.zero_le _) (Nat.zero_le _) (fun tq1 fq1 H locs hq1 Y => ?_)
            refine r_iinc X dX2_tryFrom_84 hl 0 rfl [(7, .int (iV (k + 1))), (0, .ref (g.1 + 91)), (1, .int (iV (po))), (2, .int (iV (st))), (3, .int (iV (pu))), (4, .int (iV (ch)))] (by decide) rfl (fun ls hl => ?_)
            refine r_goto X 64 dX2_tryFrom_87 (by decide) ?_
            exact ih (k + 1) tq1 fq1 (by omega) (by omega) (by rw [show (k + 1).toNat = k.toNat + 1 by omega, plF, show ((k.toNat : Nat) : Int) = k by omega]; exact ⟨hq1.1, hq1.2.1, hq1.2.2.1, hq.2.2.2.1.tr hq1.2.2.2.1, hq1.2.2.2.2⟩) _ _ _ (by omega) Y (lv_sub hl [0, 1, 2, 3, 4, 5] rfl)
      exact loop64 (((3 - (0:Int)).toNat) + 1) 0 t f (by omega) (by omega) ⟨hE, hD, hpre, PLfr.rf, b11⟩ _ _ _ (Nat.lt_succ_self _) Y (lv_sub hl [0, 2, 3, 4, 5, 6] rfl)
    · exact absurd c40 (by omega)
  · exact ret _ _ _ _ _ _ dX2_tryFrom_31 Y ⟨hE, by rw [pl_cut (fun l => by rw [← hE.1 l]; exact (hv.2.1 l).2.2.1) (fun l q h0 h1 => by rw [← hE.2.1 l q]; exact ⟨(oddX_rng hv l q h0 h1).1, (oddX_rng hv l q h0 h1).2.1⟩) (n + 1) _ _ _ _ _ _ (by omega) (by omega) (by omega) (by omega)]; exact hD, hpre, PLfr.rf, by rw [pl_cut (fun l => by rw [← hE.1 l]; exact (hv.2.1 l).2.2.1) (fun l q h0 h1 => by rw [← hE.2.1 l q]; exact ⟨(oddX_rng hv l q h0 h1).1, (oddX_rng hv l q h0 h1).2.1⟩) (n + 1) _ _ _ _ _ _ (by omega) (by omega) (by omega) (by omega)]; exact b11⟩
theorem TF_all (l : Launch) (g : uG) (n : Nat) : TF l g n := by
  induction n with
  | zero => exact fun co od L fi P t f po st pu ch pre mb h1 h2 h3 h4 => ct_X2_tryFrom_0 l g t f co od L fi P po st pu ch pre mb h1 h2 h3 h4
  | succ n ih => exact fun co od L fi P t f po st pu ch pre mb h1 h2 h3 h4 => ct_X2_tryFrom_s l g t f n ih co od L fi P po st pu ch pre mb h1 h2 h3 h4
set_option maxHeartbeats 4000000 in
set_option maxRecDepth 100000 in
theorem ct_X2_findBest (l : Launch) (g : uG) (t : uN) (f : uF) (q0 : Int) (h : HI t f) (h94 : tOK t 94) (hle : t 18 3 ≤ t 14 3) (hq0 : -40000 ≤ q0 ∧ q0 ≤ 2000) : cR_v l yX2_findBest cX2_findBest 4 23 g [.ref (g.1 + 91), .ref (g.1 + 18), .int (iV (q0))] t f (FBQ t f q0) := by
  refine eR_v (by decide +kernel) (Nat.le_of_ble_eq_true rfl) ?_
  intro p e R s m args below meth c Q ls H locs X Y hl ret
  have X : uX p 23 R s m args c cX2_findBest 4 RX2 := X
  have hl : lv_has ls 4 [(0, .ref (g.1 + 91)), (1, .ref (g.1 + 18)), (2, .int (iV (q0)))] := hl
  have hb := h.b
  refine r_aload_n X dX2_findBest_0 hl 0 rfl ?_
  refine r_aload_n X dX2_findBest_1 hl 1 rfl ?_
  refine g_4_3 (k := 18) X Y rfl wm_171 dX2_findBest_2 ?_
  refine p_2_3 (k := 91) X Y rfl wm_237 dX2_findBest_5 (fun H locs Y => ?_)
  obtain ⟨tq1, htq1⟩ : ∃ q, q = up2 t 91 3 (t 18 3) := ⟨_, rfl⟩
  have Y : uY g 117 (cX g tq1 f) s H locs := by rw [htq1]; exact Y
  refine r_aload_n X dX2_findBest_8 hl 0 rfl ?_
  refine r_iload_n X dX2_findBest_9 hl 2 rfl ?_
  refine p_2_4 (k := 91) X Y rfl wm_238 dX2_findBest_10 (fun H locs Y => ?_)
  obtain ⟨tq2, htq2⟩ : ∃ q, q = up2 tq1 91 4 (q0) := ⟨_, rfl⟩
  have Y : uY g 117 (cX g tq2 f) s H locs := by rw [htq2]; exact Y
  refine r_aload_n X dX2_findBest_13 hl 0 rfl ?_
  refine r_ldc2 X (-1) wm_233 (by decide) dX2_findBest_14 ?_
  refine p_2_5 (k := 91) X Y rfl wm_239 dX2_findBest_17 (fun H locs Y => ?_)
  obtain ⟨tq3, htq3⟩ : ∃ q, q = up2 tq2 91 5 ((-1)) := ⟨_, rfl⟩
  have Y : uY g 117 (cX g tq3 f) s H locs := by rw [htq3]; exact Y
  refine r_aload_n X dX2_findBest_20 hl 0 rfl ?_
  refine g_2_1 (k := 91) X Y rfl wm_235 dX2_findBest_21 ?_
  refine vF_v X Y [] [] (ct_X5_clear l g tq3 f 92 rfl) mk_X5_clear mi_X5_clear wm_634 (by decide) (rv_5 Y rfl) rfl hl (Nat.le_of_ble_eq_true rfl) rfl dX2_findBest_24 (Nat.zero_le _) (Nat.zero_le _) (fun H locs Y => ?_)
  obtain ⟨tq4, htq4⟩ : ∃ q, q = up2 tq3 92 3 0 := ⟨_, rfl⟩
  have Y : uY g 117 (cX g tq4 f) s H locs := by rw [htq4]; exact Y
  refine r_aload_n X dX2_findBest_27 hl 0 rfl ?_
  refine g_2_3 (k := 91) X Y rfl wm_237 dX2_findBest_28 ?_
  refine r_eq (z' := t 18 3) (by rw [htq4, up2_ne _ _ (by omega), htq3, up2_ne _ _ (by omega), htq2, up2_ne _ _ (by omega), htq1, up2_s]) ?_
  refine r_istore_n X dX2_findBest_31 hl [(3, .int (iV (t 18 3))), (0, .ref (g.1 + 91)), (1, .ref (g.1 + 18)), (2, .int (iV (q0)))] (by decide) rfl (fun ls hl => ?_)
  have loop32 : ∀ (N : Nat) (i : Int) (tz : uN) (fz : uF) (hi0 : t 18 3 ≤ i) (hi1 : i ≤ t 14 3) (hfr : FBfr t f tz fz) (e3 : tz 91 3 = t 18 3) (e4 : tz 91 4 = q0) (e5 : tz 91 5 = -1) (e92 : tz 92 3 = i - t 18 3) (e94 : tz 94 3 = t 94 3) (H : Heap) (locs : List Loc) (ls : Array Slot), (t 14 3 - i).toNat < N → uY g 117 (cX g tz fz) s H locs → lv_has ls 4 [(3, .int (iV (i))), (0, .ref (g.1 + 91)), (1, .ref (g.1 + 18)), (2, .int (iV (q0)))] → W p l e R s m args below meth c H locs 0 0 Q (F0 m 32 ls []) := by
    intro N
    induction N with
    | zero => intro i tz fz hi0 hi1 hfr e3 e4 e5 e92 e94 H locs ls hmu Y hl; exact absurd hmu (Nat.not_lt_zero _)
    | succ N ih =>
      intro i tz fz hi0 hi1 hfr e3 e4 e5 e92 e94 H locs ls hmu Y hl
      have e14 : tz 14 3 = t 14 3 := hfr.1 14 3 (by omega) (by omega) (by omega)
      have h92 : tOK tz 92 := show 0 ≤ tz 92 3 ∧ tz 92 3 ≤ 7 by omega
      refine r_iload_n X dX2_findBest_32 hl 0 rfl ?_
      refine r_aload_n X dX2_findBest_33 hl 1 rfl ?_
      refine g_2_0 (k := 91) X Y rfl wm_234 dX2_findBest_34 ?_
      refine g_6_1 (k := 11) X Y rfl wm_123 dX2_findBest_37 ?_
      refine vF_i X Y [] [.int (iV (i))] (ct_X5_rows l g tz fz 14 rfl) mk_X5_rows mi_X5_rows wm_635 (by decide) (rv_5 Y rfl) rfl hl (Nat.le_of_ble_eq_true rfl) rfl dX2_findBest_40 (Nat.zero_le _) (Nat.zero_le _) (fun H locs Y => ?_)
      refine r_icmp_ge X (tgt := 60) dX2_findBest_43 (by decide) ⟨by omega, by omega⟩ ⟨by omega, by omega⟩ (fun c43 => ?_) (fun c43 => ?_)
      · have e12z : tz 12 3 = t 12 3 := hfr.1 12 3 (by omega) (by omega) (by omega)
        have e16z : tz 16 3 = t 16 3 := hfr.1 16 3 (by omega) (by omega) (by omega)
        have e19z : tz 19 3 = t 19 3 := hfr.1 19 3 (by omega) (by omega) (by omega)
        have h94z : tOK tz 94 := by unfold tOK at h94 ⊢; rw [e94]; exact h94
        have e18 : ∀ j, tz 18 j = t 18 j := fun j => hfr.1 18 j (by omega) (by omega) (by omega)
        have hz : HI tz fz := h.of e12z e14 e16z e19z (by rw [e18, e18, e18, e18]; exact hb.1) (fun c hc i => hfr.2 c i (by omega) (by omega))
        have hE : PLE (fun j => tget tz fz 14 j 2) (oddX tz fz 11) q0 (t 18 3) (t 14 3 - t 18 3) tz fz := ⟨fun _ => rfl, fun _ _ => rfl, e4, e3, by omega, h94z, hz.1⟩
        refine r_aload_n X dX2_findBest_60 hl 1 rfl ?_
        refine r_iconst X dX2_findBest_61 ?_
        refine r_aload_n X dX2_findBest_62 hl 2 rfl ?_
        refine g_4_1 (k := 18) X Y rfl wm_165 dX2_findBest_63 ?_
        refine r_aload_n X dX2_findBest_66 hl 2 rfl ?_
        refine g_4_2 (k := 18) X Y rfl wm_168 dX2_findBest_67 ?_
        refine r_ldc X 1000000 wm_637 (by decide) dX2_findBest_70 ?_
        refine vR_v X Y [.int (iV (0)), .int (iV (tz 18 1)), .int (iV (tz 18 2)), .int (iV (1000000))] [] (TF_all l g (t 14 3 - t 18 3).toNat (fun j => tget tz fz 14 j 2) (oddX tz fz 11) q0 (t 18 3) (t 14 3 - t 18 3) tz fz 0 (tz 18 1) (tz 18 2) 1000000 (fun i => if i = -1 then t 14 3 - t 18 3 else 0) (-1, fun i => if i = -1 then tz 94 3 else fz 95 i) ⟨⟨by omega, by omega, by omega, by omega, by omega⟩, by rw [e18 1]; exact hb.1.1, by rw [e18 2]; exact hb.1.2.1, ⟨by omega, by omega⟩, hq0, rfl, ⟨by show (-1 : Int) ≤ -1; omega, by show (-1 : Int) ≤ 12000000; omega⟩⟩ hE ⟨e5, rfl, fun i h0 h1 => by show _ = if i = -1 then _ else _; rw [if_neg (by omega)]⟩ (fun i h0 h1 => absurd h1 (by omega))) mk_X2_tryFrom mi_X2_tryFrom wm_638 (show 6 + 2 * (t 14 3 - t 18 3).toNat + 1 ≤ 23 by omega) (rv_2 Y rfl) rfl hl (Nat.le_of_ble_eq_true rfl) rfl dX2_findBest_72 (Nat.zero_le _) (Nat.zero_le _) (fun tq5 fq5 H locs hq5 Y => ?_)
        refine r_aload_n X dX2_findBest_75 hl 1 rfl ?_
        refine r_iconst X dX2_findBest_76 ?_
        refine p_2_6 (k := 91) X Y rfl wm_240 (by first | exact Or.inl rfl | exact Or.inr rfl | omega) dX2_findBest_77 (fun H locs Y => ?_)
        obtain ⟨tq6, htq6⟩ : ∃ q, q = up2 tq5 91 6 (1) := ⟨_, rfl⟩
        have Y : uY g 117 (cX g tq6 fq5) s H locs := by rw [htq6]; exact Y
        exact ret _ _ _ _ _ _ dX2_findBest_80 Y (FBQ_of hfr hz.1 e18 e14 e5 hq5 htq6)
      · refine r_aload_n X dX2_findBest_46 hl 1 rfl ?_
        refine g_2_1 (k := 91) X Y rfl wm_235 dX2_findBest_47 ?_
        refine r_iconst X dX2_findBest_50 ?_
        refine vF_v X Y [.int (iV (0))] [] (ct_X5_add l g tz fz 92 0 rfl h92) mk_X5_add mi_X5_add wm_636 (by decide) (rv_5 Y rfl) rfl hl (Nat.le_of_ble_eq_true rfl) rfl dX2_findBest_51 (Nat.zero_le _) (Nat.zero_le _) (fun H locs Y => ?_)
        obtain ⟨tq5, htq5⟩ : ∃ q, q = topenT tz 92 := ⟨_, rfl⟩
        obtain ⟨fq6, hfq6⟩ : ∃ q, q = tset (topenT tz 92) fz 92 (topenR tz 92) 0 0 := ⟨_, rfl⟩
        have Y : uY g 117 (cX g tq5 fq6) s H locs := by rw [htq5, hfq6]; exact Y
        have ho : topenT tz 92 = up2 tz 92 3 (tz 92 3 + 1) := by unfold topenT; rw [if_neg (by show ¬ (7 : Int) ≤ _; omega)]
        refine r_iinc X dX2_findBest_54 hl 0 rfl [(3, .int (iV (i + 1))), (0, .ref (g.1 + 91)), (1, .ref (g.1 + 18)), (2, .int (iV (q0)))] (by decide) rfl (fun ls hl => ?_)
        refine r_goto X 32 dX2_findBest_57 (by decide) ?_
        exact ih (i + 1) tq5 fq6 (by omega) (by omega) (hfr.tr ⟨fun k j h1 h2 h3 => by rw [htq5, ho, up2_ne _ _ (by omega)], fun k i h1 h2 => by rw [hfq6]; unfold tset; split <;> first | exact upA_k _ _ _ _ h1 | rfl⟩) (by rw [htq5, ho, up2_ne _ _ (by omega)]; exact e3) (by rw [htq5, ho, up2_ne _ _ (by omega)]; exact e4) (by rw [htq5, ho, up2_ne _ _ (by omega)]; exact e5) (by rw [htq5, ho, up2_s]; omega) (by rw [htq5, ho, up2_ne _ _ (by omega)]; exact e94) _ _ _ (by omega) Y (lv_sub hl [0, 1, 2, 3] rfl)
  exact loop32 (((t 14 3 - t 18 3).toNat) + 1) (t 18 3) tq4 f (by omega) (by omega) (by rw [htq4, htq3, htq2, htq1]; exact ⟨fun k j h1 h2 h3 => by rw [up2_ne _ _ (by omega), up2_ne _ _ (by omega), up2_ne _ _ (by omega), up2_ne _ _ (by omega)], fun _ _ _ _ => rfl⟩) (by rw [htq4, up2_ne _ _ (by omega), htq3, up2_ne _ _ (by omega), htq2, up2_ne _ _ (by omega), htq1, up2_s]) (by rw [htq4, up2_ne _ _ (by omega), htq3, up2_ne _ _ (by omega), htq2, up2_s]) (by rw [htq4, up2_ne _ _ (by omega), htq3, up2_s]) (by rw [htq4, up2_s]; omega) (by rw [htq4, up2_ne _ _ (by omega), htq3, up2_ne _ _ (by omega), htq2, up2_ne _ _ (by omega), htq1, up2_ne _ _ (by omega)]) _ _ _ (Nat.lt_succ_self _) Y (lv_sub hl [0, 1, 2, 3] rfl)
set_option maxHeartbeats 4000000 in
set_option maxRecDepth 100000 in
theorem ct_X7_plan (l : Launch) (g : uG) (t : uN) (f : uF) (i : Int) (h : HI t f) (h94 : tOK t 94) (hle : t 18 3 ≤ t 14 3) (h6 : t 91 6 = 0 ∨ t 91 6 = 1) (hc : t 91 6 = 1 → ∃ b0, PLD (t 14 3 - t 18 3) t f (plS t f (lbpX t f) b0)) (hi : inI i) : cR_i l yX7_plan cX7_plan 2 (some .int) 24 g [.ref (g.1 + 0), .int (iV (i))] t f (PQ t f i) := by
  refine eR_i (by decide +kernel) (Nat.le_of_ble_eq_true rfl) ?_
  intro p e R s m args below meth c Q ls H locs X Y hl ret
  have X : uX p 24 R s m args c cX7_plan 2 RX7 := X
  have hl : lv_has ls 2 [(0, .ref (g.1 + 0)), (1, .int (iV (i)))] := hl
  have hb := h.b
  refine r_aload_n X dX7_plan_0 hl 0 rfl ?_
  refine vF_i X Y [] [] (ct_X7_cannotTry l g t f h) mk_X7_cannotTry mi_X7_cannotTry wm_450 (by decide) (rv_7 Y rfl) rfl hl (Nat.le_of_ble_eq_true rfl) rfl dX7_plan_1 (Nat.zero_le _) (Nat.zero_le _) (fun H locs Y => ?_)
  have qg1 := goneX_b h.b.1.2.2.2
  refine r_if_eq X (tgt := 10) dX7_plan_4 (by decide) ⟨by omega, by omega⟩ (fun c4 => ?_) (fun c4 => ?_)
  · refine r_aload_n X dX7_plan_10 hl 0 rfl ?_
    refine g_7_7 (k := 0) X Y rfl wm_263 dX7_plan_11 ?_
    refine vF_i X Y [] [] (ct_X2_isDone l g t f (by omega)) mk_X2_isDone mi_X2_isDone wm_626 (by decide) (rv_2 Y rfl) rfl hl (Nat.le_of_ble_eq_true rfl) rfl dX7_plan_14 (Nat.zero_le _) (Nat.zero_le _) (fun H locs Y => ?_)
    refine r_if_ne X (tgt := 35) dX7_plan_17 (by decide) ⟨by omega, by omega⟩ (fun c17 => ?_) (fun c17 => ?_)
    · refine r_iload_n X dX7_plan_35 hl 1 rfl ?_
      refine r_iconst X dX7_plan_36 ?_
      refine r_icmp_ne X (tgt := 50) dX7_plan_37 (by decide) ⟨by omega, by omega⟩ ⟨by omega, by omega⟩ (fun c37 => ?_) (fun c37 => ?_)
      · refine r_aload_n X dX7_plan_50 hl 0 rfl ?_
        refine g_7_7 (k := 0) X Y rfl wm_263 dX7_plan_51 ?_
        refine r_iload_n X dX7_plan_54 hl 1 rfl ?_
        refine vF_i X Y [.int (iV (i))] [] (ct_X2_pointsIn l g t f i h94 ⟨by omega, by omega⟩) mk_X2_pointsIn mi_X2_pointsIn wm_656 (by decide) (rv_2 Y rfl) rfl hl (Nat.le_of_ble_eq_true rfl) rfl dX7_plan_55 (Nat.zero_le _) (Nat.zero_le _) (fun H locs Y => ?_)
        exact ret _ _ _ _ _ _ _ dX7_plan_58 Y (Or.inr ⟨by omega, ⟨fun _ _ _ _ _ => rfl, fun _ _ _ _ => rfl⟩, (by omega), h94, hc (by omega), (if_neg (by omega)).symm⟩)
      · refine r_aload_n X dX7_plan_40 hl 0 rfl ?_
        refine g_7_7 (k := 0) X Y rfl wm_263 dX7_plan_41 ?_
        refine vF_i X Y [] [] (ct_X2_howMuch l g t f) mk_X2_howMuch mi_X2_howMuch wm_652 (by decide) (rv_2 Y rfl) rfl hl (Nat.le_of_ble_eq_true rfl) rfl dX7_plan_44 (Nat.zero_le _) (Nat.zero_le _) (fun H locs Y => ?_)
        refine r_goto X 58 dX7_plan_47 (by decide) ?_
        exact ret _ _ _ _ _ _ _ dX7_plan_58 Y (Or.inr ⟨by omega, ⟨fun _ _ _ _ _ => rfl, fun _ _ _ _ => rfl⟩, (by omega), h94, hc (by omega), (if_pos (by omega)).symm⟩)
    · refine r_aload_n X dX7_plan_20 hl 0 rfl ?_
      refine g_7_7 (k := 0) X Y rfl wm_263 dX7_plan_21 ?_
      refine r_aload_n X dX7_plan_24 hl 0 rfl ?_
      refine g_7_3 (k := 0) X Y rfl wm_259 dX7_plan_25 ?_
      refine r_aload_n X dX7_plan_28 hl 0 rfl ?_
      refine vF_i X Y [] [.ref (g.1 + 18), .ref (g.1 + 91)] (ct_X7_leftBesidesPurse l g t f h) mk_X7_leftBesidesPurse mi_X7_leftBesidesPurse wm_454 (by decide) (rv_7 Y rfl) rfl hl (Nat.le_of_ble_eq_true rfl) rfl dX7_plan_29 (Nat.zero_le _) (Nat.zero_le _) (fun H locs Y => ?_)
      have ql29 := lbpX_rng h
      refine vR_v X Y [.ref (g.1 + 18), .int (iV (lbpX t f))] [] (ct_X2_findBest l g t f (lbpX t f) h h94 hle ⟨by omega, by omega⟩) mk_X2_findBest mi_X2_findBest wm_630 (by decide) (rv_2 Y rfl) rfl hl (Nat.le_of_ble_eq_true rfl) rfl dX7_plan_32 (Nat.zero_le _) (Nat.zero_le _) (fun tq1 fq1 H locs hq1 Y => ?_)
      refine r_iload_n X dX7_plan_35 hl 1 rfl ?_
      refine r_iconst X dX7_plan_36 ?_
      refine r_icmp_ne X (tgt := 50) dX7_plan_37 (by decide) ⟨by omega, by omega⟩ ⟨by omega, by omega⟩ (fun c37 => ?_) (fun c37 => ?_)
      · refine r_aload_n X dX7_plan_50 hl 0 rfl ?_
        refine g_7_7 (k := 0) X Y rfl wm_263 dX7_plan_51 ?_
        refine r_iload_n X dX7_plan_54 hl 1 rfl ?_
        refine vF_i X Y [.int (iV (i))] [] (ct_X2_pointsIn l g tq1 fq1 i hq1.2.2.1 ⟨by omega, by omega⟩) mk_X2_pointsIn mi_X2_pointsIn wm_656 (by decide) (rv_2 Y rfl) rfl hl (Nat.le_of_ble_eq_true rfl) rfl dX7_plan_55 (Nat.zero_le _) (Nat.zero_le _) (fun H locs Y => ?_)
        exact ret _ _ _ _ _ _ _ dX7_plan_58 Y (Or.inr ⟨by omega, hq1.1, hq1.2.1, hq1.2.2.1, hq1.2.2.2, (if_neg (by omega)).symm⟩)
      · refine r_aload_n X dX7_plan_40 hl 0 rfl ?_
        refine g_7_7 (k := 0) X Y rfl wm_263 dX7_plan_41 ?_
        refine vF_i X Y [] [] (ct_X2_howMuch l g tq1 fq1) mk_X2_howMuch mi_X2_howMuch wm_652 (by decide) (rv_2 Y rfl) rfl hl (Nat.le_of_ble_eq_true rfl) rfl dX7_plan_44 (Nat.zero_le _) (Nat.zero_le _) (fun H locs Y => ?_)
        refine r_goto X 58 dX7_plan_47 (by decide) ?_
        exact ret _ _ _ _ _ _ _ dX7_plan_58 Y (Or.inr ⟨by omega, hq1.1, hq1.2.1, hq1.2.2.1, hq1.2.2.2, (if_pos (by omega)).symm⟩)
  · refine r_ldc X (-1000000003) wm_510 (by decide) dX7_plan_7 ?_
    exact ret _ _ _ _ _ _ _ dX7_plan_9 Y (Or.inl ⟨by omega, rfl, rfl, rfl⟩)

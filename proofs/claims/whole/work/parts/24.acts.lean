/-! the class's acts by contract -/
set_option maxHeartbeats 4000000 in
set_option maxRecDepth 100000 in
theorem ct_X7_repair (l : Launch) (g : uG) (t : uN) (f : uF) (k : Int) (h : HI t f) (hP : PI t f) (hk0 : inI k) : cF_i l yX7_repair cX7_repair 3 (some .int) 6 g [.ref (g.1 + 0), .int (iV (k))] t f (repX t f k) (if repX t f k < 0 then t else repT t f k) (if repX t f k < 0 then f else putF t f) := by
  refine eF_i (by decide +kernel) (Nat.le_of_ble_eq_true rfl) ?_
  intro p e R s m args below meth c Q ls H locs X Y hl ret
  have X : uX p 6 R s m args c cX7_repair 3 RX7 := X
  have hl : lv_has ls 3 [(0, .ref (g.1 + 0)), (1, .int (iV (k)))] := hl
  have hb := h.b
  refine r_iload_n X dX7_repair_0 hl 1 rfl ?_
  refine r_iconst X dX7_repair_1 ?_
  refine r_icmp_lt X (tgt := 11) dX7_repair_2 (by decide) ⟨by omega, by omega⟩ ⟨by omega, by omega⟩ (fun c2 => ?_) (fun c2 => ?_)
  · refine r_ldc X (-1000000002) wm_297 (by decide) dX7_repair_11 ?_
    exact ret _ _ _ _ _ _ _ dX7_repair_13 Y (by have hq : repX t f k = (-1000000002) := (by unfold repX; repeat (first | rw [if_pos (by omega)] | rw [if_neg (by omega)])); exact ⟨hq.symm, by rw [hq, if_pos (by decide)], by rw [hq, if_pos (by decide)]⟩)
  · refine r_iload_n X dX7_repair_5 hl 1 rfl ?_
    refine r_bipush X 9 dX7_repair_6 (by decide) ?_
    refine r_icmp_le X (tgt := 14) dX7_repair_8 (by decide) ⟨by omega, by omega⟩ ⟨by omega, by omega⟩ (fun c8 => ?_) (fun c8 => ?_)
    · refine r_iload_n X dX7_repair_14 hl 1 rfl ?_
      refine r_aload_n X dX7_repair_15 hl 0 rfl ?_
      refine vF_i X Y [] [.int (iV (k))] (ct_X7_costHere l g t f h) mk_X7_costHere mi_X7_costHere wm_539 (by decide) (rv_7 Y rfl) rfl hl (Nat.le_of_ble_eq_true rfl) rfl dX7_repair_16 (Nat.zero_le _) (Nat.zero_le _) (fun H locs Y => ?_)
      have qc16 : 0 ≤ costX t f ∧ costX t f ≤ 99 := (h.leg (t 18 3)).2.2
      refine r_imul X dX7_repair_19 ?_
      have hm0 : 0 ≤ k * costX t f := Int.mul_nonneg (by omega) (by omega)
      have hm1 : k * costX t f ≤ 9 * 99 := Int.mul_le_mul (by omega) (by omega) (by omega) (by omega)
      refine r_istore_n X dX7_repair_20 hl [(2, .int (iV (k * (costX t f)))), (0, .ref (g.1 + 0)), (1, .int (iV (k)))] (by decide) rfl (fun ls hl => ?_)
      refine r_aload_n X dX7_repair_21 hl 1 rfl ?_
      refine vF_i X Y [] [] (ct_X7_isInPort l g t f h) mk_X7_isInPort mi_X7_isInPort wm_506 (by decide) (rv_7 Y rfl) rfl hl (Nat.le_of_ble_eq_true rfl) rfl dX7_repair_22 (Nat.zero_le _) (Nat.zero_le _) (fun H locs Y => ?_)
      have qp22 := inPortX_b t
      have qw22 := whereX_b h.b.1.2.2.2
      refine r_if_eq X (tgt := 53) dX7_repair_25 (by decide) ⟨by omega, by omega⟩ (fun c25 => ?_) (fun c25 => ?_)
      · refine r_ldc X (-1000000003) wm_510 (by decide) dX7_repair_53 ?_
        exact ret _ _ _ _ _ _ _ dX7_repair_55 Y (by have hq : repX t f k = (-1000000003) := (by unfold repX; repeat (first | rw [if_pos (by omega)] | rw [if_neg (by omega)])); exact ⟨hq.symm, by rw [hq, if_pos (by decide)], by rw [hq, if_pos (by decide)]⟩)
      · refine r_aload_n X dX7_repair_28 hl 1 rfl ?_
        refine g_7_3 (k := 0) X Y rfl wm_259 dX7_repair_29 ?_
        refine g_4_1 (k := 18) X Y rfl wm_164 dX7_repair_32 ?_
        refine r_iload_n X dX7_repair_35 hl 2 rfl ?_
        refine r_iadd X dX7_repair_36 ?_
        refine r_bipush X 9 dX7_repair_37 (by decide) ?_
        refine r_icmp_gt X (tgt := 53) dX7_repair_39 (by decide) ⟨by omega, by omega⟩ ⟨by omega, by omega⟩ (fun c39 => ?_) (fun c39 => ?_)
        · refine r_ldc X (-1000000003) wm_510 (by decide) dX7_repair_53 ?_
          exact ret _ _ _ _ _ _ _ dX7_repair_55 Y (by have hq : repX t f k = (-1000000003) := (by unfold repX; repeat (first | rw [if_pos (by omega)] | rw [if_neg (by omega)])); exact ⟨hq.symm, by rw [hq, if_pos (by decide)], by rw [hq, if_pos (by decide)]⟩)
        · refine r_aload_n X dX7_repair_42 hl 1 rfl ?_
          refine g_7_3 (k := 0) X Y rfl wm_259 dX7_repair_43 ?_
          refine g_4_2 (k := 18) X Y rfl wm_167 dX7_repair_46 ?_
          refine r_iload_n X dX7_repair_49 hl 0 rfl ?_
          refine r_icmp_ge X (tgt := 56) dX7_repair_50 (by decide) ⟨by omega, by omega⟩ ⟨by omega, by omega⟩ (fun c50 => ?_) (fun c50 => ?_)
          · refine r_aload_n X dX7_repair_56 hl 1 rfl ?_
            refine vF_v X Y [] [] (ct_X7_remember l g t f hP.1.1 hP.1.2 hP.2.1.1 hP.2.1.2 ((hP.2.2 (t 21 1).toNat (by have := hP.1; omega)).1) h.2.1 h.b.1.2.2.2) mk_X7_remember mi_X7_remember wm_511 (by decide) (rv_7 Y rfl) rfl hl (Nat.le_of_ble_eq_true rfl) rfl dX7_repair_57 (Nat.zero_le _) (Nat.zero_le _) (fun H locs Y => ?_)
            obtain ⟨tq1, htq1⟩ : ∃ q, q = up2 (putT t) 91 6 0 := ⟨_, rfl⟩
            obtain ⟨fq2, hfq2⟩ : ∃ q, q = putF t f := ⟨_, rfl⟩
            have Y : uY g 117 (cX g tq1 fq2) s H locs := by rw [htq1, hfq2]; exact Y
            have hr : tq1 = remT t := htq1
            have h_tq1 : HI tq1 fq2 := by rw [hr, hfq2]; exact h.rem hP
            have e18 : ∀ j, tq1 18 j = t 18 j := fun j => by rw [hr]; exact remT_off hP.1 (by omega) (by omega) j
            have e19 : tq1 19 3 = t 19 3 := by rw [hr]; exact remT_off hP.1 (by omega) (by omega) 3
            have e16 : tq1 16 3 = t 16 3 := by rw [hr]; exact remT_off hP.1 (by omega) (by omega) 3
            refine r_aload_n X dX7_repair_60 hl 1 rfl ?_
            refine g_7_3 (k := 0) X Y rfl wm_259 dX7_repair_61 ?_
            refine r_dup X dX7_repair_64 rfl ?_
            refine g_4_1 (k := 18) X Y rfl wm_164 dX7_repair_65 ?_
            refine r_iload_n X dX7_repair_68 hl 2 rfl ?_
            refine r_iadd X dX7_repair_69 ?_
            refine p_4_1 (k := 18) X Y rfl wm_164 dX7_repair_70 (fun H locs Y => ?_)
            obtain ⟨tq3, htq3⟩ : ∃ q, q = up2 tq1 18 1 ((tq1 18 1) + k) := ⟨_, rfl⟩
            have Y : uY g 117 (cX g tq3 fq2) s H locs := by rw [htq3]; exact Y
            refine r_aload_n X dX7_repair_73 hl 1 rfl ?_
            refine g_7_3 (k := 0) X Y rfl wm_259 dX7_repair_74 ?_
            refine r_dup X dX7_repair_77 rfl ?_
            refine g_4_2 (k := 18) X Y rfl wm_167 dX7_repair_78 ?_
            refine r_iload_n X dX7_repair_81 hl 0 rfl ?_
            refine r_isub X dX7_repair_82 ?_
            refine p_4_2 (k := 18) X Y rfl wm_167 dX7_repair_83 (fun H locs Y => ?_)
            obtain ⟨tq4, htq4⟩ : ∃ q, q = up2 tq3 18 2 ((tq3 18 2) - (k * (costX t f))) := ⟨_, rfl⟩
            have Y : uY g 117 (cX g tq4 fq2) s H locs := by rw [htq4]; exact Y
            refine r_aload_n X dX7_repair_86 hl 1 rfl ?_
            refine g_7_3 (k := 0) X Y rfl wm_259 dX7_repair_87 ?_
            refine g_4_1 (k := 18) X Y rfl wm_164 dX7_repair_90 ?_
            have e1 : tq4 18 1 = t 18 1 + k := by rw [htq4, up2_j _ _ _ (by decide), htq3, up2_s, e18]
            exact ret _ _ _ _ _ _ _ dX7_repair_93 Y (by have hq : repX t f k = t 18 1 + k := (by unfold repX; rw [if_neg (by omega), if_pos ⟨by omega, by omega, by omega⟩]); exact ⟨by rw [hq, e1], by rw [hq, if_neg (by omega), htq4, htq3, up2_j _ _ _ (by decide), e18, e18, hr]; rfl, by rw [hq, if_neg (by omega)]; exact hfq2⟩)
          · refine r_ldc X (-1000000003) wm_510 (by decide) dX7_repair_53 ?_
            exact ret _ _ _ _ _ _ _ dX7_repair_55 Y (by have hq : repX t f k = (-1000000003) := (by unfold repX; repeat (first | rw [if_pos (by omega)] | rw [if_neg (by omega)])); exact ⟨hq.symm, by rw [hq, if_pos (by decide)], by rw [hq, if_pos (by decide)]⟩)
    · refine r_ldc X (-1000000002) wm_297 (by decide) dX7_repair_11 ?_
      exact ret _ _ _ _ _ _ _ dX7_repair_13 Y (by have hq : repX t f k = (-1000000002) := (by unfold repX; repeat (first | rw [if_pos (by omega)] | rw [if_neg (by omega)])); exact ⟨hq.symm, by rw [hq, if_pos (by decide)], by rw [hq, if_pos (by decide)]⟩)
set_option maxHeartbeats 4000000 in
set_option maxRecDepth 100000 in
theorem ct_X7_sail (l : Launch) (g : uG) (t : uN) (f : uF) (c0 : Int) (h : HI t f) (hP : PI t f) (hc0 : c0 = 0 ∨ c0 = 1) : cF_i l yX7_sail cX7_sail 2 (some .int) 6 g [.ref (g.1 + 0), .int (iV (c0))] t f (saiX t c0) (if saiX t c0 < 0 then t else sailT (remT t) 18 c0) (if saiX t c0 < 0 then f else putF t f) := by
  refine eF_i (by decide +kernel) (Nat.le_of_ble_eq_true rfl) ?_
  intro p e R s m args below meth c Q ls H locs X Y hl ret
  have X : uX p 6 R s m args c cX7_sail 2 RX7 := X
  have hl : lv_has ls 2 [(0, .ref (g.1 + 0)), (1, .int (iV (c0)))] := hl
  have hb := h.b
  refine r_aload_n X dX7_sail_0 hl 0 rfl ?_
  refine vF_i X Y [] [] (ct_X7_isInPort l g t f h) mk_X7_isInPort mi_X7_isInPort wm_506 (by decide) (rv_7 Y rfl) rfl hl (Nat.le_of_ble_eq_true rfl) rfl dX7_sail_1 (Nat.zero_le _) (Nat.zero_le _) (fun H locs Y => ?_)
  have qp1 := inPortX_b t
  have qw1 := whereX_b h.b.1.2.2.2
  refine r_if_ne X (tgt := 10) dX7_sail_4 (by decide) ⟨by omega, by omega⟩ (fun c4 => ?_) (fun c4 => ?_)
  · refine r_aload_n X dX7_sail_10 hl 0 rfl ?_
    refine vF_v X Y [] [] (ct_X7_remember l g t f hP.1.1 hP.1.2 hP.2.1.1 hP.2.1.2 ((hP.2.2 (t 21 1).toNat (by have := hP.1; omega)).1) h.2.1 h.b.1.2.2.2) mk_X7_remember mi_X7_remember wm_511 (by decide) (rv_7 Y rfl) rfl hl (Nat.le_of_ble_eq_true rfl) rfl dX7_sail_11 (Nat.zero_le _) (Nat.zero_le _) (fun H locs Y => ?_)
    obtain ⟨tq1, htq1⟩ : ∃ q, q = up2 (putT t) 91 6 0 := ⟨_, rfl⟩
    obtain ⟨fq2, hfq2⟩ : ∃ q, q = putF t f := ⟨_, rfl⟩
    have Y : uY g 117 (cX g tq1 fq2) s H locs := by rw [htq1, hfq2]; exact Y
    have hr : tq1 = remT t := htq1
    have h_tq1 : HI tq1 fq2 := by rw [hr, hfq2]; exact h.rem hP
    have e18 : ∀ j, tq1 18 j = t 18 j := fun j => by rw [hr]; exact remT_off hP.1 (by omega) (by omega) j
    have e19 : tq1 19 3 = t 19 3 := by rw [hr]; exact remT_off hP.1 (by omega) (by omega) 3
    have e16 : tq1 16 3 = t 16 3 := by rw [hr]; exact remT_off hP.1 (by omega) (by omega) 3
    refine r_aload_n X dX7_sail_14 hl 0 rfl ?_
    refine g_7_3 (k := 0) X Y rfl wm_259 dX7_sail_15 ?_
    refine r_iload_n X dX7_sail_18 hl 1 rfl ?_
    refine vF_v X Y [.int (iV (c0))] [] (ct_X4_sailOn l g tq1 fq2 18 c0 rfl (by rw [e18]; exact hb.1.1) (by omega)) mk_X4_sailOn mi_X4_sailOn wm_547 (by decide) (rv_4 Y rfl) rfl hl (Nat.le_of_ble_eq_true rfl) rfl dX7_sail_19 (Nat.zero_le _) (Nat.zero_le _) (fun H locs Y => ?_)
    obtain ⟨tq3, htq3⟩ : ∃ q, q = sailT tq1 18 c0 := ⟨_, rfl⟩
    have Y : uY g 117 (cX g tq3 fq2) s H locs := by rw [htq3]; exact Y
    refine r_aload_n X dX7_sail_22 hl 0 rfl ?_
    refine g_7_3 (k := 0) X Y rfl wm_259 dX7_sail_23 ?_
    refine g_4_3 (k := 18) X Y rfl wm_170 dX7_sail_26 ?_
    have e1 : tq3 18 3 = if c0 = 0 then t 18 3 else t 18 3 + 1 := by rw [htq3, sailT_3, e18]
    exact ret _ _ _ _ _ _ _ dX7_sail_29 Y (by have hq : saiX t c0 = if c0 = 0 then t 18 3 else t 18 3 + 1 := (by unfold saiX; rw [if_neg (by omega)]); have hn : ¬ saiX t c0 < 0 := (by rw [hq]; split <;> omega); exact ⟨by rw [hq, e1], by rw [if_neg hn, htq3, hr], by rw [if_neg hn]; exact hfq2⟩)
  · refine r_ldc X (-1000000003) wm_510 (by decide) dX7_sail_7 ?_
    exact ret _ _ _ _ _ _ _ dX7_sail_9 Y (by have hq : saiX t c0 = (-1000000003) := (by unfold saiX; repeat (first | rw [if_pos (by omega)] | rw [if_neg (by omega)])); exact ⟨hq.symm, by rw [hq, if_pos (by decide)], by rw [hq, if_pos (by decide)]⟩)
set_option maxHeartbeats 4000000 in
set_option maxRecDepth 100000 in
theorem ct_X7_drift (l : Launch) (g : uG) (t : uN) (f : uF) (n : Int) (h : HI t f) (hP : PI t f) (hn : inI n) (hs0 : 0 ≤ t 0 11 ∧ t 0 11 ≤ 2147483647) : cF_i l yX7_drift cX7_drift 4 (some .int) 6 g [.ref (g.1 + 0), .int (iV (n))] t f (driX t f n) (if driX t f n < 0 then t else driN (putF t f) n.toNat (remT t)) (if driX t f n < 0 then f else putF t f) := by
  refine eF_i (by decide +kernel) (Nat.le_of_ble_eq_true rfl) ?_
  intro p e R s m args below meth c Q ls H locs X Y hl ret
  have X : uX p 6 R s m args c cX7_drift 4 RX7 := X
  have hl : lv_has ls 4 [(0, .ref (g.1 + 0)), (1, .int (iV (n)))] := hl
  have hb := h.b
  refine r_iload_n X dX7_drift_0 hl 1 rfl ?_
  refine r_iconst X dX7_drift_1 ?_
  refine r_icmp_lt X (tgt := 11) dX7_drift_2 (by decide) ⟨by omega, by omega⟩ ⟨by omega, by omega⟩ (fun c2 => ?_) (fun c2 => ?_)
  · refine r_ldc X (-1000000002) wm_297 (by decide) dX7_drift_11 ?_
    exact ret _ _ _ _ _ _ _ dX7_drift_13 Y (by have hq : driX t f n = (-1000000002) := (by unfold driX; repeat (first | rw [if_pos (by omega)] | rw [if_neg (by omega)])); exact ⟨hq.symm, by rw [hq, if_pos (by decide)], by rw [hq, if_pos (by decide)]⟩)
  · refine r_iload_n X dX7_drift_5 hl 1 rfl ?_
    refine r_bipush X 7 dX7_drift_6 (by decide) ?_
    refine r_icmp_le X (tgt := 14) dX7_drift_8 (by decide) ⟨by omega, by omega⟩ ⟨by omega, by omega⟩ (fun c8 => ?_) (fun c8 => ?_)
    · refine r_aload_n X dX7_drift_14 hl 0 rfl ?_
      refine vF_i X Y [] [] (ct_X7_isInPort l g t f h) mk_X7_isInPort mi_X7_isInPort wm_506 (by decide) (rv_7 Y rfl) rfl hl (Nat.le_of_ble_eq_true rfl) rfl dX7_drift_15 (Nat.zero_le _) (Nat.zero_le _) (fun H locs Y => ?_)
      have qp15 := inPortX_b t
      have qw15 := whereX_b h.b.1.2.2.2
      refine r_if_ne X (tgt := 24) dX7_drift_18 (by decide) ⟨by omega, by omega⟩ (fun c18 => ?_) (fun c18 => ?_)
      · refine r_aload_n X dX7_drift_24 hl 0 rfl ?_
        refine vF_v X Y [] [] (ct_X7_remember l g t f hP.1.1 hP.1.2 hP.2.1.1 hP.2.1.2 ((hP.2.2 (t 21 1).toNat (by have := hP.1; omega)).1) h.2.1 h.b.1.2.2.2) mk_X7_remember mi_X7_remember wm_511 (by decide) (rv_7 Y rfl) rfl hl (Nat.le_of_ble_eq_true rfl) rfl dX7_drift_25 (Nat.zero_le _) (Nat.zero_le _) (fun H locs Y => ?_)
        obtain ⟨tq1, htq1⟩ : ∃ q, q = up2 (putT t) 91 6 0 := ⟨_, rfl⟩
        obtain ⟨fq2, hfq2⟩ : ∃ q, q = putF t f := ⟨_, rfl⟩
        have Y : uY g 117 (cX g tq1 fq2) s H locs := by rw [htq1, hfq2]; exact Y
        have hr : tq1 = remT t := htq1
        have h_tq1 : HI tq1 fq2 := by rw [hr, hfq2]; exact h.rem hP
        have e18 : ∀ j, tq1 18 j = t 18 j := fun j => by rw [hr]; exact remT_off hP.1 (by omega) (by omega) j
        have e19 : tq1 19 3 = t 19 3 := by rw [hr]; exact remT_off hP.1 (by omega) (by omega) 3
        have e16 : tq1 16 3 = t 16 3 := by rw [hr]; exact remT_off hP.1 (by omega) (by omega) 3
        have e0 : tq1 0 11 = t 0 11 := by rw [hr]; exact remT_off hP.1 (by omega) (by omega) 11
        refine r_iconst X dX7_drift_28 ?_
        refine r_istore_n X dX7_drift_29 hl [(2, .int (iV (0))), (0, .ref (g.1 + 0)), (1, .int (iV (n)))] (by decide) rfl (fun ls hl => ?_)
        have loop30 : ∀ (N : Nat) (i : Int) (tz : uN) (hi0 : 0 ≤ i) (hi1 : i ≤ n) (hz : HI tz fq2) (hs : 0 ≤ tz 0 11 ∧ tz 0 11 ≤ 2147483647) (he : driN fq2 (n - i).toNat tz = driN fq2 n.toNat tq1) (H : Heap) (locs : List Loc) (ls : Array Slot), (n - i).toNat < N → uY g 117 (cX g tz fq2) s H locs → lv_has ls 4 [(2, .int (iV (i))), (0, .ref (g.1 + 0)), (1, .int (iV (n)))] → W p l e R s m args below meth c H locs 0 0 Q (F0 m 30 ls []) := by
          intro N
          induction N with
          | zero => intro i tz hi0 hi1 hz hs he H locs ls hmu Y hl; exact absurd hmu (Nat.not_lt_zero _)
          | succ N ih =>
            intro i tz hi0 hi1 hz hs he H locs ls hmu Y hl
            have hb2 := hz.b
            have ho2 := oddX_rng hz.1 (tz 18 3) (tz 18 1) hb2.1.1.1 hb2.1.1.2
            refine r_iload_n X dX7_drift_30 hl 0 rfl ?_
            refine r_iload_n X dX7_drift_31 hl 2 rfl ?_
            refine r_icmp_ge X (tgt := 90) dX7_drift_32 (by decide) ⟨by omega, by omega⟩ ⟨by omega, by omega⟩ (fun c32 => ?_) (fun c32 => ?_)
            · refine r_aload_n X dX7_drift_90 hl 1 rfl ?_
              refine vF_i X Y [] [] (ct_X7_whereSheIs l g tz fq2 hz) mk_X7_whereSheIs mi_X7_whereSheIs wm_437 (by decide) (rv_7 Y rfl) rfl hl (Nat.le_of_ble_eq_true rfl) rfl dX7_drift_91 (Nat.zero_le _) (Nat.zero_le _) (fun H locs Y => ?_)
              have qw91 := whereX_b hz.b.1.2.2.2
              exact ret _ _ _ _ _ _ _ dX7_drift_94 Y (by have hd : driN (putF t f) n.toNat (remT t) = tz := (by rw [← hr, ← hfq2, ← he]; first | (rw [show (n - i).toNat = 0 by omega]; rfl) | (rw [show (n - i).toNat = (n - (i + 1)).toNat + 1 by omega, driN, if_neg (by omega)])); have hq : driX t f n = whereX tz := (by unfold driX; rw [if_neg (by omega), if_neg (by omega), hd]); have hn2 : ¬ driX t f n < 0 := (by rw [hq]; omega); exact ⟨hq.symm, by rw [if_neg hn2, hd], by rw [if_neg hn2]; exact hfq2⟩)
            · refine r_aload_n X dX7_drift_35 hl 1 rfl ?_
              refine vF_i X Y [] [] (ct_X7_isInPort l g tz fq2 hz) mk_X7_isInPort mi_X7_isInPort wm_506 (by decide) (rv_7 Y rfl) rfl hl (Nat.le_of_ble_eq_true rfl) rfl dX7_drift_36 (Nat.zero_le _) (Nat.zero_le _) (fun H locs Y => ?_)
              have qp36 := inPortX_b tz
              have qw36 := whereX_b hz.b.1.2.2.2
              refine r_if_eq X (tgt := 90) dX7_drift_39 (by decide) ⟨by omega, by omega⟩ (fun c39 => ?_) (fun c39 => ?_)
              · refine r_aload_n X dX7_drift_90 hl 1 rfl ?_
                refine vF_i X Y [] [] (ct_X7_whereSheIs l g tz fq2 hz) mk_X7_whereSheIs mi_X7_whereSheIs wm_437 (by decide) (rv_7 Y rfl) rfl hl (Nat.le_of_ble_eq_true rfl) rfl dX7_drift_91 (Nat.zero_le _) (Nat.zero_le _) (fun H locs Y => ?_)
                have qw91 := whereX_b hz.b.1.2.2.2
                exact ret _ _ _ _ _ _ _ dX7_drift_94 Y (by have hd : driN (putF t f) n.toNat (remT t) = tz := (by rw [← hr, ← hfq2, ← he]; first | (rw [show (n - i).toNat = 0 by omega]; rfl) | (rw [show (n - i).toNat = (n - (i + 1)).toNat + 1 by omega, driN, if_neg (by omega)])); have hq : driX t f n = whereX tz := (by unfold driX; rw [if_neg (by omega), if_neg (by omega), hd]); have hn2 : ¬ driX t f n < 0 := (by rw [hq]; omega); exact ⟨hq.symm, by rw [if_neg hn2, hd], by rw [if_neg hn2]; exact hfq2⟩)
              · refine r_aload_n X dX7_drift_42 hl 1 rfl ?_
                refine g_7_2 (k := 0) X Y rfl wm_258 dX7_drift_43 ?_
                refine r_aload_n X dX7_drift_46 hl 1 rfl ?_
                refine g_7_3 (k := 0) X Y rfl wm_259 dX7_drift_47 ?_
                refine g_4_3 (k := 18) X Y rfl wm_170 dX7_drift_50 ?_
                refine r_aload_n X dX7_drift_53 hl 1 rfl ?_
                refine g_7_3 (k := 0) X Y rfl wm_259 dX7_drift_54 ?_
                refine g_4_1 (k := 18) X Y rfl wm_164 dX7_drift_57 ?_
                refine vF_i X Y [.int (iV (tz 18 3)), .int (iV (tz 18 1))] [] (ct_X6_oddsOf l g tz fq2 11 (tz 18 3) (tz 18 1) rfl hz.1 ⟨by omega, by omega⟩ (by omega) (by omega)) mk_X6_oddsOf mi_X6_oddsOf wm_472 (by decide) (rv_6 Y rfl) rfl hl (Nat.le_of_ble_eq_true rfl) rfl dX7_drift_60 (Nat.zero_le _) (Nat.zero_le _) (fun H locs Y => ?_)
                have hq0 : 0 ≤ tz 18 3 ∧ tz 18 3 < tz 14 3 := by omega
                refine r_istore_n X dX7_drift_63 hl [(3, .int (iV (oddX tz fq2 11 (tz 18 3) (tz 18 1)))), (2, .int (iV (i))), (0, .ref (g.1 + 0)), (1, .int (iV (n)))] (by decide) rfl (fun ls hl => ?_)
                refine r_aload_n X dX7_drift_64 hl 2 rfl ?_
                refine g_7_3 (k := 0) X Y rfl wm_259 dX7_drift_65 ?_
                refine r_aload_n X dX7_drift_68 hl 2 rfl ?_
                refine vF_i X Y [] [.ref (g.1 + 18)] (ct_X7_drawOfHundred l g tz fq2 (by omega) (by omega)) mk_X7_drawOfHundred mi_X7_drawOfHundred wm_556 (by decide) (rv_7 Y rfl) rfl hl (Nat.le_of_ble_eq_true rfl) rfl dX7_drift_69 (Nat.zero_le _) (Nat.zero_le _) (fun H locs Y => ?_)
                obtain ⟨tq3, htq3⟩ : ∃ q, q = up2 tz 0 11 (nextS (tz 0 11)) := ⟨_, rfl⟩
                have Y : uY g 117 (cX g tq3 fq2) s H locs := by rw [htq3]; exact Y
                have hdx := drawX_rng tz
                unfold drawX at hdx
                have hu : ∀ j, tq3 18 j = tz 18 j := fun j => by rw [htq3, up2_k _ _ _ _ (by decide)]
                refine r_iload_n X dX7_drift_72 hl 0 rfl ?_
                refine r_icmp_lt X (tgt := 80) dX7_drift_73 (by decide) ⟨by omega, by omega⟩ ⟨by omega, by omega⟩ (fun c73 => ?_) (fun c73 => ?_)
                · refine r_iconst X dX7_drift_80 ?_
                  refine vF_v X Y [.int (iV (0))] [] (ct_X4_sailOn l g tq3 fq2 18 0 rfl (by rw [hu]; exact hb2.1.1) (by omega)) mk_X4_sailOn mi_X4_sailOn wm_547 (by decide) (rv_4 Y rfl) rfl hl (Nat.le_of_ble_eq_true rfl) rfl dX7_drift_81 (Nat.zero_le _) (Nat.zero_le _) (fun H locs Y => ?_)
                  obtain ⟨tq4, htq4⟩ : ∃ q, q = sailT tq3 18 0 := ⟨_, rfl⟩
                  have Y : uY g 117 (cX g tq4 fq2) s H locs := by rw [htq4]; exact Y
                  have hY : tq4 = dri1 tz fq2 := by rw [htq4, htq3]; unfold dri1 drawX; (first | rw [if_pos (by omega)] | rw [if_neg (by omega)])
                  rw [hY] at Y
                  refine r_iinc X dX7_drift_84 hl 1 rfl [(2, .int (iV (i + 1))), (3, .int (iV (oddX tz fq2 11 (tz 18 3) (tz 18 1)))), (0, .ref (g.1 + 0)), (1, .int (iV (n)))] (by decide) rfl (fun ls hl => ?_)
                  refine r_goto X 30 dX7_drift_87 (by decide) ?_
                  exact ih (i + 1) (dri1 tz fq2) (by omega) (by omega) (hz.dri (by omega)) (by rw [dri1_seed]; exact nextS_rng _) (by rw [← he, show (n - i).toNat = (n - (i + 1)).toNat + 1 by omega, driN, if_pos (by omega)]) _ _ _ (by omega) Y (lv_sub hl [0, 2, 3] rfl)
                · refine r_iconst X dX7_drift_76 ?_
                  refine r_goto X 81 dX7_drift_77 (by decide) ?_
                  refine vF_v X Y [.int (iV (1))] [] (ct_X4_sailOn l g tq3 fq2 18 1 rfl (by rw [hu]; exact hb2.1.1) (by omega)) mk_X4_sailOn mi_X4_sailOn wm_547 (by decide) (rv_4 Y rfl) rfl hl (Nat.le_of_ble_eq_true rfl) rfl dX7_drift_81 (Nat.zero_le _) (Nat.zero_le _) (fun H locs Y => ?_)
                  obtain ⟨tq4, htq4⟩ : ∃ q, q = sailT tq3 18 1 := ⟨_, rfl⟩
                  have Y : uY g 117 (cX g tq4 fq2) s H locs := by rw [htq4]; exact Y
                  have hY : tq4 = dri1 tz fq2 := by rw [htq4, htq3]; unfold dri1 drawX; (first | rw [if_pos (by omega)] | rw [if_neg (by omega)])
                  rw [hY] at Y
                  refine r_iinc X dX7_drift_84 hl 1 rfl [(2, .int (iV (i + 1))), (3, .int (iV (oddX tz fq2 11 (tz 18 3) (tz 18 1)))), (0, .ref (g.1 + 0)), (1, .int (iV (n)))] (by decide) rfl (fun ls hl => ?_)
                  refine r_goto X 30 dX7_drift_87 (by decide) ?_
                  exact ih (i + 1) (dri1 tz fq2) (by omega) (by omega) (hz.dri (by omega)) (by rw [dri1_seed]; exact nextS_rng _) (by rw [← he, show (n - i).toNat = (n - (i + 1)).toNat + 1 by omega, driN, if_pos (by omega)]) _ _ _ (by omega) Y (lv_sub hl [0, 2, 3] rfl)
        exact loop30 (((n - 0).toNat) + 1) 0 tq1 (by omega) (by omega) h_tq1 (by rw [e0]; exact hs0) (by rw [show n - 0 = n by omega]) _ _ _ (Nat.lt_succ_self _) Y (lv_sub hl [0, 1, 2] rfl)
      · refine r_ldc X (-1000000003) wm_510 (by decide) dX7_drift_21 ?_
        exact ret _ _ _ _ _ _ _ dX7_drift_23 Y (by have hq : driX t f n = (-1000000003) := (by unfold driX; repeat (first | rw [if_pos (by omega)] | rw [if_neg (by omega)])); exact ⟨hq.symm, by rw [hq, if_pos (by decide)], by rw [hq, if_pos (by decide)]⟩)
    · refine r_ldc X (-1000000002) wm_297 (by decide) dX7_drift_11 ?_
      exact ret _ _ _ _ _ _ _ dX7_drift_13 Y (by have hq : driX t f n = (-1000000002) := (by unfold driX; repeat (first | rw [if_pos (by omega)] | rw [if_neg (by omega)])); exact ⟨hq.symm, by rw [hq, if_pos (by decide)], by rw [hq, if_pos (by decide)]⟩)
set_option maxHeartbeats 4000000 in
set_option maxRecDepth 100000 in
theorem ct_X7_undo (l : Launch) (g : uG) (t : uN) (f : uF)  (h : HI t f) (hP : PI t f) : cF_i l yX7_undo cX7_undo 1 (some .int) 5 g [.ref (g.1 + 0)] t f (undX t) (if undX t < 0 then t else undT t) (if undX t < 0 then f else takF t f) := by
  refine eF_i (by decide +kernel) (Nat.le_of_ble_eq_true rfl) ?_
  intro p e R s m args below meth c Q ls H locs X Y hl ret
  have X : uX p 5 R s m args c cX7_undo 1 RX7 := X
  have hl : lv_has ls 1 [(0, .ref (g.1 + 0))] := hl
  have hb := h.b
  have hp1 := hP.1
  have hp2 := hP.2.1
  have hlt : 0 ≤ latC t ∧ latC t < 20 := by unfold latC; split <;> omega
  refine r_aload_n X dX7_undo_0 hl 0 rfl ?_
  refine g_7_4 (k := 0) X Y rfl wm_260 dX7_undo_1 ?_
  refine vF_i X Y [] [] (ct_X1_acts l g t f) mk_X1_acts mi_X1_acts wm_463 (by decide) (rv_1 Y rfl) rfl hl (Nat.le_of_ble_eq_true rfl) rfl dX7_undo_4 (Nat.zero_le _) (Nat.zero_le _) (fun H locs Y => ?_)
  refine r_if_ne X (tgt := 13) dX7_undo_7 (by decide) ⟨by omega, by omega⟩ (fun c7 => ?_) (fun c7 => ?_)
  · refine r_aload_n X dX7_undo_13 hl 0 rfl ?_
    refine g_7_4 (k := 0) X Y rfl wm_260 dX7_undo_14 ?_
    refine r_aload_n X dX7_undo_17 hl 0 rfl ?_
    refine g_7_3 (k := 0) X Y rfl wm_259 dX7_undo_18 ?_
    refine vF_v X Y [.ref (g.1 + 18)] [] (ct_X1_takeBack l g t f hP.1.1 hP.1.2 (by omega) hP.2.1.2 ((hP.2.2 (latC t).toNat (by omega)).1) h.2.1 ((hP.2.2 (latC t).toNat (by omega)).2.2.2.2.1)) mk_X1_takeBack mi_X1_takeBack wm_568 (by decide) (rv_1 Y rfl) rfl hl (Nat.le_of_ble_eq_true rfl) rfl dX7_undo_21 (Nat.zero_le _) (Nat.zero_le _) (fun H locs Y => ?_)
    obtain ⟨tq1, htq1⟩ : ∃ q, q = takT t := ⟨_, rfl⟩
    obtain ⟨fq2, hfq2⟩ : ∃ q, q = takF t f := ⟨_, rfl⟩
    have Y : uY g 117 (cX g tq1 fq2) s H locs := by rw [htq1, hfq2]; exact Y
    refine r_aload_n X dX7_undo_24 hl 0 rfl ?_
    refine g_7_7 (k := 0) X Y rfl wm_263 dX7_undo_25 ?_
    refine vF_v X Y [] [] (ct_X2_forget l g tq1 fq2) mk_X2_forget mi_X2_forget wm_424 (by decide) (rv_2 Y rfl) rfl hl (Nat.le_of_ble_eq_true rfl) rfl dX7_undo_28 (Nat.zero_le _) (Nat.zero_le _) (fun H locs Y => ?_)
    obtain ⟨tq3, htq3⟩ : ∃ q, q = up2 tq1 91 6 0 := ⟨_, rfl⟩
    have Y : uY g 117 (cX g tq3 fq2) s H locs := by rw [htq3]; exact Y
    refine r_aload_n X dX7_undo_31 hl 0 rfl ?_
    refine g_7_4 (k := 0) X Y rfl wm_260 dX7_undo_32 ?_
    refine vF_i X Y [] [] (ct_X1_acts l g tq3 fq2) mk_X1_acts mi_X1_acts wm_463 (by decide) (rv_1 Y rfl) rfl hl (Nat.le_of_ble_eq_true rfl) rfl dX7_undo_35 (Nat.zero_le _) (Nat.zero_le _) (fun H locs Y => ?_)
    have e1 : tq3 21 2 = t 21 2 - 1 := by rw [htq3, up2_k _ _ _ _ (by decide), htq1]; unfold takT; simp only []; rw [up2_s, up2_j _ _ _ (by decide), sheCp_off (by decide) (by decide)]
    exact ret _ _ _ _ _ _ _ dX7_undo_38 Y (by have hq : undX t = t 21 2 - 1 := (by unfold undX; rw [if_neg (by omega)]); exact ⟨by rw [hq, e1], by rw [hq, if_neg (by omega), htq3, htq1]; rfl, by rw [hq, if_neg (by omega)]; exact hfq2⟩)
  · refine r_ldc X (-1000000003) wm_510 (by decide) dX7_undo_10 ?_
    exact ret _ _ _ _ _ _ _ dX7_undo_12 Y (by have hq : undX t = (-1000000003) := (by unfold undX; repeat (first | rw [if_pos (by omega)] | rw [if_neg (by omega)])); exact ⟨hq.symm, by rw [hq, if_pos (by decide)], by rw [hq, if_pos (by decide)]⟩)
set_option maxHeartbeats 4000000 in
set_option maxRecDepth 100000 in
theorem ct_X7_tell (l : Launch) (g : uG) (t : uN) (f : uF) (i v : Int) (h : HI t f) (h96 : tOK t 96) (hi : inI i) (hv : inI v) : cF_i l yX7_tell cX7_tell 4 (some .int) 4 g [.ref (g.1 + 0), .int (iV (i)), .int (iV (v))] t f (telX t i v) (if telX t i v < 0 then t else up2 t 96 3 (t 96 3 + 1)) (if telX t i v < 0 then f else upA (upA f 97 (t 96 3 * 2 + 0) i) 97 (t 96 3 * 2 + 1) v) := by
  refine eF_i (by decide +kernel) (Nat.le_of_ble_eq_true rfl) ?_
  intro p e R s m args below meth c Q ls H locs X Y hl ret
  have X : uX p 4 R s m args c cX7_tell 4 RX7 := X
  have hl : lv_has ls 4 [(0, .ref (g.1 + 0)), (1, .int (iV (i))), (2, .int (iV (v)))] := hl
  have hb := h.b
  have hh : 0 ≤ t 96 3 ∧ t 96 3 ≤ 6 := h96
  refine r_aload_n X dX7_tell_0 hl 0 rfl ?_
  refine g_7_3 (k := 0) X Y rfl wm_259 dX7_tell_1 ?_
  refine g_4_0 (k := 18) X Y rfl wm_162 dX7_tell_4 ?_
  refine r_iload_n X dX7_tell_7 hl 1 rfl ?_
  refine vF_i X Y [.int (iV (i))] [] (ct_X5_has l g t f 19 i rfl h.2.1 ⟨by omega, by omega⟩) mk_X5_has mi_X5_has wm_441 (by decide) (rv_5 Y rfl) rfl hl (Nat.le_of_ble_eq_true rfl) rfl dX7_tell_8 (Nat.zero_le _) (Nat.zero_le _) (fun H locs Y => ?_)
  have qb8 := thas_b t 19 i
  refine r_if_ne X (tgt := 17) dX7_tell_11 (by decide) ⟨by omega, by omega⟩ (fun c11 => ?_) (fun c11 => ?_)
  · refine r_iload_n X dX7_tell_17 hl 2 rfl ?_
    refine r_if_lt X (tgt := 28) dX7_tell_18 (by decide) ⟨by omega, by omega⟩ (fun c18 => ?_) (fun c18 => ?_)
    · refine r_ldc X (-1000000002) wm_297 (by decide) dX7_tell_28 ?_
      exact ret _ _ _ _ _ _ _ dX7_tell_30 Y (by have hq : telX t i v = (-1000000002) := (by unfold telX; repeat (first | rw [if_pos (by omega)] | rw [if_neg (by omega)])); exact ⟨hq.symm, by rw [hq, if_pos (by decide)], by rw [hq, if_pos (by decide)]⟩)
    · refine r_iload_n X dX7_tell_21 hl 2 rfl ?_
      refine r_sipush X 9999 dX7_tell_22 (by decide) ?_
      refine r_icmp_le X (tgt := 31) dX7_tell_25 (by decide) ⟨by omega, by omega⟩ ⟨by omega, by omega⟩ (fun c25 => ?_) (fun c25 => ?_)
      · refine r_aload_n X dX7_tell_31 hl 0 rfl ?_
        refine g_7_8 (k := 0) X Y rfl wm_264 dX7_tell_32 ?_
        refine vF_i X Y [] [] (ct_X5_isFull l g t f 96 rfl h96) mk_X5_isFull mi_X5_isFull wm_298 (by decide) (rv_5 Y rfl) rfl hl (Nat.le_of_ble_eq_true rfl) rfl dX7_tell_35 (Nat.zero_le _) (Nat.zero_le _) (fun H locs Y => ?_)
        have qb35 := tfull_b t 96
        have qm35 : tm 96 = 6 := rfl
        refine r_if_eq X (tgt := 44) dX7_tell_38 (by decide) ⟨by omega, by omega⟩ (fun c38 => ?_) (fun c38 => ?_)
        · refine r_aload_n X dX7_tell_44 hl 0 rfl ?_
          refine g_7_8 (k := 0) X Y rfl wm_264 dX7_tell_45 ?_
          refine vF_i X Y [] [] (ct_X5_open l g t f 96 rfl h96) mk_X5_open mi_X5_open wm_529 (by decide) (rv_5 Y rfl) rfl hl (Nat.le_of_ble_eq_true rfl) rfl dX7_tell_48 (Nat.zero_le _) (Nat.zero_le _) (fun H locs Y => ?_)
          obtain ⟨tq1, htq1⟩ : ∃ q, q = topenT t 96 := ⟨_, rfl⟩
          have Y : uY g 117 (cX g tq1 f) s H locs := by rw [htq1]; exact Y
          have ho : topenT t 96 = up2 t 96 3 (t 96 3 + 1) := if_neg (by omega)
          have hr : topenR t 96 = t 96 3 := if_neg (by omega)
          have e3 : tq1 96 3 = t 96 3 + 1 := by rw [htq1, ho, up2_s]
          have h2 : tOK tq1 96 := by rw [htq1]; exact topenT_ok h96
          refine r_istore_n X dX7_tell_51 hl [(3, .int (iV (topenR t 96))), (0, .ref (g.1 + 0)), (1, .int (iV (i))), (2, .int (iV (v)))] (by decide) rfl (fun ls hl => ?_)
          refine r_aload_n X dX7_tell_52 hl 1 rfl ?_
          refine g_7_8 (k := 0) X Y rfl wm_264 dX7_tell_53 ?_
          refine r_iload_n X dX7_tell_56 hl 0 rfl ?_
          refine r_iconst X dX7_tell_57 ?_
          refine r_iload_n X dX7_tell_58 hl 2 rfl ?_
          refine vF_v X Y [.int (iV (topenR t 96)), .int (iV (0)), .int (iV (i))] [] (ct_X5_set l g tq1 f 96 (topenR t 96) 0 i rfl h2 ⟨by omega, by omega⟩ ⟨by omega, by omega⟩) mk_X5_set mi_X5_set wm_530 (by decide) (rv_5 Y rfl) rfl hl (Nat.le_of_ble_eq_true rfl) rfl dX7_tell_59 (Nat.zero_le _) (Nat.zero_le _) (fun H locs Y => ?_)
          obtain ⟨fq2, hfq2⟩ : ∃ q, q = tset tq1 f 96 (topenR t 96) 0 i := ⟨_, rfl⟩
          have Y : uY g 117 (cX g tq1 fq2) s H locs := by rw [hfq2]; exact Y
          refine r_aload_n X dX7_tell_62 hl 1 rfl ?_
          refine g_7_8 (k := 0) X Y rfl wm_264 dX7_tell_63 ?_
          refine r_iload_n X dX7_tell_66 hl 0 rfl ?_
          refine r_iconst X dX7_tell_67 ?_
          refine r_iload_n X dX7_tell_68 hl 3 rfl ?_
          refine vF_v X Y [.int (iV (topenR t 96)), .int (iV (1)), .int (iV (v))] [] (ct_X5_set l g tq1 fq2 96 (topenR t 96) 1 v rfl h2 ⟨by omega, by omega⟩ ⟨by omega, by omega⟩) mk_X5_set mi_X5_set wm_530 (by decide) (rv_5 Y rfl) rfl hl (Nat.le_of_ble_eq_true rfl) rfl dX7_tell_69 (Nat.zero_le _) (Nat.zero_le _) (fun H locs Y => ?_)
          obtain ⟨fq3, hfq3⟩ : ∃ q, q = tset tq1 fq2 96 (topenR t 96) 1 v := ⟨_, rfl⟩
          have Y : uY g 117 (cX g tq1 fq3) s H locs := by rw [hfq3]; exact Y
          refine r_aload_n X dX7_tell_72 hl 1 rfl ?_
          refine g_7_8 (k := 0) X Y rfl wm_264 dX7_tell_73 ?_
          refine vF_i X Y [] [] (ct_X5_rows l g tq1 fq3 96 rfl) mk_X5_rows mi_X5_rows wm_320 (by decide) (rv_5 Y rfl) rfl hl (Nat.le_of_ble_eq_true rfl) rfl dX7_tell_76 (Nat.zero_le _) (Nat.zero_le _) (fun H locs Y => ?_)
          exact ret _ _ _ _ _ _ _ dX7_tell_79 Y (by have hq : telX t i v = t 96 3 + 1 := (by unfold telX; repeat (first | rw [if_pos (by omega)] | rw [if_neg (by omega)])); have w2 : tw 96 = 2 := rfl; exact ⟨by rw [hq, e3], by rw [hq, if_neg (by omega), htq1, ho], by rw [hq, if_neg (by omega), hfq3, hfq2]; unfold tset; rw [hr, e3, w2, if_pos ⟨by omega, by omega, by omega, by omega⟩, if_pos ⟨by omega, by omega, by omega, by omega⟩]⟩)
        · refine r_ldc X (-1000000004) wm_302 (by decide) dX7_tell_41 ?_
          exact ret _ _ _ _ _ _ _ dX7_tell_43 Y (by have hq : telX t i v = (-1000000004) := (by unfold telX; repeat (first | rw [if_pos (by omega)] | rw [if_neg (by omega)])); exact ⟨hq.symm, by rw [hq, if_pos (by decide)], by rw [hq, if_pos (by decide)]⟩)
      · refine r_ldc X (-1000000002) wm_297 (by decide) dX7_tell_28 ?_
        exact ret _ _ _ _ _ _ _ dX7_tell_30 Y (by have hq : telX t i v = (-1000000002) := (by unfold telX; repeat (first | rw [if_pos (by omega)] | rw [if_neg (by omega)])); exact ⟨hq.symm, by rw [hq, if_pos (by decide)], by rw [hq, if_pos (by decide)]⟩)
  · refine r_ldc X (-1000000001) wm_471 (by decide) dX7_tell_14 ?_
    exact ret _ _ _ _ _ _ _ dX7_tell_16 Y (by have hq : telX t i v = (-1000000001) := (by unfold telX; repeat (first | rw [if_pos (by omega)] | rw [if_neg (by omega)])); exact ⟨hq.symm, by rw [hq, if_pos (by decide)], by rw [hq, if_pos (by decide)]⟩)
set_option maxHeartbeats 4000000 in
set_option maxRecDepth 100000 in
theorem ct_X7_borrow (l : Launch) (g : uG) (t : uN) (f : uF) (m0 v fr : Int) (h : HI t f) (hP : PI t f) (hm : inI m0) (hv : inI v) (hf : fr = 0 ∨ fr = 1) : cF_i l yX7_borrow cX7_borrow 5 (some .int) 6 g [.ref (g.1 + 0), .int (iV (m0)), .int (iV (v)), .int (iV (fr))] t f (borX t f m0 v) (if borX t f m0 v < 0 then t else borT t v) (if borX t f m0 v < 0 then f else borF t f m0 v fr) := by
  refine eF_i (by decide +kernel) (Nat.le_of_ble_eq_true rfl) ?_
  intro p e R s m args below meth c Q ls H locs X Y hl ret
  have X : uX p 6 R s m args c cX7_borrow 5 RX7 := X
  have hl : lv_has ls 5 [(0, .ref (g.1 + 0)), (1, .int (iV (m0))), (2, .int (iV (v))), (3, .int (iV (fr)))] := hl
  have hb := h.b
  refine r_aload_n X dX7_borrow_0 hl 0 rfl ?_
  refine g_7_2 (k := 0) X Y rfl wm_258 dX7_borrow_1 ?_
  refine g_6_2 (k := 11) X Y rfl wm_126 dX7_borrow_4 ?_
  refine r_iload_n X dX7_borrow_7 hl 1 rfl ?_
  refine vF_i X Y [.int (iV (m0))] [] (ct_X5_has l g t f 16 m0 rfl h.1.1.2.2 ⟨by omega, by omega⟩) mk_X5_has mi_X5_has wm_441 (by decide) (rv_5 Y rfl) rfl hl (Nat.le_of_ble_eq_true rfl) rfl dX7_borrow_8 (Nat.zero_le _) (Nat.zero_le _) (fun H locs Y => ?_)
  have qb8 := thas_b t 16 m0
  refine r_if_ne X (tgt := 17) dX7_borrow_11 (by decide) ⟨by omega, by omega⟩ (fun c11 => ?_) (fun c11 => ?_)
  · refine r_iload_n X dX7_borrow_17 hl 2 rfl ?_
    refine r_iconst X dX7_borrow_18 ?_
    refine r_icmp_lt X (tgt := 29) dX7_borrow_19 (by decide) ⟨by omega, by omega⟩ ⟨by omega, by omega⟩ (fun c19 => ?_) (fun c19 => ?_)
    · refine r_ldc X (-1000000002) wm_297 (by decide) dX7_borrow_29 ?_
      exact ret _ _ _ _ _ _ _ dX7_borrow_31 Y (by have hq : borX t f m0 v = (-1000000002) := (by unfold borX; repeat (first | rw [if_pos (by omega)] | rw [if_neg (by omega)])); exact ⟨hq.symm, by rw [hq, if_pos (by decide)], by rw [hq, if_pos (by decide)]⟩)
    · refine r_iload_n X dX7_borrow_22 hl 2 rfl ?_
      refine r_sipush X 999 dX7_borrow_23 (by decide) ?_
      refine r_icmp_le X (tgt := 32) dX7_borrow_26 (by decide) ⟨by omega, by omega⟩ ⟨by omega, by omega⟩ (fun c26 => ?_) (fun c26 => ?_)
      · refine r_aload_n X dX7_borrow_32 hl 0 rfl ?_
        refine vF_i X Y [] [] (ct_X7_isInPort l g t f h) mk_X7_isInPort mi_X7_isInPort wm_506 (by decide) (rv_7 Y rfl) rfl hl (Nat.le_of_ble_eq_true rfl) rfl dX7_borrow_33 (Nat.zero_le _) (Nat.zero_le _) (fun H locs Y => ?_)
        have qp33 := inPortX_b t
        have qw33 := whereX_b h.b.1.2.2.2
        refine r_if_eq X (tgt := 48) dX7_borrow_36 (by decide) ⟨by omega, by omega⟩ (fun c36 => ?_) (fun c36 => ?_)
        · refine r_ldc X (-1000000003) wm_510 (by decide) dX7_borrow_48 ?_
          exact ret _ _ _ _ _ _ _ dX7_borrow_50 Y (by have hq : borX t f m0 v = (-1000000003) := (by unfold borX; repeat (first | rw [if_pos (by omega)] | rw [if_neg (by omega)])); exact ⟨hq.symm, by rw [hq, if_pos (by decide)], by rw [hq, if_pos (by decide)]⟩)
        · refine r_aload_n X dX7_borrow_39 hl 0 rfl ?_
          refine r_iload_n X dX7_borrow_40 hl 1 rfl ?_
          refine vF_i X Y [.int (iV (m0))] [] (ct_X7_hasYet l g t f m0 h ⟨by omega, by omega⟩) mk_X7_hasYet mi_X7_hasYet wm_482 (by decide) (rv_7 Y rfl) rfl hl (Nat.le_of_ble_eq_true rfl) rfl dX7_borrow_41 (Nat.zero_le _) (Nat.zero_le _) (fun H locs Y => ?_)
          have qy41 := yetX_rng h m0
          refine r_iload_n X dX7_borrow_44 hl 2 rfl ?_
          refine r_icmp_ge X (tgt := 51) dX7_borrow_45 (by decide) ⟨by omega, by omega⟩ ⟨by omega, by omega⟩ (fun c45 => ?_) (fun c45 => ?_)
          · refine r_aload_n X dX7_borrow_51 hl 0 rfl ?_
            refine g_7_3 (k := 0) X Y rfl wm_259 dX7_borrow_52 ?_
            refine g_4_0 (k := 18) X Y rfl wm_162 dX7_borrow_55 ?_
            refine vF_i X Y [] [] (ct_X5_isFull l g t f 19 rfl h.2.1) mk_X5_isFull mi_X5_isFull wm_298 (by decide) (rv_5 Y rfl) rfl hl (Nat.le_of_ble_eq_true rfl) rfl dX7_borrow_58 (Nat.zero_le _) (Nat.zero_le _) (fun H locs Y => ?_)
            have qb58 := tfull_b t 19
            have qm58 : tm 19 = 8 := rfl
            refine r_if_eq X (tgt := 67) dX7_borrow_61 (by decide) ⟨by omega, by omega⟩ (fun c61 => ?_) (fun c61 => ?_)
            · refine r_aload_n X dX7_borrow_67 hl 0 rfl ?_
              refine vF_v X Y [] [] (ct_X7_remember l g t f hP.1.1 hP.1.2 hP.2.1.1 hP.2.1.2 ((hP.2.2 (t 21 1).toNat (by have := hP.1; omega)).1) h.2.1 h.b.1.2.2.2) mk_X7_remember mi_X7_remember wm_511 (by decide) (rv_7 Y rfl) rfl hl (Nat.le_of_ble_eq_true rfl) rfl dX7_borrow_68 (Nat.zero_le _) (Nat.zero_le _) (fun H locs Y => ?_)
              obtain ⟨tq1, htq1⟩ : ∃ q, q = up2 (putT t) 91 6 0 := ⟨_, rfl⟩
              obtain ⟨fq2, hfq2⟩ : ∃ q, q = putF t f := ⟨_, rfl⟩
              have Y : uY g 117 (cX g tq1 fq2) s H locs := by rw [htq1, hfq2]; exact Y
              have hr : tq1 = remT t := htq1
              have h_tq1 : HI tq1 fq2 := by rw [hr, hfq2]; exact h.rem hP
              have e18 : ∀ j, tq1 18 j = t 18 j := fun j => by rw [hr]; exact remT_off hP.1 (by omega) (by omega) j
              have e19 : tq1 19 3 = t 19 3 := by rw [hr]; exact remT_off hP.1 (by omega) (by omega) 3
              have e16 : tq1 16 3 = t 16 3 := by rw [hr]; exact remT_off hP.1 (by omega) (by omega) 3
              refine r_aload_n X dX7_borrow_71 hl 0 rfl ?_
              refine g_7_3 (k := 0) X Y rfl wm_259 dX7_borrow_72 ?_
              refine g_4_0 (k := 18) X Y rfl wm_162 dX7_borrow_75 ?_
              refine vF_i X Y [] [] (ct_X5_open l g tq1 fq2 19 rfl h_tq1.2.1) mk_X5_open mi_X5_open wm_529 (by decide) (rv_5 Y rfl) rfl hl (Nat.le_of_ble_eq_true rfl) rfl dX7_borrow_78 (Nat.zero_le _) (Nat.zero_le _) (fun H locs Y => ?_)
              obtain ⟨tq3, htq3⟩ : ∃ q, q = topenT tq1 19 := ⟨_, rfl⟩
              have Y : uY g 117 (cX g tq3 fq2) s H locs := by rw [htq3]; exact Y
              have ho : topenT tq1 19 = up2 tq1 19 3 (t 19 3 + 1) := by unfold topenT; rw [e19, if_neg (by omega)]
              have hr9 : topenR tq1 19 = t 19 3 := by unfold topenR; rw [e19, if_neg (by omega)]
              have e3 : tq3 19 3 = t 19 3 + 1 := by rw [htq3, ho, up2_s]
              have h2 : tOK tq3 19 := by rw [htq3]; exact topenT_ok h_tq1.2.1
              have hTS : ∀ (fz : uF) (cz z : Int), 0 ≤ cz → cz < 5 → tset tq3 fz 19 (topenR tq1 19) cz z = upA fz 20 (t 19 3 * 5 + cz) z := fun fz cz z h0z h5z => by unfold tset; rw [hr9, e3, show tw 19 = 5 from rfl, if_pos ⟨by omega, by omega, by omega, by omega⟩]
              have e38 : ∀ j, tq3 18 j = t 18 j := fun j => by rw [htq3, ho, up2_k _ _ _ _ (by decide), e18]
              have eoff : ∀ x, x = 12 ∨ x = 14 ∨ x = 16 → tq3 x 3 = t x 3 := fun x hx => by rw [htq3, ho, up2_k _ _ _ _ (by omega), hr]; exact remT_off hP.1 (by omega) (by omega) 3
              refine r_istore X dX7_borrow_81 hl [(4, .int (iV (topenR tq1 19))), (0, .ref (g.1 + 0)), (1, .int (iV (m0))), (2, .int (iV (v))), (3, .int (iV (fr)))] (by decide) rfl (fun ls hl => ?_)
              refine r_aload_n X dX7_borrow_83 hl 1 rfl ?_
              refine g_7_3 (k := 0) X Y rfl wm_259 dX7_borrow_84 ?_
              refine g_4_0 (k := 18) X Y rfl wm_162 dX7_borrow_87 ?_
              refine r_iload X dX7_borrow_90 hl 0 rfl ?_
              refine r_iconst X dX7_borrow_92 ?_
              refine r_iload_n X dX7_borrow_93 hl 2 rfl ?_
              refine vF_v X Y [.int (iV (topenR tq1 19)), .int (iV (0)), .int (iV (m0))] [] (ct_X5_set l g tq3 fq2 19 (topenR tq1 19) 0 m0 rfl h2 ⟨by omega, by omega⟩ ⟨by omega, by omega⟩) mk_X5_set mi_X5_set wm_530 (by decide) (rv_5 Y rfl) rfl hl (Nat.le_of_ble_eq_true rfl) rfl dX7_borrow_94 (Nat.zero_le _) (Nat.zero_le _) (fun H locs Y => ?_)
              obtain ⟨fq4, hfq4⟩ : ∃ q, q = tset tq3 fq2 19 (topenR tq1 19) 0 m0 := ⟨_, rfl⟩
              have Y : uY g 117 (cX g tq3 fq4) s H locs := by rw [hfq4]; exact Y
              refine r_aload_n X dX7_borrow_97 hl 1 rfl ?_
              refine g_7_3 (k := 0) X Y rfl wm_259 dX7_borrow_98 ?_
              refine g_4_0 (k := 18) X Y rfl wm_162 dX7_borrow_101 ?_
              refine r_iload X dX7_borrow_104 hl 0 rfl ?_
              refine r_iconst X dX7_borrow_106 ?_
              refine r_iload_n X dX7_borrow_107 hl 3 rfl ?_
              refine vF_v X Y [.int (iV (topenR tq1 19)), .int (iV (1)), .int (iV (v))] [] (ct_X5_set l g tq3 fq4 19 (topenR tq1 19) 1 v rfl h2 ⟨by omega, by omega⟩ ⟨by omega, by omega⟩) mk_X5_set mi_X5_set wm_530 (by decide) (rv_5 Y rfl) rfl hl (Nat.le_of_ble_eq_true rfl) rfl dX7_borrow_108 (Nat.zero_le _) (Nat.zero_le _) (fun H locs Y => ?_)
              obtain ⟨fq5, hfq5⟩ : ∃ q, q = tset tq3 fq4 19 (topenR tq1 19) 1 v := ⟨_, rfl⟩
              have Y : uY g 117 (cX g tq3 fq5) s H locs := by rw [hfq5]; exact Y
              refine r_aload_n X dX7_borrow_111 hl 1 rfl ?_
              refine g_7_3 (k := 0) X Y rfl wm_259 dX7_borrow_112 ?_
              refine g_4_0 (k := 18) X Y rfl wm_162 dX7_borrow_115 ?_
              refine r_iload X dX7_borrow_118 hl 0 rfl ?_
              refine r_iconst X dX7_borrow_120 ?_
              refine r_iload_n X dX7_borrow_121 hl 4 rfl ?_
              refine r_if_eq X (tgt := 129) dX7_borrow_122 (by decide) ⟨by omega, by omega⟩ (fun c122 => ?_) (fun c122 => ?_)
              · refine r_iconst X dX7_borrow_129 ?_
                refine vF_v X Y [.int (iV (topenR tq1 19)), .int (iV (2)), .int (iV (0))] [] (ct_X5_set l g tq3 fq5 19 (topenR tq1 19) 2 0 rfl h2 ⟨by omega, by omega⟩ ⟨by omega, by omega⟩) mk_X5_set mi_X5_set wm_530 (by decide) (rv_5 Y rfl) rfl hl (Nat.le_of_ble_eq_true rfl) rfl dX7_borrow_130 (Nat.zero_le _) (Nat.zero_le _) (fun H locs Y => ?_)
                obtain ⟨fq6, hfq6⟩ : ∃ q, q = tset tq3 fq5 19 (topenR tq1 19) 2 0 := ⟨_, rfl⟩
                have Y : uY g 117 (cX g tq3 fq6) s H locs := by rw [hfq6]; exact Y
                refine r_aload_n X dX7_borrow_133 hl 1 rfl ?_
                refine g_7_3 (k := 0) X Y rfl wm_259 dX7_borrow_134 ?_
                refine g_4_0 (k := 18) X Y rfl wm_162 dX7_borrow_137 ?_
                refine r_iload X dX7_borrow_140 hl 0 rfl ?_
                refine r_iconst X dX7_borrow_142 ?_
                refine r_aload_n X dX7_borrow_143 hl 1 rfl ?_
                refine g_7_2 (k := 0) X Y rfl wm_258 dX7_borrow_144 ?_
                refine r_iload_n X dX7_borrow_147 hl 2 rfl ?_
                refine r_iload_n X dX7_borrow_148 hl 3 rfl ?_
                have hff : ∀ c, c = 13 ∨ c = 15 ∨ c = 17 → ∀ i, fq6 c i = f c i := fun c hc i => by rw [hfq6, hTS _ _ _ (by omega) (by omega), upA_k _ _ _ _ (by omega), hfq5, hTS _ _ _ (by omega) (by omega), upA_k _ _ _ _ (by omega), hfq4, hTS _ _ _ (by omega) (by omega), upA_k _ _ _ _ (by omega), hfq2]; exact putF_off hP.1 (by omega) i
                have h_vz : VOK tq3 fq6 11 := h.1.of (eoff 12 (by omega)) (eoff 14 (by omega)) (eoff 16 (by omega)) hff
                have how : owedX tq3 fq6 11 m0 v = owedX t f 11 m0 v := owed_same (eoff 16 (by omega)) (hff 17 (by omega)) m0 v
                have hor := owedX_rng h.1 m0 v (by omega) (by omega)
                refine vF_i X Y [.int (iV (m0)), .int (iV (v))] [.int (iV (3)), .int (iV (topenR tq1 19)), .ref (g.1 + 19)] (ct_X6_dueOf l g tq3 fq6 11 m0 v rfl h_vz ⟨by omega, by omega⟩ (by omega) (by omega)) mk_X6_dueOf mi_X6_dueOf wm_531 (by decide) (rv_6 Y rfl) rfl hl (Nat.le_of_ble_eq_true rfl) rfl dX7_borrow_149 (Nat.zero_le _) (Nat.zero_le _) (fun H locs Y => ?_)
                refine vF_v X Y [.int (iV (topenR tq1 19)), .int (iV (3)), .int (iV (owedX tq3 fq6 11 m0 v))] [] (ct_X5_set l g tq3 fq6 19 (topenR tq1 19) 3 (owedX tq3 fq6 11 m0 v) rfl h2 ⟨by omega, by omega⟩ ⟨by omega, by omega⟩) mk_X5_set mi_X5_set wm_530 (by decide) (rv_5 Y rfl) rfl hl (Nat.le_of_ble_eq_true rfl) rfl dX7_borrow_152 (Nat.zero_le _) (Nat.zero_le _) (fun H locs Y => ?_)
                obtain ⟨fq7, hfq7⟩ : ∃ q, q = tset tq3 fq6 19 (topenR tq1 19) 3 (owedX tq3 fq6 11 m0 v) := ⟨_, rfl⟩
                have Y : uY g 117 (cX g tq3 fq7) s H locs := by rw [hfq7]; exact Y
                refine r_aload_n X dX7_borrow_155 hl 1 rfl ?_
                refine g_7_3 (k := 0) X Y rfl wm_259 dX7_borrow_156 ?_
                refine g_4_0 (k := 18) X Y rfl wm_162 dX7_borrow_159 ?_
                refine r_iload X dX7_borrow_162 hl 0 rfl ?_
                refine r_iconst X dX7_borrow_164 ?_
                refine r_aload_n X dX7_borrow_165 hl 1 rfl ?_
                refine g_7_3 (k := 0) X Y rfl wm_259 dX7_borrow_166 ?_
                refine g_4_3 (k := 18) X Y rfl wm_170 dX7_borrow_169 ?_
                refine vF_v X Y [.int (iV (topenR tq1 19)), .int (iV (4)), .int (iV (tq3 18 3))] [] (ct_X5_set l g tq3 fq7 19 (topenR tq1 19) 4 (tq3 18 3) rfl h2 ⟨by omega, by omega⟩ ⟨by omega, by omega⟩) mk_X5_set mi_X5_set wm_530 (by decide) (rv_5 Y rfl) rfl hl (Nat.le_of_ble_eq_true rfl) rfl dX7_borrow_172 (Nat.zero_le _) (Nat.zero_le _) (fun H locs Y => ?_)
                obtain ⟨fq8, hfq8⟩ : ∃ q, q = tset tq3 fq7 19 (topenR tq1 19) 4 (tq3 18 3) := ⟨_, rfl⟩
                have Y : uY g 117 (cX g tq3 fq8) s H locs := by rw [hfq8]; exact Y
                refine r_aload_n X dX7_borrow_175 hl 1 rfl ?_
                refine g_7_3 (k := 0) X Y rfl wm_259 dX7_borrow_176 ?_
                refine r_dup X dX7_borrow_179 rfl ?_
                refine g_4_2 (k := 18) X Y rfl wm_167 dX7_borrow_180 ?_
                refine r_iload_n X dX7_borrow_183 hl 3 rfl ?_
                refine r_iadd X dX7_borrow_184 ?_
                refine p_4_2 (k := 18) X Y rfl wm_167 dX7_borrow_185 (fun H locs Y => ?_)
                obtain ⟨tq9, htq9⟩ : ∃ q, q = up2 tq3 18 2 ((tq3 18 2) + v) := ⟨_, rfl⟩
                have Y : uY g 117 (cX g tq9 fq8) s H locs := by rw [htq9]; exact Y
                refine r_iload X dX7_borrow_188 hl 0 rfl ?_
                exact ret _ _ _ _ _ _ _ dX7_borrow_190 Y (by have hq : borX t f m0 v = t 19 3 := (by unfold borX; rw [if_neg (by omega), if_neg (by omega), if_pos ⟨by omega, by omega⟩, if_pos (by omega)]); have hn : ¬ borX t f m0 v < 0 := (by omega); exact ⟨by rw [hq, hr9], by rw [if_neg hn, htq9, e38, htq3, ho, hr]; rfl, by rw [if_neg hn, hfq8, hTS _ _ _ (by omega) (by omega), e38, hfq7, hTS _ _ _ (by omega) (by omega), how, hfq6, hTS _ _ _ (by omega) (by omega), hfq5, hTS _ _ _ (by omega) (by omega), hfq4, hTS _ _ _ (by omega) (by omega), hfq2]; unfold borF; rw [show fr = 0 by omega]⟩)
              · refine r_iconst X dX7_borrow_125 ?_
                refine r_goto X 130 dX7_borrow_126 (by decide) ?_
                refine vF_v X Y [.int (iV (topenR tq1 19)), .int (iV (2)), .int (iV (1))] [] (ct_X5_set l g tq3 fq5 19 (topenR tq1 19) 2 1 rfl h2 ⟨by omega, by omega⟩ ⟨by omega, by omega⟩) mk_X5_set mi_X5_set wm_530 (by decide) (rv_5 Y rfl) rfl hl (Nat.le_of_ble_eq_true rfl) rfl dX7_borrow_130 (Nat.zero_le _) (Nat.zero_le _) (fun H locs Y => ?_)
                obtain ⟨fq6, hfq6⟩ : ∃ q, q = tset tq3 fq5 19 (topenR tq1 19) 2 1 := ⟨_, rfl⟩
                have Y : uY g 117 (cX g tq3 fq6) s H locs := by rw [hfq6]; exact Y
                refine r_aload_n X dX7_borrow_133 hl 1 rfl ?_
                refine g_7_3 (k := 0) X Y rfl wm_259 dX7_borrow_134 ?_
                refine g_4_0 (k := 18) X Y rfl wm_162 dX7_borrow_137 ?_
                refine r_iload X dX7_borrow_140 hl 0 rfl ?_
                refine r_iconst X dX7_borrow_142 ?_
                refine r_aload_n X dX7_borrow_143 hl 1 rfl ?_
                refine g_7_2 (k := 0) X Y rfl wm_258 dX7_borrow_144 ?_
                refine r_iload_n X dX7_borrow_147 hl 2 rfl ?_
                refine r_iload_n X dX7_borrow_148 hl 3 rfl ?_
                have hff : ∀ c, c = 13 ∨ c = 15 ∨ c = 17 → ∀ i, fq6 c i = f c i := fun c hc i => by rw [hfq6, hTS _ _ _ (by omega) (by omega), upA_k _ _ _ _ (by omega), hfq5, hTS _ _ _ (by omega) (by omega), upA_k _ _ _ _ (by omega), hfq4, hTS _ _ _ (by omega) (by omega), upA_k _ _ _ _ (by omega), hfq2]; exact putF_off hP.1 (by omega) i
                have h_vz : VOK tq3 fq6 11 := h.1.of (eoff 12 (by omega)) (eoff 14 (by omega)) (eoff 16 (by omega)) hff
                have how : owedX tq3 fq6 11 m0 v = owedX t f 11 m0 v := owed_same (eoff 16 (by omega)) (hff 17 (by omega)) m0 v
                have hor := owedX_rng h.1 m0 v (by omega) (by omega)
                refine vF_i X Y [.int (iV (m0)), .int (iV (v))] [.int (iV (3)), .int (iV (topenR tq1 19)), .ref (g.1 + 19)] (ct_X6_dueOf l g tq3 fq6 11 m0 v rfl h_vz ⟨by omega, by omega⟩ (by omega) (by omega)) mk_X6_dueOf mi_X6_dueOf wm_531 (by decide) (rv_6 Y rfl) rfl hl (Nat.le_of_ble_eq_true rfl) rfl dX7_borrow_149 (Nat.zero_le _) (Nat.zero_le _) (fun H locs Y => ?_)
                refine vF_v X Y [.int (iV (topenR tq1 19)), .int (iV (3)), .int (iV (owedX tq3 fq6 11 m0 v))] [] (ct_X5_set l g tq3 fq6 19 (topenR tq1 19) 3 (owedX tq3 fq6 11 m0 v) rfl h2 ⟨by omega, by omega⟩ ⟨by omega, by omega⟩) mk_X5_set mi_X5_set wm_530 (by decide) (rv_5 Y rfl) rfl hl (Nat.le_of_ble_eq_true rfl) rfl dX7_borrow_152 (Nat.zero_le _) (Nat.zero_le _) (fun H locs Y => ?_)
                obtain ⟨fq7, hfq7⟩ : ∃ q, q = tset tq3 fq6 19 (topenR tq1 19) 3 (owedX tq3 fq6 11 m0 v) := ⟨_, rfl⟩
                have Y : uY g 117 (cX g tq3 fq7) s H locs := by rw [hfq7]; exact Y
                refine r_aload_n X dX7_borrow_155 hl 1 rfl ?_
                refine g_7_3 (k := 0) X Y rfl wm_259 dX7_borrow_156 ?_
                refine g_4_0 (k := 18) X Y rfl wm_162 dX7_borrow_159 ?_
                refine r_iload X dX7_borrow_162 hl 0 rfl ?_
                refine r_iconst X dX7_borrow_164 ?_
                refine r_aload_n X dX7_borrow_165 hl 1 rfl ?_
                refine g_7_3 (k := 0) X Y rfl wm_259 dX7_borrow_166 ?_
                refine g_4_3 (k := 18) X Y rfl wm_170 dX7_borrow_169 ?_
                refine vF_v X Y [.int (iV (topenR tq1 19)), .int (iV (4)), .int (iV (tq3 18 3))] [] (ct_X5_set l g tq3 fq7 19 (topenR tq1 19) 4 (tq3 18 3) rfl h2 ⟨by omega, by omega⟩ ⟨by omega, by omega⟩) mk_X5_set mi_X5_set wm_530 (by decide) (rv_5 Y rfl) rfl hl (Nat.le_of_ble_eq_true rfl) rfl dX7_borrow_172 (Nat.zero_le _) (Nat.zero_le _) (fun H locs Y => ?_)
                obtain ⟨fq8, hfq8⟩ : ∃ q, q = tset tq3 fq7 19 (topenR tq1 19) 4 (tq3 18 3) := ⟨_, rfl⟩
                have Y : uY g 117 (cX g tq3 fq8) s H locs := by rw [hfq8]; exact Y
                refine r_aload_n X dX7_borrow_175 hl 1 rfl ?_
                refine g_7_3 (k := 0) X Y rfl wm_259 dX7_borrow_176 ?_
                refine r_dup X dX7_borrow_179 rfl ?_
                refine g_4_2 (k := 18) X Y rfl wm_167 dX7_borrow_180 ?_
                refine r_iload_n X dX7_borrow_183 hl 3 rfl ?_
                refine r_iadd X dX7_borrow_184 ?_
                refine p_4_2 (k := 18) X Y rfl wm_167 dX7_borrow_185 (fun H locs Y => ?_)
                obtain ⟨tq9, htq9⟩ : ∃ q, q = up2 tq3 18 2 ((tq3 18 2) + v) := ⟨_, rfl⟩
                have Y : uY g 117 (cX g tq9 fq8) s H locs := by rw [htq9]; exact Y
                refine r_iload X dX7_borrow_188 hl 0 rfl ?_
                exact ret _ _ _ _ _ _ _ dX7_borrow_190 Y (by have hq : borX t f m0 v = t 19 3 := (by unfold borX; rw [if_neg (by omega), if_neg (by omega), if_pos ⟨by omega, by omega⟩, if_pos (by omega)]); have hn : ¬ borX t f m0 v < 0 := (by omega); exact ⟨by rw [hq, hr9], by rw [if_neg hn, htq9, e38, htq3, ho, hr]; rfl, by rw [if_neg hn, hfq8, hTS _ _ _ (by omega) (by omega), e38, hfq7, hTS _ _ _ (by omega) (by omega), how, hfq6, hTS _ _ _ (by omega) (by omega), hfq5, hTS _ _ _ (by omega) (by omega), hfq4, hTS _ _ _ (by omega) (by omega), hfq2]; unfold borF; rw [show fr = 1 by omega]⟩)
            · refine r_ldc X (-1000000004) wm_302 (by decide) dX7_borrow_64 ?_
              exact ret _ _ _ _ _ _ _ dX7_borrow_66 Y (by have hq : borX t f m0 v = (-1000000004) := (by unfold borX; repeat (first | rw [if_pos (by omega)] | rw [if_neg (by omega)])); exact ⟨hq.symm, by rw [hq, if_pos (by decide)], by rw [hq, if_pos (by decide)]⟩)
          · refine r_ldc X (-1000000003) wm_510 (by decide) dX7_borrow_48 ?_
            exact ret _ _ _ _ _ _ _ dX7_borrow_50 Y (by have hq : borX t f m0 v = (-1000000003) := (by unfold borX; repeat (first | rw [if_pos (by omega)] | rw [if_neg (by omega)])); exact ⟨hq.symm, by rw [hq, if_pos (by decide)], by rw [hq, if_pos (by decide)]⟩)
      · refine r_ldc X (-1000000002) wm_297 (by decide) dX7_borrow_29 ?_
        exact ret _ _ _ _ _ _ _ dX7_borrow_31 Y (by have hq : borX t f m0 v = (-1000000002) := (by unfold borX; repeat (first | rw [if_pos (by omega)] | rw [if_neg (by omega)])); exact ⟨hq.symm, by rw [hq, if_pos (by decide)], by rw [hq, if_pos (by decide)]⟩)
  · refine r_ldc X (-1000000001) wm_471 (by decide) dX7_borrow_14 ?_
    exact ret _ _ _ _ _ _ _ dX7_borrow_16 Y (by have hq : borX t f m0 v = (-1000000001) := (by unfold borX; repeat (first | rw [if_pos (by omega)] | rw [if_neg (by omega)])); exact ⟨hq.symm, by rw [hq, if_pos (by decide)], by rw [hq, if_pos (by decide)]⟩)
set_option maxHeartbeats 4000000 in
set_option maxRecDepth 100000 in
theorem ct_X7_keep (l : Launch) (g : uG) (t : uN) (f : uF) (i : Int) (h : HI t f) (hI1 : tOK t 85) (hI2 : tOK t 89) (hi : inI i) : cF_i l yX7_keep cX7_keep 3 (some .int) 4 g [.ref (g.1 + 0), .int (iV (i))] t f (if i = 0 ∨ i = 1 then 1 else -1000000001) (if i = 0 then kepT t 83 else if i = 1 then kepT t 87 else t) (if i = 0 then cpA f 20 86 40 else if i = 1 then cpA f 20 90 40 else f) := by
  refine eF_i (by decide +kernel) (Nat.le_of_ble_eq_true rfl) ?_
  intro p e R s m args below meth c Q ls H locs X Y hl ret
  have X : uX p 4 R s m args c cX7_keep 3 RX7 := X
  have hl : lv_has ls 3 [(0, .ref (g.1 + 0)), (1, .int (iV (i)))] := hl
  have hb := h.b
  refine r_aload_n X dX7_keep_0 hl 0 rfl ?_
  refine r_iload_n X dX7_keep_1 hl 1 rfl ?_
  rcases (show i = 0 ∨ i = 1 ∨ (inI i ∧ ¬ i = 0 ∧ ¬ i = 1) by omega) with hi9 | hi9 | hi9
  · refine vF_q X Y [.int (iV (i))] [] (ct_X7_imageOf_0 l g t f i (by omega)) mk_X7_imageOf mi_X7_imageOf wm_722 (by decide) (rv_7 Y rfl) rfl hl (Nat.le_of_ble_eq_true rfl) rfl dX7_keep_2 (Nat.zero_le _) (Nat.zero_le _) (fun H locs Y => ?_)
    refine r_astore_n X dX7_keep_5 hl [(2, .ref (g.1 + 83)), (0, .ref (g.1 + 0)), (1, .int (iV (i)))] (by decide) rfl (fun ls hl => ?_)
    refine r_aload_n X dX7_keep_6 hl 0 rfl ?_
    refine r_ifnonnull X 13 dX7_keep_7 (by decide) ?_
    refine r_aload_n X dX7_keep_13 hl 0 rfl ?_
    refine g_0_0 (k := 83) X Y rfl wm_213 dX7_keep_14 ?_
    refine r_aload_n X dX7_keep_17 hl 1 rfl ?_
    refine g_7_3 (k := 0) X Y rfl wm_259 dX7_keep_18 ?_
    refine vF_v X Y [.ref (g.1 + 18)] [] (ct_X4_become l g t f 84 18 rfl rfl (by decide) hI1 h.2.1 h.b.1.2.2.2) mk_X4_become mi_X4_become wm_726 (by decide) (rv_4 Y rfl) rfl hl (Nat.le_of_ble_eq_true rfl) rfl dX7_keep_21 (Nat.zero_le _) (Nat.zero_le _) (fun H locs Y => ?_)
    obtain ⟨tq1, htq1⟩ : ∃ q, q = sheCp t 84 18 := ⟨_, rfl⟩
    obtain ⟨fq2, hfq2⟩ : ∃ q, q = cpA f 20 (84 + 2) 40 := ⟨_, rfl⟩
    have Y : uY g 117 (cX g tq1 fq2) s H locs := by rw [htq1, hfq2]; exact Y
    refine r_aload_n X dX7_keep_24 hl 0 rfl ?_
    refine r_aload_n X dX7_keep_25 hl 1 rfl ?_
    refine g_7_11 (k := 0) X Y rfl wm_267 dX7_keep_26 ?_
    refine p_0_1 (k := 83) X Y rfl wm_215 dX7_keep_29 (fun H locs Y => ?_)
    obtain ⟨tq3, htq3⟩ : ∃ q, q = up2 tq1 83 1 (tq1 0 11) := ⟨_, rfl⟩
    have Y : uY g 117 (cX g tq3 fq2) s H locs := by rw [htq3]; exact Y
    refine r_aload_n X dX7_keep_32 hl 0 rfl ?_
    refine r_iconst X dX7_keep_33 ?_
    refine p_0_2 (k := 83) X Y rfl wm_217 (by first | exact Or.inl rfl | exact Or.inr rfl | omega) dX7_keep_34 (fun H locs Y => ?_)
    obtain ⟨tq4, htq4⟩ : ∃ q, q = up2 tq3 83 2 (1) := ⟨_, rfl⟩
    have Y : uY g 117 (cX g tq4 fq2) s H locs := by rw [htq4]; exact Y
    refine r_aload_n X dX7_keep_37 hl 1 rfl ?_
    refine g_7_4 (k := 0) X Y rfl wm_260 dX7_keep_38 ?_
    refine vF_v X Y [] [] (ct_X1_clear l g tq4 fq2) mk_X1_clear mi_X1_clear wm_420 (by decide) (rv_1 Y rfl) rfl hl (Nat.le_of_ble_eq_true rfl) rfl dX7_keep_41 (Nat.zero_le _) (Nat.zero_le _) (fun H locs Y => ?_)
    obtain ⟨tq5, htq5⟩ : ∃ q, q = up2 tq4 21 2 0 := ⟨_, rfl⟩
    have Y : uY g 117 (cX g tq5 fq2) s H locs := by rw [htq5]; exact Y
    refine r_iconst X dX7_keep_44 ?_
    exact ret _ _ _ _ _ _ _ dX7_keep_45 Y ⟨by rw [if_pos (by omega)], by rw [if_pos hi9]; rw [htq5, htq4, htq3, htq1]; unfold kepT; rw [sheCp_off (by decide) (by decide)], by rw [if_pos hi9]; exact hfq2⟩
  · refine vF_q X Y [.int (iV (i))] [] (ct_X7_imageOf_1 l g t f i (by omega)) mk_X7_imageOf mi_X7_imageOf wm_722 (by decide) (rv_7 Y rfl) rfl hl (Nat.le_of_ble_eq_true rfl) rfl dX7_keep_2 (Nat.zero_le _) (Nat.zero_le _) (fun H locs Y => ?_)
    refine r_astore_n X dX7_keep_5 hl [(2, .ref (g.1 + 87)), (0, .ref (g.1 + 0)), (1, .int (iV (i)))] (by decide) rfl (fun ls hl => ?_)
    refine r_aload_n X dX7_keep_6 hl 0 rfl ?_
    refine r_ifnonnull X 13 dX7_keep_7 (by decide) ?_
    refine r_aload_n X dX7_keep_13 hl 0 rfl ?_
    refine g_0_0 (k := 87) X Y rfl wm_213 dX7_keep_14 ?_
    refine r_aload_n X dX7_keep_17 hl 1 rfl ?_
    refine g_7_3 (k := 0) X Y rfl wm_259 dX7_keep_18 ?_
    refine vF_v X Y [.ref (g.1 + 18)] [] (ct_X4_become l g t f 88 18 rfl rfl (by decide) hI2 h.2.1 h.b.1.2.2.2) mk_X4_become mi_X4_become wm_726 (by decide) (rv_4 Y rfl) rfl hl (Nat.le_of_ble_eq_true rfl) rfl dX7_keep_21 (Nat.zero_le _) (Nat.zero_le _) (fun H locs Y => ?_)
    obtain ⟨tq1, htq1⟩ : ∃ q, q = sheCp t 88 18 := ⟨_, rfl⟩
    obtain ⟨fq2, hfq2⟩ : ∃ q, q = cpA f 20 (88 + 2) 40 := ⟨_, rfl⟩
    have Y : uY g 117 (cX g tq1 fq2) s H locs := by rw [htq1, hfq2]; exact Y
    refine r_aload_n X dX7_keep_24 hl 0 rfl ?_
    refine r_aload_n X dX7_keep_25 hl 1 rfl ?_
    refine g_7_11 (k := 0) X Y rfl wm_267 dX7_keep_26 ?_
    refine p_0_1 (k := 87) X Y rfl wm_215 dX7_keep_29 (fun H locs Y => ?_)
    obtain ⟨tq3, htq3⟩ : ∃ q, q = up2 tq1 87 1 (tq1 0 11) := ⟨_, rfl⟩
    have Y : uY g 117 (cX g tq3 fq2) s H locs := by rw [htq3]; exact Y
    refine r_aload_n X dX7_keep_32 hl 0 rfl ?_
    refine r_iconst X dX7_keep_33 ?_
    refine p_0_2 (k := 87) X Y rfl wm_217 (by first | exact Or.inl rfl | exact Or.inr rfl | omega) dX7_keep_34 (fun H locs Y => ?_)
    obtain ⟨tq4, htq4⟩ : ∃ q, q = up2 tq3 87 2 (1) := ⟨_, rfl⟩
    have Y : uY g 117 (cX g tq4 fq2) s H locs := by rw [htq4]; exact Y
    refine r_aload_n X dX7_keep_37 hl 1 rfl ?_
    refine g_7_4 (k := 0) X Y rfl wm_260 dX7_keep_38 ?_
    refine vF_v X Y [] [] (ct_X1_clear l g tq4 fq2) mk_X1_clear mi_X1_clear wm_420 (by decide) (rv_1 Y rfl) rfl hl (Nat.le_of_ble_eq_true rfl) rfl dX7_keep_41 (Nat.zero_le _) (Nat.zero_le _) (fun H locs Y => ?_)
    obtain ⟨tq5, htq5⟩ : ∃ q, q = up2 tq4 21 2 0 := ⟨_, rfl⟩
    have Y : uY g 117 (cX g tq5 fq2) s H locs := by rw [htq5]; exact Y
    refine r_iconst X dX7_keep_44 ?_
    exact ret _ _ _ _ _ _ _ dX7_keep_45 Y ⟨by rw [if_pos (by omega)], by rw [if_neg (by omega), if_pos hi9]; rw [htq5, htq4, htq3, htq1]; unfold kepT; rw [sheCp_off (by decide) (by decide)], by rw [if_neg (by omega), if_pos hi9]; exact hfq2⟩
  · refine vF_q X Y [.int (iV (i))] [] (ct_X7_imageOf_2 l g t f i (by omega)) mk_X7_imageOf mi_X7_imageOf wm_722 (by decide) (rv_7 Y rfl) rfl hl (Nat.le_of_ble_eq_true rfl) rfl dX7_keep_2 (Nat.zero_le _) (Nat.zero_le _) (fun H locs Y => ?_)
    refine r_astore_nN X dX7_keep_5 hl [(2, .null), (0, .ref (g.1 + 0)), (1, .int (iV (i)))] (by decide) rfl (fun ls hl => ?_)
    refine r_aload_nN X dX7_keep_6 hl 0 rfl ?_
    refine r_ifnonnullN X dX7_keep_7 ?_
    refine r_ldc X (-1000000001) wm_471 (by decide) dX7_keep_10 ?_
    exact ret _ _ _ _ _ _ _ dX7_keep_12 Y ⟨by rw [if_neg (by omega)], by rw [if_neg (by omega), if_neg (by omega)], by rw [if_neg (by omega), if_neg (by omega)]⟩
set_option maxHeartbeats 4000000 in
set_option maxRecDepth 100000 in
theorem ct_X7_goBack (l : Launch) (g : uG) (t : uN) (f : uF) (i : Int) (h : HI t f) (hI1 : SOK t f 84) (hI2 : SOK t f 88) (hk1 : t 83 2 = 0 ∨ t 83 2 = 1) (hk2 : t 87 2 = 0 ∨ t 87 2 = 1) (hi : inI i) : cF_i l yX7_goBack cX7_goBack 3 (some .int) 4 g [.ref (g.1 + 0), .int (iV (i))] t f (gobX t i) (if gobX t i < 0 then t else if i = 0 then gobT t 83 else gobT t 87) (if gobX t i < 0 then f else if i = 0 then cpA f 86 20 40 else cpA f 90 20 40) := by
  refine eF_i (by decide +kernel) (Nat.le_of_ble_eq_true rfl) ?_
  intro p e R s m args below meth c Q ls H locs X Y hl ret
  have X : uX p 4 R s m args c cX7_goBack 3 RX7 := X
  have hl : lv_has ls 3 [(0, .ref (g.1 + 0)), (1, .int (iV (i)))] := hl
  have hb := h.b
  refine r_aload_n X dX7_goBack_0 hl 0 rfl ?_
  refine r_iload_n X dX7_goBack_1 hl 1 rfl ?_
  rcases (show i = 0 ∨ i = 1 ∨ (inI i ∧ ¬ i = 0 ∧ ¬ i = 1) by omega) with hi9 | hi9 | hi9
  · refine vF_q X Y [.int (iV (i))] [] (ct_X7_imageOf_0 l g t f i (by omega)) mk_X7_imageOf mi_X7_imageOf wm_722 (by decide) (rv_7 Y rfl) rfl hl (Nat.le_of_ble_eq_true rfl) rfl dX7_goBack_2 (Nat.zero_le _) (Nat.zero_le _) (fun H locs Y => ?_)
    refine r_astore_n X dX7_goBack_5 hl [(2, .ref (g.1 + 83)), (0, .ref (g.1 + 0)), (1, .int (iV (i)))] (by decide) rfl (fun ls hl => ?_)
    refine r_aload_n X dX7_goBack_6 hl 0 rfl ?_
    refine r_ifnonnull X 13 dX7_goBack_7 (by decide) ?_
    refine r_aload_n X dX7_goBack_13 hl 0 rfl ?_
    refine g_0_2 (k := 83) X Y rfl wm_217 dX7_goBack_14 ?_
    refine r_if_ne X (tgt := 23) dX7_goBack_17 (by decide) ⟨by omega, by omega⟩ (fun c17 => ?_) (fun c17 => ?_)
    · refine r_aload_n X dX7_goBack_23 hl 1 rfl ?_
      refine g_7_3 (k := 0) X Y rfl wm_259 dX7_goBack_24 ?_
      refine r_aload_n X dX7_goBack_27 hl 0 rfl ?_
      refine g_0_0 (k := 83) X Y rfl wm_213 dX7_goBack_28 ?_
      refine vF_v X Y [.ref (g.1 + 84)] [] (ct_X4_become l g t f 18 84 rfl rfl (by decide) h.2.1 hI1.1 hI1.2.2.2.2.1) mk_X4_become mi_X4_become wm_726 (by decide) (rv_4 Y rfl) rfl hl (Nat.le_of_ble_eq_true rfl) rfl dX7_goBack_31 (Nat.zero_le _) (Nat.zero_le _) (fun H locs Y => ?_)
      obtain ⟨tq1, htq1⟩ : ∃ q, q = sheCp t 18 84 := ⟨_, rfl⟩
      obtain ⟨fq2, hfq2⟩ : ∃ q, q = cpA f (84 + 2) 20 40 := ⟨_, rfl⟩
      have Y : uY g 117 (cX g tq1 fq2) s H locs := by rw [htq1, hfq2]; exact Y
      refine r_aload_n X dX7_goBack_34 hl 1 rfl ?_
      refine r_aload_n X dX7_goBack_35 hl 0 rfl ?_
      refine g_0_1 (k := 83) X Y rfl wm_215 dX7_goBack_36 ?_
      refine p_7_11 (k := 0) X Y rfl wm_267 dX7_goBack_39 (fun H locs Y => ?_)
      obtain ⟨tq3, htq3⟩ : ∃ q, q = up2 tq1 0 11 (tq1 83 1) := ⟨_, rfl⟩
      have Y : uY g 117 (cX g tq3 fq2) s H locs := by rw [htq3]; exact Y
      refine r_aload_n X dX7_goBack_42 hl 1 rfl ?_
      refine g_7_4 (k := 0) X Y rfl wm_260 dX7_goBack_43 ?_
      refine vF_v X Y [] [] (ct_X1_clear l g tq3 fq2) mk_X1_clear mi_X1_clear wm_420 (by decide) (rv_1 Y rfl) rfl hl (Nat.le_of_ble_eq_true rfl) rfl dX7_goBack_46 (Nat.zero_le _) (Nat.zero_le _) (fun H locs Y => ?_)
      obtain ⟨tq4, htq4⟩ : ∃ q, q = up2 tq3 21 2 0 := ⟨_, rfl⟩
      have Y : uY g 117 (cX g tq4 fq2) s H locs := by rw [htq4]; exact Y
      refine r_aload_n X dX7_goBack_49 hl 1 rfl ?_
      refine g_7_7 (k := 0) X Y rfl wm_263 dX7_goBack_50 ?_
      refine vF_v X Y [] [] (ct_X2_forget l g tq4 fq2) mk_X2_forget mi_X2_forget wm_424 (by decide) (rv_2 Y rfl) rfl hl (Nat.le_of_ble_eq_true rfl) rfl dX7_goBack_53 (Nat.zero_le _) (Nat.zero_le _) (fun H locs Y => ?_)
      obtain ⟨tq5, htq5⟩ : ∃ q, q = up2 tq4 91 6 0 := ⟨_, rfl⟩
      have Y : uY g 117 (cX g tq5 fq2) s H locs := by rw [htq5]; exact Y
      refine r_iconst X dX7_goBack_56 ?_
      exact ret _ _ _ _ _ _ _ dX7_goBack_57 Y (by have hq : gobX t i = 1 := (by unfold gobX; repeat (first | rw [if_pos (by omega)] | rw [if_neg (by omega)])); exact ⟨hq.symm, by rw [hq, if_neg (by decide)]; (first | rw [if_pos (by omega)] | rw [if_neg (by omega)]); rw [htq5, htq4, htq3, htq1]; unfold gobT; rw [sheCp_off (by decide) (by decide)], by rw [hq, if_neg (by decide)]; (first | rw [if_pos (by omega)] | rw [if_neg (by omega)]); exact hfq2⟩)
    · refine r_ldc X (-1000000003) wm_510 (by decide) dX7_goBack_20 ?_
      exact ret _ _ _ _ _ _ _ dX7_goBack_22 Y (by have hq : gobX t i = (-1000000003) := (by unfold gobX; repeat (first | rw [if_pos (by omega)] | rw [if_neg (by omega)])); exact ⟨hq.symm, by rw [hq, if_pos (by decide)], by rw [hq, if_pos (by decide)]⟩)
  · refine vF_q X Y [.int (iV (i))] [] (ct_X7_imageOf_1 l g t f i (by omega)) mk_X7_imageOf mi_X7_imageOf wm_722 (by decide) (rv_7 Y rfl) rfl hl (Nat.le_of_ble_eq_true rfl) rfl dX7_goBack_2 (Nat.zero_le _) (Nat.zero_le _) (fun H locs Y => ?_)
    refine r_astore_n X dX7_goBack_5 hl [(2, .ref (g.1 + 87)), (0, .ref (g.1 + 0)), (1, .int (iV (i)))] (by decide) rfl (fun ls hl => ?_)
    refine r_aload_n X dX7_goBack_6 hl 0 rfl ?_
    refine r_ifnonnull X 13 dX7_goBack_7 (by decide) ?_
    refine r_aload_n X dX7_goBack_13 hl 0 rfl ?_
    refine g_0_2 (k := 87) X Y rfl wm_217 dX7_goBack_14 ?_
    refine r_if_ne X (tgt := 23) dX7_goBack_17 (by decide) ⟨by omega, by omega⟩ (fun c17 => ?_) (fun c17 => ?_)
    · refine r_aload_n X dX7_goBack_23 hl 1 rfl ?_
      refine g_7_3 (k := 0) X Y rfl wm_259 dX7_goBack_24 ?_
      refine r_aload_n X dX7_goBack_27 hl 0 rfl ?_
      refine g_0_0 (k := 87) X Y rfl wm_213 dX7_goBack_28 ?_
      refine vF_v X Y [.ref (g.1 + 88)] [] (ct_X4_become l g t f 18 88 rfl rfl (by decide) h.2.1 hI2.1 hI2.2.2.2.2.1) mk_X4_become mi_X4_become wm_726 (by decide) (rv_4 Y rfl) rfl hl (Nat.le_of_ble_eq_true rfl) rfl dX7_goBack_31 (Nat.zero_le _) (Nat.zero_le _) (fun H locs Y => ?_)
      obtain ⟨tq1, htq1⟩ : ∃ q, q = sheCp t 18 88 := ⟨_, rfl⟩
      obtain ⟨fq2, hfq2⟩ : ∃ q, q = cpA f (88 + 2) 20 40 := ⟨_, rfl⟩
      have Y : uY g 117 (cX g tq1 fq2) s H locs := by rw [htq1, hfq2]; exact Y
      refine r_aload_n X dX7_goBack_34 hl 1 rfl ?_
      refine r_aload_n X dX7_goBack_35 hl 0 rfl ?_
      refine g_0_1 (k := 87) X Y rfl wm_215 dX7_goBack_36 ?_
      refine p_7_11 (k := 0) X Y rfl wm_267 dX7_goBack_39 (fun H locs Y => ?_)
      obtain ⟨tq3, htq3⟩ : ∃ q, q = up2 tq1 0 11 (tq1 87 1) := ⟨_, rfl⟩
      have Y : uY g 117 (cX g tq3 fq2) s H locs := by rw [htq3]; exact Y
      refine r_aload_n X dX7_goBack_42 hl 1 rfl ?_
      refine g_7_4 (k := 0) X Y rfl wm_260 dX7_goBack_43 ?_
      refine vF_v X Y [] [] (ct_X1_clear l g tq3 fq2) mk_X1_clear mi_X1_clear wm_420 (by decide) (rv_1 Y rfl) rfl hl (Nat.le_of_ble_eq_true rfl) rfl dX7_goBack_46 (Nat.zero_le _) (Nat.zero_le _) (fun H locs Y => ?_)
      obtain ⟨tq4, htq4⟩ : ∃ q, q = up2 tq3 21 2 0 := ⟨_, rfl⟩
      have Y : uY g 117 (cX g tq4 fq2) s H locs := by rw [htq4]; exact Y
      refine r_aload_n X dX7_goBack_49 hl 1 rfl ?_
      refine g_7_7 (k := 0) X Y rfl wm_263 dX7_goBack_50 ?_
      refine vF_v X Y [] [] (ct_X2_forget l g tq4 fq2) mk_X2_forget mi_X2_forget wm_424 (by decide) (rv_2 Y rfl) rfl hl (Nat.le_of_ble_eq_true rfl) rfl dX7_goBack_53 (Nat.zero_le _) (Nat.zero_le _) (fun H locs Y => ?_)
      obtain ⟨tq5, htq5⟩ : ∃ q, q = up2 tq4 91 6 0 := ⟨_, rfl⟩
      have Y : uY g 117 (cX g tq5 fq2) s H locs := by rw [htq5]; exact Y
      refine r_iconst X dX7_goBack_56 ?_
      exact ret _ _ _ _ _ _ _ dX7_goBack_57 Y (by have hq : gobX t i = 1 := (by unfold gobX; repeat (first | rw [if_pos (by omega)] | rw [if_neg (by omega)])); exact ⟨hq.symm, by rw [hq, if_neg (by decide)]; (first | rw [if_pos (by omega)] | rw [if_neg (by omega)]); rw [htq5, htq4, htq3, htq1]; unfold gobT; rw [sheCp_off (by decide) (by decide)], by rw [hq, if_neg (by decide)]; (first | rw [if_pos (by omega)] | rw [if_neg (by omega)]); exact hfq2⟩)
    · refine r_ldc X (-1000000003) wm_510 (by decide) dX7_goBack_20 ?_
      exact ret _ _ _ _ _ _ _ dX7_goBack_22 Y (by have hq : gobX t i = (-1000000003) := (by unfold gobX; repeat (first | rw [if_pos (by omega)] | rw [if_neg (by omega)])); exact ⟨hq.symm, by rw [hq, if_pos (by decide)], by rw [hq, if_pos (by decide)]⟩)
  · refine vF_q X Y [.int (iV (i))] [] (ct_X7_imageOf_2 l g t f i (by omega)) mk_X7_imageOf mi_X7_imageOf wm_722 (by decide) (rv_7 Y rfl) rfl hl (Nat.le_of_ble_eq_true rfl) rfl dX7_goBack_2 (Nat.zero_le _) (Nat.zero_le _) (fun H locs Y => ?_)
    refine r_astore_nN X dX7_goBack_5 hl [(2, .null), (0, .ref (g.1 + 0)), (1, .int (iV (i)))] (by decide) rfl (fun ls hl => ?_)
    refine r_aload_nN X dX7_goBack_6 hl 0 rfl ?_
    refine r_ifnonnullN X dX7_goBack_7 ?_
    refine r_ldc X (-1000000001) wm_471 (by decide) dX7_goBack_10 ?_
    exact ret _ _ _ _ _ _ _ dX7_goBack_12 Y (by have hq : gobX t i = (-1000000001) := (by unfold gobX; repeat (first | rw [if_pos (by omega)] | rw [if_neg (by omega)])); exact ⟨hq.symm, by rw [hq, if_pos (by decide)], by rw [hq, if_pos (by decide)]⟩)

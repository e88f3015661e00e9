/-! the model by contract -/
set_option maxHeartbeats 4000000 in
set_option maxRecDepth 100000 in
theorem ct_X8_in (l : Launch) (g : uG) (t : uN) (f : uF) (v lo hi : Int) (h0 : inI v) (h1 : inI lo) (h2 : inI hi) : cF_i l yX8_in cX8_in 6 (some .boolean) 1 g [.long (lV (v)), .long (lV (lo)), .long (lV (hi))] t f (inX v lo hi) (t) (f) := by
  refine eF_z (by decide +kernel) (Nat.le_of_ble_eq_true rfl) ?_
  intro p e R s m args below meth c Q ls H locs X Y hl ret
  have X : uX p 1 R s m args c cX8_in 6 RX8 := X
  have hl : lv_has ls 6 [(0, .long (lV (v))), (2, .long (lV (lo))), (4, .long (lV (hi)))] := hl
  have q1 := cmpZ_b v lo
  have q2 := cmpZ_b v hi
  refine r_lload_n X dX8_in_0 hl 0 rfl ?_
  refine r_lload_n X dX8_in_1 hl 1 rfl ?_
  refine r_lcmp X dX8_in_2 ⟨by omega, by omega⟩ ⟨by omega, by omega⟩ ?_
  refine r_if_lt X (tgt := 17) dX8_in_3 (by decide) ⟨by omega, by omega⟩ (fun c3 => ?_) (fun c3 => ?_)
  · refine r_iconst X dX8_in_17 ?_
    exact ret _ _ _ _ _ _ _ dX8_in_18 Y (by first | exact Or.inl rfl | exact Or.inr rfl | omega) ⟨by unfold inX; (first | rw [if_pos (by omega)] | rw [if_neg (by omega)]), rfl, rfl⟩
  · refine r_lload_n X dX8_in_6 hl 0 rfl ?_
    refine r_lload X dX8_in_7 hl 2 rfl ?_
    refine r_lcmp X dX8_in_9 ⟨by omega, by omega⟩ ⟨by omega, by omega⟩ ?_
    refine r_if_gt X (tgt := 17) dX8_in_10 (by decide) ⟨by omega, by omega⟩ (fun c10 => ?_) (fun c10 => ?_)
    · refine r_iconst X dX8_in_17 ?_
      exact ret _ _ _ _ _ _ _ dX8_in_18 Y (by first | exact Or.inl rfl | exact Or.inr rfl | omega) ⟨by unfold inX; (first | rw [if_pos (by omega)] | rw [if_neg (by omega)]), rfl, rfl⟩
    · refine r_iconst X dX8_in_13 ?_
      refine r_goto X 18 dX8_in_14 (by decide) ?_
      exact ret _ _ _ _ _ _ _ dX8_in_18 Y (by first | exact Or.inl rfl | exact Or.inr rfl | omega) ⟨by unfold inX; (first | rw [if_pos (by omega)] | rw [if_neg (by omega)]), rfl, rfl⟩
set_option maxHeartbeats 4000000 in
set_option maxRecDepth 100000 in
theorem ct_X8_isLeg (l : Launch) (g : uG) (t : uN) (f : uF) (a : uN) (b : uF) (i : Int) (L : ML a b t f) (hi : inI i) : cF_i l yX8_isLeg cX8_isLeg 2 (some .boolean) 2 g [.ref (g.1 + 100), .int (iV (i))] t f (thas a 14 i) (t) (f) := by
  refine eF_z (by decide +kernel) (Nat.le_of_ble_eq_true rfl) ?_
  intro p e R s m args below meth c Q ls H locs X Y hl ret
  have X : uX p 2 R s m args c cX8_isLeg 2 RX8 := X
  have hl : lv_has ls 2 [(0, .ref (g.1 + 100)), (1, .int (iV (i)))] := hl
  have hb := L.1.b
  obtain ⟨p0, p1, p2, p3, p4⟩ := L.p
  obtain ⟨v3, v4, v5, v6, v10⟩ := L.v
  have hk := L.2.1.2.1
  have hns := L.2.2.1
  refine r_iload_n X dX8_isLeg_0 hl 1 rfl ?_
  refine r_i2l X dX8_isLeg_1 ⟨by omega, by omega⟩ ?_
  refine r_lconst X 0 dX8_isLeg_2 (by decide) ?_
  refine r_aload_n X dX8_isLeg_3 hl 0 rfl ?_
  refine g_8_6 (k := 100) X Y rfl wm_743 dX8_isLeg_4 ?_
  refine r_iconst X dX8_isLeg_7 ?_
  refine r_isub X dX8_isLeg_8 ?_
  refine r_i2l X dX8_isLeg_9 ⟨by omega, by omega⟩ ?_
  refine sF_i X Y [.long (lV (i)), .long (lV (0)), .long (lV ((t 100 6) - 1))] [] (ct_X8_in l g t f i 0 ((t 100 6) - 1) ⟨by omega, by omega⟩ ⟨by omega, by omega⟩ ⟨by omega, by omega⟩) mk_X8_in mi_X8_in wm_852 (by decide) rfl hl (Nat.le_of_ble_eq_true rfl) rfl dX8_isLeg_10 (Nat.zero_le _) (Nat.zero_le _) (fun H locs Y => ?_)
  have qi10 := inX_b i 0 ((t 100 6) - 1)
  exact ret _ _ _ _ _ _ _ dX8_isLeg_13 Y (by first | exact Or.inl rfl | exact Or.inr rfl | omega) ⟨by have q := thas_b a 14 i; omega, rfl, rfl⟩
set_option maxHeartbeats 4000000 in
set_option maxRecDepth 100000 in
theorem ct_X8_isLender (l : Launch) (g : uG) (t : uN) (f : uF) (a : uN) (b : uF) (i : Int) (L : ML a b t f) (hi : inI i) : cF_i l yX8_isLender cX8_isLender 2 (some .boolean) 2 g [.ref (g.1 + 100), .int (iV (i))] t f (thas a 16 i) (t) (f) := by
  refine eF_z (by decide +kernel) (Nat.le_of_ble_eq_true rfl) ?_
  intro p e R s m args below meth c Q ls H locs X Y hl ret
  have X : uX p 2 R s m args c cX8_isLender 2 RX8 := X
  have hl : lv_has ls 2 [(0, .ref (g.1 + 100)), (1, .int (iV (i)))] := hl
  have hb := L.1.b
  obtain ⟨p0, p1, p2, p3, p4⟩ := L.p
  obtain ⟨v3, v4, v5, v6, v10⟩ := L.v
  have hk := L.2.1.2.1
  have hns := L.2.2.1
  refine r_iload_n X dX8_isLender_0 hl 1 rfl ?_
  refine r_i2l X dX8_isLender_1 ⟨by omega, by omega⟩ ?_
  refine r_lconst X 0 dX8_isLender_2 (by decide) ?_
  refine r_aload_n X dX8_isLender_3 hl 0 rfl ?_
  refine g_8_10 (k := 100) X Y rfl wm_747 dX8_isLender_4 ?_
  refine r_iconst X dX8_isLender_7 ?_
  refine r_isub X dX8_isLender_8 ?_
  refine r_i2l X dX8_isLender_9 ⟨by omega, by omega⟩ ?_
  refine sF_i X Y [.long (lV (i)), .long (lV (0)), .long (lV ((t 100 10) - 1))] [] (ct_X8_in l g t f i 0 ((t 100 10) - 1) ⟨by omega, by omega⟩ ⟨by omega, by omega⟩ ⟨by omega, by omega⟩) mk_X8_in mi_X8_in wm_852 (by decide) rfl hl (Nat.le_of_ble_eq_true rfl) rfl dX8_isLender_10 (Nat.zero_le _) (Nat.zero_le _) (fun H locs Y => ?_)
  have qi10 := inX_b i 0 ((t 100 10) - 1)
  exact ret _ _ _ _ _ _ _ dX8_isLender_13 Y (by first | exact Or.inl rfl | exact Or.inr rfl | omega) ⟨by have q := thas_b a 16 i; omega, rfl, rfl⟩
set_option maxHeartbeats 4000000 in
set_option maxRecDepth 100000 in
theorem ct_X8_isLoan (l : Launch) (g : uG) (t : uN) (f : uF) (a : uN) (b : uF) (i : Int) (L : ML a b t f) (hi : inI i) : cF_i l yX8_isLoan cX8_isLoan 2 (some .boolean) 2 g [.ref (g.1 + 100), .int (iV (i))] t f (thas a 19 i) (t) (f) := by
  refine eF_z (by decide +kernel) (Nat.le_of_ble_eq_true rfl) ?_
  intro p e R s m args below meth c Q ls H locs X Y hl ret
  have X : uX p 2 R s m args c cX8_isLoan 2 RX8 := X
  have hl : lv_has ls 2 [(0, .ref (g.1 + 100)), (1, .int (iV (i)))] := hl
  have hb := L.1.b
  obtain ⟨p0, p1, p2, p3, p4⟩ := L.p
  obtain ⟨v3, v4, v5, v6, v10⟩ := L.v
  have hk := L.2.1.2.1
  have hns := L.2.2.1
  refine r_iload_n X dX8_isLoan_0 hl 1 rfl ?_
  refine r_i2l X dX8_isLoan_1 ⟨by omega, by omega⟩ ?_
  refine r_lconst X 0 dX8_isLoan_2 (by decide) ?_
  refine r_aload_n X dX8_isLoan_3 hl 0 rfl ?_
  refine g_8_0 (k := 100) X Y rfl wm_737 dX8_isLoan_4 ?_
  refine r_iconst X dX8_isLoan_7 ?_
  refine g_ild (k := 101) X Y rfl (by omega) (by have q : ((al 101 : Nat) : Int) = 1008 := rfl; omega) dX8_isLoan_8 ?_
  refine r_iconst X dX8_isLoan_9 ?_
  refine r_isub X dX8_isLoan_10 ?_
  refine r_i2l X dX8_isLoan_11 ⟨by omega, by omega⟩ ?_
  refine sF_i X Y [.long (lV (i)), .long (lV (0)), .long (lV ((f 101 4) - 1))] [] (ct_X8_in l g t f i 0 ((f 101 4) - 1) ⟨by omega, by omega⟩ ⟨by omega, by omega⟩ ⟨by omega, by omega⟩) mk_X8_in mi_X8_in wm_852 (by decide) rfl hl (Nat.le_of_ble_eq_true rfl) rfl dX8_isLoan_12 (Nat.zero_le _) (Nat.zero_le _) (fun H locs Y => ?_)
  have qi12 := inX_b i 0 ((f 101 4) - 1)
  exact ret _ _ _ _ _ _ _ dX8_isLoan_15 Y (by first | exact Or.inl rfl | exact Or.inr rfl | omega) ⟨by have q := thas_b a 19 i; omega, rfl, rfl⟩
set_option maxHeartbeats 4000000 in
set_option maxRecDepth 100000 in
theorem ct_X8_where (l : Launch) (g : uG) (t : uN) (f : uF) (a : uN) (b : uF) (L : ML a b t f) : cF_i l yX8_where cX8_where 1 (some .int) 1 g [.ref (g.1 + 100)] t f (whereX a) (t) (f) := by
  refine eF_i (by decide +kernel) (Nat.le_of_ble_eq_true rfl) ?_
  intro p e R s m args below meth c Q ls H locs X Y hl ret
  have X : uX p 1 R s m args c cX8_where 1 RX8 := X
  have hl : lv_has ls 1 [(0, .ref (g.1 + 100))] := hl
  have hb := L.1.b
  obtain ⟨p0, p1, p2, p3, p4⟩ := L.p
  obtain ⟨v3, v4, v5, v6, v10⟩ := L.v
  have hk := L.2.1.2.1
  have hns := L.2.2.1
  refine r_aload_n X dX8_where_0 hl 0 rfl ?_
  refine g_8_0 (k := 100) X Y rfl wm_737 dX8_where_1 ?_
  refine r_iconst X dX8_where_4 ?_
  refine g_ild (k := 101) X Y rfl (by omega) (by have q : ((al 101 : Nat) : Int) = 1008 := rfl; omega) dX8_where_5 ?_
  refine r_iconst X dX8_where_6 ?_
  refine r_icmp_ne X (tgt := 14) dX8_where_7 (by decide) ⟨by omega, by omega⟩ ⟨by omega, by omega⟩ (fun c7 => ?_) (fun c7 => ?_)
  · refine r_aload_n X dX8_where_14 hl 0 rfl ?_
    refine g_8_3 (k := 100) X Y rfl wm_740 dX8_where_15 ?_
    refine r_if_eq X (tgt := 34) dX8_where_18 (by decide) ⟨by omega, by omega⟩ (fun c18 => ?_) (fun c18 => ?_)
    · refine r_iconst X dX8_where_34 ?_
      refine r_goto X 39 dX8_where_35 (by decide) ?_
      exact ret _ _ _ _ _ _ _ dX8_where_39 Y ⟨by have q := whereX_b hb.1.2.2.2; omega, rfl, rfl⟩
    · refine r_aload_n X dX8_where_21 hl 0 rfl ?_
      refine g_8_0 (k := 100) X Y rfl wm_737 dX8_where_22 ?_
      refine r_iconst X dX8_where_25 ?_
      refine g_ild (k := 101) X Y rfl (by omega) (by have q : ((al 101 : Nat) : Int) = 1008 := rfl; omega) dX8_where_26 ?_
      refine r_aload_n X dX8_where_27 hl 0 rfl ?_
      refine g_8_6 (k := 100) X Y rfl wm_743 dX8_where_28 ?_
      refine r_icmp_ne X (tgt := 38) dX8_where_31 (by decide) ⟨by omega, by omega⟩ ⟨by omega, by omega⟩ (fun c31 => ?_) (fun c31 => ?_)
      · refine r_iconst X dX8_where_38 ?_
        exact ret _ _ _ _ _ _ _ dX8_where_39 Y ⟨by have q := whereX_b hb.1.2.2.2; omega, rfl, rfl⟩
      · refine r_iconst X dX8_where_34 ?_
        refine r_goto X 39 dX8_where_35 (by decide) ?_
        exact ret _ _ _ _ _ _ _ dX8_where_39 Y ⟨by have q := whereX_b hb.1.2.2.2; omega, rfl, rfl⟩
  · refine r_iconst X dX8_where_10 ?_
    refine r_goto X 39 dX8_where_11 (by decide) ?_
    exact ret _ _ _ _ _ _ _ dX8_where_39 Y ⟨by have q := whereX_b hb.1.2.2.2; omega, rfl, rfl⟩
set_option maxHeartbeats 4000000 in
set_option maxRecDepth 100000 in
theorem ct_X8_isGone (l : Launch) (g : uG) (t : uN) (f : uF) (a : uN) (b : uF) (L : ML a b t f) : cF_i l yX8_isGone cX8_isGone 1 (some .boolean) 1 g [.ref (g.1 + 100)] t f (goneX a) (t) (f) := by
  refine eF_z (by decide +kernel) (Nat.le_of_ble_eq_true rfl) ?_
  intro p e R s m args below meth c Q ls H locs X Y hl ret
  have X : uX p 1 R s m args c cX8_isGone 1 RX8 := X
  have hl : lv_has ls 1 [(0, .ref (g.1 + 100))] := hl
  have hb := L.1.b
  obtain ⟨p0, p1, p2, p3, p4⟩ := L.p
  obtain ⟨v3, v4, v5, v6, v10⟩ := L.v
  have hk := L.2.1.2.1
  have hns := L.2.2.1
  refine r_aload_n X dX8_isGone_0 hl 0 rfl ?_
  refine g_8_3 (k := 100) X Y rfl wm_740 dX8_isGone_1 ?_
  refine r_if_eq X (tgt := 17) dX8_isGone_4 (by decide) ⟨by omega, by omega⟩ (fun c4 => ?_) (fun c4 => ?_)
  · refine r_iconst X dX8_isGone_17 ?_
    refine r_goto X 22 dX8_isGone_18 (by decide) ?_
    exact ret _ _ _ _ _ _ _ dX8_isGone_22 Y (by first | exact Or.inl rfl | exact Or.inr rfl | omega) ⟨by have q := goneX_b hb.1.2.2.2; omega, rfl, rfl⟩
  · refine r_aload_n X dX8_isGone_7 hl 0 rfl ?_
    refine g_8_0 (k := 100) X Y rfl wm_737 dX8_isGone_8 ?_
    refine r_iconst X dX8_isGone_11 ?_
    refine g_ild (k := 101) X Y rfl (by omega) (by have q : ((al 101 : Nat) : Int) = 1008 := rfl; omega) dX8_isGone_12 ?_
    refine r_iconst X dX8_isGone_13 ?_
    refine r_icmp_ne X (tgt := 21) dX8_isGone_14 (by decide) ⟨by omega, by omega⟩ ⟨by omega, by omega⟩ (fun c14 => ?_) (fun c14 => ?_)
    · refine r_iconst X dX8_isGone_21 ?_
      exact ret _ _ _ _ _ _ _ dX8_isGone_22 Y (by first | exact Or.inl rfl | exact Or.inr rfl | omega) ⟨by have q := goneX_b hb.1.2.2.2; omega, rfl, rfl⟩
    · refine r_iconst X dX8_isGone_17 ?_
      refine r_goto X 22 dX8_isGone_18 (by decide) ?_
      exact ret _ _ _ _ _ _ _ dX8_isGone_22 Y (by first | exact Or.inl rfl | exact Or.inr rfl | omega) ⟨by have q := goneX_b hb.1.2.2.2; omega, rfl, rfl⟩
set_option maxHeartbeats 4000000 in
set_option maxRecDepth 100000 in
theorem ct_X8_fault (l : Launch) (g : uG) (t : uN) (f : uF)   : cF_i l yX8_fault cX8_fault 1 (some .int) 1 g [.ref (g.1 + 100)] t f (t 100 19) (t) (f) := by
  refine eF_i (by decide +kernel) (Nat.le_of_ble_eq_true rfl) ?_
  intro p e R s m args below meth c Q ls H locs X Y hl ret
  have X : uX p 1 R s m args c cX8_fault 1 RX8 := X
  have hl : lv_has ls 1 [(0, .ref (g.1 + 100))] := hl
  refine r_aload_n X dX8_fault_0 hl 0 rfl ?_
  refine g_8_19 (k := 100) X Y rfl wm_756 dX8_fault_1 ?_
  exact ret _ _ _ _ _ _ _ dX8_fault_4 Y ⟨rfl, rfl, rfl⟩
set_option maxHeartbeats 4000000 in
set_option maxRecDepth 100000 in
theorem ct_X8_tear (l : Launch) (g : uG) (t : uN) (f : uF)   : cF_i l yX8_tear cX8_tear 2 (some .int) 1 g [.ref (g.1 + 100)] t f (t 100 31 + t 100 34) (up2 (up2 t 100 31 0) 100 34 0) (f) := by
  refine eF_i (by decide +kernel) (Nat.le_of_ble_eq_true rfl) ?_
  intro p e R s m args below meth c Q ls H locs X Y hl ret
  have X : uX p 1 R s m args c cX8_tear 2 RX8 := X
  have hl : lv_has ls 2 [(0, .ref (g.1 + 100))] := hl
  refine r_aload_n X dX8_tear_0 hl 0 rfl ?_
  refine g_8_31 (k := 100) X Y rfl wm_768 dX8_tear_1 ?_
  refine r_aload_n X dX8_tear_4 hl 0 rfl ?_
  refine g_8_34 (k := 100) X Y rfl wm_771 dX8_tear_5 ?_
  refine r_iadd X dX8_tear_8 ?_
  refine r_istore_n X dX8_tear_9 hl [(1, .int (iV ((t 100 31) + (t 100 34)))), (0, .ref (g.1 + 100))] (by decide) rfl (fun ls hl => ?_)
  refine r_aload_n X dX8_tear_10 hl 1 rfl ?_
  refine r_iconst X dX8_tear_11 ?_
  refine p_8_31 (k := 100) X Y rfl wm_768 dX8_tear_12 (fun H locs Y => ?_)
  obtain ⟨tq1, htq1⟩ : ∃ q, q = up2 t 100 31 (0) := ⟨_, rfl⟩
  have Y : uY g 117 (cX g tq1 f) s H locs := by rw [htq1]; exact Y
  refine r_aload_n X dX8_tear_15 hl 1 rfl ?_
  refine r_iconst X dX8_tear_16 ?_
  refine p_8_34 (k := 100) X Y rfl wm_771 dX8_tear_17 (fun H locs Y => ?_)
  obtain ⟨tq2, htq2⟩ : ∃ q, q = up2 tq1 100 34 (0) := ⟨_, rfl⟩
  have Y : uY g 117 (cX g tq2 f) s H locs := by rw [htq2]; exact Y
  refine r_iload_n X dX8_tear_20 hl 0 rfl ?_
  exact ret _ _ _ _ _ _ _ dX8_tear_21 Y (by subst htq1 htq2; exact ⟨rfl, rfl, rfl⟩)
set_option maxHeartbeats 4000000 in
set_option maxRecDepth 100000 in
theorem ct_X8_seed (l : Launch) (g : uG) (t : uN) (f : uF) (v : Int) (hv : inI v) : cF_i l yX8_seed cX8_seed 3 (some .int) 1 g [.ref (g.1 + 100), .int (iV (v))] t f (if v < 0 then -1000000002 else f 101 41) (t) (if v < 0 then f else upA f 101 41 v) := by
  refine eF_i (by decide +kernel) (Nat.le_of_ble_eq_true rfl) ?_
  intro p e R s m args below meth c Q ls H locs X Y hl ret
  have X : uX p 1 R s m args c cX8_seed 3 RX8 := X
  have hl : lv_has ls 3 [(0, .ref (g.1 + 100)), (1, .int (iV (v)))] := hl
  refine r_iload_n X dX8_seed_0 hl 1 rfl ?_
  refine r_if_ge X (tgt := 7) dX8_seed_1 (by decide) ⟨by omega, by omega⟩ (fun c1 => ?_) (fun c1 => ?_)
  · refine r_aload_n X dX8_seed_7 hl 0 rfl ?_
    refine g_8_0 (k := 100) X Y rfl wm_737 dX8_seed_8 ?_
    refine r_bipush X 41 dX8_seed_11 (by decide) ?_
    refine g_ild (k := 101) X Y rfl (by omega) (by have q : ((al 101 : Nat) : Int) = 1008 := rfl; omega) dX8_seed_13 ?_
    refine r_istore_n X dX8_seed_14 hl [(2, .int (iV (f 101 41))), (0, .ref (g.1 + 100)), (1, .int (iV (v)))] (by decide) rfl (fun ls hl => ?_)
    refine r_aload_n X dX8_seed_15 hl 1 rfl ?_
    refine g_8_0 (k := 100) X Y rfl wm_737 dX8_seed_16 ?_
    refine r_bipush X 41 dX8_seed_19 (by decide) ?_
    refine r_iload_n X dX8_seed_21 hl 2 rfl ?_
    refine p_ist (k := 101) X Y rfl (by omega) (by have q : ((al 101 : Nat) : Int) = 1008 := rfl; omega) dX8_seed_22 (fun H locs Y => ?_)
    obtain ⟨fq1, hfq1⟩ : ∃ q, q = upA f 101 41 v := ⟨_, rfl⟩
    have Y : uY g 117 (cX g t fq1) s H locs := by rw [hfq1]; exact Y
    refine r_iload_n X dX8_seed_23 hl 0 rfl ?_
    exact ret _ _ _ _ _ _ _ dX8_seed_24 Y ⟨by first | rw [if_pos (by omega)] | rw [if_neg (by omega)], rfl, by first | rw [if_pos (by omega)] | (rw [if_neg (by omega)]; exact hfq1)⟩
  · refine r_ldc X (-1000000002) wm_855 (by decide) dX8_seed_4 ?_
    exact ret _ _ _ _ _ _ _ dX8_seed_6 Y ⟨by rw [if_pos (by omega)], rfl, by rw [if_pos (by omega)]⟩
set_option maxHeartbeats 4000000 in
set_option maxRecDepth 100000 in
theorem ct_X8_oddsOf (l : Launch) (g : uG) (t : uN) (f : uF) (a : uN) (b : uF) (l0 s0 : Int) (L : ML a b t f) (hl0 : 0 ≤ l0) (hl1 : l0 < a 14 3) (h0 : 0 ≤ s0) (h1 : s0 ≤ 9) : cF_i l yX8_oddsOf cX8_oddsOf 4 (some .int) 1 g [.ref (g.1 + 100), .int (iV (l0)), .int (iV (s0))] t f (oddX a b 11 l0 s0) (t) (f) := by
  refine eF_i (by decide +kernel) (Nat.le_of_ble_eq_true rfl) ?_
  intro p e R s m args below meth c Q ls H locs X Y hl ret
  have X : uX p 1 R s m args c cX8_oddsOf 4 RX8 := X
  have hl : lv_has ls 4 [(0, .ref (g.1 + 100)), (1, .int (iV (l0))), (2, .int (iV (s0)))] := hl
  have hb := L.1.b
  obtain ⟨p0, p1, p2, p3, p4⟩ := L.p
  obtain ⟨v3, v4, v5, v6, v10⟩ := L.v
  have hk := L.2.1.2.1
  have hns := L.2.2.1
  have hle := L.l hl0 hl1
  have ho := oddX_rng L.1.1 l0 s0 h0 h1
  have e1 : f 104 l0 * (9 - s0) = tget a b 14 l0 1 * (9 - s0) := by rw [hle.1.2.1]
  have ho2 : oddX a b 11 l0 s0 = min 100 (tget a b 14 l0 0 + tget a b 14 l0 1 * (9 - s0)) := rfl
  change _ ∧ _ ∧ 0 ≤ tget a b 14 l0 1 * (9 - s0) ∧ tget a b 14 l0 1 * (9 - s0) ≤ 81 at ho
  refine r_aload_n X dX8_oddsOf_0 hl 0 rfl ?_
  refine g_8_7 (k := 100) X Y rfl wm_744 dX8_oddsOf_1 ?_
  refine r_iload_n X dX8_oddsOf_4 hl 1 rfl ?_
  refine g_ild (k := 103) X Y rfl (by omega) (by have q : ((al 103 : Nat) : Int) = 7 := rfl; omega) dX8_oddsOf_5 ?_
  refine r_aload_n X dX8_oddsOf_6 hl 0 rfl ?_
  refine g_8_8 (k := 100) X Y rfl wm_745 dX8_oddsOf_7 ?_
  refine r_iload_n X dX8_oddsOf_10 hl 1 rfl ?_
  refine g_ild (k := 104) X Y rfl (by omega) (by have q : ((al 104 : Nat) : Int) = 7 := rfl; omega) dX8_oddsOf_11 ?_
  refine r_bipush X 9 dX8_oddsOf_12 (by decide) ?_
  refine r_iload_n X dX8_oddsOf_14 hl 2 rfl ?_
  refine r_isub X dX8_oddsOf_15 ?_
  refine r_imul X dX8_oddsOf_16 ?_
  refine r_iadd X dX8_oddsOf_17 ?_
  refine r_istore_n X dX8_oddsOf_18 hl [(3, .int (iV ((f 103 l0) + ((f 104 l0) * (9 - s0))))), (0, .ref (g.1 + 100)), (1, .int (iV (l0))), (2, .int (iV (s0)))] (by decide) rfl (fun ls hl => ?_)
  refine r_iload_n X dX8_oddsOf_19 hl 0 rfl ?_
  refine r_bipush X 100 dX8_oddsOf_20 (by decide) ?_
  refine r_icmp_le X (tgt := 30) dX8_oddsOf_22 (by decide) ⟨by omega, by omega⟩ ⟨by omega, by omega⟩ (fun c22 => ?_) (fun c22 => ?_)
  · refine r_iload_n X dX8_oddsOf_30 hl 0 rfl ?_
    exact ret _ _ _ _ _ _ _ dX8_oddsOf_31 Y ⟨by omega, rfl, rfl⟩
  · refine r_bipush X 100 dX8_oddsOf_25 (by decide) ?_
    refine r_goto X 31 dX8_oddsOf_27 (by decide) ?_
    exact ret _ _ _ _ _ _ _ dX8_oddsOf_31 Y ⟨by omega, rfl, rfl⟩
set_option maxHeartbeats 4000000 in
set_option maxRecDepth 100000 in
theorem ct_X8_dueOf (l : Launch) (g : uG) (t : uN) (f : uF) (h i : Int) (HD : DUH f h i) : cF_i l yX8_dueOf cX8_dueOf 4 (some .int) 1 g [.ref (g.1 + 100), .int (iV (h)), .int (iV (i))] t f (dueM f h i) (t) (f) := by
  refine eF_i (by decide +kernel) (Nat.le_of_ble_eq_true rfl) ?_
  intro p e R s m args below meth c Q ls H locs X Y hl ret
  have X : uX p 1 R s m args c cX8_dueOf 4 RX8 := X
  have hl : lv_has ls 4 [(0, .ref (g.1 + 100)), (1, .int (iV (h))), (2, .int (iV (i)))] := hl
  obtain ⟨h1, h2, h3, h4, h5⟩ := HD
  obtain ⟨m0, m1⟩ := dueM_rng ⟨h1, h2, h3, h4, h5⟩
  refine r_aload_n X dX8_dueOf_0 hl 0 rfl ?_
  refine g_8_0 (k := 100) X Y rfl wm_737 dX8_dueOf_1 ?_
  refine r_iload_n X dX8_dueOf_4 hl 1 rfl ?_
  refine r_bipush X 14 dX8_dueOf_5 (by decide) ?_
  refine r_iadd X dX8_dueOf_7 ?_
  refine r_iload_n X dX8_dueOf_8 hl 2 rfl ?_
  refine r_iadd X dX8_dueOf_9 ?_
  refine g_ild (k := 101) X Y rfl (by omega) (by have q : ((al 101 : Nat) : Int) = 1008 := rfl; omega) dX8_dueOf_10 ?_
  refine r_istore_n X dX8_dueOf_11 hl [(3, .int (iV (f 101 ((h + 14) + i)))), (0, .ref (g.1 + 100)), (1, .int (iV (h))), (2, .int (iV (i)))] (by decide) rfl (fun ls hl => ?_)
  refine r_iload_n X dX8_dueOf_12 hl 0 rfl ?_
  refine r_iload_n X dX8_dueOf_13 hl 0 rfl ?_
  refine r_aload_n X dX8_dueOf_14 hl 1 rfl ?_
  refine g_8_12 (k := 100) X Y rfl wm_749 dX8_dueOf_15 ?_
  refine r_aload_n X dX8_dueOf_18 hl 1 rfl ?_
  refine g_8_0 (k := 100) X Y rfl wm_737 dX8_dueOf_19 ?_
  refine r_iload_n X dX8_dueOf_22 hl 2 rfl ?_
  refine r_iconst X dX8_dueOf_23 ?_
  refine r_iadd X dX8_dueOf_24 ?_
  refine r_iload_n X dX8_dueOf_25 hl 3 rfl ?_
  refine r_iadd X dX8_dueOf_26 ?_
  refine g_ild (k := 101) X Y rfl (by omega) (by have q : ((al 101 : Nat) : Int) = 1008 := rfl; omega) dX8_dueOf_27 ?_
  refine g_ild (k := 107) X Y rfl (by omega) (by have q : ((al 107 : Nat) : Int) = 5 := rfl; omega) dX8_dueOf_28 ?_
  refine r_imul X dX8_dueOf_29 ?_
  refine r_bipush X 100 dX8_dueOf_30 (by decide) ?_
  refine r_idiv X dX8_dueOf_32 ⟨by omega, by omega⟩ ⟨by omega, by omega⟩ (by omega) ?_
  refine r_iadd X dX8_dueOf_33 ?_
  exact ret _ _ _ _ _ _ _ dX8_dueOf_34 Y ⟨rfl, rfl, rfl⟩
set_option maxHeartbeats 4000000 in
set_option maxRecDepth 100000 in
theorem ct_X8_yetOf (l : Launch) (g : uG) (t : uN) (f : uF) (a : uN) (b : uF) (m0 : Int) (L : ML a b t f) (hm0 : 0 ≤ m0) (hm1 : m0 < a 16 3) : cF_i l yX8_yetOf cX8_yetOf 4 (some .int) 1 g [.ref (g.1 + 100), .int (iV (m0))] t f (yetX a b m0) (t) (f) := by
  refine eF_i (by decide +kernel) (Nat.le_of_ble_eq_true rfl) ?_
  intro p e R s m args below meth c Q ls H locs X Y hl ret
  have X : uX p 1 R s m args c cX8_yetOf 4 RX8 := X
  have hl : lv_has ls 4 [(0, .ref (g.1 + 100)), (1, .int (iV (m0)))] := hl
  have hb := L.1.b
  obtain ⟨p0, p1, p2, p3, p4⟩ := L.p
  obtain ⟨v3, v4, v5, v6, v10⟩ := L.v
  have hk := L.2.1.2.1
  have hns := L.2.2.1
  have hm := L.m hm0 hm1
  refine r_aload_n X dX8_yetOf_0 hl 0 rfl ?_
  refine g_8_11 (k := 100) X Y rfl wm_748 dX8_yetOf_1 ?_
  refine r_iload_n X dX8_yetOf_4 hl 1 rfl ?_
  refine g_ild (k := 106) X Y rfl (by omega) (by have q : ((al 106 : Nat) : Int) = 5 := rfl; omega) dX8_yetOf_5 ?_
  refine r_istore_n X dX8_yetOf_6 hl [(2, .int (iV (f 106 m0))), (0, .ref (g.1 + 100)), (1, .int (iV (m0)))] (by decide) rfl (fun ls hl => ?_)
  refine r_iconst X dX8_yetOf_7 ?_
  refine r_istore_n X dX8_yetOf_8 hl [(3, .int (iV (0))), (2, .int (iV (f 106 m0))), (0, .ref (g.1 + 100)), (1, .int (iV (m0)))] (by decide) rfl (fun ls hl => ?_)
  have loop9 : ∀ (N : Nat) (z : Int) (i : Int) (hi0 : 0 ≤ i) (hi1 : i ≤ a 19 3) (hz : z = tget a b 16 m0 0 - sumR (lentX a b 18 m0) 0 i) (H : Heap) (locs : List Loc) (ls : Array Slot), (a 19 3 - i).toNat < N → uY g 117 (cX g t f) s H locs → lv_has ls 4 [(3, .int (iV (i))), (2, .int (iV (z))), (0, .ref (g.1 + 100)), (1, .int (iV (m0)))] → W p l e R s m args below meth c H locs 0 0 Q (F0 m 9 ls []) := by
    intro N
    induction N with
    | zero => intro z i hi0 hi1 hz H locs ls hmu Y hl; exact absurd hmu (Nat.not_lt_zero _)
    | succ N ih =>
      intro z i hi0 hi1 hz H locs ls hmu Y hl
      refine r_iload_n X dX8_yetOf_9 hl 0 rfl ?_
      refine r_aload_n X dX8_yetOf_10 hl 2 rfl ?_
      refine g_8_0 (k := 100) X Y rfl wm_737 dX8_yetOf_11 ?_
      refine r_iconst X dX8_yetOf_14 ?_
      refine g_ild (k := 101) X Y rfl (by omega) (by have q : ((al 101 : Nat) : Int) = 1008 := rfl; omega) dX8_yetOf_15 ?_
      refine r_icmp_ge X (tgt := 53) dX8_yetOf_16 (by decide) ⟨by omega, by omega⟩ ⟨by omega, by omega⟩ (fun c16 => ?_) (fun c16 => ?_)
      · refine r_iload_n X dX8_yetOf_53 hl 1 rfl ?_
        exact ret _ _ _ _ _ _ _ dX8_yetOf_54 Y ⟨by rw [hz, show i = a 19 3 by omega]; rfl, rfl, rfl⟩
      · have hc := L.c hi0 (show i < a 19 3 by omega)
        have ho := (L.o hi0 (show i < a 19 3 by omega)).1
        refine r_iload_n X dX8_yetOf_19 hl 1 rfl ?_
        refine r_aload_n X dX8_yetOf_20 hl 2 rfl ?_
        refine g_8_0 (k := 100) X Y rfl wm_737 dX8_yetOf_21 ?_
        refine r_iconst X dX8_yetOf_24 ?_
        refine r_iload_n X dX8_yetOf_25 hl 0 rfl ?_
        refine r_iadd X dX8_yetOf_26 ?_
        refine g_ild (k := 101) X Y rfl (by omega) (by have q : ((al 101 : Nat) : Int) = 1008 := rfl; omega) dX8_yetOf_27 ?_
        refine r_iload_n X dX8_yetOf_28 hl 3 rfl ?_
        refine r_icmp_ne X (tgt := 44) dX8_yetOf_29 (by decide) ⟨by omega, by omega⟩ ⟨by omega, by omega⟩ (fun c29 => ?_) (fun c29 => ?_)
        · refine r_iconst X dX8_yetOf_44 ?_
          refine r_isub X dX8_yetOf_45 ?_
          refine r_istore_n X dX8_yetOf_46 hl [(2, .int (iV (z - 0))), (3, .int (iV (i))), (0, .ref (g.1 + 100)), (1, .int (iV (m0)))] (by decide) rfl (fun ls hl => ?_)
          refine r_iinc X dX8_yetOf_47 hl 1 rfl [(3, .int (iV (i + 1))), (2, .int (iV (z - 0))), (0, .ref (g.1 + 100)), (1, .int (iV (m0)))] (by decide) rfl (fun ls hl => ?_)
          refine r_goto X 9 dX8_yetOf_50 (by decide) ?_
          exact ih (z - 0) (i + 1) (by omega) (by omega) (by have e : lentX a b 18 m0 i = 0 := if_neg (show ¬ tget a b 19 i 0 = m0 by omega); rw [sumR_succ _ (by omega)]; omega) _ _ _ (by omega) Y (lv_sub hl [0, 1, 2, 3] rfl)
        · refine r_aload_n X dX8_yetOf_32 hl 2 rfl ?_
          refine g_8_0 (k := 100) X Y rfl wm_737 dX8_yetOf_33 ?_
          refine r_bipush X 14 dX8_yetOf_36 (by decide) ?_
          refine r_iload_n X dX8_yetOf_38 hl 0 rfl ?_
          refine r_iadd X dX8_yetOf_39 ?_
          refine g_ild (k := 101) X Y rfl (by omega) (by have q : ((al 101 : Nat) : Int) = 1008 := rfl; omega) dX8_yetOf_40 ?_
          refine r_goto X 45 dX8_yetOf_41 (by decide) ?_
          refine r_isub X dX8_yetOf_45 ?_
          refine r_istore_n X dX8_yetOf_46 hl [(2, .int (iV (z - (f 101 (14 + i))))), (3, .int (iV (i))), (0, .ref (g.1 + 100)), (1, .int (iV (m0)))] (by decide) rfl (fun ls hl => ?_)
          refine r_iinc X dX8_yetOf_47 hl 1 rfl [(3, .int (iV (i + 1))), (2, .int (iV (z - (f 101 (14 + i))))), (0, .ref (g.1 + 100)), (1, .int (iV (m0)))] (by decide) rfl (fun ls hl => ?_)
          refine r_goto X 9 dX8_yetOf_50 (by decide) ?_
          exact ih (z - (f 101 (14 + i))) (i + 1) (by omega) (by omega) (by have e : lentX a b 18 m0 i = tget a b 19 i 1 := if_pos (show tget a b 19 i 0 = m0 by omega); rw [sumR_succ _ (by omega)]; omega) _ _ _ (by omega) Y (lv_sub hl [0, 1, 2, 3] rfl)
  exact loop9 (((a 19 3 - (0 : Int)).toNat) + 1) (f 106 m0) 0 (by omega) (by omega) (by rw [sumR_nil _ (by omega), hm.1.1]; omega) _ _ _ (Nat.lt_succ_self _) Y (lv_sub hl [0, 1, 2, 3] rfl)
set_option maxHeartbeats 4000000 in
set_option maxRecDepth 100000 in
theorem ct_X8_rankOf (l : Launch) (g : uG) (t : uN) (f : uF) (a : uN) (b : uF) (i : Int) (L : ML a b t f) (hi0 : 0 ≤ i) (hi1 : i < a 19 3) : cF_i l yX8_rankOf cX8_rankOf 5 (some .int) 1 g [.ref (g.1 + 100), .int (iV (i))] t f (rankS a b 18 i) (t) (f) := by
  refine eF_i (by decide +kernel) (Nat.le_of_ble_eq_true rfl) ?_
  intro p e R s m args below meth c Q ls H locs X Y hl ret
  have X : uX p 1 R s m args c cX8_rankOf 5 RX8 := X
  have hl : lv_has ls 5 [(0, .ref (g.1 + 100)), (1, .int (iV (i)))] := hl
  have hb := L.1.b
  obtain ⟨p0, p1, p2, p3, p4⟩ := L.p
  obtain ⟨v3, v4, v5, v6, v10⟩ := L.v
  have hk := L.2.1.2.1
  have hns := L.2.2.1
  have hci := L.c hi0 hi1
  have hoi := (L.o hi0 hi1).1
  refine r_iconst X dX8_rankOf_0 ?_
  refine r_istore_n X dX8_rankOf_1 hl [(2, .int (iV (0))), (0, .ref (g.1 + 100)), (1, .int (iV (i)))] (by decide) rfl (fun ls hl => ?_)
  refine r_iconst X dX8_rankOf_2 ?_
  refine r_istore_n X dX8_rankOf_3 hl [(3, .int (iV (0))), (2, .int (iV (0))), (0, .ref (g.1 + 100)), (1, .int (iV (i)))] (by decide) rfl (fun ls hl => ?_)
  have loop4 : ∀ (N : Nat) (z : Int) (k : Int) (hk0 : 0 ≤ k) (hk1 : k ≤ a 19 3) (hz : z = sumR (rkX a b i) 0 k) (hzr : 0 ≤ z ∧ z ≤ k) (H : Heap) (locs : List Loc) (ls : Array Slot), (a 19 3 - k).toNat < N → uY g 117 (cX g t f) s H locs → lv_has ls 5 [(3, .int (iV (k))), (2, .int (iV (z))), (0, .ref (g.1 + 100)), (1, .int (iV (i)))] → W p l e R s m args below meth c H locs 0 0 Q (F0 m 4 ls []) := by
    intro N
    induction N with
    | zero => intro z k hk0 hk1 hz hzr H locs ls hmu Y hl; exact absurd hmu (Nat.not_lt_zero _)
    | succ N ih =>
      intro z k hk0 hk1 hz hzr H locs ls hmu Y hl
      refine r_iload_n X dX8_rankOf_4 hl 0 rfl ?_
      refine r_aload_n X dX8_rankOf_5 hl 2 rfl ?_
      refine g_8_0 (k := 100) X Y rfl wm_737 dX8_rankOf_6 ?_
      refine r_iconst X dX8_rankOf_9 ?_
      refine g_ild (k := 101) X Y rfl (by omega) (by have q : ((al 101 : Nat) : Int) = 1008 := rfl; omega) dX8_rankOf_10 ?_
      refine r_icmp_ge X (tgt := 87) dX8_rankOf_11 (by decide) ⟨by omega, by omega⟩ ⟨by omega, by omega⟩ (fun c11 => ?_) (fun c11 => ?_)
      · refine r_iload_n X dX8_rankOf_87 hl 1 rfl ?_
        exact ret _ _ _ _ _ _ _ dX8_rankOf_88 Y ⟨by rw [hz, show k = a 19 3 by omega]; exact rk_eq L.1 hi0 hi1, rfl, rfl⟩
      · have hc := L.c hk0 (show k < a 19 3 by omega)
        have ho := (L.o hk0 (show k < a 19 3 by omega)).1
        refine r_aload_n X dX8_rankOf_14 hl 2 rfl ?_
        refine g_8_0 (k := 100) X Y rfl wm_737 dX8_rankOf_15 ?_
        refine r_bipush X 23 dX8_rankOf_18 (by decide) ?_
        refine r_iload_n X dX8_rankOf_20 hl 0 rfl ?_
        refine r_iadd X dX8_rankOf_21 ?_
        refine g_ild (k := 101) X Y rfl (by omega) (by have q : ((al 101 : Nat) : Int) = 1008 := rfl; omega) dX8_rankOf_22 ?_
        refine r_aload_n X dX8_rankOf_23 hl 2 rfl ?_
        refine g_8_0 (k := 100) X Y rfl wm_737 dX8_rankOf_24 ?_
        refine r_bipush X 23 dX8_rankOf_27 (by decide) ?_
        refine r_iload_n X dX8_rankOf_29 hl 3 rfl ?_
        refine r_iadd X dX8_rankOf_30 ?_
        refine g_ild (k := 101) X Y rfl (by omega) (by have q : ((al 101 : Nat) : Int) = 1008 := rfl; omega) dX8_rankOf_31 ?_
        refine r_icmp_ne X (tgt := 48) dX8_rankOf_32 (by decide) ⟨by omega, by omega⟩ ⟨by omega, by omega⟩ (fun c32 => ?_) (fun c32 => ?_)
        · refine r_aload_n X dX8_rankOf_48 hl 2 rfl ?_
          refine g_8_0 (k := 100) X Y rfl wm_737 dX8_rankOf_49 ?_
          refine r_bipush X 23 dX8_rankOf_52 (by decide) ?_
          refine r_iload_n X dX8_rankOf_54 hl 0 rfl ?_
          refine r_iadd X dX8_rankOf_55 ?_
          refine g_ild (k := 101) X Y rfl (by omega) (by have q : ((al 101 : Nat) : Int) = 1008 := rfl; omega) dX8_rankOf_56 ?_
          refine r_iconst X dX8_rankOf_57 ?_
          refine r_icmp_ne X (tgt := 65) dX8_rankOf_58 (by decide) ⟨by omega, by omega⟩ ⟨by omega, by omega⟩ (fun c58 => ?_) (fun c58 => ?_)
          · refine r_iconst X dX8_rankOf_65 ?_
            refine r_istore X dX8_rankOf_66 hl [(4, .int (iV (0))), (3, .int (iV (k))), (2, .int (iV (z))), (0, .ref (g.1 + 100)), (1, .int (iV (i)))] (by decide) rfl (fun ls hl => ?_)
            refine r_iload_n X dX8_rankOf_68 hl 2 rfl ?_
            refine r_iload X dX8_rankOf_69 hl 0 rfl ?_
            refine r_if_eq X (tgt := 78) dX8_rankOf_71 (by decide) ⟨by omega, by omega⟩ (fun c71 => ?_) (fun c71 => ?_)
            · refine r_iconst X dX8_rankOf_78 ?_
              refine r_iadd X dX8_rankOf_79 ?_
              refine r_istore_n X dX8_rankOf_80 hl [(2, .int (iV (z + 0))), (4, .int (iV (0))), (3, .int (iV (k))), (0, .ref (g.1 + 100)), (1, .int (iV (i)))] (by decide) rfl (fun ls hl => ?_)
              refine r_iinc X dX8_rankOf_81 hl 2 rfl [(3, .int (iV (k + 1))), (2, .int (iV (z + 0))), (4, .int (iV (0))), (0, .ref (g.1 + 100)), (1, .int (iV (i)))] (by decide) rfl (fun ls hl => ?_)
              refine r_goto X 4 dX8_rankOf_84 (by decide) ?_
              exact ih (z + 0) (k + 1) (by omega) (by omega) (by have e : rkX a b i k = 0 := (by show (if tget a b 19 k 2 = tget a b 19 i 2 then (if i < k then (1 : Int) else 0) else if tget a b 19 k 2 = 1 then 1 else 0) = _; (repeat (first | rw [if_pos (by omega)] | rw [if_neg (by omega)]))); rw [sumR_succ _ (by omega)]; omega) (by omega) _ _ _ (by omega) Y (lv_sub hl [0, 1, 3, 4] rfl)
            · exact absurd c71 (by omega)
          · refine r_iconst X dX8_rankOf_61 ?_
            refine r_goto X 66 dX8_rankOf_62 (by decide) ?_
            refine r_istore X dX8_rankOf_66 hl [(4, .int (iV (1))), (3, .int (iV (k))), (2, .int (iV (z))), (0, .ref (g.1 + 100)), (1, .int (iV (i)))] (by decide) rfl (fun ls hl => ?_)
            refine r_iload_n X dX8_rankOf_68 hl 2 rfl ?_
            refine r_iload X dX8_rankOf_69 hl 0 rfl ?_
            refine r_if_eq X (tgt := 78) dX8_rankOf_71 (by decide) ⟨by omega, by omega⟩ (fun c71 => ?_) (fun c71 => ?_)
            · exact absurd c71 (by omega)
            · refine r_iconst X dX8_rankOf_74 ?_
              refine r_goto X 79 dX8_rankOf_75 (by decide) ?_
              refine r_iadd X dX8_rankOf_79 ?_
              refine r_istore_n X dX8_rankOf_80 hl [(2, .int (iV (z + 1))), (4, .int (iV (1))), (3, .int (iV (k))), (0, .ref (g.1 + 100)), (1, .int (iV (i)))] (by decide) rfl (fun ls hl => ?_)
              refine r_iinc X dX8_rankOf_81 hl 2 rfl [(3, .int (iV (k + 1))), (2, .int (iV (z + 1))), (4, .int (iV (1))), (0, .ref (g.1 + 100)), (1, .int (iV (i)))] (by decide) rfl (fun ls hl => ?_)
              refine r_goto X 4 dX8_rankOf_84 (by decide) ?_
              exact ih (z + 1) (k + 1) (by omega) (by omega) (by have e : rkX a b i k = 1 := (by show (if tget a b 19 k 2 = tget a b 19 i 2 then (if i < k then (1 : Int) else 0) else if tget a b 19 k 2 = 1 then 1 else 0) = _; (repeat (first | rw [if_pos (by omega)] | rw [if_neg (by omega)]))); rw [sumR_succ _ (by omega)]; omega) (by omega) _ _ _ (by omega) Y (lv_sub hl [0, 1, 3, 4] rfl)
        · refine r_iload_n X dX8_rankOf_35 hl 0 rfl ?_
          refine r_iload_n X dX8_rankOf_36 hl 3 rfl ?_
          refine r_icmp_le X (tgt := 44) dX8_rankOf_37 (by decide) ⟨by omega, by omega⟩ ⟨by omega, by omega⟩ (fun c37 => ?_) (fun c37 => ?_)
          · refine r_iconst X dX8_rankOf_44 ?_
            refine r_goto X 66 dX8_rankOf_45 (by decide) ?_
            refine r_istore X dX8_rankOf_66 hl [(4, .int (iV (0))), (3, .int (iV (k))), (2, .int (iV (z))), (0, .ref (g.1 + 100)), (1, .int (iV (i)))] (by decide) rfl (fun ls hl => ?_)
            refine r_iload_n X dX8_rankOf_68 hl 2 rfl ?_
            refine r_iload X dX8_rankOf_69 hl 0 rfl ?_
            refine r_if_eq X (tgt := 78) dX8_rankOf_71 (by decide) ⟨by omega, by omega⟩ (fun c71 => ?_) (fun c71 => ?_)
            · refine r_iconst X dX8_rankOf_78 ?_
              refine r_iadd X dX8_rankOf_79 ?_
              refine r_istore_n X dX8_rankOf_80 hl [(2, .int (iV (z + 0))), (4, .int (iV (0))), (3, .int (iV (k))), (0, .ref (g.1 + 100)), (1, .int (iV (i)))] (by decide) rfl (fun ls hl => ?_)
              refine r_iinc X dX8_rankOf_81 hl 2 rfl [(3, .int (iV (k + 1))), (2, .int (iV (z + 0))), (4, .int (iV (0))), (0, .ref (g.1 + 100)), (1, .int (iV (i)))] (by decide) rfl (fun ls hl => ?_)
              refine r_goto X 4 dX8_rankOf_84 (by decide) ?_
              exact ih (z + 0) (k + 1) (by omega) (by omega) (by have e : rkX a b i k = 0 := (by show (if tget a b 19 k 2 = tget a b 19 i 2 then (if i < k then (1 : Int) else 0) else if tget a b 19 k 2 = 1 then 1 else 0) = _; (repeat (first | rw [if_pos (by omega)] | rw [if_neg (by omega)]))); rw [sumR_succ _ (by omega)]; omega) (by omega) _ _ _ (by omega) Y (lv_sub hl [0, 1, 3, 4] rfl)
            · exact absurd c71 (by omega)
          · refine r_iconst X dX8_rankOf_40 ?_
            refine r_goto X 66 dX8_rankOf_41 (by decide) ?_
            refine r_istore X dX8_rankOf_66 hl [(4, .int (iV (1))), (3, .int (iV (k))), (2, .int (iV (z))), (0, .ref (g.1 + 100)), (1, .int (iV (i)))] (by decide) rfl (fun ls hl => ?_)
            refine r_iload_n X dX8_rankOf_68 hl 2 rfl ?_
            refine r_iload X dX8_rankOf_69 hl 0 rfl ?_
            refine r_if_eq X (tgt := 78) dX8_rankOf_71 (by decide) ⟨by omega, by omega⟩ (fun c71 => ?_) (fun c71 => ?_)
            · exact absurd c71 (by omega)
            · refine r_iconst X dX8_rankOf_74 ?_
              refine r_goto X 79 dX8_rankOf_75 (by decide) ?_
              refine r_iadd X dX8_rankOf_79 ?_
              refine r_istore_n X dX8_rankOf_80 hl [(2, .int (iV (z + 1))), (4, .int (iV (1))), (3, .int (iV (k))), (0, .ref (g.1 + 100)), (1, .int (iV (i)))] (by decide) rfl (fun ls hl => ?_)
              refine r_iinc X dX8_rankOf_81 hl 2 rfl [(3, .int (iV (k + 1))), (2, .int (iV (z + 1))), (4, .int (iV (1))), (0, .ref (g.1 + 100)), (1, .int (iV (i)))] (by decide) rfl (fun ls hl => ?_)
              refine r_goto X 4 dX8_rankOf_84 (by decide) ?_
              exact ih (z + 1) (k + 1) (by omega) (by omega) (by have e : rkX a b i k = 1 := (by show (if tget a b 19 k 2 = tget a b 19 i 2 then (if i < k then (1 : Int) else 0) else if tget a b 19 k 2 = 1 then 1 else 0) = _; (repeat (first | rw [if_pos (by omega)] | rw [if_neg (by omega)]))); rw [sumR_succ _ (by omega)]; omega) (by omega) _ _ _ (by omega) Y (lv_sub hl [0, 1, 3, 4] rfl)
  exact loop4 (((a 19 3 - (0 : Int)).toNat) + 1) 0 0 (by omega) (by omega) (by rw [sumR_nil _ (by omega)]) (by omega) _ _ _ (Nat.lt_succ_self _) Y (lv_sub hl [0, 1, 2, 3] rfl)
set_option maxHeartbeats 4000000 in
set_option maxRecDepth 100000 in
theorem ct_X8_leg (l : Launch) (g : uG) (t : uN) (f : uF) (a : uN) (b : uF) (i w : Int) (L : ML a b t f) (hi : inI i) (hw : inI w) : cF_i l yX8_leg cX8_leg 3 (some .int) 3 g [.ref (g.1 + 100), .int (iV (i)), .int (iV (w))] t f (legX a b i w) (t) (f) := by
  refine eF_i (by decide +kernel) (Nat.le_of_ble_eq_true rfl) ?_
  intro p e R s m args below meth c Q ls H locs X Y hl ret
  have X : uX p 3 R s m args c cX8_leg 3 RX8 := X
  have hl : lv_has ls 3 [(0, .ref (g.1 + 100)), (1, .int (iV (i))), (2, .int (iV (w)))] := hl
  have hb := L.1.b
  obtain ⟨p0, p1, p2, p3, p4⟩ := L.p
  obtain ⟨v3, v4, v5, v6, v10⟩ := L.v
  have hk := L.2.1.2.1
  have hns := L.2.2.1
  refine r_aload_n X dX8_leg_0 hl 0 rfl ?_
  refine r_iload_n X dX8_leg_1 hl 1 rfl ?_
  refine vF_i X Y [.int (iV (i))] [] (ct_X8_isLeg l g t f a b i L ⟨by omega, by omega⟩) mk_X8_isLeg mi_X8_isLeg wm_935 (by decide) (rv_8 Y rfl) rfl hl (Nat.le_of_ble_eq_true rfl) rfl dX8_leg_2 (Nat.zero_le _) (Nat.zero_le _) (fun H locs Y => ?_)
  have qh2 := thas_b a 14 i
  refine r_if_ne X (tgt := 11) dX8_leg_5 (by decide) ⟨by omega, by omega⟩ (fun c5 => ?_) (fun c5 => ?_)
  · have hle := L.l (i := i) (by omega) (by omega)
    refine r_iload_n X dX8_leg_11 hl 2 rfl ?_
    rcases (show (w < 0 ∨ 3 < w) ∨ w = 0 ∨ w = 1 ∨ w = 2 ∨ w = 3 by omega) with hsw | hsw | hsw | hsw | hsw
    · refine r_tabOut X 77 dX8_leg_12 ⟨by omega, by omega⟩ hsw (by decide) ?_
      refine r_ldc X (-1000000002) wm_855 (by decide) dX8_leg_77 ?_
      exact ret _ _ _ _ _ _ _ dX8_leg_79 Y ⟨by have hq := True.intro; unfold legX; (repeat (first | rw [if_pos (by omega)] | rw [if_neg (by omega)])); (try (first | rfl | omega | (rw [show w = 0 by omega]; omega) | (rw [show w = 1 by omega]; omega) | (rw [show w = 2 by omega]; omega) | (rw [show w = 3 by omega]; omega) | (rw [show w = 4 by omega]; omega))), rfl, rfl⟩
    · refine r_tabIn X (32) 44 dX8_leg_12 ⟨by omega, by omega⟩ (by omega) (by omega) (by rw [hsw]; rfl) (by decide) ?_
      refine r_aload_n X dX8_leg_44 hl 0 rfl ?_
      refine g_8_7 (k := 100) X Y rfl wm_744 dX8_leg_45 ?_
      refine r_iload_n X dX8_leg_48 hl 1 rfl ?_
      refine g_ild (k := 103) X Y rfl (by omega) (by have q : ((al 103 : Nat) : Int) = 7 := rfl; omega) dX8_leg_49 ?_
      exact ret _ _ _ _ _ _ _ dX8_leg_50 Y ⟨by have hq := True.intro; unfold legX; (repeat (first | rw [if_pos (by omega)] | rw [if_neg (by omega)])); (try (first | rfl | omega | (rw [show w = 0 by omega]; omega) | (rw [show w = 1 by omega]; omega) | (rw [show w = 2 by omega]; omega) | (rw [show w = 3 by omega]; omega) | (rw [show w = 4 by omega]; omega))), rfl, rfl⟩
    · refine r_tabIn X (39) 51 dX8_leg_12 ⟨by omega, by omega⟩ (by omega) (by omega) (by rw [hsw]; rfl) (by decide) ?_
      refine r_aload_n X dX8_leg_51 hl 0 rfl ?_
      refine g_8_8 (k := 100) X Y rfl wm_745 dX8_leg_52 ?_
      refine r_iload_n X dX8_leg_55 hl 1 rfl ?_
      refine g_ild (k := 104) X Y rfl (by omega) (by have q : ((al 104 : Nat) : Int) = 7 := rfl; omega) dX8_leg_56 ?_
      exact ret _ _ _ _ _ _ _ dX8_leg_57 Y ⟨by have hq := True.intro; unfold legX; (repeat (first | rw [if_pos (by omega)] | rw [if_neg (by omega)])); (try (first | rfl | omega | (rw [show w = 0 by omega]; omega) | (rw [show w = 1 by omega]; omega) | (rw [show w = 2 by omega]; omega) | (rw [show w = 3 by omega]; omega) | (rw [show w = 4 by omega]; omega))), rfl, rfl⟩
    · refine r_tabIn X (46) 58 dX8_leg_12 ⟨by omega, by omega⟩ (by omega) (by omega) (by rw [hsw]; rfl) (by decide) ?_
      refine r_aload_n X dX8_leg_58 hl 0 rfl ?_
      refine g_8_9 (k := 100) X Y rfl wm_746 dX8_leg_59 ?_
      refine r_iload_n X dX8_leg_62 hl 1 rfl ?_
      refine g_ild (k := 105) X Y rfl (by omega) (by have q : ((al 105 : Nat) : Int) = 7 := rfl; omega) dX8_leg_63 ?_
      exact ret _ _ _ _ _ _ _ dX8_leg_64 Y ⟨by have hq := True.intro; unfold legX; (repeat (first | rw [if_pos (by omega)] | rw [if_neg (by omega)])); (try (first | rfl | omega | (rw [show w = 0 by omega]; omega) | (rw [show w = 1 by omega]; omega) | (rw [show w = 2 by omega]; omega) | (rw [show w = 3 by omega]; omega) | (rw [show w = 4 by omega]; omega))), rfl, rfl⟩
    · refine r_tabIn X (53) 65 dX8_leg_12 ⟨by omega, by omega⟩ (by omega) (by omega) (by rw [hsw]; rfl) (by decide) ?_
      refine r_aload_n X dX8_leg_65 hl 0 rfl ?_
      refine r_iload_n X dX8_leg_66 hl 1 rfl ?_
      refine r_aload_n X dX8_leg_67 hl 0 rfl ?_
      refine g_8_0 (k := 100) X Y rfl wm_737 dX8_leg_68 ?_
      refine r_iconst X dX8_leg_71 ?_
      refine g_ild (k := 101) X Y rfl (by omega) (by have q : ((al 101 : Nat) : Int) = 1008 := rfl; omega) dX8_leg_72 ?_
      refine r_eq (z' := a 18 1) p2 ?_
      refine vF_i X Y [.int (iV (i)), .int (iV (a 18 1))] [] (ct_X8_oddsOf l g t f a b i (a 18 1) L (by omega) (by omega) (by omega) (by omega)) mk_X8_oddsOf mi_X8_oddsOf wm_940 (by decide) (rv_8 Y rfl) rfl hl (Nat.le_of_ble_eq_true rfl) rfl dX8_leg_73 (Nat.zero_le _) (Nat.zero_le _) (fun H locs Y => ?_)
      have qo73 := oddX_rng L.1.1 i (a 18 1) (by omega) (by omega)
      exact ret _ _ _ _ _ _ _ dX8_leg_76 Y ⟨by have hq := True.intro; unfold legX; (repeat (first | rw [if_pos (by omega)] | rw [if_neg (by omega)])); (try (first | rfl | omega | (rw [show w = 0 by omega]; omega) | (rw [show w = 1 by omega]; omega) | (rw [show w = 2 by omega]; omega) | (rw [show w = 3 by omega]; omega) | (rw [show w = 4 by omega]; omega))), rfl, rfl⟩
  · refine r_ldc X (-1000000001) wm_939 (by decide) dX8_leg_8 ?_
    exact ret _ _ _ _ _ _ _ dX8_leg_10 Y ⟨by have hq := True.intro; unfold legX; (repeat (first | rw [if_pos (by omega)] | rw [if_neg (by omega)])); (try (first | rfl | omega | (rw [show w = 0 by omega]; omega) | (rw [show w = 1 by omega]; omega) | (rw [show w = 2 by omega]; omega) | (rw [show w = 3 by omega]; omega) | (rw [show w = 4 by omega]; omega))), rfl, rfl⟩
set_option maxHeartbeats 4000000 in
set_option maxRecDepth 100000 in
theorem ct_X8_lender (l : Launch) (g : uG) (t : uN) (f : uF) (a : uN) (b : uF) (i w : Int) (L : ML a b t f) (hi : inI i) (hw : inI w) : cF_i l yX8_lender cX8_lender 3 (some .int) 3 g [.ref (g.1 + 100), .int (iV (i)), .int (iV (w))] t f (lenX a b i w) (t) (f) := by
  refine eF_i (by decide +kernel) (Nat.le_of_ble_eq_true rfl) ?_
  intro p e R s m args below meth c Q ls H locs X Y hl ret
  have X : uX p 3 R s m args c cX8_lender 3 RX8 := X
  have hl : lv_has ls 3 [(0, .ref (g.1 + 100)), (1, .int (iV (i))), (2, .int (iV (w)))] := hl
  have hb := L.1.b
  obtain ⟨p0, p1, p2, p3, p4⟩ := L.p
  obtain ⟨v3, v4, v5, v6, v10⟩ := L.v
  have hk := L.2.1.2.1
  have hns := L.2.2.1
  refine r_aload_n X dX8_lender_0 hl 0 rfl ?_
  refine r_iload_n X dX8_lender_1 hl 1 rfl ?_
  refine vF_i X Y [.int (iV (i))] [] (ct_X8_isLender l g t f a b i L ⟨by omega, by omega⟩) mk_X8_isLender mi_X8_isLender wm_948 (by decide) (rv_8 Y rfl) rfl hl (Nat.le_of_ble_eq_true rfl) rfl dX8_lender_2 (Nat.zero_le _) (Nat.zero_le _) (fun H locs Y => ?_)
  have qh2 := thas_b a 16 i
  refine r_if_ne X (tgt := 11) dX8_lender_5 (by decide) ⟨by omega, by omega⟩ (fun c5 => ?_) (fun c5 => ?_)
  · have hle := L.m (i := i) (by omega) (by omega)
    refine r_iload_n X dX8_lender_11 hl 2 rfl ?_
    refine r_if_ne X (tgt := 24) dX8_lender_12 (by decide) ⟨by omega, by omega⟩ (fun c12 => ?_) (fun c12 => ?_)
    · refine r_iload_n X dX8_lender_24 hl 2 rfl ?_
      refine r_iconst X dX8_lender_25 ?_
      refine r_icmp_ne X (tgt := 38) dX8_lender_26 (by decide) ⟨by omega, by omega⟩ ⟨by omega, by omega⟩ (fun c26 => ?_) (fun c26 => ?_)
      · refine r_iload_n X dX8_lender_38 hl 2 rfl ?_
        refine r_iconst X dX8_lender_39 ?_
        refine r_icmp_ne X (tgt := 51) dX8_lender_40 (by decide) ⟨by omega, by omega⟩ ⟨by omega, by omega⟩ (fun c40 => ?_) (fun c40 => ?_)
        · refine r_ldc X (-1000000002) wm_855 (by decide) dX8_lender_51 ?_
          exact ret _ _ _ _ _ _ _ dX8_lender_53 Y ⟨by have hq := True.intro; unfold lenX; (repeat (first | rw [if_pos (by omega)] | rw [if_neg (by omega)])); (try (first | rfl | omega | (rw [show w = 0 by omega]; omega) | (rw [show w = 1 by omega]; omega) | (rw [show w = 2 by omega]; omega) | (rw [show w = 3 by omega]; omega) | (rw [show w = 4 by omega]; omega))), rfl, rfl⟩
        · refine r_aload_n X dX8_lender_43 hl 0 rfl ?_
          refine r_iload_n X dX8_lender_44 hl 1 rfl ?_
          refine vF_i X Y [.int (iV (i))] [] (ct_X8_yetOf l g t f a b i L (by omega) (by omega)) mk_X8_yetOf mi_X8_yetOf wm_952 (by decide) (rv_8 Y rfl) rfl hl (Nat.le_of_ble_eq_true rfl) rfl dX8_lender_45 (Nat.zero_le _) (Nat.zero_le _) (fun H locs Y => ?_)
          have qy45 := yetX_rng L.1 i
          refine r_goto X 53 dX8_lender_48 (by decide) ?_
          exact ret _ _ _ _ _ _ _ dX8_lender_53 Y ⟨by have hq := True.intro; unfold lenX; (repeat (first | rw [if_pos (by omega)] | rw [if_neg (by omega)])); (try (first | rfl | omega | (rw [show w = 0 by omega]; omega) | (rw [show w = 1 by omega]; omega) | (rw [show w = 2 by omega]; omega) | (rw [show w = 3 by omega]; omega) | (rw [show w = 4 by omega]; omega))), rfl, rfl⟩
      · refine r_aload_n X dX8_lender_29 hl 0 rfl ?_
        refine g_8_12 (k := 100) X Y rfl wm_749 dX8_lender_30 ?_
        refine r_iload_n X dX8_lender_33 hl 1 rfl ?_
        refine g_ild (k := 107) X Y rfl (by omega) (by have q : ((al 107 : Nat) : Int) = 5 := rfl; omega) dX8_lender_34 ?_
        refine r_goto X 53 dX8_lender_35 (by decide) ?_
        exact ret _ _ _ _ _ _ _ dX8_lender_53 Y ⟨by have hq := True.intro; unfold lenX; (repeat (first | rw [if_pos (by omega)] | rw [if_neg (by omega)])); (try (first | rfl | omega | (rw [show w = 0 by omega]; omega) | (rw [show w = 1 by omega]; omega) | (rw [show w = 2 by omega]; omega) | (rw [show w = 3 by omega]; omega) | (rw [show w = 4 by omega]; omega))), rfl, rfl⟩
    · refine r_aload_n X dX8_lender_15 hl 0 rfl ?_
      refine g_8_11 (k := 100) X Y rfl wm_748 dX8_lender_16 ?_
      refine r_iload_n X dX8_lender_19 hl 1 rfl ?_
      refine g_ild (k := 106) X Y rfl (by omega) (by have q : ((al 106 : Nat) : Int) = 5 := rfl; omega) dX8_lender_20 ?_
      refine r_goto X 53 dX8_lender_21 (by decide) ?_
      exact ret _ _ _ _ _ _ _ dX8_lender_53 Y ⟨by have hq := True.intro; unfold lenX; (repeat (first | rw [if_pos (by omega)] | rw [if_neg (by omega)])); (try (first | rfl | omega | (rw [show w = 0 by omega]; omega) | (rw [show w = 1 by omega]; omega) | (rw [show w = 2 by omega]; omega) | (rw [show w = 3 by omega]; omega) | (rw [show w = 4 by omega]; omega))), rfl, rfl⟩
  · refine r_ldc X (-1000000001) wm_939 (by decide) dX8_lender_8 ?_
    exact ret _ _ _ _ _ _ _ dX8_lender_10 Y ⟨by have hq := True.intro; unfold lenX; (repeat (first | rw [if_pos (by omega)] | rw [if_neg (by omega)])); (try (first | rfl | omega | (rw [show w = 0 by omega]; omega) | (rw [show w = 1 by omega]; omega) | (rw [show w = 2 by omega]; omega) | (rw [show w = 3 by omega]; omega) | (rw [show w = 4 by omega]; omega))), rfl, rfl⟩
set_option maxHeartbeats 4000000 in
set_option maxRecDepth 100000 in
theorem ct_X8_loan (l : Launch) (g : uG) (t : uN) (f : uF) (a : uN) (b : uF) (i w : Int) (L : ML a b t f) (hi : inI i) (hw : inI w) : cF_i l yX8_loan cX8_loan 3 (some .int) 3 g [.ref (g.1 + 100), .int (iV (i)), .int (iV (w))] t f (loaX a b i w) (t) (f) := by
  refine eF_i (by decide +kernel) (Nat.le_of_ble_eq_true rfl) ?_
  intro p e R s m args below meth c Q ls H locs X Y hl ret
  have X : uX p 3 R s m args c cX8_loan 3 RX8 := X
  have hl : lv_has ls 3 [(0, .ref (g.1 + 100)), (1, .int (iV (i))), (2, .int (iV (w)))] := hl
  have hb := L.1.b
  obtain ⟨p0, p1, p2, p3, p4⟩ := L.p
  obtain ⟨v3, v4, v5, v6, v10⟩ := L.v
  have hk := L.2.1.2.1
  have hns := L.2.2.1
  refine r_aload_n X dX8_loan_0 hl 0 rfl ?_
  refine r_iload_n X dX8_loan_1 hl 1 rfl ?_
  refine vF_i X Y [.int (iV (i))] [] (ct_X8_isLoan l g t f a b i L ⟨by omega, by omega⟩) mk_X8_isLoan mi_X8_isLoan wm_960 (by decide) (rv_8 Y rfl) rfl hl (Nat.le_of_ble_eq_true rfl) rfl dX8_loan_2 (Nat.zero_le _) (Nat.zero_le _) (fun H locs Y => ?_)
  have qh2 := thas_b a 19 i
  refine r_if_ne X (tgt := 11) dX8_loan_5 (by decide) ⟨by omega, by omega⟩ (fun c5 => ?_) (fun c5 => ?_)
  · have hle := L.c (i := i) (by omega) (by omega)
    have hlo := L.o (i := i) (by omega) (by omega)
    refine r_iload_n X dX8_loan_11 hl 2 rfl ?_
    rcases (show (w < 0 ∨ 5 < w) ∨ w = 0 ∨ w = 1 ∨ w = 2 ∨ w = 3 ∨ w = 4 ∨ w = 5 by omega) with hsw | hsw | hsw | hsw | hsw | hsw | hsw
    · refine r_tabOut X 104 dX8_loan_12 ⟨by omega, by omega⟩ hsw (by decide) ?_
      refine r_ldc X (-1000000002) wm_855 (by decide) dX8_loan_104 ?_
      exact ret _ _ _ _ _ _ _ dX8_loan_106 Y ⟨by have hq := True.intro; unfold loaX; (repeat (first | rw [if_pos (by omega)] | rw [if_neg (by omega)])); (try (first | rfl | omega | (rw [show w = 0 by omega]; omega) | (rw [show w = 1 by omega]; omega) | (rw [show w = 2 by omega]; omega) | (rw [show w = 3 by omega]; omega) | (rw [show w = 4 by omega]; omega))), rfl, rfl⟩
    · refine r_tabIn X (40) 52 dX8_loan_12 ⟨by omega, by omega⟩ (by omega) (by omega) (by rw [hsw]; rfl) (by decide) ?_
      refine r_aload_n X dX8_loan_52 hl 0 rfl ?_
      refine g_8_0 (k := 100) X Y rfl wm_737 dX8_loan_53 ?_
      refine r_iconst X dX8_loan_56 ?_
      refine r_iload_n X dX8_loan_57 hl 1 rfl ?_
      refine r_iadd X dX8_loan_58 ?_
      refine g_ild (k := 101) X Y rfl (by omega) (by have q : ((al 101 : Nat) : Int) = 1008 := rfl; omega) dX8_loan_59 ?_
      exact ret _ _ _ _ _ _ _ dX8_loan_60 Y ⟨by have hq := True.intro; unfold loaX; (repeat (first | rw [if_pos (by omega)] | rw [if_neg (by omega)])); (try (first | rfl | omega | (rw [show w = 0 by omega]; omega) | (rw [show w = 1 by omega]; omega) | (rw [show w = 2 by omega]; omega) | (rw [show w = 3 by omega]; omega) | (rw [show w = 4 by omega]; omega))), rfl, rfl⟩
    · refine r_tabIn X (49) 61 dX8_loan_12 ⟨by omega, by omega⟩ (by omega) (by omega) (by rw [hsw]; rfl) (by decide) ?_
      refine r_aload_n X dX8_loan_61 hl 0 rfl ?_
      refine g_8_0 (k := 100) X Y rfl wm_737 dX8_loan_62 ?_
      refine r_bipush X 14 dX8_loan_65 (by decide) ?_
      refine r_iload_n X dX8_loan_67 hl 1 rfl ?_
      refine r_iadd X dX8_loan_68 ?_
      refine g_ild (k := 101) X Y rfl (by omega) (by have q : ((al 101 : Nat) : Int) = 1008 := rfl; omega) dX8_loan_69 ?_
      exact ret _ _ _ _ _ _ _ dX8_loan_70 Y ⟨by have hq := True.intro; unfold loaX; (repeat (first | rw [if_pos (by omega)] | rw [if_neg (by omega)])); (try (first | rfl | omega | (rw [show w = 0 by omega]; omega) | (rw [show w = 1 by omega]; omega) | (rw [show w = 2 by omega]; omega) | (rw [show w = 3 by omega]; omega) | (rw [show w = 4 by omega]; omega))), rfl, rfl⟩
    · refine r_tabIn X (59) 71 dX8_loan_12 ⟨by omega, by omega⟩ (by omega) (by omega) (by rw [hsw]; rfl) (by decide) ?_
      refine r_aload_n X dX8_loan_71 hl 0 rfl ?_
      refine g_8_0 (k := 100) X Y rfl wm_737 dX8_loan_72 ?_
      refine r_bipush X 23 dX8_loan_75 (by decide) ?_
      refine r_iload_n X dX8_loan_77 hl 1 rfl ?_
      refine r_iadd X dX8_loan_78 ?_
      refine g_ild (k := 101) X Y rfl (by omega) (by have q : ((al 101 : Nat) : Int) = 1008 := rfl; omega) dX8_loan_79 ?_
      exact ret _ _ _ _ _ _ _ dX8_loan_80 Y ⟨by have hq := True.intro; unfold loaX; (repeat (first | rw [if_pos (by omega)] | rw [if_neg (by omega)])); (try (first | rfl | omega | (rw [show w = 0 by omega]; omega) | (rw [show w = 1 by omega]; omega) | (rw [show w = 2 by omega]; omega) | (rw [show w = 3 by omega]; omega) | (rw [show w = 4 by omega]; omega))), rfl, rfl⟩
    · refine r_tabIn X (69) 81 dX8_loan_12 ⟨by omega, by omega⟩ (by omega) (by omega) (by rw [hsw]; rfl) (by decide) ?_
      refine r_aload_n X dX8_loan_81 hl 0 rfl ?_
      refine r_iconst X dX8_loan_82 ?_
      refine r_iload_n X dX8_loan_83 hl 1 rfl ?_
      refine vF_i X Y [.int (iV (0)), .int (iV (i))] [] (ct_X8_dueOf l g t f 0 i ((L.d (by omega) (by omega)).1)) mk_X8_dueOf mi_X8_dueOf wm_915 (by decide) (rv_8 Y rfl) rfl hl (Nat.le_of_ble_eq_true rfl) rfl dX8_loan_84 (Nat.zero_le _) (Nat.zero_le _) (fun H locs Y => ?_)
      have qd84 := L.d (i := i) (by omega) (by omega)
      have qe84 : dueM f 0 i = tget a b 19 i 3 := qd84.2
      exact ret _ _ _ _ _ _ _ dX8_loan_87 Y ⟨by have hq := True.intro; unfold loaX; (repeat (first | rw [if_pos (by omega)] | rw [if_neg (by omega)])); (try (first | rfl | omega | (rw [show w = 0 by omega]; omega) | (rw [show w = 1 by omega]; omega) | (rw [show w = 2 by omega]; omega) | (rw [show w = 3 by omega]; omega) | (rw [show w = 4 by omega]; omega))), rfl, rfl⟩
    · refine r_tabIn X (76) 88 dX8_loan_12 ⟨by omega, by omega⟩ (by omega) (by omega) (by rw [hsw]; rfl) (by decide) ?_
      refine r_aload_n X dX8_loan_88 hl 0 rfl ?_
      refine g_8_0 (k := 100) X Y rfl wm_737 dX8_loan_89 ?_
      refine r_bipush X 32 dX8_loan_92 (by decide) ?_
      refine r_iload_n X dX8_loan_94 hl 1 rfl ?_
      refine r_iadd X dX8_loan_95 ?_
      refine g_ild (k := 101) X Y rfl (by omega) (by have q : ((al 101 : Nat) : Int) = 1008 := rfl; omega) dX8_loan_96 ?_
      exact ret _ _ _ _ _ _ _ dX8_loan_97 Y ⟨by have hq := True.intro; unfold loaX; (repeat (first | rw [if_pos (by omega)] | rw [if_neg (by omega)])); (try (first | rfl | omega | (rw [show w = 0 by omega]; omega) | (rw [show w = 1 by omega]; omega) | (rw [show w = 2 by omega]; omega) | (rw [show w = 3 by omega]; omega) | (rw [show w = 4 by omega]; omega))), rfl, rfl⟩
    · refine r_tabIn X (86) 98 dX8_loan_12 ⟨by omega, by omega⟩ (by omega) (by omega) (by rw [hsw]; rfl) (by decide) ?_
      refine r_aload_n X dX8_loan_98 hl 0 rfl ?_
      refine r_iload_n X dX8_loan_99 hl 1 rfl ?_
      refine vF_i X Y [.int (iV (i))] [] (ct_X8_rankOf l g t f a b i L (by omega) (by omega)) mk_X8_rankOf mi_X8_rankOf wm_964 (by decide) (rv_8 Y rfl) rfl hl (Nat.le_of_ble_eq_true rfl) rfl dX8_loan_100 (Nat.zero_le _) (Nat.zero_le _) (fun H locs Y => ?_)
      exact ret _ _ _ _ _ _ _ dX8_loan_103 Y ⟨by have hq := True.intro; unfold loaX; (repeat (first | rw [if_pos (by omega)] | rw [if_neg (by omega)])); (try (first | rfl | omega | (rw [show w = 0 by omega]; omega) | (rw [show w = 1 by omega]; omega) | (rw [show w = 2 by omega]; omega) | (rw [show w = 3 by omega]; omega) | (rw [show w = 4 by omega]; omega))), rfl, rfl⟩
  · refine r_ldc X (-1000000001) wm_939 (by decide) dX8_loan_8 ?_
    exact ret _ _ _ _ _ _ _ dX8_loan_10 Y ⟨by have hq := True.intro; unfold loaX; (repeat (first | rw [if_pos (by omega)] | rw [if_neg (by omega)])); (try (first | rfl | omega | (rw [show w = 0 by omega]; omega) | (rw [show w = 1 by omega]; omega) | (rw [show w = 2 by omega]; omega) | (rw [show w = 3 by omega]; omega) | (rw [show w = 4 by omega]; omega))), rfl, rfl⟩
set_option maxHeartbeats 4000000 in
set_option maxRecDepth 100000 in
theorem ct_X8_through (l : Launch) (g : uG) (t : uN) (f : uF) (a : uN) (b : uF) (x y s0 : Int) (L : ML a b t f) (h0 : 0 ≤ x) (h1 : y ≤ a 14 3) (h2 : 0 ≤ s0) (h3 : s0 ≤ 9) (h4 : x ≤ 100) (h5 : -100 ≤ y) : cF_l l yX8_through cX8_through 8 2 g [.ref (g.1 + 100), .int (iV (x)), .int (iV (y)), .int (iV (s0))] t f (thru (oddX a b 11) x y s0 1000000) (t) (f) := by
  refine eF_l (by decide +kernel) (Nat.le_of_ble_eq_true rfl) ?_
  intro p e R s m args below meth c Q ls H locs X Y hl ret
  have X : uX p 2 R s m args c cX8_through 8 RX8 := X
  have hl : lv_has ls 8 [(0, .ref (g.1 + 100)), (1, .int (iV (x))), (2, .int (iV (y))), (3, .int (iV (s0)))] := hl
  have hb := L.1.b
  obtain ⟨p0, p1, p2, p3, p4⟩ := L.p
  obtain ⟨v3, v4, v5, v6, v10⟩ := L.v
  have hk := L.2.1.2.1
  have hns := L.2.2.1
  refine r_ldc2 X 1000000 wm_1032 (by decide) dX8_through_0 ?_
  refine r_lstore X dX8_through_3 hl [(4, .long (lV (1000000))), (0, .ref (g.1 + 100)), (1, .int (iV (x))), (2, .int (iV (y))), (3, .int (iV (s0)))] (by decide) rfl (fun ls hl => ?_)
  refine r_iload_n X dX8_through_5 hl 4 rfl ?_
  refine r_istore X dX8_through_6 hl [(6, .int (iV (s0))), (4, .long (lV (1000000))), (0, .ref (g.1 + 100)), (1, .int (iV (x))), (2, .int (iV (y))), (3, .int (iV (s0)))] (by decide) rfl (fun ls hl => ?_)
  refine r_iload_n X dX8_through_8 hl 3 rfl ?_
  refine r_istore X dX8_through_9 hl [(7, .int (iV (x))), (6, .int (iV (s0))), (4, .long (lV (1000000))), (0, .ref (g.1 + 100)), (1, .int (iV (x))), (2, .int (iV (y))), (3, .int (iV (s0)))] (by decide) rfl (fun ls hl => ?_)
  have loop11 : ∀ (N : Nat) (i : Int) (q : Int) (c0 : Int) (hi0 : x ≤ i) (hi1 : i ≤ x ∨ i ≤ y) (hq0 : 0 ≤ q) (hq1 : q ≤ 9) (hc0 : 0 ≤ c0) (hc1 : c0 ≤ 1000000) (he : thru (oddX a b 11) i y q c0 = thru (oddX a b 11) x y s0 1000000) (H : Heap) (locs : List Loc) (ls : Array Slot), (y - i).toNat < N → uY g 117 (cX g t f) s H locs → lv_has ls 8 [(7, .int (iV (i))), (6, .int (iV (q))), (4, .long (lV (c0))), (0, .ref (g.1 + 100)), (2, .int (iV (y)))] → W p l e R s m args below meth c H locs 0 0 Q (F0 m 11 ls []) := by
    intro N
    induction N with
    | zero => intro i q c0 hi0 hi1 hq0 hq1 hc0 hc1 he H locs ls hmu Y hl; exact absurd hmu (Nat.not_lt_zero _)
    | succ N ih =>
      intro i q c0 hi0 hi1 hq0 hq1 hc0 hc1 he H locs ls hmu Y hl
      have ho := oddX_rng L.1.1 i q hq0 hq1
      have hs := step_rng hc0 hc1 ho.1 ho.2.1
      refine r_iload X dX8_through_11 hl 0 rfl ?_
      refine r_iload_n X dX8_through_13 hl 4 rfl ?_
      refine r_icmp_ge X (tgt := 59) dX8_through_14 (by decide) ⟨by omega, by omega⟩ ⟨by omega, by omega⟩ (fun c14 => ?_) (fun c14 => ?_)
      · refine r_lload X dX8_through_59 hl 2 rfl ?_
        exact ret _ _ _ _ _ _ _ dX8_through_61 Y ⟨by rw [← he, thru_end _ (by omega)], rfl, rfl⟩
      · refine r_lload X dX8_through_17 hl 2 rfl ?_
        refine r_bipush X 100 dX8_through_19 (by decide) ?_
        refine r_aload_n X dX8_through_21 hl 3 rfl ?_
        refine r_iload X dX8_through_22 hl 0 rfl ?_
        refine r_iload X dX8_through_24 hl 1 rfl ?_
        refine vF_i X Y [.int (iV (i)), .int (iV (q))] [.int (iV (100)), .long (lV (c0))] (ct_X8_oddsOf l g t f a b i q L (by omega) (by omega) (by omega) (by omega)) mk_X8_oddsOf mi_X8_oddsOf wm_940 (by decide) (rv_8 Y rfl) rfl hl (Nat.le_of_ble_eq_true rfl) rfl dX8_through_26 (Nat.zero_le _) (Nat.zero_le _) (fun H locs Y => ?_)
        have qo26 := oddX_rng L.1.1 i q (by omega) (by omega)
        refine r_isub X dX8_through_29 ?_
        refine r_i2l X dX8_through_30 ⟨by omega, by omega⟩ ?_
        refine r_lmul X dX8_through_31 ?_
        refine r_ldc2 X 100 wm_1033 (by decide) dX8_through_32 ?_
        refine r_ldiv X dX8_through_35 ⟨by omega, by omega⟩ ⟨by omega, by omega⟩ (by omega) ?_
        refine r_lstore X dX8_through_36 hl [(4, .long (lV ((c0 * (100 - (oddX a b 11 i q))).tdiv 100))), (7, .int (iV (i))), (6, .int (iV (q))), (0, .ref (g.1 + 100)), (2, .int (iV (y)))] (by decide) rfl (fun ls hl => ?_)
        refine r_iload X dX8_through_38 hl 2 rfl ?_
        refine r_iload X dX8_through_40 hl 2 rfl ?_
        refine r_if_le X (tgt := 49) dX8_through_42 (by decide) ⟨by omega, by omega⟩ (fun c42 => ?_) (fun c42 => ?_)
        · refine r_iconst X dX8_through_49 ?_
          refine r_isub X dX8_through_50 ?_
          refine r_istore X dX8_through_51 hl [(6, .int (iV (q - 0))), (4, .long (lV ((c0 * (100 - (oddX a b 11 i q))).tdiv 100))), (7, .int (iV (i))), (0, .ref (g.1 + 100)), (2, .int (iV (y)))] (by decide) rfl (fun ls hl => ?_)
          refine r_iinc X dX8_through_53 hl 2 rfl [(7, .int (iV (i + 1))), (6, .int (iV (q - 0))), (4, .long (lV ((c0 * (100 - (oddX a b 11 i q))).tdiv 100))), (0, .ref (g.1 + 100)), (2, .int (iV (y)))] (by decide) rfl (fun ls hl => ?_)
          refine r_goto X 11 dX8_through_56 (by decide) ?_
          exact ih (i + 1) (q - 0) ((c0 * (100 - (oddX a b 11 i q))).tdiv 100) (by omega) (by omega) (by omega) (by omega) (by omega) (by omega) (by rw [← he, thru_step (o := oddX a b 11) (a := i) (b := y) (s := q) (v := c0) (by omega), show max 0 (q - 1) = q - 0 by omega]) _ _ _ (by omega) Y (lv_sub hl [0, 1, 2, 3, 4] rfl)
        · refine r_iconst X dX8_through_45 ?_
          refine r_goto X 50 dX8_through_46 (by decide) ?_
          refine r_isub X dX8_through_50 ?_
          refine r_istore X dX8_through_51 hl [(6, .int (iV (q - 1))), (4, .long (lV ((c0 * (100 - (oddX a b 11 i q))).tdiv 100))), (7, .int (iV (i))), (0, .ref (g.1 + 100)), (2, .int (iV (y)))] (by decide) rfl (fun ls hl => ?_)
          refine r_iinc X dX8_through_53 hl 2 rfl [(7, .int (iV (i + 1))), (6, .int (iV (q - 1))), (4, .long (lV ((c0 * (100 - (oddX a b 11 i q))).tdiv 100))), (0, .ref (g.1 + 100)), (2, .int (iV (y)))] (by decide) rfl (fun ls hl => ?_)
          refine r_goto X 11 dX8_through_56 (by decide) ?_
          exact ih (i + 1) (q - 1) ((c0 * (100 - (oddX a b 11 i q))).tdiv 100) (by omega) (by omega) (by omega) (by omega) (by omega) (by omega) (by rw [← he, thru_step (o := oddX a b 11) (a := i) (b := y) (s := q) (v := c0) (by omega), show max 0 (q - 1) = q - 1 by omega]) _ _ _ (by omega) Y (lv_sub hl [0, 1, 2, 3, 4] rfl)
  exact loop11 (((y - x).toNat) + 1) x s0 1000000 (by omega) (by omega) (by omega) (by omega) (by omega) (by omega) rfl _ _ _ (Nat.lt_succ_self _) Y (lv_sub hl [0, 1, 2, 3, 5] rfl)
set_option maxHeartbeats 4000000 in
set_option maxRecDepth 100000 in
theorem ct_X8_homeNow (l : Launch) (g : uG) (t : uN) (f : uF) (a : uN) (b : uF) (L : ML a b t f) : cF_l l yX8_homeNow cX8_homeNow 1 3 g [.ref (g.1 + 100)] t f (homeX a b) (t) (f) := by
  refine eF_l (by decide +kernel) (Nat.le_of_ble_eq_true rfl) ?_
  intro p e R s m args below meth c Q ls H locs X Y hl ret
  have X : uX p 3 R s m args c cX8_homeNow 1 RX8 := X
  have hl : lv_has ls 1 [(0, .ref (g.1 + 100))] := hl
  have hb := L.1.b
  obtain ⟨p0, p1, p2, p3, p4⟩ := L.p
  obtain ⟨v3, v4, v5, v6, v10⟩ := L.v
  have hk := L.2.1.2.1
  have hns := L.2.2.1
  refine r_aload_n X dX8_homeNow_0 hl 0 rfl ?_
  refine r_aload_n X dX8_homeNow_1 hl 0 rfl ?_
  refine g_8_0 (k := 100) X Y rfl wm_737 dX8_homeNow_2 ?_
  refine r_iconst X dX8_homeNow_5 ?_
  refine g_ild (k := 101) X Y rfl (by omega) (by have q : ((al 101 : Nat) : Int) = 1008 := rfl; omega) dX8_homeNow_6 ?_
  refine r_aload_n X dX8_homeNow_7 hl 0 rfl ?_
  refine g_8_6 (k := 100) X Y rfl wm_743 dX8_homeNow_8 ?_
  refine r_aload_n X dX8_homeNow_11 hl 0 rfl ?_
  refine g_8_0 (k := 100) X Y rfl wm_737 dX8_homeNow_12 ?_
  refine r_iconst X dX8_homeNow_15 ?_
  refine g_ild (k := 101) X Y rfl (by omega) (by have q : ((al 101 : Nat) : Int) = 1008 := rfl; omega) dX8_homeNow_16 ?_
  refine vF_l X Y [.int (iV (f 101 0)), .int (iV (t 100 6)), .int (iV (f 101 2))] [] (ct_X8_through l g t f a b (f 101 0) (t 100 6) (f 101 2) L (by omega) (by omega) (by omega) (by omega) (by omega) (by omega)) mk_X8_through mi_X8_through wm_1028 (by decide) (rv_8 Y rfl) rfl hl (Nat.le_of_ble_eq_true rfl) rfl dX8_homeNow_17 (Nat.zero_le _) (Nat.zero_le _) (fun H locs Y => ?_)
  refine r_eql (z' := homeX a b) (by rw [p0, p2, v6]; rfl) ?_
  exact ret _ _ _ _ _ _ _ dX8_homeNow_20 Y ⟨rfl, rfl, rfl⟩
set_option maxHeartbeats 4000000 in
set_option maxRecDepth 100000 in
theorem ct_X8_comesHome (l : Launch) (g : uG) (t : uN) (f : uF) (a : uN) (b : uF) (L : ML a b t f) : cF_i l yX8_comesHome cX8_comesHome 1 (some .int) 4 g [.ref (g.1 + 100)] t f (cohX a b) (t) (f) := by
  refine eF_i (by decide +kernel) (Nat.le_of_ble_eq_true rfl) ?_
  intro p e R s m args below meth c Q ls H locs X Y hl ret
  have X : uX p 4 R s m args c cX8_comesHome 1 RX8 := X
  have hl : lv_has ls 1 [(0, .ref (g.1 + 100))] := hl
  have hb := L.1.b
  obtain ⟨p0, p1, p2, p3, p4⟩ := L.p
  obtain ⟨v3, v4, v5, v6, v10⟩ := L.v
  have hk := L.2.1.2.1
  have hns := L.2.2.1
  refine r_aload_n X dX8_comesHome_0 hl 0 rfl ?_
  refine vF_i X Y [] [] (ct_X8_isGone l g t f a b L) mk_X8_isGone mi_X8_isGone wm_1020 (by decide) (rv_8 Y rfl) rfl hl (Nat.le_of_ble_eq_true rfl) rfl dX8_comesHome_1 (Nat.zero_le _) (Nat.zero_le _) (fun H locs Y => ?_)
  have qg1 := goneX_b hb.1.2.2.2
  refine r_if_eq X (tgt := 12) dX8_comesHome_4 (by decide) ⟨by omega, by omega⟩ (fun c4 => ?_) (fun c4 => ?_)
  · refine r_aload_n X dX8_comesHome_12 hl 0 rfl ?_
    refine vF_l X Y [] [] (ct_X8_homeNow l g t f a b L) mk_X8_homeNow mi_X8_homeNow wm_1024 (by decide) (rv_8 Y rfl) rfl hl (Nat.le_of_ble_eq_true rfl) rfl dX8_comesHome_13 (Nat.zero_le _) (Nat.zero_le _) (fun H locs Y => ?_)
    have qh13 := homeX_rng L.1
    refine r_l2i X dX8_comesHome_16 ?_
    exact ret _ _ _ _ _ _ _ dX8_comesHome_17 Y ⟨by unfold cohX; repeat (first | rw [if_pos (by omega)] | rw [if_neg (by omega)]), rfl, rfl⟩
  · refine r_ldc X (-1000000003) wm_972 (by decide) dX8_comesHome_7 ?_
    refine r_goto X 17 dX8_comesHome_9 (by decide) ?_
    exact ret _ _ _ _ _ _ _ dX8_comesHome_17 Y ⟨by unfold cohX; repeat (first | rw [if_pos (by omega)] | rw [if_neg (by omega)]), rfl, rfl⟩
set_option maxHeartbeats 4000000 in
set_option maxRecDepth 100000 in
theorem ct_X8_rateNow (l : Launch) (g : uG) (t : uN) (f : uF) (a : uN) (b : uF) (L : ML a b t f) : cF_i l yX8_rateNow cX8_rateNow 4 (some .int) 4 g [.ref (g.1 + 100)] t f (rateX (homeX a b)) (t) (f) := by
  refine eF_i (by decide +kernel) (Nat.le_of_ble_eq_true rfl) ?_
  intro p e R s m args below meth c Q ls H locs X Y hl ret
  have X : uX p 4 R s m args c cX8_rateNow 4 RX8 := X
  have hl : lv_has ls 4 [(0, .ref (g.1 + 100))] := hl
  have hb := L.1.b
  obtain ⟨p0, p1, p2, p3, p4⟩ := L.p
  obtain ⟨v3, v4, v5, v6, v10⟩ := L.v
  have hk := L.2.1.2.1
  have hns := L.2.2.1
  refine r_aload_n X dX8_rateNow_0 hl 0 rfl ?_
  refine vF_l X Y [] [] (ct_X8_homeNow l g t f a b L) mk_X8_homeNow mi_X8_homeNow wm_1024 (by decide) (rv_8 Y rfl) rfl hl (Nat.le_of_ble_eq_true rfl) rfl dX8_rateNow_1 (Nat.zero_le _) (Nat.zero_le _) (fun H locs Y => ?_)
  have qh1 := homeX_rng L.1
  refine r_lstore_n X dX8_rateNow_4 hl [(1, .long (lV (homeX a b))), (0, .ref (g.1 + 100))] (by decide) rfl (fun ls hl => ?_)
  refine r_iconst X dX8_rateNow_5 ?_
  refine r_istore_n X dX8_rateNow_6 hl [(3, .int (iV (0))), (1, .long (lV (homeX a b))), (0, .ref (g.1 + 100))] (by decide) rfl (fun ls hl => ?_)
  have loop7 : ∀ (N : Nat) (i : Int) (hi0 : 0 ≤ i) (hi1 : i ≤ 1000) (hi2 : (99 + i) * homeX a b < 100000000) (H : Heap) (locs : List Loc) (ls : Array Slot), (1000 - i).toNat < N → uY g 117 (cX g t f) s H locs → lv_has ls 4 [(3, .int (iV (i))), (1, .long (lV (homeX a b))), (0, .ref (g.1 + 100))] → W p l e R s m args below meth c H locs 0 0 Q (F0 m 7 ls []) := by
    intro N
    induction N with
    | zero => intro i hi0 hi1 hi2 H locs ls hmu Y hl; exact absurd hmu (Nat.not_lt_zero _)
    | succ N ih =>
      intro i hi0 hi1 hi2 H locs ls hmu Y hl
      have m0 : 0 ≤ (100 + i) * homeX a b := Int.mul_nonneg (by omega) (by omega)
      have m1 : (100 + i) * homeX a b ≤ 1100 * 1000000 := Int.mul_le_mul (by omega) (by omega) (by omega) (by omega)
      have hcb := cmpZ_b ((100 + i) * homeX a b) 100000000
      refine r_iload_n X dX8_rateNow_7 hl 0 rfl ?_
      refine r_sipush X 999 dX8_rateNow_8 (by decide) ?_
      refine r_icmp_gt X (tgt := 36) dX8_rateNow_11 (by decide) ⟨by omega, by omega⟩ ⟨by omega, by omega⟩ (fun c11 => ?_) (fun c11 => ?_)
      · refine r_iconst X dX8_rateNow_36 ?_
        exact ret _ _ _ _ _ _ _ dX8_rateNow_37 Y ⟨(rate_no (by omega) (by rw [show i = 1000 by omega] at hi2; exact hi2)).symm, rfl, rfl⟩
      · refine r_bipush X 100 dX8_rateNow_14 (by decide) ?_
        refine r_iload_n X dX8_rateNow_16 hl 0 rfl ?_
        refine r_iadd X dX8_rateNow_17 ?_
        refine r_i2l X dX8_rateNow_18 ⟨by omega, by omega⟩ ?_
        refine r_lload_n X dX8_rateNow_19 hl 1 rfl ?_
        refine r_lmul X dX8_rateNow_20 ?_
        refine r_ldc2 X 100000000 wm_1042 (by decide) dX8_rateNow_21 ?_
        refine r_lcmp X dX8_rateNow_24 ⟨by omega, by omega⟩ ⟨by omega, by omega⟩ ?_
        refine r_if_lt X (tgt := 30) dX8_rateNow_25 (by decide) ⟨by omega, by omega⟩ (fun c25 => ?_) (fun c25 => ?_)
        · refine r_iinc X dX8_rateNow_30 hl 0 rfl [(3, .int (iV (i + 1))), (1, .long (lV (homeX a b))), (0, .ref (g.1 + 100))] (by decide) rfl (fun ls hl => ?_)
          refine r_goto X 7 dX8_rateNow_33 (by decide) ?_
          exact ih (i + 1) (by omega) (by omega) (by rw [show 99 + (i + 1) = 100 + i by omega]; omega) _ _ _ (by omega) Y (lv_sub hl [0, 1, 2] rfl)
        · refine r_iload_n X dX8_rateNow_28 hl 0 rfl ?_
          exact ret _ _ _ _ _ _ _ dX8_rateNow_29 Y ⟨(rate_eq (by omega) hi2 (by omega) hi0 (by omega)).symm, rfl, rfl⟩
  exact loop7 (((1000 - (0:Int)).toNat) + 1) 0 (by omega) (by omega) (by omega) _ _ _ (Nat.lt_succ_self _) Y (lv_sub hl [0, 1, 2] rfl)
set_option maxHeartbeats 4000000 in
set_option maxRecDepth 100000 in
theorem ct_X8_rate (l : Launch) (g : uG) (t : uN) (f : uF) (a : uN) (b : uF) (L : ML a b t f) : cF_i l yX8_rate cX8_rate 1 (some .int) 5 g [.ref (g.1 + 100)] t f (ratX a b) (t) (f) := by
  refine eF_i (by decide +kernel) (Nat.le_of_ble_eq_true rfl) ?_
  intro p e R s m args below meth c Q ls H locs X Y hl ret
  have X : uX p 5 R s m args c cX8_rate 1 RX8 := X
  have hl : lv_has ls 1 [(0, .ref (g.1 + 100))] := hl
  have hb := L.1.b
  obtain ⟨p0, p1, p2, p3, p4⟩ := L.p
  obtain ⟨v3, v4, v5, v6, v10⟩ := L.v
  have hk := L.2.1.2.1
  have hns := L.2.2.1
  refine r_aload_n X dX8_rate_0 hl 0 rfl ?_
  refine vF_i X Y [] [] (ct_X8_isGone l g t f a b L) mk_X8_isGone mi_X8_isGone wm_1020 (by decide) (rv_8 Y rfl) rfl hl (Nat.le_of_ble_eq_true rfl) rfl dX8_rate_1 (Nat.zero_le _) (Nat.zero_le _) (fun H locs Y => ?_)
  have qg1 := goneX_b hb.1.2.2.2
  refine r_if_eq X (tgt := 12) dX8_rate_4 (by decide) ⟨by omega, by omega⟩ (fun c4 => ?_) (fun c4 => ?_)
  · refine r_aload_n X dX8_rate_12 hl 0 rfl ?_
    refine vF_i X Y [] [] (ct_X8_rateNow l g t f a b L) mk_X8_rateNow mi_X8_rateNow wm_1038 (by decide) (rv_8 Y rfl) rfl hl (Nat.le_of_ble_eq_true rfl) rfl dX8_rate_13 (Nat.zero_le _) (Nat.zero_le _) (fun H locs Y => ?_)
    have qhr13 := homeX_rng L.1
    have qr13 := rateX_rng (homeX a b) (by omega) (by omega)
    exact ret _ _ _ _ _ _ _ dX8_rate_16 Y ⟨by unfold ratX; repeat (first | rw [if_pos (by omega)] | rw [if_neg (by omega)]), rfl, rfl⟩
  · refine r_ldc X (-1000000003) wm_972 (by decide) dX8_rate_7 ?_
    refine r_goto X 16 dX8_rate_9 (by decide) ?_
    exact ret _ _ _ _ _ _ _ dX8_rate_16 Y ⟨by unfold ratX; repeat (first | rw [if_pos (by omega)] | rw [if_neg (by omega)]), rfl, rfl⟩
set_option maxHeartbeats 4000000 in
set_option maxRecDepth 100000 in
theorem ct_X8_willing (l : Launch) (g : uG) (t : uN) (f : uF) (a : uN) (b : uF) (L : ML a b t f) : cF_i l yX8_willing cX8_willing 4 (some .int) 5 g [.ref (g.1 + 100)] t f (wilX a b) (t) (f) := by
  refine eF_i (by decide +kernel) (Nat.le_of_ble_eq_true rfl) ?_
  intro p e R s m args below meth c Q ls H locs X Y hl ret
  have X : uX p 5 R s m args c cX8_willing 4 RX8 := X
  have hl : lv_has ls 4 [(0, .ref (g.1 + 100))] := hl
  have hb := L.1.b
  obtain ⟨p0, p1, p2, p3, p4⟩ := L.p
  obtain ⟨v3, v4, v5, v6, v10⟩ := L.v
  have hk := L.2.1.2.1
  have hns := L.2.2.1
  refine r_aload_n X dX8_willing_0 hl 0 rfl ?_
  refine vF_i X Y [] [] (ct_X8_isGone l g t f a b L) mk_X8_isGone mi_X8_isGone wm_1020 (by decide) (rv_8 Y rfl) rfl hl (Nat.le_of_ble_eq_true rfl) rfl dX8_willing_1 (Nat.zero_le _) (Nat.zero_le _) (fun H locs Y => ?_)
  have qg1 := goneX_b hb.1.2.2.2
  refine r_if_eq X (tgt := 10) dX8_willing_4 (by decide) ⟨by omega, by omega⟩ (fun c4 => ?_) (fun c4 => ?_)
  · refine r_aload_n X dX8_willing_10 hl 0 rfl ?_
    refine vF_i X Y [] [] (ct_X8_rateNow l g t f a b L) mk_X8_rateNow mi_X8_rateNow wm_1038 (by decide) (rv_8 Y rfl) rfl hl (Nat.le_of_ble_eq_true rfl) rfl dX8_willing_11 (Nat.zero_le _) (Nat.zero_le _) (fun H locs Y => ?_)
    have qhr11 := homeX_rng L.1
    have qr11 := rateX_rng (homeX a b) (by omega) (by omega)
    refine r_istore_n X dX8_willing_14 hl [(1, .int (iV (rateX (homeX a b)))), (0, .ref (g.1 + 100))] (by decide) rfl (fun ls hl => ?_)
    refine r_iconst X dX8_willing_15 ?_
    refine r_istore_n X dX8_willing_16 hl [(2, .int (iV (0))), (1, .int (iV (rateX (homeX a b)))), (0, .ref (g.1 + 100))] (by decide) rfl (fun ls hl => ?_)
    refine r_iconst X dX8_willing_17 ?_
    refine r_istore_n X dX8_willing_18 hl [(3, .int (iV (0))), (2, .int (iV (0))), (1, .int (iV (rateX (homeX a b)))), (0, .ref (g.1 + 100))] (by decide) rfl (fun ls hl => ?_)
    have loop19 : ∀ (N : Nat) (z : Int) (i : Int) (hi0 : 0 ≤ i) (hi1 : i ≤ a 16 3) (hz : z = bitN (wilC a b) i.toNat) (H : Heap) (locs : List Loc) (ls : Array Slot), (a 16 3 - i).toNat < N → uY g 117 (cX g t f) s H locs → lv_has ls 4 [(3, .int (iV (i))), (2, .int (iV (z))), (0, .ref (g.1 + 100)), (1, .int (iV (rateX (homeX a b))))] → W p l e R s m args below meth c H locs 0 0 Q (F0 m 19 ls []) := by
      intro N
      induction N with
      | zero => intro z i hi0 hi1 hz H locs ls hmu Y hl; exact absurd hmu (Nat.not_lt_zero _)
      | succ N ih =>
        intro z i hi0 hi1 hz H locs ls hmu Y hl
        have hbr := bitN_r (c := wilC a b) hi0
        rw [← hz] at hbr
        have hbb : pow2 i ≤ 32 := by rcases (show i = 0 ∨ i = 1 ∨ i = 2 ∨ i = 3 ∨ i = 4 ∨ i = 5 by omega) with q | q | q | q | q | q <;> subst q <;> decide
        refine r_iload_n X dX8_willing_19 hl 0 rfl ?_
        refine r_aload_n X dX8_willing_20 hl 2 rfl ?_
        refine g_8_10 (k := 100) X Y rfl wm_747 dX8_willing_21 ?_
        refine r_icmp_ge X (tgt := 58) dX8_willing_24 (by decide) ⟨by omega, by omega⟩ ⟨by omega, by omega⟩ (fun c24 => ?_) (fun c24 => ?_)
        · refine r_iload_n X dX8_willing_58 hl 1 rfl ?_
          exact ret _ _ _ _ _ _ _ dX8_willing_59 Y ⟨by unfold wilX; rw [if_pos (by omega), hz]; rw [show i = a 16 3 by omega], rfl, rfl⟩
        · have hm := L.m hi0 (show i < a 16 3 by omega)
          refine r_iload_n X dX8_willing_27 hl 3 rfl ?_
          refine r_iconst X dX8_willing_28 ?_
          refine r_icmp_eq X (tgt := 58) dX8_willing_29 (by decide) ⟨by omega, by omega⟩ ⟨by omega, by omega⟩ (fun c29 => ?_) (fun c29 => ?_)
          · refine r_iload_n X dX8_willing_58 hl 1 rfl ?_
            exact ret _ _ _ _ _ _ _ dX8_willing_59 Y ⟨by unfold wilX; rw [if_pos (by omega), hz]; rw [bit_none (c := wilC a b) (fun j => by unfold wilC; rw [if_neg (by omega)]; decide), bit_none (c := wilC a b) (fun j => by unfold wilC; rw [if_neg (by omega)]; decide)], rfl, rfl⟩
          · refine r_iload_n X dX8_willing_32 hl 1 rfl ?_
            refine r_aload_n X dX8_willing_33 hl 2 rfl ?_
            refine g_8_12 (k := 100) X Y rfl wm_749 dX8_willing_34 ?_
            refine r_iload_n X dX8_willing_37 hl 0 rfl ?_
            refine g_ild (k := 107) X Y rfl (by omega) (by have q : ((al 107 : Nat) : Int) = 5 := rfl; omega) dX8_willing_38 ?_
            refine r_iload_n X dX8_willing_39 hl 3 rfl ?_
            refine r_icmp_lt X (tgt := 49) dX8_willing_40 (by decide) ⟨by omega, by omega⟩ ⟨by omega, by omega⟩ (fun c40 => ?_) (fun c40 => ?_)
            · refine r_iconst X dX8_willing_49 ?_
              refine r_or0 X dX8_willing_50 ?_
              refine r_istore_n X dX8_willing_51 hl [(2, .int (iV (z))), (3, .int (iV (i))), (0, .ref (g.1 + 100)), (1, .int (iV (rateX (homeX a b))))] (by decide) rfl (fun ls hl => ?_)
              refine r_iinc X dX8_willing_52 hl 1 rfl [(3, .int (iV (i + 1))), (2, .int (iV (z))), (0, .ref (g.1 + 100)), (1, .int (iV (rateX (homeX a b))))] (by decide) rfl (fun ls hl => ?_)
              refine r_goto X 19 dX8_willing_55 (by decide) ?_
              exact ih z (i + 1) (by omega) (by omega) (by first | (rw [bitN_1 (c := wilC a b) hi0 (by unfold wilC; exact if_pos ⟨by omega, by omega⟩), ← hz]) | (rw [bitN_0 (c := wilC a b) hi0 (by unfold wilC; rw [if_neg (by omega)]; decide), ← hz])) _ _ _ (by omega) Y (lv_sub hl [0, 1, 2, 3] rfl)
            · refine r_iconst X dX8_willing_43 ?_
              refine r_iload_n X dX8_willing_44 hl 0 rfl ?_
              refine r_shl X dX8_willing_45 (by omega) (by omega) ?_
              refine r_goto X 50 dX8_willing_46 (by decide) ?_
              refine r_orp X dX8_willing_50 (by omega) (by omega) (by omega) (by omega) ?_
              refine r_istore_n X dX8_willing_51 hl [(2, .int (iV (z + pow2 i))), (3, .int (iV (i))), (0, .ref (g.1 + 100)), (1, .int (iV (rateX (homeX a b))))] (by decide) rfl (fun ls hl => ?_)
              refine r_iinc X dX8_willing_52 hl 1 rfl [(3, .int (iV (i + 1))), (2, .int (iV (z + pow2 i))), (0, .ref (g.1 + 100)), (1, .int (iV (rateX (homeX a b))))] (by decide) rfl (fun ls hl => ?_)
              refine r_goto X 19 dX8_willing_55 (by decide) ?_
              exact ih (z + pow2 i) (i + 1) (by omega) (by omega) (by first | (rw [bitN_1 (c := wilC a b) hi0 (by unfold wilC; exact if_pos ⟨by omega, by omega⟩), ← hz]) | (rw [bitN_0 (c := wilC a b) hi0 (by unfold wilC; rw [if_neg (by omega)]; decide), ← hz])) _ _ _ (by omega) Y (lv_sub hl [0, 1, 2, 3] rfl)
    exact loop19 (((a 16 3 - 0).toNat) + 1) 0 0 (by omega) (by omega) rfl _ _ _ (Nat.lt_succ_self _) Y (lv_sub hl [0, 1, 3, 2] rfl)
  · refine r_ldc X (-1000000003) wm_972 (by decide) dX8_willing_7 ?_
    exact ret _ _ _ _ _ _ _ dX8_willing_9 Y ⟨by unfold wilX; rw [if_neg (by omega)], rfl, rfl⟩
set_option maxHeartbeats 4000000 in
set_option maxRecDepth 100000 in
theorem ct_X8_belief (l : Launch) (g : uG) (t : uN) (f : uF) (a : uN) (b : uF) (x q : Int) (L : ML a b t f) (hx : inI x) (hq : inI q) : cF_i l yX8_belief cX8_belief 4 (some .int) 3 g [.ref (g.1 + 100), .int (iV (x)), .int (iV (q))] t f (belX a b x q) (t) (f) := by
  refine eF_i (by decide +kernel) (Nat.le_of_ble_eq_true rfl) ?_
  intro p e R s m args below meth c Q ls H locs X Y hl ret
  have X : uX p 3 R s m args c cX8_belief 4 RX8 := X
  have hl : lv_has ls 4 [(0, .ref (g.1 + 100)), (1, .int (iV (x))), (2, .int (iV (q)))] := hl
  have hb := L.1.b
  obtain ⟨p0, p1, p2, p3, p4⟩ := L.p
  obtain ⟨v3, v4, v5, v6, v10⟩ := L.v
  have hk := L.2.1.2.1
  have hns := L.2.2.1
  refine r_iload_n X dX8_belief_0 hl 1 rfl ?_
  refine r_i2l X dX8_belief_1 ⟨by omega, by omega⟩ ?_
  refine r_lconst X 0 dX8_belief_2 (by decide) ?_
  refine r_ldc2 X 7 wm_1007 (by decide) dX8_belief_3 ?_
  refine sF_i X Y [.long (lV (x)), .long (lV (0)), .long (lV (7))] [] (ct_X8_in l g t f x 0 7 ⟨by omega, by omega⟩ ⟨by omega, by omega⟩ ⟨by omega, by omega⟩) mk_X8_in mi_X8_in wm_852 (by decide) rfl hl (Nat.le_of_ble_eq_true rfl) rfl dX8_belief_6 (Nat.zero_le _) (Nat.zero_le _) (fun H locs Y => ?_)
  have qi6 := inX_b x 0 7
  refine r_if_eq X (tgt := 24) dX8_belief_9 (by decide) ⟨by omega, by omega⟩ (fun c9 => ?_) (fun c9 => ?_)
  · refine r_ldc X (-1000000002) wm_855 (by decide) dX8_belief_24 ?_
    exact ret _ _ _ _ _ _ _ dX8_belief_26 Y ⟨by unfold belX; first | rw [if_pos (by omega)] | (rw [if_neg (by omega), p0]; (try rw [p0] at *); (first | (rw [show max 0 (a 18 3 - x) = 0 by omega]) | (rw [show max 0 (a 18 3 - x) = a 18 3 - x by omega]))), rfl, rfl⟩
  · refine r_iload_n X dX8_belief_12 hl 2 rfl ?_
    refine r_i2l X dX8_belief_13 ⟨by omega, by omega⟩ ?_
    refine r_lconst X 0 dX8_belief_14 (by decide) ?_
    refine r_ldc2 X 9 wm_994 (by decide) dX8_belief_15 ?_
    refine sF_i X Y [.long (lV (q)), .long (lV (0)), .long (lV (9))] [] (ct_X8_in l g t f q 0 9 ⟨by omega, by omega⟩ ⟨by omega, by omega⟩ ⟨by omega, by omega⟩) mk_X8_in mi_X8_in wm_852 (by decide) rfl hl (Nat.le_of_ble_eq_true rfl) rfl dX8_belief_18 (Nat.zero_le _) (Nat.zero_le _) (fun H locs Y => ?_)
    have qi18 := inX_b q 0 9
    refine r_if_ne X (tgt := 27) dX8_belief_21 (by decide) ⟨by omega, by omega⟩ (fun c21 => ?_) (fun c21 => ?_)
    · refine r_aload_n X dX8_belief_27 hl 0 rfl ?_
      refine g_8_0 (k := 100) X Y rfl wm_737 dX8_belief_28 ?_
      refine r_iconst X dX8_belief_31 ?_
      refine g_ild (k := 101) X Y rfl (by omega) (by have q : ((al 101 : Nat) : Int) = 1008 := rfl; omega) dX8_belief_32 ?_
      refine r_iload_n X dX8_belief_33 hl 1 rfl ?_
      refine r_isub X dX8_belief_34 ?_
      refine r_istore_n X dX8_belief_35 hl [(3, .int (iV ((f 101 0) - x))), (0, .ref (g.1 + 100)), (1, .int (iV (x))), (2, .int (iV (q)))] (by decide) rfl (fun ls hl => ?_)
      refine r_aload_n X dX8_belief_36 hl 1 rfl ?_
      refine r_iload_n X dX8_belief_37 hl 0 rfl ?_
      refine r_if_ge X (tgt := 45) dX8_belief_38 (by decide) ⟨by omega, by omega⟩ (fun c38 => ?_) (fun c38 => ?_)
      · refine r_iload_n X dX8_belief_45 hl 0 rfl ?_
        refine r_aload_n X dX8_belief_46 hl 1 rfl ?_
        refine g_8_0 (k := 100) X Y rfl wm_737 dX8_belief_47 ?_
        refine r_iconst X dX8_belief_50 ?_
        refine g_ild (k := 101) X Y rfl (by omega) (by have q : ((al 101 : Nat) : Int) = 1008 := rfl; omega) dX8_belief_51 ?_
        refine r_iload_n X dX8_belief_52 hl 3 rfl ?_
        refine vF_l X Y [.int (iV ((f 101 0) - x)), .int (iV (f 101 0)), .int (iV (q))] [] (ct_X8_through l g t f a b ((f 101 0) - x) (f 101 0) q L (by omega) (by omega) (by omega) (by omega) (by omega) (by omega)) mk_X8_through mi_X8_through wm_1028 (by decide) (rv_8 Y rfl) rfl hl (Nat.le_of_ble_eq_true rfl) rfl dX8_belief_53 (Nat.zero_le _) (Nat.zero_le _) (fun H locs Y => ?_)
        refine r_l2i X dX8_belief_56 ?_
        exact ret _ _ _ _ _ _ _ dX8_belief_57 Y ⟨by unfold belX; first | rw [if_pos (by omega)] | (rw [if_neg (by omega), p0]; (try rw [p0] at *); (first | (rw [show max 0 (a 18 3 - x) = 0 by omega]) | (rw [show max 0 (a 18 3 - x) = a 18 3 - x by omega]))), rfl, rfl⟩
      · refine r_iconst X dX8_belief_41 ?_
        refine r_goto X 46 dX8_belief_42 (by decide) ?_
        refine r_aload_n X dX8_belief_46 hl 1 rfl ?_
        refine g_8_0 (k := 100) X Y rfl wm_737 dX8_belief_47 ?_
        refine r_iconst X dX8_belief_50 ?_
        refine g_ild (k := 101) X Y rfl (by omega) (by have q : ((al 101 : Nat) : Int) = 1008 := rfl; omega) dX8_belief_51 ?_
        refine r_iload_n X dX8_belief_52 hl 3 rfl ?_
        refine vF_l X Y [.int (iV (0)), .int (iV (f 101 0)), .int (iV (q))] [] (ct_X8_through l g t f a b 0 (f 101 0) q L (by omega) (by omega) (by omega) (by omega) (by omega) (by omega)) mk_X8_through mi_X8_through wm_1028 (by decide) (rv_8 Y rfl) rfl hl (Nat.le_of_ble_eq_true rfl) rfl dX8_belief_53 (Nat.zero_le _) (Nat.zero_le _) (fun H locs Y => ?_)
        refine r_l2i X dX8_belief_56 ?_
        exact ret _ _ _ _ _ _ _ dX8_belief_57 Y ⟨by unfold belX; first | rw [if_pos (by omega)] | (rw [if_neg (by omega), p0]; (try rw [p0] at *); (first | (rw [show max 0 (a 18 3 - x) = 0 by omega]) | (rw [show max 0 (a 18 3 - x) = a 18 3 - x by omega]))), rfl, rfl⟩
    · refine r_ldc X (-1000000002) wm_855 (by decide) dX8_belief_24 ?_
      exact ret _ _ _ _ _ _ _ dX8_belief_26 Y ⟨by unfold belX; first | rw [if_pos (by omega)] | (rw [if_neg (by omega), p0]; (try rw [p0] at *); (first | (rw [show max 0 (a 18 3 - x) = 0 by omega]) | (rw [show max 0 (a 18 3 - x) = a 18 3 - x by omega]))), rfl, rfl⟩
set_option maxHeartbeats 4000000 in
set_option maxRecDepth 100000 in
theorem ct_X8_owed (l : Launch) (g : uG) (t : uN) (f : uF) (a : uN) (b : uF) (L : ML a b t f) : cF_i l yX8_owed cX8_owed 3 (some .int) 2 g [.ref (g.1 + 100)] t f (sumR (fun j => tget a b 19 j 3) 0 (a 19 3)) (t) (f) := by
  refine eF_i (by decide +kernel) (Nat.le_of_ble_eq_true rfl) ?_
  intro p e R s m args below meth c Q ls H locs X Y hl ret
  have X : uX p 2 R s m args c cX8_owed 3 RX8 := X
  have hl : lv_has ls 3 [(0, .ref (g.1 + 100))] := hl
  have hb := L.1.b
  obtain ⟨p0, p1, p2, p3, p4⟩ := L.p
  obtain ⟨v3, v4, v5, v6, v10⟩ := L.v
  have hk := L.2.1.2.1
  have hns := L.2.2.1
  refine r_iconst X dX8_owed_0 ?_
  refine r_istore_n X dX8_owed_1 hl [(1, .int (iV (0))), (0, .ref (g.1 + 100))] (by decide) rfl (fun ls hl => ?_)
  refine r_iconst X dX8_owed_2 ?_
  refine r_istore_n X dX8_owed_3 hl [(2, .int (iV (0))), (1, .int (iV (0))), (0, .ref (g.1 + 100))] (by decide) rfl (fun ls hl => ?_)
  have loop4 : ∀ (N : Nat) (z : Int) (i : Int) (hi0 : 0 ≤ i) (hi1 : i ≤ a 19 3) (hz : z = sumR (fun j => tget a b 19 j 3) 0 i) (H : Heap) (locs : List Loc) (ls : Array Slot), (a 19 3 - i).toNat < N → uY g 117 (cX g t f) s H locs → lv_has ls 3 [(2, .int (iV (i))), (1, .int (iV (z))), (0, .ref (g.1 + 100))] → W p l e R s m args below meth c H locs 0 0 Q (F0 m 4 ls []) := by
    intro N
    induction N with
    | zero => intro z i hi0 hi1 hz H locs ls hmu Y hl; exact absurd hmu (Nat.not_lt_zero _)
    | succ N ih =>
      intro z i hi0 hi1 hz H locs ls hmu Y hl
      refine r_iload_n X dX8_owed_4 hl 0 rfl ?_
      refine r_aload_n X dX8_owed_5 hl 2 rfl ?_
      refine g_8_0 (k := 100) X Y rfl wm_737 dX8_owed_6 ?_
      refine r_iconst X dX8_owed_9 ?_
      refine g_ild (k := 101) X Y rfl (by omega) (by have q : ((al 101 : Nat) : Int) = 1008 := rfl; omega) dX8_owed_10 ?_
      refine r_icmp_ge X (tgt := 29) dX8_owed_11 (by decide) ⟨by omega, by omega⟩ ⟨by omega, by omega⟩ (fun c11 => ?_) (fun c11 => ?_)
      · refine r_iload_n X dX8_owed_29 hl 1 rfl ?_
        exact ret _ _ _ _ _ _ _ dX8_owed_30 Y ⟨by rw [hz, show i = a 19 3 by omega], rfl, rfl⟩
      · refine r_iload_n X dX8_owed_14 hl 1 rfl ?_
        refine r_aload_n X dX8_owed_15 hl 2 rfl ?_
        refine r_iconst X dX8_owed_16 ?_
        refine r_iload_n X dX8_owed_17 hl 0 rfl ?_
        refine vF_i X Y [.int (iV (0)), .int (iV (i))] [.int (iV (z))] (ct_X8_dueOf l g t f 0 i ((L.d (by omega) (by omega)).1)) mk_X8_dueOf mi_X8_dueOf wm_915 (by decide) (rv_8 Y rfl) rfl hl (Nat.le_of_ble_eq_true rfl) rfl dX8_owed_18 (Nat.zero_le _) (Nat.zero_le _) (fun H locs Y => ?_)
        have qd18 := L.d (i := i) (by omega) (by omega)
        have qe18 : dueM f 0 i = tget a b 19 i 3 := qd18.2
        refine r_iadd X dX8_owed_21 ?_
        refine r_istore_n X dX8_owed_22 hl [(1, .int (iV (z + (dueM f 0 i)))), (2, .int (iV (i))), (0, .ref (g.1 + 100))] (by decide) rfl (fun ls hl => ?_)
        refine r_iinc X dX8_owed_23 hl 1 rfl [(2, .int (iV (i + 1))), (1, .int (iV (z + (dueM f 0 i)))), (0, .ref (g.1 + 100))] (by decide) rfl (fun ls hl => ?_)
        refine r_goto X 4 dX8_owed_26 (by decide) ?_
        exact ih (z + (dueM f 0 i)) (i + 1) (by omega) (by omega) (by rw [sumR_succ _ hi0, qe18, hz]) _ _ _ (by omega) Y (lv_sub hl [0, 1, 2] rfl)
  exact loop4 (((a 19 3 - (0 : Int)).toNat) + 1) 0 0 (by omega) (by omega) (by rw [sumR_nil _ (by omega)]) _ _ _ (Nat.lt_succ_self _) Y (lv_sub hl [0, 1, 2] rfl)
set_option maxHeartbeats 4000000 in
set_option maxRecDepth 100000 in
theorem ct_X8_paysOf (l : Launch) (g : uG) (t : uN) (f : uF) (h kd0 u n : Int) (K D : Int → Int) (HP : PY f h K D n) (hk : kd0 = 0 ∨ kd0 = 1) (hu0 : 0 ≤ u) (hu1 : u ≤ 100000) : cR_i l yX8_paysOf cX8_paysOf 7 (some .int) 2 g [.ref (g.1 + 100), .int (iV (h)), .int (iV (kd0)), .int (iV (u))] t f (PYQ t f K D n kd0 u) := by
  refine eR_i (by decide +kernel) (Nat.le_of_ble_eq_true rfl) ?_
  intro p e R s m args below meth c Q ls H locs X Y hl ret
  have X : uX p 2 R s m args c cX8_paysOf 7 RX8 := X
  have hl : lv_has ls 7 [(0, .ref (g.1 + 100)), (1, .int (iV (h))), (2, .int (iV (kd0))), (3, .int (iV (u)))] := hl
  have hh := HP.1
  have hn := HP.2.1
  have hn4 := HP.2.2.1
  refine r_iload_n X dX8_paysOf_0 hl 3 rfl ?_
  refine r_istore X dX8_paysOf_1 hl [(4, .int (iV (u))), (0, .ref (g.1 + 100)), (1, .int (iV (h))), (2, .int (iV (kd0))), (3, .int (iV (u)))] (by decide) rfl (fun ls hl => ?_)
  refine r_aload_n X dX8_paysOf_3 hl 1 rfl ?_
  refine g_8_0 (k := 100) X Y rfl wm_737 dX8_paysOf_4 ?_
  refine r_iload_n X dX8_paysOf_7 hl 2 rfl ?_
  refine r_iconst X dX8_paysOf_8 ?_
  refine r_iadd X dX8_paysOf_9 ?_
  refine g_ild (k := 101) X Y rfl (by omega) (by have q : ((al 101 : Nat) : Int) = 1008 := rfl; omega) dX8_paysOf_10 ?_
  refine r_iconst X dX8_paysOf_11 ?_
  refine r_isub X dX8_paysOf_12 ?_
  refine r_istore X dX8_paysOf_13 hl [(5, .int (iV ((f 101 (h + 4)) - 1))), (4, .int (iV (u))), (0, .ref (g.1 + 100)), (1, .int (iV (h))), (2, .int (iV (kd0))), (3, .int (iV (u)))] (by decide) rfl (fun ls hl => ?_)
  have loop15 : ∀ (N : Nat) (i : Int) (z : Int) (fz : uF) (hi0 : -1 ≤ i) (hi1 : i ≤ n - 1) (hz : z = max 0 (u - sumR (sD K D kd0) (i + 1) n)) (hI : PYI f K D n kd0 u i fz) (H : Heap) (locs : List Loc) (ls : Array Slot), (i + 1).toNat < N → uY g 117 (cX g t fz) s H locs → lv_has ls 7 [(5, .int (iV (i))), (4, .int (iV (z))), (0, .ref (g.1 + 100)), (1, .int (iV (h))), (2, .int (iV (kd0)))] → W p l e R s m args below meth c H locs 0 0 Q (F0 m 15 ls []) := by
    intro N
    induction N with
    | zero => intro i z fz hi0 hi1 hz hI H locs ls hmu Y hl; exact absurd hmu (Nat.not_lt_zero _)
    | succ N ih =>
      intro i z fz hi0 hi1 hz hI H locs ls hmu Y hl
      have hP2 : PY fz h K D n := HP.of hI.1
      have hzr : 0 ≤ z ∧ z ≤ u := by have := sumR_rng (sD K D kd0) (i + 1) n 2997 (by omega) 9 (by omega) (fun j q0 q1 => sD_rng HP (by omega) q1); omega
      refine r_iload X dX8_paysOf_15 hl 0 rfl ?_
      refine r_if_lt X (tgt := 84) dX8_paysOf_17 (by decide) ⟨by omega, by omega⟩ (fun c17 => ?_) (fun c17 => ?_)
      · refine r_iload X dX8_paysOf_84 hl 1 rfl ?_
        exact ret _ _ _ _ _ _ _ dX8_paysOf_86 Y ⟨rfl, by rw [hz, show i + 1 = 0 by omega], by rw [show i = -1 by omega] at hI; exact hI⟩
      · have hr := hP2.2.2.2 i (by omega) (by omega)
        have hK := hr.2.1
        have hKr := hr.2.2.1
        have hDr := hr.2.2.2.2
        have hD := hr.2.2.2.1
        refine r_aload_n X dX8_paysOf_20 hl 2 rfl ?_
        refine g_8_0 (k := 100) X Y rfl wm_737 dX8_paysOf_21 ?_
        refine r_iload_n X dX8_paysOf_24 hl 3 rfl ?_
        refine r_bipush X 23 dX8_paysOf_25 (by decide) ?_
        refine r_iadd X dX8_paysOf_27 ?_
        refine r_iload X dX8_paysOf_28 hl 0 rfl ?_
        refine r_iadd X dX8_paysOf_30 ?_
        refine g_ild (k := 101) X Y rfl (by omega) (by have q : ((al 101 : Nat) : Int) = 1008 := rfl; omega) dX8_paysOf_31 ?_
        refine r_iload_n X dX8_paysOf_32 hl 4 rfl ?_
        refine r_icmp_ne X (tgt := 78) dX8_paysOf_33 (by decide) ⟨by omega, by omega⟩ ⟨by omega, by omega⟩ (fun c33 => ?_) (fun c33 => ?_)
        · refine r_iinc X dX8_paysOf_78 hl 0 rfl [(5, .int (iV (i + (-1)))), (4, .int (iV (z))), (0, .ref (g.1 + 100)), (1, .int (iV (h))), (2, .int (iV (kd0)))] (by decide) rfl (fun ls hl => ?_)
          refine r_goto X 15 dX8_paysOf_81 (by decide) ?_
          exact ih (i + (-1)) z fz (by omega) (by omega) (by have e := sumR_head (sD K D kd0) (a := i) (b := n) (by omega); have e2 : sD K D kd0 i = 0 := if_neg (by omega); rw [show i + -1 + 1 = i by omega]; omega) (by rw [show i + -1 = i - 1 by omega]; exact hI.skip (by omega)) _ _ _ (by omega) Y (lv_sub hl [0, 1, 2, 3, 4] rfl)
        · refine r_aload_n X dX8_paysOf_36 hl 2 rfl ?_
          refine r_iload_n X dX8_paysOf_37 hl 3 rfl ?_
          refine r_iload X dX8_paysOf_38 hl 0 rfl ?_
          refine vF_i X Y [.int (iV (h)), .int (iV (i))] [] (ct_X8_dueOf l g t fz h i hr.1) mk_X8_dueOf mi_X8_dueOf wm_915 (by decide) (rv_8 Y rfl) rfl hl (Nat.le_of_ble_eq_true rfl) rfl dX8_paysOf_40 (Nat.zero_le _) (Nat.zero_le _) (fun H locs Y => ?_)
          refine r_istore X dX8_paysOf_43 hl [(6, .int (iV (dueM fz h i))), (5, .int (iV (i))), (4, .int (iV (z))), (0, .ref (g.1 + 100)), (1, .int (iV (h))), (2, .int (iV (kd0)))] (by decide) rfl (fun ls hl => ?_)
          refine r_aload_n X dX8_paysOf_45 hl 3 rfl ?_
          refine g_8_26 (k := 100) X Y rfl wm_763 dX8_paysOf_46 ?_
          refine r_iload X dX8_paysOf_49 hl 1 rfl ?_
          refine r_iload X dX8_paysOf_51 hl 0 rfl ?_
          refine r_iload X dX8_paysOf_53 hl 2 rfl ?_
          refine r_icmp_ge X (tgt := 63) dX8_paysOf_55 (by decide) ⟨by omega, by omega⟩ ⟨by omega, by omega⟩ (fun c55 => ?_) (fun c55 => ?_)
          · refine r_iload X dX8_paysOf_63 hl 2 rfl ?_
            refine p_ist (k := 112) X Y rfl (by omega) (by have q : ((al 112 : Nat) : Int) = 9 := rfl; omega) dX8_paysOf_65 (fun H locs Y => ?_)
            obtain ⟨fq1, hfq1⟩ : ∃ q, q = upA fz 112 i z := ⟨_, rfl⟩
            have Y : uY g 117 (cX g t fq1) s H locs := by rw [hfq1]; exact Y
            refine r_iload X dX8_paysOf_66 hl 2 rfl ?_
            refine r_aload_n X dX8_paysOf_68 hl 3 rfl ?_
            refine g_8_26 (k := 100) X Y rfl wm_763 dX8_paysOf_69 ?_
            refine r_iload X dX8_paysOf_72 hl 1 rfl ?_
            refine g_ild (k := 112) X Y rfl (by omega) (by have q : ((al 112 : Nat) : Int) = 9 := rfl; omega) dX8_paysOf_74 ?_
            refine r_eq (z' := z) (by rw [hfq1, upA_s]) ?_
            refine r_isub X dX8_paysOf_75 ?_
            refine r_istore X dX8_paysOf_76 hl [(4, .int (iV (z - z))), (6, .int (iV (dueM fz h i))), (5, .int (iV (i))), (0, .ref (g.1 + 100)), (1, .int (iV (h))), (2, .int (iV (kd0)))] (by decide) rfl (fun ls hl => ?_)
            refine r_iinc X dX8_paysOf_78 hl 2 rfl [(5, .int (iV (i + (-1)))), (4, .int (iV (z - z))), (6, .int (iV (dueM fz h i))), (0, .ref (g.1 + 100)), (1, .int (iV (h))), (2, .int (iV (kd0)))] (by decide) rfl (fun ls hl => ?_)
            refine r_goto X 15 dX8_paysOf_81 (by decide) ?_
            exact ih (i + (-1)) (z - z) fq1 (by omega) (by omega) (by have e := sumR_head (sD K D kd0) (a := i) (b := n) (by omega); have e2 : sD K D kd0 i = D i := if_pos (by omega); rw [show i + -1 + 1 = i by omega]; omega) (by rw [show i + -1 = i - 1 by omega]; exact hI.step (by omega) (by omega) hfq1 (by unfold payM; rw [← hz]; omega)) _ _ _ (by omega) Y (lv_sub hl [0, 1, 3, 4, 5] rfl)
          · refine r_iload X dX8_paysOf_58 hl 0 rfl ?_
            refine r_goto X 65 dX8_paysOf_60 (by decide) ?_
            refine p_ist (k := 112) X Y rfl (by omega) (by have q : ((al 112 : Nat) : Int) = 9 := rfl; omega) dX8_paysOf_65 (fun H locs Y => ?_)
            obtain ⟨fq1, hfq1⟩ : ∃ q, q = upA fz 112 i (dueM fz h i) := ⟨_, rfl⟩
            have Y : uY g 117 (cX g t fq1) s H locs := by rw [hfq1]; exact Y
            refine r_iload X dX8_paysOf_66 hl 2 rfl ?_
            refine r_aload_n X dX8_paysOf_68 hl 3 rfl ?_
            refine g_8_26 (k := 100) X Y rfl wm_763 dX8_paysOf_69 ?_
            refine r_iload X dX8_paysOf_72 hl 1 rfl ?_
            refine g_ild (k := 112) X Y rfl (by omega) (by have q : ((al 112 : Nat) : Int) = 9 := rfl; omega) dX8_paysOf_74 ?_
            refine r_eq (z' := dueM fz h i) (by rw [hfq1, upA_s]) ?_
            refine r_isub X dX8_paysOf_75 ?_
            refine r_istore X dX8_paysOf_76 hl [(4, .int (iV (z - (dueM fz h i)))), (6, .int (iV (dueM fz h i))), (5, .int (iV (i))), (0, .ref (g.1 + 100)), (1, .int (iV (h))), (2, .int (iV (kd0)))] (by decide) rfl (fun ls hl => ?_)
            refine r_iinc X dX8_paysOf_78 hl 2 rfl [(5, .int (iV (i + (-1)))), (4, .int (iV (z - (dueM fz h i)))), (6, .int (iV (dueM fz h i))), (0, .ref (g.1 + 100)), (1, .int (iV (h))), (2, .int (iV (kd0)))] (by decide) rfl (fun ls hl => ?_)
            refine r_goto X 15 dX8_paysOf_81 (by decide) ?_
            exact ih (i + (-1)) (z - (dueM fz h i)) fq1 (by omega) (by omega) (by have e := sumR_head (sD K D kd0) (a := i) (b := n) (by omega); have e2 : sD K D kd0 i = D i := if_pos (by omega); rw [show i + -1 + 1 = i by omega]; omega) (by rw [show i + -1 = i - 1 by omega]; exact hI.step (by omega) (by omega) hfq1 (by unfold payM; rw [← hz]; omega)) _ _ _ (by omega) Y (lv_sub hl [0, 1, 3, 4, 5] rfl)
  exact loop15 (((f 101 (h + 4) - 1 + 1).toNat) + 1) (f 101 (h + 4) - 1) u f (by omega) (by omega) (by rw [sumR_nil _ (by omega)]; omega) ⟨fun _ _ _ => rfl, fun _ _ => rfl, fun j q1 q2 => absurd q2 (by omega)⟩ _ _ _ (Nat.lt_succ_self _) Y (lv_sub hl [0, 1, 2, 3, 4] rfl)
set_option maxHeartbeats 4000000 in
set_option maxRecDepth 100000 in
theorem ct_X8_paysHome (l : Launch) (g : uG) (t : uN) (f : uF) (h u n : Int) (K D : Int → Int) (HP : PY f h K D n) (hF0 : 0 ≤ t 100 5 ∧ t 100 5 ≤ 999) (hu0 : 0 ≤ u) (hu1 : u ≤ 2000) (hp0 : 0 ≤ f 101 (h + 3)) (hp1 : f 101 (h + 3) ≤ 20000) : cR_v l yX8_paysHome cX8_paysHome 4 3 g [.ref (g.1 + 100), .int (iV (h)), .int (iV (u))] t f (PHQ t f h K D n u) := by
  refine eR_v (by decide +kernel) (Nat.le_of_ble_eq_true rfl) ?_
  intro p e R s m args below meth c Q ls H locs X Y hl ret
  have X : uX p 3 R s m args c cX8_paysHome 4 RX8 := X
  have hl : lv_has ls 4 [(0, .ref (g.1 + 100)), (1, .int (iV (h))), (2, .int (iV (u)))] := hl
  have hh := HP.1
  have hn := HP.2.1
  refine r_aload_n X dX8_paysHome_0 hl 0 rfl ?_
  refine r_iload_n X dX8_paysHome_1 hl 1 rfl ?_
  refine r_iconst X dX8_paysHome_2 ?_
  refine r_aload_n X dX8_paysHome_3 hl 0 rfl ?_
  refine g_8_5 (k := 100) X Y rfl wm_742 dX8_paysHome_4 ?_
  refine vR_i X Y [.int (iV (h)), .int (iV (1)), .int (iV (t 100 5))] [] (ct_X8_paysOf l g t f h 1 (t 100 5) n K D HP (Or.inr rfl) (by omega) (by omega)) mk_X8_paysOf mi_X8_paysOf wm_927 (by decide) (rv_8 Y rfl) rfl hl (Nat.le_of_ble_eq_true rfl) rfl dX8_paysHome_7 (Nat.zero_le _) (Nat.zero_le _) (fun zq1 tq1 fq1 H locs hq1 Y => ?_)
  have hs1 := sumR_rng (sD K D 1) 0 n 2997 (by omega) 9 (by omega) (fun j q0 q1 => sD_rng HP (by omega) q1)
  have hz1 := hq1.2.1
  have e3 := hq1.2.2.1 101 (h + 3) (by decide)
  refine r_istore_n X dX8_paysHome_10 hl [(3, .int (iV (zq1))), (0, .ref (g.1 + 100)), (1, .int (iV (h))), (2, .int (iV (u)))] (by decide) rfl (fun ls hl => ?_)
  refine r_aload_n X dX8_paysHome_11 hl 1 rfl ?_
  refine r_aload_n X dX8_paysHome_12 hl 1 rfl ?_
  refine r_iload_n X dX8_paysHome_13 hl 2 rfl ?_
  refine r_iconst X dX8_paysHome_14 ?_
  refine r_iload_n X dX8_paysHome_15 hl 3 rfl ?_
  refine r_aload_n X dX8_paysHome_16 hl 1 rfl ?_
  refine g_8_0 (k := 100) X Y rfl wm_737 dX8_paysHome_17 ?_
  refine r_iload_n X dX8_paysHome_20 hl 2 rfl ?_
  refine r_iconst X dX8_paysHome_21 ?_
  refine r_iadd X dX8_paysHome_22 ?_
  refine g_ild (k := 101) X Y rfl (by omega) (by have q : ((al 101 : Nat) : Int) = 1008 := rfl; omega) dX8_paysHome_23 ?_
  refine r_iadd X dX8_paysHome_24 ?_
  refine r_iload_n X dX8_paysHome_25 hl 0 rfl ?_
  refine r_iadd X dX8_paysHome_26 ?_
  refine vR_i X Y [.int (iV (h)), .int (iV (0)), .int (iV ((u + (fq1 101 (h + 3))) + zq1))] [.ref (g.1 + 100)] (ct_X8_paysOf l g tq1 fq1 h 0 ((u + (fq1 101 (h + 3))) + zq1) n K D (HP.of hq1.2.2.1) (Or.inl rfl) (by omega) (by omega)) mk_X8_paysOf mi_X8_paysOf wm_927 (by decide) (rv_8 Y rfl) rfl hl (Nat.le_of_ble_eq_true rfl) rfl dX8_paysHome_27 (Nat.zero_le _) (Nat.zero_le _) (fun zq2 tq2 fq2 H locs hq2 Y => ?_)
  refine p_8_27 (k := 100) X Y rfl wm_764 dX8_paysHome_30 (fun H locs Y => ?_)
  obtain ⟨tq3, htq3⟩ : ∃ q, q = up2 tq2 100 27 (zq2) := ⟨_, rfl⟩
  have Y : uY g 117 (cX g tq3 fq2) s H locs := by rw [htq3]; exact Y
  exact ret _ _ _ _ _ _ dX8_paysHome_33 Y (PHQ_of HP hq1 hq2 htq3)
set_option maxHeartbeats 4000000 in
set_option maxRecDepth 100000 in
theorem ct_X8_leftNow (l : Launch) (g : uG) (t : uN) (f : uF) (a : uN) (b : uF) (L : ML a b t f) : cR_i l yX8_leftNow cX8_leftNow 1 (some .int) 4 g [.ref (g.1 + 100)] t f (fun z t2 f2 => z = (if a 18 4 = 1 then 0 else max 0 (smX a b (tget a b 12 0 1) - dueS a b 18 0 0)) ∧ Scr t f t2 f2) := by
  refine eR_i (by decide +kernel) (Nat.le_of_ble_eq_true rfl) ?_
  intro p e R s m args below meth c Q ls H locs X Y hl ret
  have X : uX p 4 R s m args c cX8_leftNow 1 RX8 := X
  have hl : lv_has ls 1 [(0, .ref (g.1 + 100))] := hl
  have hb := L.1.b
  obtain ⟨p0, p1, p2, p3, p4⟩ := L.p
  obtain ⟨v3, v4, v5, v6, v10⟩ := L.v
  have hk := L.2.1.2.1
  have hns := L.2.2.1
  have hsh := L.1.1.2.2.2
  refine r_aload_n X dX8_leftNow_0 hl 0 rfl ?_
  refine r_iconst X dX8_leftNow_1 ?_
  refine r_aload_n X dX8_leftNow_2 hl 0 rfl ?_
  refine g_8_4 (k := 100) X Y rfl wm_741 dX8_leftNow_3 ?_
  refine r_eq (z' := tget a b 12 0 0) v4 ?_
  refine vR_v X Y [.int (iV (0)), .int (iV (tget a b 12 0 0))] [] (ct_X8_paysHome l g t f 0 (tget a b 12 0 0) (a 19 3) (fun i => tget a b 19 i 2) (fun i => tget a b 19 i 3) L.py (by omega) (by omega) (by omega) (by show 0 ≤ f 101 3; omega) (by show f 101 3 ≤ 20000; omega)) mk_X8_paysHome mi_X8_paysHome wm_923 (by decide) (rv_8 Y rfl) rfl hl (Nat.le_of_ble_eq_true rfl) rfl dX8_leftNow_6 (Nat.zero_le _) (Nat.zero_le _) (fun tq1 fq1 H locs hq1 Y => ?_)
  have hnw := hq1.now L
  have hsc := hq1.scr
  have L1 := L.scr hsc
  have p1b := L1.p
  refine r_aload_n X dX8_leftNow_9 hl 0 rfl ?_
  refine g_8_0 (k := 100) X Y rfl wm_737 dX8_leftNow_10 ?_
  refine r_iconst X dX8_leftNow_13 ?_
  refine g_ild (k := 101) X Y rfl (by omega) (by have q : ((al 101 : Nat) : Int) = 1008 := rfl; omega) dX8_leftNow_14 ?_
  refine r_iconst X dX8_leftNow_15 ?_
  refine r_icmp_ne X (tgt := 23) dX8_leftNow_16 (by decide) ⟨by omega, by omega⟩ ⟨by omega, by omega⟩ (fun c16 => ?_) (fun c16 => ?_)
  · refine r_aload_n X dX8_leftNow_23 hl 0 rfl ?_
    refine g_8_27 (k := 100) X Y rfl wm_764 dX8_leftNow_24 ?_
    exact ret _ _ _ _ _ _ _ dX8_leftNow_27 Y ⟨by first | rw [if_pos (by omega)] | (rw [if_neg (by omega)]; exact hnw.1), hsc⟩
  · refine r_iconst X dX8_leftNow_19 ?_
    refine r_goto X 27 dX8_leftNow_20 (by decide) ?_
    exact ret _ _ _ _ _ _ _ dX8_leftNow_27 Y ⟨by first | rw [if_pos (by omega)] | (rw [if_neg (by omega)]; exact hnw.1), hsc⟩
set_option maxHeartbeats 4000000 in
set_option maxRecDepth 100000 in
theorem ct_X8_told (l : Launch) (g : uG) (t : uN) (f : uF) (a : uN) (b : uF) (w : Int) (L : ML a b t f) (h14 : t 100 14 = a 1 3) (h31 : t 100 31 = a 96 3) (h34 : t 100 34 = a 98 3) (h2 : t 100 2 = a 21 2) (hw : inI w) : cR_i l yX8_told cX8_told 2 (some .int) 5 g [.ref (g.1 + 100), .int (iV (w))] t f (fun z t2 f2 => z = toldX a b w ∧ Scr t f t2 f2) := by
  refine eR_i (by decide +kernel) (Nat.le_of_ble_eq_true rfl) ?_
  intro p e R s m args below meth c Q ls H locs X Y hl ret
  have X : uX p 5 R s m args c cX8_told 2 RX8 := X
  have hl : lv_has ls 2 [(0, .ref (g.1 + 100)), (1, .int (iV (w)))] := hl
  have hb := L.1.b
  obtain ⟨p0, p1, p2, p3, p4⟩ := L.p
  obtain ⟨v3, v4, v5, v6, v10⟩ := L.v
  have hk := L.2.1.2.1
  have hns := L.2.2.1
  refine r_iload_n X dX8_told_0 hl 1 rfl ?_
  rcases (show (w < 0 ∨ 14 < w) ∨ w = 0 ∨ w = 1 ∨ w = 2 ∨ w = 3 ∨ w = 4 ∨ w = 5 ∨ w = 6 ∨ w = 7 ∨ w = 8 ∨ w = 9 ∨ w = 10 ∨ w = 11 ∨ w = 12 ∨ w = 13 ∨ w = 14 by omega) with hsw | hsw | hsw | hsw | hsw | hsw | hsw | hsw | hsw | hsw | hsw | hsw | hsw | hsw | hsw | hsw
  · refine r_tabOut X 159 dX8_told_1 ⟨by omega, by omega⟩ hsw (by decide) ?_
    refine r_ldc X (-1000000002) wm_855 (by decide) dX8_told_159 ?_
    exact ret _ _ _ _ _ _ _ dX8_told_161 Y ⟨by unfold toldX; (repeat (first | rw [if_pos (by omega)] | rw [if_neg (by omega)])); (try first | rfl | omega | exact owed_eq L.1), Scr.rf t f⟩
  · refine r_tabIn X (75) 76 dX8_told_1 ⟨by omega, by omega⟩ (by omega) (by omega) (by rw [hsw]; rfl) (by decide) ?_
    refine r_aload_n X dX8_told_76 hl 0 rfl ?_
    refine g_8_4 (k := 100) X Y rfl wm_741 dX8_told_77 ?_
    exact ret _ _ _ _ _ _ _ dX8_told_80 Y ⟨by unfold toldX; (repeat (first | rw [if_pos (by omega)] | rw [if_neg (by omega)])); (try first | rfl | omega | exact owed_eq L.1), Scr.rf t f⟩
  · refine r_tabIn X (80) 81 dX8_told_1 ⟨by omega, by omega⟩ (by omega) (by omega) (by rw [hsw]; rfl) (by decide) ?_
    refine r_aload_n X dX8_told_81 hl 0 rfl ?_
    refine g_8_5 (k := 100) X Y rfl wm_742 dX8_told_82 ?_
    exact ret _ _ _ _ _ _ _ dX8_told_85 Y ⟨by unfold toldX; (repeat (first | rw [if_pos (by omega)] | rw [if_neg (by omega)])); (try first | rfl | omega | exact owed_eq L.1), Scr.rf t f⟩
  · refine r_tabIn X (85) 86 dX8_told_1 ⟨by omega, by omega⟩ (by omega) (by omega) (by rw [hsw]; rfl) (by decide) ?_
    refine r_aload_n X dX8_told_86 hl 0 rfl ?_
    refine g_8_0 (k := 100) X Y rfl wm_737 dX8_told_87 ?_
    refine r_iconst X dX8_told_90 ?_
    refine g_ild (k := 101) X Y rfl (by omega) (by have q : ((al 101 : Nat) : Int) = 1008 := rfl; omega) dX8_told_91 ?_
    exact ret _ _ _ _ _ _ _ dX8_told_92 Y ⟨by unfold toldX; (repeat (first | rw [if_pos (by omega)] | rw [if_neg (by omega)])); (try first | rfl | omega | exact owed_eq L.1), Scr.rf t f⟩
  · refine r_tabIn X (92) 93 dX8_told_1 ⟨by omega, by omega⟩ (by omega) (by omega) (by rw [hsw]; rfl) (by decide) ?_
    refine r_aload_n X dX8_told_93 hl 0 rfl ?_
    refine g_8_0 (k := 100) X Y rfl wm_737 dX8_told_94 ?_
    refine r_iconst X dX8_told_97 ?_
    refine g_ild (k := 101) X Y rfl (by omega) (by have q : ((al 101 : Nat) : Int) = 1008 := rfl; omega) dX8_told_98 ?_
    exact ret _ _ _ _ _ _ _ dX8_told_99 Y ⟨by unfold toldX; (repeat (first | rw [if_pos (by omega)] | rw [if_neg (by omega)])); (try first | rfl | omega | exact owed_eq L.1), Scr.rf t f⟩
  · refine r_tabIn X (99) 100 dX8_told_1 ⟨by omega, by omega⟩ (by omega) (by omega) (by rw [hsw]; rfl) (by decide) ?_
    refine r_aload_n X dX8_told_100 hl 0 rfl ?_
    refine g_8_6 (k := 100) X Y rfl wm_743 dX8_told_101 ?_
    exact ret _ _ _ _ _ _ _ dX8_told_104 Y ⟨by unfold toldX; (repeat (first | rw [if_pos (by omega)] | rw [if_neg (by omega)])); (try first | rfl | omega | exact owed_eq L.1), Scr.rf t f⟩
  · refine r_tabIn X (104) 105 dX8_told_1 ⟨by omega, by omega⟩ (by omega) (by omega) (by rw [hsw]; rfl) (by decide) ?_
    refine r_aload_n X dX8_told_105 hl 0 rfl ?_
    refine g_8_10 (k := 100) X Y rfl wm_747 dX8_told_106 ?_
    exact ret _ _ _ _ _ _ _ dX8_told_109 Y ⟨by unfold toldX; (repeat (first | rw [if_pos (by omega)] | rw [if_neg (by omega)])); (try first | rfl | omega | exact owed_eq L.1), Scr.rf t f⟩
  · refine r_tabIn X (109) 110 dX8_told_1 ⟨by omega, by omega⟩ (by omega) (by omega) (by rw [hsw]; rfl) (by decide) ?_
    refine r_aload_n X dX8_told_110 hl 0 rfl ?_
    refine g_8_0 (k := 100) X Y rfl wm_737 dX8_told_111 ?_
    refine r_iconst X dX8_told_114 ?_
    refine g_ild (k := 101) X Y rfl (by omega) (by have q : ((al 101 : Nat) : Int) = 1008 := rfl; omega) dX8_told_115 ?_
    exact ret _ _ _ _ _ _ _ dX8_told_116 Y ⟨by unfold toldX; (repeat (first | rw [if_pos (by omega)] | rw [if_neg (by omega)])); (try first | rfl | omega | exact owed_eq L.1), Scr.rf t f⟩
  · refine r_tabIn X (116) 117 dX8_told_1 ⟨by omega, by omega⟩ (by omega) (by omega) (by rw [hsw]; rfl) (by decide) ?_
    refine r_aload_n X dX8_told_117 hl 0 rfl ?_
    refine g_8_14 (k := 100) X Y rfl wm_751 dX8_told_118 ?_
    exact ret _ _ _ _ _ _ _ dX8_told_121 Y ⟨by unfold toldX; (repeat (first | rw [if_pos (by omega)] | rw [if_neg (by omega)])); (try first | rfl | omega | exact owed_eq L.1), Scr.rf t f⟩
  · refine r_tabIn X (121) 122 dX8_told_1 ⟨by omega, by omega⟩ (by omega) (by omega) (by rw [hsw]; rfl) (by decide) ?_
    refine r_aload_n X dX8_told_122 hl 0 rfl ?_
    refine g_8_0 (k := 100) X Y rfl wm_737 dX8_told_123 ?_
    refine r_iconst X dX8_told_126 ?_
    refine g_ild (k := 101) X Y rfl (by omega) (by have q : ((al 101 : Nat) : Int) = 1008 := rfl; omega) dX8_told_127 ?_
    exact ret _ _ _ _ _ _ _ dX8_told_128 Y ⟨by unfold toldX; (repeat (first | rw [if_pos (by omega)] | rw [if_neg (by omega)])); (try first | rfl | omega | exact owed_eq L.1), Scr.rf t f⟩
  · refine r_tabIn X (128) 129 dX8_told_1 ⟨by omega, by omega⟩ (by omega) (by omega) (by rw [hsw]; rfl) (by decide) ?_
    refine r_aload_n X dX8_told_129 hl 0 rfl ?_
    refine vF_i X Y [] [] (ct_X8_where l g t f a b L) mk_X8_where mi_X8_where wm_907 (by decide) (rv_8 Y rfl) rfl hl (Nat.le_of_ble_eq_true rfl) rfl dX8_told_130 (Nat.zero_le _) (Nat.zero_le _) (fun H locs Y => ?_)
    have qw130 := whereX_b hb.1.2.2.2
    exact ret _ _ _ _ _ _ _ dX8_told_133 Y ⟨by unfold toldX; (repeat (first | rw [if_pos (by omega)] | rw [if_neg (by omega)])); (try first | rfl | omega | exact owed_eq L.1), Scr.rf t f⟩
  · refine r_tabIn X (133) 134 dX8_told_1 ⟨by omega, by omega⟩ (by omega) (by omega) (by rw [hsw]; rfl) (by decide) ?_
    refine r_aload_n X dX8_told_134 hl 0 rfl ?_
    refine vF_i X Y [] [] (ct_X8_owed l g t f a b L) mk_X8_owed mi_X8_owed wm_911 (by decide) (rv_8 Y rfl) rfl hl (Nat.le_of_ble_eq_true rfl) rfl dX8_told_135 (Nat.zero_le _) (Nat.zero_le _) (fun H locs Y => ?_)
    exact ret _ _ _ _ _ _ _ dX8_told_138 Y ⟨by unfold toldX; (repeat (first | rw [if_pos (by omega)] | rw [if_neg (by omega)])); (try first | rfl | omega | exact owed_eq L.1), Scr.rf t f⟩
  · refine r_tabIn X (138) 139 dX8_told_1 ⟨by omega, by omega⟩ (by omega) (by omega) (by rw [hsw]; rfl) (by decide) ?_
    refine r_aload_n X dX8_told_139 hl 0 rfl ?_
    refine vR_i X Y [] [] (ct_X8_leftNow l g t f a b L) mk_X8_leftNow mi_X8_leftNow wm_919 (by decide) (rv_8 Y rfl) rfl hl (Nat.le_of_ble_eq_true rfl) rfl dX8_told_140 (Nat.zero_le _) (Nat.zero_le _) (fun zq1 tq1 fq1 H locs hq1 Y => ?_)
    exact ret _ _ _ _ _ _ _ dX8_told_143 Y ⟨by rw [hq1.1, left_eq L, hsw]; rfl, hq1.2⟩
  · refine r_tabIn X (143) 144 dX8_told_1 ⟨by omega, by omega⟩ (by omega) (by omega) (by rw [hsw]; rfl) (by decide) ?_
    refine r_aload_n X dX8_told_144 hl 0 rfl ?_
    refine g_8_31 (k := 100) X Y rfl wm_768 dX8_told_145 ?_
    exact ret _ _ _ _ _ _ _ dX8_told_148 Y ⟨by unfold toldX; (repeat (first | rw [if_pos (by omega)] | rw [if_neg (by omega)])); (try first | rfl | omega | exact owed_eq L.1), Scr.rf t f⟩
  · refine r_tabIn X (148) 149 dX8_told_1 ⟨by omega, by omega⟩ (by omega) (by omega) (by rw [hsw]; rfl) (by decide) ?_
    refine r_aload_n X dX8_told_149 hl 0 rfl ?_
    refine g_8_34 (k := 100) X Y rfl wm_771 dX8_told_150 ?_
    exact ret _ _ _ _ _ _ _ dX8_told_153 Y ⟨by unfold toldX; (repeat (first | rw [if_pos (by omega)] | rw [if_neg (by omega)])); (try first | rfl | omega | exact owed_eq L.1), Scr.rf t f⟩
  · refine r_tabIn X (153) 154 dX8_told_1 ⟨by omega, by omega⟩ (by omega) (by omega) (by rw [hsw]; rfl) (by decide) ?_
    refine r_aload_n X dX8_told_154 hl 0 rfl ?_
    refine g_8_2 (k := 100) X Y rfl wm_739 dX8_told_155 ?_
    exact ret _ _ _ _ _ _ _ dX8_told_158 Y ⟨by unfold toldX; (repeat (first | rw [if_pos (by omega)] | rw [if_neg (by omega)])); (try first | rfl | omega | exact owed_eq L.1), Scr.rf t f⟩
set_option maxHeartbeats 4000000 in
set_option maxRecDepth 100000 in
theorem ct_X8_paid (l : Launch) (g : uG) (t : uN) (f : uF) (a : uN) (b : uF) (i : Int) (L : ML a b t f) (hi : inI i) : cR_i l yX8_paid cX8_paid 2 (some .int) 4 g [.ref (g.1 + 100), .int (iV (i))] t f (fun z t2 f2 => z = paiX a b i ∧ Scr t f t2 f2) := by
  refine eR_i (by decide +kernel) (Nat.le_of_ble_eq_true rfl) ?_
  intro p e R s m args below meth c Q ls H locs X Y hl ret
  have X : uX p 4 R s m args c cX8_paid 2 RX8 := X
  have hl : lv_has ls 2 [(0, .ref (g.1 + 100)), (1, .int (iV (i)))] := hl
  have hb := L.1.b
  obtain ⟨p0, p1, p2, p3, p4⟩ := L.p
  obtain ⟨v3, v4, v5, v6, v10⟩ := L.v
  have hk := L.2.1.2.1
  have hns := L.2.2.1
  have hsh := L.1.1.2.2.2
  refine r_aload_n X dX8_paid_0 hl 0 rfl ?_
  refine r_iload_n X dX8_paid_1 hl 1 rfl ?_
  refine vF_i X Y [.int (iV (i))] [] (ct_X8_isLoan l g t f a b i L ⟨by omega, by omega⟩) mk_X8_isLoan mi_X8_isLoan wm_960 (by decide) (rv_8 Y rfl) rfl hl (Nat.le_of_ble_eq_true rfl) rfl dX8_paid_2 (Nat.zero_le _) (Nat.zero_le _) (fun H locs Y => ?_)
  have qh2 := thas_b a 19 i
  refine r_if_ne X (tgt := 11) dX8_paid_5 (by decide) ⟨by omega, by omega⟩ (fun c5 => ?_) (fun c5 => ?_)
  · refine r_aload_n X dX8_paid_11 hl 0 rfl ?_
    refine vF_i X Y [] [] (ct_X8_isGone l g t f a b L) mk_X8_isGone mi_X8_isGone wm_1020 (by decide) (rv_8 Y rfl) rfl hl (Nat.le_of_ble_eq_true rfl) rfl dX8_paid_12 (Nat.zero_le _) (Nat.zero_le _) (fun H locs Y => ?_)
    have qg12 := goneX_b hb.1.2.2.2
    refine r_if_eq X (tgt := 21) dX8_paid_15 (by decide) ⟨by omega, by omega⟩ (fun c15 => ?_) (fun c15 => ?_)
    · refine r_aload_n X dX8_paid_21 hl 0 rfl ?_
      refine r_iconst X dX8_paid_22 ?_
      refine r_aload_n X dX8_paid_23 hl 0 rfl ?_
      refine g_8_4 (k := 100) X Y rfl wm_741 dX8_paid_24 ?_
      refine r_eq (z' := tget a b 12 0 0) v4 ?_
      refine vR_v X Y [.int (iV (0)), .int (iV (tget a b 12 0 0))] [] (ct_X8_paysHome l g t f 0 (tget a b 12 0 0) (a 19 3) (fun i => tget a b 19 i 2) (fun i => tget a b 19 i 3) L.py (by omega) (by omega) (by omega) (by show 0 ≤ f 101 3; omega) (by show f 101 3 ≤ 20000; omega)) mk_X8_paysHome mi_X8_paysHome wm_923 (by decide) (rv_8 Y rfl) rfl hl (Nat.le_of_ble_eq_true rfl) rfl dX8_paid_27 (Nat.zero_le _) (Nat.zero_le _) (fun tq1 fq1 H locs hq1 Y => ?_)
      have hnw := hq1.now L
      have hsc := hq1.scr
      refine r_aload_n X dX8_paid_30 hl 0 rfl ?_
      refine g_8_26 (k := 100) X Y rfl wm_763 dX8_paid_31 ?_
      refine r_iload_n X dX8_paid_34 hl 1 rfl ?_
      refine g_ild (k := 112) X Y rfl (by omega) (by have q : ((al 112 : Nat) : Int) = 9 := rfl; omega) dX8_paid_35 ?_
      exact ret _ _ _ _ _ _ _ dX8_paid_36 Y ⟨by unfold paiX; (repeat (first | rw [if_pos (by omega)] | rw [if_neg (by omega)])); exact hnw.2 i (by omega) (by omega), hsc⟩
    · refine r_ldc X (-1000000003) wm_972 (by decide) dX8_paid_18 ?_
      exact ret _ _ _ _ _ _ _ dX8_paid_20 Y ⟨by unfold paiX; (repeat (first | rw [if_pos (by omega)] | rw [if_neg (by omega)])); try rfl, Scr.rf t f⟩
  · refine r_ldc X (-1000000001) wm_939 (by decide) dX8_paid_8 ?_
    exact ret _ _ _ _ _ _ _ dX8_paid_10 Y ⟨by unfold paiX; (repeat (first | rw [if_pos (by omega)] | rw [if_neg (by omega)])); try rfl, Scr.rf t f⟩
set_option maxHeartbeats 4000000 in
set_option maxRecDepth 100000 in
theorem ct_X8_share (l : Launch) (g : uG) (t : uN) (f : uF) (a : uN) (b : uF) (i v : Int) (L : ML a b t f) (hi : inI i) (hv : inI v) : cR_i l yX8_share cX8_share 3 (some .int) 3 g [.ref (g.1 + 100), .int (iV (i)), .int (iV (v))] t f (fun z t2 f2 => z = shaX a b i v ∧ Scr t f t2 f2) := by
  refine eR_i (by decide +kernel) (Nat.le_of_ble_eq_true rfl) ?_
  intro p e R s m args below meth c Q ls H locs X Y hl ret
  have X : uX p 3 R s m args c cX8_share 3 RX8 := X
  have hl : lv_has ls 3 [(0, .ref (g.1 + 100)), (1, .int (iV (i))), (2, .int (iV (v)))] := hl
  have hb := L.1.b
  obtain ⟨p0, p1, p2, p3, p4⟩ := L.p
  obtain ⟨v3, v4, v5, v6, v10⟩ := L.v
  have hk := L.2.1.2.1
  have hns := L.2.2.1
  have hsh := L.1.1.2.2.2
  refine r_aload_n X dX8_share_0 hl 0 rfl ?_
  refine r_iload_n X dX8_share_1 hl 1 rfl ?_
  refine vF_i X Y [.int (iV (i))] [] (ct_X8_isLoan l g t f a b i L ⟨by omega, by omega⟩) mk_X8_isLoan mi_X8_isLoan wm_960 (by decide) (rv_8 Y rfl) rfl hl (Nat.le_of_ble_eq_true rfl) rfl dX8_share_2 (Nat.zero_le _) (Nat.zero_le _) (fun H locs Y => ?_)
  have qh2 := thas_b a 19 i
  refine r_if_ne X (tgt := 11) dX8_share_5 (by decide) ⟨by omega, by omega⟩ (fun c5 => ?_) (fun c5 => ?_)
  · refine r_iload_n X dX8_share_11 hl 2 rfl ?_
    refine r_i2l X dX8_share_12 ⟨by omega, by omega⟩ ?_
    refine r_lconst X 0 dX8_share_13 (by decide) ?_
    refine r_ldc2 X 999 wm_981 (by decide) dX8_share_14 ?_
    refine sF_i X Y [.long (lV (v)), .long (lV (0)), .long (lV (999))] [] (ct_X8_in l g t f v 0 999 ⟨by omega, by omega⟩ ⟨by omega, by omega⟩ ⟨by omega, by omega⟩) mk_X8_in mi_X8_in wm_852 (by decide) rfl hl (Nat.le_of_ble_eq_true rfl) rfl dX8_share_17 (Nat.zero_le _) (Nat.zero_le _) (fun H locs Y => ?_)
    have qi17 := inX_b v 0 999
    refine r_if_ne X (tgt := 26) dX8_share_20 (by decide) ⟨by omega, by omega⟩ (fun c20 => ?_) (fun c20 => ?_)
    · refine r_aload_n X dX8_share_26 hl 0 rfl ?_
      refine r_iconst X dX8_share_27 ?_
      refine r_iconst X dX8_share_28 ?_
      refine r_iload_n X dX8_share_29 hl 2 rfl ?_
      refine vR_i X Y [.int (iV (0)), .int (iV (0)), .int (iV (v))] [] (ct_X8_paysOf l g t f 0 0 v (a 19 3) (fun i => tget a b 19 i 2) (fun i => tget a b 19 i 3) L.py (Or.inl rfl) (by omega) (by omega)) mk_X8_paysOf mi_X8_paysOf wm_927 (by decide) (rv_8 Y rfl) rfl hl (Nat.le_of_ble_eq_true rfl) rfl dX8_share_30 (Nat.zero_le _) (Nat.zero_le _) (fun zq1 tq1 fq1 H locs hq1 Y => ?_)
      refine r_pop X dX8_share_33 rfl ?_
      obtain ⟨y1, y2, y3, y4, y5⟩ := hq1
      have hc := L.c (i := i) (by omega) (by omega)
      have hk2 := (L.1.loan i).2.2.1
      have e23 := y3 101 (23 + i) (by decide)
      refine r_aload_n X dX8_share_34 hl 0 rfl ?_
      refine g_8_0 (k := 100) X Y rfl wm_737 dX8_share_35 ?_
      refine r_bipush X 23 dX8_share_38 (by decide) ?_
      refine r_iload_n X dX8_share_40 hl 1 rfl ?_
      refine r_iadd X dX8_share_41 ?_
      refine g_ild (k := 101) X Y rfl (by omega) (by have q : ((al 101 : Nat) : Int) = 1008 := rfl; omega) dX8_share_42 ?_
      refine r_iconst X dX8_share_43 ?_
      refine r_icmp_ne X (tgt := 51) dX8_share_44 (by decide) ⟨by omega, by omega⟩ ⟨by omega, by omega⟩ (fun c44 => ?_) (fun c44 => ?_)
      · refine r_aload_n X dX8_share_51 hl 0 rfl ?_
        refine g_8_26 (k := 100) X Y rfl wm_763 dX8_share_52 ?_
        refine r_iload_n X dX8_share_55 hl 1 rfl ?_
        refine g_ild (k := 112) X Y rfl (by omega) (by have q : ((al 112 : Nat) : Int) = 9 := rfl; omega) dX8_share_56 ?_
        exact ret _ _ _ _ _ _ _ dX8_share_57 Y ⟨by unfold shaX; rw [if_neg (by omega), if_neg (by omega), sha_eq L.1.2]; first | (rw [if_pos (by omega)]) | (rw [if_neg (by omega)]; exact y5 i (by omega) (by omega) (by show tget a b 19 i 2 = 0; omega)), ⟨fun _ _ _ => by rw [y1], fun k j hk => y3 k j (by omega)⟩⟩
      · refine r_iconst X dX8_share_47 ?_
        refine r_goto X 57 dX8_share_48 (by decide) ?_
        exact ret _ _ _ _ _ _ _ dX8_share_57 Y ⟨by unfold shaX; rw [if_neg (by omega), if_neg (by omega), sha_eq L.1.2]; first | (rw [if_pos (by omega)]) | (rw [if_neg (by omega)]; exact y5 i (by omega) (by omega) (by show tget a b 19 i 2 = 0; omega)), ⟨fun _ _ _ => by rw [y1], fun k j hk => y3 k j (by omega)⟩⟩
    · refine r_ldc X (-1000000002) wm_855 (by decide) dX8_share_23 ?_
      exact ret _ _ _ _ _ _ _ dX8_share_25 Y ⟨by unfold shaX; (repeat (first | rw [if_pos (by omega)] | rw [if_neg (by omega)])), Scr.rf t f⟩
  · refine r_ldc X (-1000000001) wm_939 (by decide) dX8_share_8 ?_
    exact ret _ _ _ _ _ _ _ dX8_share_10 Y ⟨by unfold shaX; (repeat (first | rw [if_pos (by omega)] | rw [if_neg (by omega)])), Scr.rf t f⟩
set_option maxHeartbeats 4000000 in
set_option maxRecDepth 100000 in
theorem ct_X8_judge (l : Launch) (g : uG) (t : uN) (f : uF) (a : uN) (b : uF) (L : ML a b t f) (h34 : t 100 34 = a 98 3) (hB : BI a b) (h16 : ∀ i, 0 ≤ i → i < a 98 3 → f 116 i = tget a b 98 i 0) : cF_i l yX8_judge cX8_judge 2 (some .int) 1 g [.ref (g.1 + 100)] t f (judX a b) (t) (f) := by
  refine eF_i (by decide +kernel) (Nat.le_of_ble_eq_true rfl) ?_
  intro p e R s m args below meth c Q ls H locs X Y hl ret
  have X : uX p 1 R s m args c cX8_judge 2 RX8 := X
  have hl : lv_has ls 2 [(0, .ref (g.1 + 100))] := hl
  have hb := L.1.b
  obtain ⟨p0, p1, p2, p3, p4⟩ := L.p
  obtain ⟨v3, v4, v5, v6, v10⟩ := L.v
  have hk := L.2.1.2.1
  have hns := L.2.2.1
  have h98 : 0 ≤ a 98 3 ∧ a 98 3 ≤ 15 := hB.1
  refine r_iconst X dX8_judge_0 ?_
  refine r_istore_n X dX8_judge_1 hl [(1, .int (iV (0))), (0, .ref (g.1 + 100))] (by decide) rfl (fun ls hl => ?_)
  have loop2 : ∀ (N : Nat) (i : Int) (hi0 : 0 ≤ i) (hi1 : i ≤ a 98 3) (he : judN (fun n => tget a b 98 n 0) (a 18 2) (a 98 3 - i).toNat i = judX a b) (H : Heap) (locs : List Loc) (ls : Array Slot), (a 98 3 - i).toNat < N → uY g 117 (cX g t f) s H locs → lv_has ls 2 [(1, .int (iV (i))), (0, .ref (g.1 + 100))] → W p l e R s m args below meth c H locs 0 0 Q (F0 m 2 ls []) := by
    intro N
    induction N with
    | zero => intro i hi0 hi1 he H locs ls hmu Y hl; exact absurd hmu (Nat.not_lt_zero _)
    | succ N ih =>
      intro i hi0 hi1 he H locs ls hmu Y hl
      have hr1 := hB.2 i
      refine r_iload_n X dX8_judge_2 hl 0 rfl ?_
      refine r_aload_n X dX8_judge_3 hl 1 rfl ?_
      refine g_8_34 (k := 100) X Y rfl wm_771 dX8_judge_4 ?_
      refine r_icmp_ge X (tgt := 33) dX8_judge_7 (by decide) ⟨by omega, by omega⟩ ⟨by omega, by omega⟩ (fun c7 => ?_) (fun c7 => ?_)
      · refine r_iconst X dX8_judge_33 ?_
        exact ret _ _ _ _ _ _ _ dX8_judge_34 Y ⟨by rw [← he]; (first | (rw [show (a 98 3 - i).toNat = 0 by omega]; rfl) | (rw [show (a 98 3 - i).toNat = (a 98 3 - (i + 1)).toNat + 1 by omega, judN]; show _ = if tget a b 98 i 0 = a 18 2 then _ else _; rw [if_neg (by omega)])), rfl, rfl⟩
      · have e16 := h16 i hi0 (by omega)
        refine r_aload_n X dX8_judge_10 hl 1 rfl ?_
        refine g_8_35 (k := 100) X Y rfl wm_772 dX8_judge_11 ?_
        refine r_iload_n X dX8_judge_14 hl 0 rfl ?_
        refine g_ild (k := 116) X Y rfl (by omega) (by have q : ((al 116 : Nat) : Int) = 15 := rfl; omega) dX8_judge_15 ?_
        refine r_aload_n X dX8_judge_16 hl 1 rfl ?_
        refine g_8_0 (k := 100) X Y rfl wm_737 dX8_judge_17 ?_
        refine r_iconst X dX8_judge_20 ?_
        refine g_ild (k := 101) X Y rfl (by omega) (by have q : ((al 101 : Nat) : Int) = 1008 := rfl; omega) dX8_judge_21 ?_
        refine r_icmp_eq X (tgt := 27) dX8_judge_22 (by decide) ⟨by omega, by omega⟩ ⟨by omega, by omega⟩ (fun c22 => ?_) (fun c22 => ?_)
        · refine r_iinc X dX8_judge_27 hl 0 rfl [(1, .int (iV (i + 1))), (0, .ref (g.1 + 100))] (by decide) rfl (fun ls hl => ?_)
          refine r_goto X 2 dX8_judge_30 (by decide) ?_
          exact ih (i + 1) (by omega) (by omega) (by rw [← he, show (a 98 3 - i).toNat = (a 98 3 - (i + 1)).toNat + 1 by omega, judN]; show _ = if tget a b 98 i 0 = a 18 2 then _ else _; rw [if_pos (by omega)]) _ _ _ (by omega) Y (lv_sub hl [0, 1] rfl)
        · refine r_iload_n X dX8_judge_25 hl 0 rfl ?_
          exact ret _ _ _ _ _ _ _ dX8_judge_26 Y ⟨by rw [← he]; (first | (rw [show (a 98 3 - i).toNat = 0 by omega]; rfl) | (rw [show (a 98 3 - i).toNat = (a 98 3 - (i + 1)).toNat + 1 by omega, judN]; show _ = if tget a b 98 i 0 = a 18 2 then _ else _; rw [if_neg (by omega)])), rfl, rfl⟩
  exact loop2 (((a 98 3 - 0).toNat) + 1) 0 (by omega) (by omega) (by rw [show a 98 3 - 0 = a 98 3 by omega]; rfl) _ _ _ (Nat.lt_succ_self _) Y (lv_sub hl [0, 1] rfl)
set_option maxHeartbeats 4000000 in
set_option maxRecDepth 100000 in
theorem ct_X8_feed (l : Launch) (g : uG) (t : uN) (f : uF) (a : uN) (b : uF) (v : Int) (h14 : t 100 14 = a 1 3) (h1 : tOK a 1) (hv : inI v) : cF_i l yX8_feed cX8_feed 2 (some .int) 2 g [.ref (g.1 + 100), .int (iV (v))] t f (feeX a v) (if feeX a v < 0 then t else up2 t 100 14 (t 100 14 + 1)) (if feeX a v < 0 then f else upA f 108 (t 100 14) v) := by
  refine eF_i (by decide +kernel) (Nat.le_of_ble_eq_true rfl) ?_
  intro p e R s m args below meth c Q ls H locs X Y hl ret
  have X : uX p 2 R s m args c cX8_feed 2 RX8 := X
  have hl : lv_has ls 2 [(0, .ref (g.1 + 100)), (1, .int (iV (v)))] := hl
  have hh : 0 ≤ a 1 3 ∧ a 1 3 ≤ 220 := h1
  refine r_iload_n X dX8_feed_0 hl 1 rfl ?_
  refine r_i2l X dX8_feed_1 ⟨by omega, by omega⟩ ?_
  refine r_lconst X 0 dX8_feed_2 (by decide) ?_
  refine r_ldc2 X 255 wm_851 (by decide) dX8_feed_3 ?_
  refine sF_i X Y [.long (lV (v)), .long (lV (0)), .long (lV (255))] [] (ct_X8_in l g t f v 0 255 ⟨by omega, by omega⟩ ⟨by omega, by omega⟩ ⟨by omega, by omega⟩) mk_X8_in mi_X8_in wm_852 (by decide) rfl hl (Nat.le_of_ble_eq_true rfl) rfl dX8_feed_6 (Nat.zero_le _) (Nat.zero_le _) (fun H locs Y => ?_)
  have qi6 := inX_b v 0 255
  refine r_if_ne X (tgt := 15) dX8_feed_9 (by decide) ⟨by omega, by omega⟩ (fun c9 => ?_) (fun c9 => ?_)
  · refine r_aload_n X dX8_feed_15 hl 0 rfl ?_
    refine g_8_14 (k := 100) X Y rfl wm_751 dX8_feed_16 ?_
    refine r_sipush X 220 dX8_feed_19 (by decide) ?_
    refine r_icmp_ne X (tgt := 28) dX8_feed_22 (by decide) ⟨by omega, by omega⟩ ⟨by omega, by omega⟩ (fun c22 => ?_) (fun c22 => ?_)
    · refine r_aload_n X dX8_feed_28 hl 0 rfl ?_
      refine g_8_13 (k := 100) X Y rfl wm_750 dX8_feed_29 ?_
      refine r_aload_n X dX8_feed_32 hl 0 rfl ?_
      refine g_8_14 (k := 100) X Y rfl wm_751 dX8_feed_33 ?_
      refine r_iload_n X dX8_feed_36 hl 1 rfl ?_
      refine p_ist (k := 108) X Y rfl (by omega) (by have q : ((al 108 : Nat) : Int) = 220 := rfl; omega) dX8_feed_37 (fun H locs Y => ?_)
      obtain ⟨fq1, hfq1⟩ : ∃ q, q = upA f 108 (t 100 14) v := ⟨_, rfl⟩
      have Y : uY g 117 (cX g t fq1) s H locs := by rw [hfq1]; exact Y
      refine r_aload_n X dX8_feed_38 hl 0 rfl ?_
      refine r_dup X dX8_feed_39 rfl ?_
      refine g_8_14 (k := 100) X Y rfl wm_751 dX8_feed_40 ?_
      refine r_iconst X dX8_feed_43 ?_
      refine r_iadd X dX8_feed_44 ?_
      refine p_8_14 (k := 100) X Y rfl wm_751 dX8_feed_45 (fun H locs Y => ?_)
      obtain ⟨tq2, htq2⟩ : ∃ q, q = up2 t 100 14 ((t 100 14) + 1) := ⟨_, rfl⟩
      have Y : uY g 117 (cX g tq2 fq1) s H locs := by rw [htq2]; exact Y
      refine r_aload_n X dX8_feed_48 hl 0 rfl ?_
      refine g_8_14 (k := 100) X Y rfl wm_751 dX8_feed_49 ?_
      exact ret _ _ _ _ _ _ _ dX8_feed_52 Y (by have hq : feeX a v = a 1 3 + 1 := (by unfold feeX; have qf := tfull_b a 1; have qm : tm 1 = 220 := rfl; repeat (first | rw [if_pos (by omega)] | rw [if_neg (by omega)])); have hn : ¬ feeX a v < 0 := (by omega); exact ⟨by rw [hq, htq2, up2_s]; omega, by rw [if_neg hn, htq2], by rw [if_neg hn, hfq1]⟩)
    · refine r_ldc X (-1000000004) wm_856 (by decide) dX8_feed_25 ?_
      exact ret _ _ _ _ _ _ _ dX8_feed_27 Y (by have hq : feeX a v = (-1000000004) := (by unfold feeX; have qf := tfull_b a 1; have qm : tm 1 = 220 := rfl; repeat (first | rw [if_pos (by omega)] | rw [if_neg (by omega)])); exact ⟨hq.symm, by rw [hq, if_pos (by decide)], by rw [hq, if_pos (by decide)]⟩)
  · refine r_ldc X (-1000000002) wm_855 (by decide) dX8_feed_12 ?_
    exact ret _ _ _ _ _ _ _ dX8_feed_14 Y (by have hq : feeX a v = (-1000000002) := (by unfold feeX; have qf := tfull_b a 1; have qm : tm 1 = 220 := rfl; repeat (first | rw [if_pos (by omega)] | rw [if_neg (by omega)])); exact ⟨hq.symm, by rw [hq, if_pos (by decide)], by rw [hq, if_pos (by decide)]⟩)
set_option maxHeartbeats 4000000 in
set_option maxRecDepth 100000 in
theorem ct_X8_write (l : Launch) (g : uG) (t : uN) (f : uF) (a : uN) (b : uF) (v : Int) (h34 : t 100 34 = a 98 3) (h1 : tOK a 98) (hv : inI v) : cF_i l yX8_write cX8_write 2 (some .int) 2 g [.ref (g.1 + 100), .int (iV (v))] t f (wriX a v) (if wriX a v < 0 then t else up2 t 100 34 (t 100 34 + 1)) (if wriX a v < 0 then f else upA f 116 (t 100 34) v) := by
  refine eF_i (by decide +kernel) (Nat.le_of_ble_eq_true rfl) ?_
  intro p e R s m args below meth c Q ls H locs X Y hl ret
  have X : uX p 2 R s m args c cX8_write 2 RX8 := X
  have hl : lv_has ls 2 [(0, .ref (g.1 + 100)), (1, .int (iV (v)))] := hl
  have hh : 0 ≤ a 98 3 ∧ a 98 3 ≤ 15 := h1
  refine r_iload_n X dX8_write_0 hl 1 rfl ?_
  refine r_i2l X dX8_write_1 ⟨by omega, by omega⟩ ?_
  refine r_lconst X 0 dX8_write_2 (by decide) ?_
  refine r_ldc2 X 9999 wm_1081 (by decide) dX8_write_3 ?_
  refine sF_i X Y [.long (lV (v)), .long (lV (0)), .long (lV (9999))] [] (ct_X8_in l g t f v 0 9999 ⟨by omega, by omega⟩ ⟨by omega, by omega⟩ ⟨by omega, by omega⟩) mk_X8_in mi_X8_in wm_852 (by decide) rfl hl (Nat.le_of_ble_eq_true rfl) rfl dX8_write_6 (Nat.zero_le _) (Nat.zero_le _) (fun H locs Y => ?_)
  have qi6 := inX_b v 0 9999
  refine r_if_ne X (tgt := 15) dX8_write_9 (by decide) ⟨by omega, by omega⟩ (fun c9 => ?_) (fun c9 => ?_)
  · refine r_aload_n X dX8_write_15 hl 0 rfl ?_
    refine g_8_34 (k := 100) X Y rfl wm_771 dX8_write_16 ?_
    refine r_bipush X 15 dX8_write_19 (by decide) ?_
    refine r_icmp_ne X (tgt := 27) dX8_write_21 (by decide) ⟨by omega, by omega⟩ ⟨by omega, by omega⟩ (fun c21 => ?_) (fun c21 => ?_)
    · refine r_aload_n X dX8_write_27 hl 0 rfl ?_
      refine g_8_35 (k := 100) X Y rfl wm_772 dX8_write_28 ?_
      refine r_aload_n X dX8_write_31 hl 0 rfl ?_
      refine g_8_34 (k := 100) X Y rfl wm_771 dX8_write_32 ?_
      refine r_iload_n X dX8_write_35 hl 1 rfl ?_
      refine p_ist (k := 116) X Y rfl (by omega) (by have q : ((al 116 : Nat) : Int) = 15 := rfl; omega) dX8_write_36 (fun H locs Y => ?_)
      obtain ⟨fq1, hfq1⟩ : ∃ q, q = upA f 116 (t 100 34) v := ⟨_, rfl⟩
      have Y : uY g 117 (cX g t fq1) s H locs := by rw [hfq1]; exact Y
      refine r_aload_n X dX8_write_37 hl 0 rfl ?_
      refine r_dup X dX8_write_38 rfl ?_
      refine g_8_34 (k := 100) X Y rfl wm_771 dX8_write_39 ?_
      refine r_iconst X dX8_write_42 ?_
      refine r_iadd X dX8_write_43 ?_
      refine p_8_34 (k := 100) X Y rfl wm_771 dX8_write_44 (fun H locs Y => ?_)
      obtain ⟨tq2, htq2⟩ : ∃ q, q = up2 t 100 34 ((t 100 34) + 1) := ⟨_, rfl⟩
      have Y : uY g 117 (cX g tq2 fq1) s H locs := by rw [htq2]; exact Y
      refine r_aload_n X dX8_write_47 hl 0 rfl ?_
      refine g_8_34 (k := 100) X Y rfl wm_771 dX8_write_48 ?_
      exact ret _ _ _ _ _ _ _ dX8_write_51 Y (by have hq : wriX a v = a 98 3 + 1 := (by unfold wriX; have qf := tfull_b a 98; have qm : tm 98 = 15 := rfl; repeat (first | rw [if_pos (by omega)] | rw [if_neg (by omega)])); have hn : ¬ wriX a v < 0 := (by omega); exact ⟨by rw [hq, htq2, up2_s]; omega, by rw [if_neg hn, htq2], by rw [if_neg hn, hfq1]⟩)
    · refine r_ldc X (-1000000004) wm_856 (by decide) dX8_write_24 ?_
      exact ret _ _ _ _ _ _ _ dX8_write_26 Y (by have hq : wriX a v = (-1000000004) := (by unfold wriX; have qf := tfull_b a 98; have qm : tm 98 = 15 := rfl; repeat (first | rw [if_pos (by omega)] | rw [if_neg (by omega)])); exact ⟨hq.symm, by rw [hq, if_pos (by decide)], by rw [hq, if_pos (by decide)]⟩)
  · refine r_ldc X (-1000000002) wm_855 (by decide) dX8_write_12 ?_
    exact ret _ _ _ _ _ _ _ dX8_write_14 Y (by have hq : wriX a v = (-1000000002) := (by unfold wriX; have qf := tfull_b a 98; have qm : tm 98 = 15 := rfl; repeat (first | rw [if_pos (by omega)] | rw [if_neg (by omega)])); exact ⟨hq.symm, by rw [hq, if_pos (by decide)], by rw [hq, if_pos (by decide)]⟩)
set_option maxHeartbeats 4000000 in
set_option maxRecDepth 100000 in
theorem ct_X8_tell (l : Launch) (g : uG) (t : uN) (f : uF) (a : uN) (b : uF) (i v : Int) (L : ML a b t f) (h31 : t 100 31 = a 96 3) (h1 : tOK a 96) (hi : inI i) (hv : inI v) : cF_i l yX8_tell cX8_tell 3 (some .int) 3 g [.ref (g.1 + 100), .int (iV (i)), .int (iV (v))] t f (telX a i v) (if telX a i v < 0 then t else up2 t 100 31 (t 100 31 + 1)) (if telX a i v < 0 then f else upA (upA f 114 (t 100 31) i) 115 (t 100 31) v) := by
  refine eF_i (by decide +kernel) (Nat.le_of_ble_eq_true rfl) ?_
  intro p e R s m args below meth c Q ls H locs X Y hl ret
  have X : uX p 3 R s m args c cX8_tell 3 RX8 := X
  have hl : lv_has ls 3 [(0, .ref (g.1 + 100)), (1, .int (iV (i))), (2, .int (iV (v)))] := hl
  have hb := L.1.b
  obtain ⟨p0, p1, p2, p3, p4⟩ := L.p
  obtain ⟨v3, v4, v5, v6, v10⟩ := L.v
  have hk := L.2.1.2.1
  have hns := L.2.2.1
  have hh : 0 ≤ a 96 3 ∧ a 96 3 ≤ 6 := h1
  refine r_aload_n X dX8_tell_0 hl 0 rfl ?_
  refine r_iload_n X dX8_tell_1 hl 1 rfl ?_
  refine vF_i X Y [.int (iV (i))] [] (ct_X8_isLoan l g t f a b i L ⟨by omega, by omega⟩) mk_X8_isLoan mi_X8_isLoan wm_960 (by decide) (rv_8 Y rfl) rfl hl (Nat.le_of_ble_eq_true rfl) rfl dX8_tell_2 (Nat.zero_le _) (Nat.zero_le _) (fun H locs Y => ?_)
  have qh2 := thas_b a 19 i
  refine r_if_ne X (tgt := 11) dX8_tell_5 (by decide) ⟨by omega, by omega⟩ (fun c5 => ?_) (fun c5 => ?_)
  · refine r_iload_n X dX8_tell_11 hl 2 rfl ?_
    refine r_i2l X dX8_tell_12 ⟨by omega, by omega⟩ ?_
    refine r_lconst X 0 dX8_tell_13 (by decide) ?_
    refine r_ldc2 X 9999 wm_1081 (by decide) dX8_tell_14 ?_
    refine sF_i X Y [.long (lV (v)), .long (lV (0)), .long (lV (9999))] [] (ct_X8_in l g t f v 0 9999 ⟨by omega, by omega⟩ ⟨by omega, by omega⟩ ⟨by omega, by omega⟩) mk_X8_in mi_X8_in wm_852 (by decide) rfl hl (Nat.le_of_ble_eq_true rfl) rfl dX8_tell_17 (Nat.zero_le _) (Nat.zero_le _) (fun H locs Y => ?_)
    have qi17 := inX_b v 0 9999
    refine r_if_ne X (tgt := 26) dX8_tell_20 (by decide) ⟨by omega, by omega⟩ (fun c20 => ?_) (fun c20 => ?_)
    · refine r_aload_n X dX8_tell_26 hl 0 rfl ?_
      refine g_8_31 (k := 100) X Y rfl wm_768 dX8_tell_27 ?_
      refine r_bipush X 6 dX8_tell_30 (by decide) ?_
      refine r_icmp_ne X (tgt := 38) dX8_tell_32 (by decide) ⟨by omega, by omega⟩ ⟨by omega, by omega⟩ (fun c32 => ?_) (fun c32 => ?_)
      · refine r_aload_n X dX8_tell_38 hl 0 rfl ?_
        refine g_8_32 (k := 100) X Y rfl wm_769 dX8_tell_39 ?_
        refine r_aload_n X dX8_tell_42 hl 0 rfl ?_
        refine g_8_31 (k := 100) X Y rfl wm_768 dX8_tell_43 ?_
        refine r_iload_n X dX8_tell_46 hl 1 rfl ?_
        refine p_ist (k := 114) X Y rfl (by omega) (by have q : ((al 114 : Nat) : Int) = 6 := rfl; omega) dX8_tell_47 (fun H locs Y => ?_)
        obtain ⟨fq1, hfq1⟩ : ∃ q, q = upA f 114 (t 100 31) i := ⟨_, rfl⟩
        have Y : uY g 117 (cX g t fq1) s H locs := by rw [hfq1]; exact Y
        refine r_aload_n X dX8_tell_48 hl 0 rfl ?_
        refine g_8_33 (k := 100) X Y rfl wm_770 dX8_tell_49 ?_
        refine r_aload_n X dX8_tell_52 hl 0 rfl ?_
        refine g_8_31 (k := 100) X Y rfl wm_768 dX8_tell_53 ?_
        refine r_iload_n X dX8_tell_56 hl 2 rfl ?_
        refine p_ist (k := 115) X Y rfl (by omega) (by have q : ((al 115 : Nat) : Int) = 6 := rfl; omega) dX8_tell_57 (fun H locs Y => ?_)
        obtain ⟨fq2, hfq2⟩ : ∃ q, q = upA fq1 115 (t 100 31) v := ⟨_, rfl⟩
        have Y : uY g 117 (cX g t fq2) s H locs := by rw [hfq2]; exact Y
        refine r_aload_n X dX8_tell_58 hl 0 rfl ?_
        refine r_dup X dX8_tell_59 rfl ?_
        refine g_8_31 (k := 100) X Y rfl wm_768 dX8_tell_60 ?_
        refine r_iconst X dX8_tell_63 ?_
        refine r_iadd X dX8_tell_64 ?_
        refine p_8_31 (k := 100) X Y rfl wm_768 dX8_tell_65 (fun H locs Y => ?_)
        obtain ⟨tq3, htq3⟩ : ∃ q, q = up2 t 100 31 ((t 100 31) + 1) := ⟨_, rfl⟩
        have Y : uY g 117 (cX g tq3 fq2) s H locs := by rw [htq3]; exact Y
        refine r_aload_n X dX8_tell_68 hl 0 rfl ?_
        refine g_8_31 (k := 100) X Y rfl wm_768 dX8_tell_69 ?_
        exact ret _ _ _ _ _ _ _ dX8_tell_72 Y (by have hq : telX a i v = a 96 3 + 1 := (by unfold telX; have qf := tfull_b a 96; have qm : tm 96 = 6 := rfl; repeat (first | rw [if_pos (by omega)] | rw [if_neg (by omega)])); have hn : ¬ telX a i v < 0 := (by omega); exact ⟨by rw [hq, htq3, up2_s]; omega, by rw [if_neg hn, htq3], by rw [if_neg hn, hfq2, hfq1]⟩)
      · refine r_ldc X (-1000000004) wm_856 (by decide) dX8_tell_35 ?_
        exact ret _ _ _ _ _ _ _ dX8_tell_37 Y (by have hq : telX a i v = (-1000000004) := (by unfold telX; have qf := tfull_b a 96; have qm : tm 96 = 6 := rfl; repeat (first | rw [if_pos (by omega)] | rw [if_neg (by omega)])); exact ⟨hq.symm, by rw [hq, if_pos (by decide)], by rw [hq, if_pos (by decide)]⟩)
    · refine r_ldc X (-1000000002) wm_855 (by decide) dX8_tell_23 ?_
      exact ret _ _ _ _ _ _ _ dX8_tell_25 Y (by have hq : telX a i v = (-1000000002) := (by unfold telX; have qf := tfull_b a 96; have qm : tm 96 = 6 := rfl; repeat (first | rw [if_pos (by omega)] | rw [if_neg (by omega)])); exact ⟨hq.symm, by rw [hq, if_pos (by decide)], by rw [hq, if_pos (by decide)]⟩)
  · refine r_ldc X (-1000000001) wm_939 (by decide) dX8_tell_8 ?_
    exact ret _ _ _ _ _ _ _ dX8_tell_10 Y (by have hq : telX a i v = (-1000000001) := (by unfold telX; have qf := tfull_b a 96; have qm : tm 96 = 6 := rfl; repeat (first | rw [if_pos (by omega)] | rw [if_neg (by omega)])); exact ⟨hq.symm, by rw [hq, if_pos (by decide)], by rw [hq, if_pos (by decide)]⟩)
set_option maxHeartbeats 4000000 in
set_option maxRecDepth 100000 in
theorem ct_X8_copy (l : Launch) (g : uG) (t : uN) (f : uF) (x y : Int) (hx0 : 0 ≤ x) (hx1 : x ≤ 966) (hy0 : 0 ≤ y) (hy1 : y ≤ 966) (hd : x + 42 ≤ y ∨ y + 42 ≤ x) : cF_v l yX8_copy cX8_copy 4 1 g [.ref (g.1 + 100), .int (iV (x)), .int (iV (y))] t f (t) (cpW f x y) := by
  refine eF_v (by decide +kernel) (Nat.le_of_ble_eq_true rfl) ?_
  intro p e R s m args below meth c Q ls H locs X Y hl ret
  have X : uX p 1 R s m args c cX8_copy 4 RX8 := X
  have hl : lv_has ls 4 [(0, .ref (g.1 + 100)), (1, .int (iV (x))), (2, .int (iV (y)))] := hl
  refine r_iconst X dX8_copy_0 ?_
  refine r_istore_n X dX8_copy_1 hl [(3, .int (iV (0))), (0, .ref (g.1 + 100)), (1, .int (iV (x))), (2, .int (iV (y)))] (by decide) rfl (fun ls hl => ?_)
  have loop2 : ∀ (N : Nat) (k : Int) (fz : uF) (hk0 : 0 ≤ k) (hk1 : k ≤ 42) (hI : cpI f x y k fz) (H : Heap) (locs : List Loc) (ls : Array Slot), (42 - k).toNat < N → uY g 117 (cX g t fz) s H locs → lv_has ls 4 [(3, .int (iV (k))), (0, .ref (g.1 + 100)), (1, .int (iV (x))), (2, .int (iV (y)))] → W p l e R s m args below meth c H locs 0 0 Q (F0 m 2 ls []) := by
    intro N
    induction N with
    | zero => intro k fz hk0 hk1 hI H locs ls hmu Y hl; exact absurd hmu (Nat.not_lt_zero _)
    | succ N ih =>
      intro k fz hk0 hk1 hI H locs ls hmu Y hl
      refine r_iload_n X dX8_copy_2 hl 0 rfl ?_
      refine r_bipush X 42 dX8_copy_3 (by decide) ?_
      refine r_icmp_ge X (tgt := 30) dX8_copy_5 (by decide) ⟨by omega, by omega⟩ ⟨by omega, by omega⟩ (fun c5 => ?_) (fun c5 => ?_)
      · exact ret _ _ _ _ _ _ dX8_copy_30 Y ⟨rfl, by rw [show k = 42 by omega] at hI; exact hI.done⟩
      · refine r_aload_n X dX8_copy_8 hl 1 rfl ?_
        refine g_8_0 (k := 100) X Y rfl wm_737 dX8_copy_9 ?_
        refine r_iload_n X dX8_copy_12 hl 3 rfl ?_
        refine r_iload_n X dX8_copy_13 hl 0 rfl ?_
        refine r_iadd X dX8_copy_14 ?_
        refine r_aload_n X dX8_copy_15 hl 1 rfl ?_
        refine g_8_0 (k := 100) X Y rfl wm_737 dX8_copy_16 ?_
        refine r_iload_n X dX8_copy_19 hl 2 rfl ?_
        refine r_iload_n X dX8_copy_20 hl 0 rfl ?_
        refine r_iadd X dX8_copy_21 ?_
        refine g_ild (k := 101) X Y rfl (by omega) (by have q : ((al 101 : Nat) : Int) = 1008 := rfl; omega) dX8_copy_22 ?_
        refine p_ist (k := 101) X Y rfl (by omega) (by have q : ((al 101 : Nat) : Int) = 1008 := rfl; omega) dX8_copy_23 (fun H locs Y => ?_)
        obtain ⟨fq1, hfq1⟩ : ∃ q, q = upA fz 101 (y + k) (fz 101 (x + k)) := ⟨_, rfl⟩
        have Y : uY g 117 (cX g t fq1) s H locs := by rw [hfq1]; exact Y
        refine r_iinc X dX8_copy_24 hl 0 rfl [(3, .int (iV (k + 1))), (0, .ref (g.1 + 100)), (1, .int (iV (x))), (2, .int (iV (y)))] (by decide) rfl (fun ls hl => ?_)
        refine r_goto X 2 dX8_copy_27 (by decide) ?_
        exact ih (k + 1) fq1 (by omega) (by omega) (hI.step hk0 (by omega) hd hfq1 rfl) _ _ _ (by omega) Y (lv_sub hl [0, 1, 2, 3] rfl)
  exact loop2 (((42 - (0:Int)).toNat) + 1) 0 f (by omega) (by omega) ⟨fun _ _ _ => rfl, fun i => by rw [if_neg (by omega)]⟩ _ _ _ (Nat.lt_succ_self _) Y (lv_sub hl [0, 1, 2, 3] rfl)

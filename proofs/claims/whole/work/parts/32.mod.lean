/-! the model by contract -/
set_option maxHeartbeats 4000000 in
set_option maxRecDepth 100000 in
theorem ct_X8_in (l : Launch) (g : uG) (t : uN) (f : uF) (v lo hi : Int) (h0 : inI v) (h1 : inI lo) (h2 : inI hi) : cF_i l yX8_in cX8_in 6 (some .boolean) 1 g [.long (lV (v)), .long (lV (lo)), .long (lV (hi))] t f (inX v lo hi) (t) (f) := by
  refine eF_z (by decide +kernel) (Nat.le_of_ble_eq_true rfl) ?_
  intro p e R s m args below meth c Q ls H locs X Y hl ret
  have X : uX p 1 R s m args c cX8_in 6 RX8 := X
  have hl : lv_has ls 6 [(0, .long (lV (v))), (2, .long (lV (lo))), (4, .long (lV (hi)))] := hl
  have q1 := cmpZ_b v lo
  have q2 := cmpZ_b v hi
  refine r_lload_n X dX8_in_0 hl 0 rfl ?_
  refine r_lload_n X dX8_in_1 hl 1 rfl ?_
  refine r_lcmp X dX8_in_2 ⟨by omega, by omega⟩ ⟨by omega, by omega⟩ ?_
  refine r_if_lt X (tgt := 17) dX8_in_3 (by decide) ⟨by omega, by omega⟩ (fun c3 => ?_) (fun c3 => ?_)
  · refine r_iconst X dX8_in_17 ?_
    exact ret _ _ _ _ _ _ _ dX8_in_18 Y (by first | exact Or.inl rfl | exact Or.inr rfl | omega) ⟨by unfold inX; (first | rw [if_pos (by omega)] | rw [if_neg (by omega)]), rfl, rfl⟩
  · refine r_lload_n X dX8_in_6 hl 0 rfl ?_
    refine r_lload X dX8_in_7 hl 2 rfl ?_
    refine r_lcmp X dX8_in_9 ⟨by omega, by omega⟩ ⟨by omega, by omega⟩ ?_
    refine r_if_gt X (tgt := 17) dX8_in_10 (by decide) ⟨by omega, by omega⟩ (fun c10 => ?_) (fun c10 => ?_)
    · refine r_iconst X dX8_in_17 ?_
      exact ret _ _ _ _ _ _ _ dX8_in_18 Y (by first | exact Or.inl rfl | exact Or.inr rfl | omega) ⟨by unfold inX; (first | rw [if_pos (by omega)] | rw [if_neg (by omega)]), rfl, rfl⟩
    · refine r_iconst X dX8_in_13 ?_
      refine r_goto X 18 dX8_in_14 (by decide) ?_
      exact ret _ _ _ _ _ _ _ dX8_in_18 Y (by first | exact Or.inl rfl | exact Or.inr rfl | omega) ⟨by unfold inX; (first | rw [if_pos (by omega)] | rw [if_neg (by omega)]), rfl, rfl⟩
set_option maxHeartbeats 4000000 in
set_option maxRecDepth 100000 in
theorem ct_X8_isLeg (l : Launch) (g : uG) (t : uN) (f : uF) (a : uN) (b : uF) (i : Int) (L : ML a b t f) (hi : inI i) : cF_i l yX8_isLeg cX8_isLeg 2 (some .boolean) 2 g [.ref (g.1 + 100), .int (iV (i))] t f (thas a 14 i) (t) (f) := by
  refine eF_z (by decide +kernel) (Nat.le_of_ble_eq_true rfl) ?_
  intro p e R s m args below meth c Q ls H locs X Y hl ret
  have X : uX p 2 R s m args c cX8_isLeg 2 RX8 := X
  have hl : lv_has ls 2 [(0, .ref (g.1 + 100)), (1, .int (iV (i)))] := hl
  have hb := L.1.b
  obtain ⟨p0, p1, p2, p3, p4⟩ := L.p
  obtain ⟨v3, v4, v5, v6, v10⟩ := L.v
  have hk := L.2.1.2.1
  have hns := L.2.2.1
  refine r_iload_n X dX8_isLeg_0 hl 1 rfl ?_
  refine r_i2l X dX8_isLeg_1 ⟨by omega, by omega⟩ ?_
  refine r_lconst X 0 dX8_isLeg_2 (by decide) ?_
  refine r_aload_n X dX8_isLeg_3 hl 0 rfl ?_
  refine g_8_6 (k := 100) X Y rfl wm_743 dX8_isLeg_4 ?_
  refine r_iconst X dX8_isLeg_7 ?_
  refine r_isub X dX8_isLeg_8 ?_
  refine r_i2l X dX8_isLeg_9 ⟨by omega, by omega⟩ ?_
  refine sF_i X Y [.long (lV (i)), .long (lV (0)), .long (lV ((t 100 6) - 1))] [] (ct_X8_in l g t f i 0 ((t 100 6) - 1) ⟨by omega, by omega⟩ ⟨by omega, by omega⟩ ⟨by omega, by omega⟩) mk_X8_in mi_X8_in wm_852 (by decide) rfl hl (Nat.le_of_ble_eq_true rfl) rfl dX8_isLeg_10 (Nat.zero_le _) (Nat.zero_le _) (fun H locs Y => ?_)
  have qi10 := inX_b i 0 ((t 100 6) - 1)
  exact ret _ _ _ _ _ _ _ dX8_isLeg_13 Y (by first | exact Or.inl rfl | exact Or.inr rfl | omega) ⟨by have q := thas_b a 14 i; omega, rfl, rfl⟩
set_option maxHeartbeats 4000000 in
set_option maxRecDepth 100000 in
theorem ct_X8_isLender (l : Launch) (g : uG) (t : uN) (f : uF) (a : uN) (b : uF) (i : Int) (L : ML a b t f) (hi : inI i) : cF_i l yX8_isLender cX8_isLender 2 (some .boolean) 2 g [.ref (g.1 + 100), .int (iV (i))] t f (thas a 16 i) (t) (f) := by
  refine eF_z (by decide +kernel) (Nat.le_of_ble_eq_true rfl) ?_
  intro p e R s m args below meth c Q ls H locs X Y hl ret
  have X : uX p 2 R s m args c cX8_isLender 2 RX8 := X
  have hl : lv_has ls 2 [(0, .ref (g.1 + 100)), (1, .int (iV (i)))] := hl
  have hb := L.1.b
  obtain ⟨p0, p1, p2, p3, p4⟩ := L.p
  obtain ⟨v3, v4, v5, v6, v10⟩ := L.v
  have hk := L.2.1.2.1
  have hns := L.2.2.1
  refine r_iload_n X dX8_isLender_0 hl 1 rfl ?_
  refine r_i2l X dX8_isLender_1 ⟨by omega, by omega⟩ ?_
  refine r_lconst X 0 dX8_isLender_2 (by decide) ?_
  refine r_aload_n X dX8_isLender_3 hl 0 rfl ?_
  refine g_8_10 (k := 100) X Y rfl wm_747 dX8_isLender_4 ?_
  refine r_iconst X dX8_isLender_7 ?_
  refine r_isub X dX8_isLender_8 ?_
  refine r_i2l X dX8_isLender_9 ⟨by omega, by omega⟩ ?_
  refine sF_i X Y [.long (lV (i)), .long (lV (0)), .long (lV ((t 100 10) - 1))] [] (ct_X8_in l g t f i 0 ((t 100 10) - 1) ⟨by omega, by omega⟩ ⟨by omega, by omega⟩ ⟨by omega, by omega⟩) mk_X8_in mi_X8_in wm_852 (by decide) rfl hl (Nat.le_of_ble_eq_true rfl) rfl dX8_isLender_10 (Nat.zero_le _) (Nat.zero_le _) (fun H locs Y => ?_)
  have qi10 := inX_b i 0 ((t 100 10) - 1)
  exact ret _ _ _ _ _ _ _ dX8_isLender_13 Y (by first | exact Or.inl rfl | exact Or.inr rfl | omega) ⟨by have q := thas_b a 16 i; omega, rfl, rfl⟩
set_option maxHeartbeats 4000000 in
set_option maxRecDepth 100000 in
theorem ct_X8_isLoan (l : Launch) (g : uG) (t : uN) (f : uF) (a : uN) (b : uF) (i : Int) (L : ML a b t f) (hi : inI i) : cF_i l yX8_isLoan cX8_isLoan 2 (some .boolean) 2 g [.ref (g.1 + 100), .int (iV (i))] t f (thas a 19 i) (t) (f) := by
  refine eF_z (by decide +kernel) (Nat.le_of_ble_eq_true rfl) ?_
  intro p e R s m args below meth c Q ls H locs X Y hl ret
  have X : uX p 2 R s m args c cX8_isLoan 2 RX8 := X
  have hl : lv_has ls 2 [(0, .ref (g.1 + 100)), (1, .int (iV (i)))] := hl
  have hb := L.1.b
  obtain ⟨p0, p1, p2, p3, p4⟩ := L.p
  obtain ⟨v3, v4, v5, v6, v10⟩ := L.v
  have hk := L.2.1.2.1
  have hns := L.2.2.1
  refine r_iload_n X dX8_isLoan_0 hl 1 rfl ?_
  refine r_i2l X dX8_isLoan_1 ⟨by omega, by omega⟩ ?_
  refine r_lconst X 0 dX8_isLoan_2 (by decide) ?_
  refine r_aload_n X dX8_isLoan_3 hl 0 rfl ?_
  refine g_8_0 (k := 100) X Y rfl wm_737 dX8_isLoan_4 ?_
  refine r_iconst X dX8_isLoan_7 ?_
  refine g_ild (k := 101) X Y rfl (by omega) (by have q : ((al 101 : Nat) : Int) = 1008 := rfl; omega) dX8_isLoan_8 ?_
  refine r_iconst X dX8_isLoan_9 ?_
  refine r_isub X dX8_isLoan_10 ?_
  refine r_i2l X dX8_isLoan_11 ⟨by omega, by omega⟩ ?_
  refine sF_i X Y [.long (lV (i)), .long (lV (0)), .long (lV ((f 101 4) - 1))] [] (ct_X8_in l g t f i 0 ((f 101 4) - 1) ⟨by omega, by omega⟩ ⟨by omega, by omega⟩ ⟨by omega, by omega⟩) mk_X8_in mi_X8_in wm_852 (by decide) rfl hl (Nat.le_of_ble_eq_true rfl) rfl dX8_isLoan_12 (Nat.zero_le _) (Nat.zero_le _) (fun H locs Y => ?_)
  have qi12 := inX_b i 0 ((f 101 4) - 1)
  exact ret _ _ _ _ _ _ _ dX8_isLoan_15 Y (by first | exact Or.inl rfl | exact Or.inr rfl | omega) ⟨by have q := thas_b a 19 i; omega, rfl, rfl⟩
set_option maxHeartbeats 4000000 in
set_option maxRecDepth 100000 in
theorem ct_X8_where (l : Launch) (g : uG) (t : uN) (f : uF) (a : uN) (b : uF) (L : ML a b t f) : cF_i l yX8_where cX8_where 1 (some .int) 1 g [.ref (g.1 + 100)] t f (whereX a) (t) (f) := by
  refine eF_i (by decide +kernel) (Nat.le_of_ble_eq_true rfl) ?_
  intro p e R s m args below meth c Q ls H locs X Y hl ret
  have X : uX p 1 R s m args c cX8_where 1 RX8 := X
  have hl : lv_has ls 1 [(0, .ref (g.1 + 100))] := hl
  have hb := L.1.b
  obtain ⟨p0, p1, p2, p3, p4⟩ := L.p
  obtain ⟨v3, v4, v5, v6, v10⟩ := L.v
  have hk := L.2.1.2.1
  have hns := L.2.2.1
  refine r_aload_n X dX8_where_0 hl 0 rfl ?_
  refine g_8_0 (k := 100) X Y rfl wm_737 dX8_where_1 ?_
  refine r_iconst X dX8_where_4 ?_
  refine g_ild (k := 101) X Y rfl (by omega) (by have q : ((al 101 : Nat) : Int) = 1008 := rfl; omega) dX8_where_5 ?_
  refine r_iconst X dX8_where_6 ?_
  refine r_icmp_ne X (tgt := 14) dX8_where_7 (by decide) ⟨by omega, by omega⟩ ⟨by omega, by omega⟩ (fun c7 => ?_) (fun c7 => ?_)
  · refine r_aload_n X dX8_where_14 hl 0 rfl ?_
    refine g_8_3 (k := 100) X Y rfl wm_740 dX8_where_15 ?_
    refine r_if_eq X (tgt := 34) dX8_where_18 (by decide) ⟨by omega, by omega⟩ (fun c18 => ?_) (fun c18 => ?_)
    · refine r_iconst X dX8_where_34 ?_
      refine r_goto X 39 dX8_where_35 (by decide) ?_
      exact ret _ _ _ _ _ _ _ dX8_where_39 Y ⟨by have q := whereX_b hb.1.2.2.2; omega, rfl, rfl⟩
    · refine r_aload_n X dX8_where_21 hl 0 rfl ?_
      refine g_8_0 (k := 100) X Y rfl wm_737 dX8_where_22 ?_
      refine r_iconst X dX8_where_25 ?_
      refine g_ild (k := 101) X Y rfl (by omega) (by have q : ((al 101 : Nat) : Int) = 1008 := rfl; omega) dX8_where_26 ?_
      refine r_aload_n X dX8_where_27 hl 0 rfl ?_
      refine g_8_6 (k := 100) X Y rfl wm_743 dX8_where_28 ?_
      refine r_icmp_ne X (tgt := 38) dX8_where_31 (by decide) ⟨by omega, by omega⟩ ⟨by omega, by omega⟩ (fun c31 => ?_) (fun c31 => ?_)
      · refine r_iconst X dX8_where_38 ?_
        exact ret _ _ _ _ _ _ _ dX8_where_39 Y ⟨by have q := whereX_b hb.1.2.2.2; omega, rfl, rfl⟩
      · refine r_iconst X dX8_where_34 ?_
        refine r_goto X 39 dX8_where_35 (by decide) ?_
        exact ret _ _ _ _ _ _ _ dX8_where_39 Y ⟨by have q := whereX_b hb.1.2.2.2; omega, rfl, rfl⟩
  · refine r_iconst X dX8_where_10 ?_
    refine r_goto X 39 dX8_where_11 (by decide) ?_
    exact ret _ _ _ _ _ _ _ dX8_where_39 Y ⟨by have q := whereX_b hb.1.2.2.2; omega, rfl, rfl⟩
set_option maxHeartbeats 4000000 in
set_option maxRecDepth 100000 in
theorem ct_X8_isGone (l : Launch) (g : uG) (t : uN) (f : uF) (a : uN) (b : uF) (L : ML a b t f) : cF_i l yX8_isGone cX8_isGone 1 (some .boolean) 1 g [.ref (g.1 + 100)] t f (goneX a) (t) (f) := by
  refine eF_z (by decide +kernel) (Nat.le_of_ble_eq_true rfl) ?_
  intro p e R s m args below meth c Q ls H locs X Y hl ret
  have X : uX p 1 R s m args c cX8_isGone 1 RX8 := X
  have hl : lv_has ls 1 [(0, .ref (g.1 + 100))] := hl
  have hb := L.1.b
  obtain ⟨p0, p1, p2, p3, p4⟩ := L.p
  obtain ⟨v3, v4, v5, v6, v10⟩ := L.v
  have hk := L.2.1.2.1
  have hns := L.2.2.1
  refine r_aload_n X dX8_isGone_0 hl 0 rfl ?_
  refine g_8_3 (k := 100) X Y rfl wm_740 dX8_isGone_1 ?_
  refine r_if_eq X (tgt := 17) dX8_isGone_4 (by decide) ⟨by omega, by omega⟩ (fun c4 => ?_) (fun c4 => ?_)
  · refine r_iconst X dX8_isGone_17 ?_
    refine r_goto X 22 dX8_isGone_18 (by decide) ?_
    exact ret _ _ _ _ _ _ _ dX8_isGone_22 Y (by first | exact Or.inl rfl | exact Or.inr rfl | omega) ⟨by have q := goneX_b hb.1.2.2.2; omega, rfl, rfl⟩
  · refine r_aload_n X dX8_isGone_7 hl 0 rfl ?_
    refine g_8_0 (k := 100) X Y rfl wm_737 dX8_isGone_8 ?_
    refine r_iconst X dX8_isGone_11 ?_
    refine g_ild (k := 101) X Y rfl (by omega) (by have q : ((al 101 : Nat) : Int) = 1008 := rfl; omega) dX8_isGone_12 ?_
    refine r_iconst X dX8_isGone_13 ?_
    refine r_icmp_ne X (tgt := 21) dX8_isGone_14 (by decide) ⟨by omega, by omega⟩ ⟨by omega, by omega⟩ (fun c14 => ?_) (fun c14 => ?_)
    · refine r_iconst X dX8_isGone_21 ?_
      exact ret _ _ _ _ _ _ _ dX8_isGone_22 Y (by first | exact Or.inl rfl | exact Or.inr rfl | omega) ⟨by have q := goneX_b hb.1.2.2.2; omega, rfl, rfl⟩
    · refine r_iconst X dX8_isGone_17 ?_
      refine r_goto X 22 dX8_isGone_18 (by decide) ?_
      exact ret _ _ _ _ _ _ _ dX8_isGone_22 Y (by first | exact Or.inl rfl | exact Or.inr rfl | omega) ⟨by have q := goneX_b hb.1.2.2.2; omega, rfl, rfl⟩
set_option maxHeartbeats 4000000 in
set_option maxRecDepth 100000 in
theorem ct_X8_fault (l : Launch) (g : uG) (t : uN) (f : uF)   : cF_i l yX8_fault cX8_fault 1 (some .int) 1 g [.ref (g.1 + 100)] t f (t 100 19) (t) (f) := by
  refine eF_i (by decide +kernel) (Nat.le_of_ble_eq_true rfl) ?_
  intro p e R s m args below meth c Q ls H locs X Y hl ret
  have X : uX p 1 R s m args c cX8_fault 1 RX8 := X
  have hl : lv_has ls 1 [(0, .ref (g.1 + 100))] := hl
  refine r_aload_n X dX8_fault_0 hl 0 rfl ?_
  refine g_8_19 (k := 100) X Y rfl wm_756 dX8_fault_1 ?_
  exact ret _ _ _ _ _ _ _ dX8_fault_4 Y ⟨rfl, rfl, rfl⟩
set_option maxHeartbeats 4000000 in
set_option maxRecDepth 100000 in
theorem ct_X8_tear (l : Launch) (g : uG) (t : uN) (f : uF)   : cF_i l yX8_tear cX8_tear 2 (some .int) 1 g [.ref (g.1 + 100)] t f (t 100 31 + t 100 34) (up2 (up2 t 100 31 0) 100 34 0) (f) := by
  refine eF_i (by decide +kernel) (Nat.le_of_ble_eq_true rfl) ?_
  intro p e R s m args below meth c Q ls H locs X Y hl ret
  have X : uX p 1 R s m args c cX8_tear 2 RX8 := X
  have hl : lv_has ls 2 [(0, .ref (g.1 + 100))] := hl
  refine r_aload_n X dX8_tear_0 hl 0 rfl ?_
  refine g_8_31 (k := 100) X Y rfl wm_768 dX8_tear_1 ?_
  refine r_aload_n X dX8_tear_4 hl 0 rfl ?_
  refine g_8_34 (k := 100) X Y rfl wm_771 dX8_tear_5 ?_
  refine r_iadd X dX8_tear_8 ?_
  refine r_istore_n X dX8_tear_9 hl [(1, .int (iV ((t 100 31) + (t 100 34)))), (0, .ref (g.1 + 100))] (by decide) rfl (fun ls hl => ?_)
  refine r_aload_n X dX8_tear_10 hl 1 rfl ?_
  refine r_iconst X dX8_tear_11 ?_
  refine p_8_31 (k := 100) X Y rfl wm_768 dX8_tear_12 (fun H locs Y => ?_)
  obtain ⟨tq1, htq1⟩ : ∃ q, q = up2 t 100 31 (0) := ⟨_, rfl⟩
  have Y : uY g 117 (cX g tq1 f) s H locs := by rw [htq1]; exact Y
  refine r_aload_n X dX8_tear_15 hl 1 rfl ?_
  refine r_iconst X dX8_tear_16 ?_
  refine p_8_34 (k := 100) X Y rfl wm_771 dX8_tear_17 (fun H locs Y => ?_)
  obtain ⟨tq2, htq2⟩ : ∃ q, q = up2 tq1 100 34 (0) := ⟨_, rfl⟩
  have Y : uY g 117 (cX g tq2 f) s H locs := by rw [htq2]; exact Y
  refine r_iload_n X dX8_tear_20 hl 0 rfl ?_
  exact ret _ _ _ _ _ _ _ dX8_tear_21 Y (by subst htq1 htq2; exact ⟨rfl, rfl, rfl⟩)
set_option maxHeartbeats 4000000 in
set_option maxRecDepth 100000 in
theorem ct_X8_seed (l : Launch) (g : uG) (t : uN) (f : uF) (v : Int) (hv : inI v) : cF_i l yX8_seed cX8_seed 3 (some .int) 1 g [.ref (g.1 + 100), .int (iV (v))] t f (if v < 0 then -1000000002 else f 101 41) (t) (if v < 0 then f else upA f 101 41 v) := by
  refine eF_i (by decide +kernel) (Nat.le_of_ble_eq_true rfl) ?_
  intro p e R s m args below meth c Q ls H locs X Y hl ret
  have X : uX p 1 R s m args c cX8_seed 3 RX8 := X
  have hl : lv_has ls 3 [(0, .ref (g.1 + 100)), (1, .int (iV (v)))] := hl
  refine r_iload_n X dX8_seed_0 hl 1 rfl ?_
  refine r_if_ge X (tgt := 7) dX8_seed_1 (by decide) ⟨by omega, by omega⟩ (fun c1 => ?_) (fun c1 => ?_)
  · refine r_aload_n X dX8_seed_7 hl 0 rfl ?_
    refine g_8_0 (k := 100) X Y rfl wm_737 dX8_seed_8 ?_
    refine r_bipush X 41 dX8_seed_11 (by decide) ?_
    refine g_ild (k := 101) X Y rfl (by omega) (by have q : ((al 101 : Nat) : Int) = 1008 := rfl; omega) dX8_seed_13 ?_
    refine r_istore_n X dX8_seed_14 hl [(2, .int (iV (f 101 41))), (0, .ref (g.1 + 100)), (1, .int (iV (v)))] (by decide) rfl (fun ls hl => ?_)
    refine r_aload_n X dX8_seed_15 hl 1 rfl ?_
    refine g_8_0 (k := 100) X Y rfl wm_737 dX8_seed_16 ?_
    refine r_bipush X 41 dX8_seed_19 (by decide) ?_
    refine r_iload_n X dX8_seed_21 hl 2 rfl ?_
    refine p_ist (k := 101) X Y rfl (by omega) (by have q : ((al 101 : Nat) : Int) = 1008 := rfl; omega) dX8_seed_22 (fun H locs Y => ?_)
    obtain ⟨fq1, hfq1⟩ : ∃ q, q = upA f 101 41 v := ⟨_, rfl⟩
    have Y : uY g 117 (cX g t fq1) s H locs := by rw [hfq1]; exact Y
    refine r_iload_n X dX8_seed_23 hl 0 rfl ?_
    exact ret _ _ _ _ _ _ _ dX8_seed_24 Y ⟨by first | rw [if_pos (by omega)] | rw [if_neg (by omega)], rfl, by first | rw [if_pos (by omega)] | (rw [if_neg (by omega)]; exact hfq1)⟩
  · refine r_ldc X (-1000000002) wm_855 (by decide) dX8_seed_4 ?_
    exact ret _ _ _ _ _ _ _ dX8_seed_6 Y ⟨by rw [if_pos (by omega)], rfl, by rw [if_pos (by omega)]⟩
set_option maxHeartbeats 4000000 in
set_option maxRecDepth 100000 in
theorem ct_X8_oddsOf (l : Launch) (g : uG) (t : uN) (f : uF) (a : uN) (b : uF) (l0 s0 : Int) (L : ML a b t f) (hl0 : 0 ≤ l0) (hl1 : l0 < a 14 3) (h0 : 0 ≤ s0) (h1 : s0 ≤ 9) : cF_i l yX8_oddsOf cX8_oddsOf 4 (some .int) 1 g [.ref (g.1 + 100), .int (iV (l0)), .int (iV (s0))] t f (oddX a b 11 l0 s0) (t) (f) := by
  refine eF_i (by decide +kernel) (Nat.le_of_ble_eq_true rfl) ?_
  intro p e R s m args below meth c Q ls H locs X Y hl ret
  have X : uX p 1 R s m args c cX8_oddsOf 4 RX8 := X
  have hl : lv_has ls 4 [(0, .ref (g.1 + 100)), (1, .int (iV (l0))), (2, .int (iV (s0)))] := hl
  have hb := L.1.b
  obtain ⟨p0, p1, p2, p3, p4⟩ := L.p
  obtain ⟨v3, v4, v5, v6, v10⟩ := L.v
  have hk := L.2.1.2.1
  have hns := L.2.2.1
  have hl := L.l hl0 hl1
  have ho := oddX_rng L.1.1 l0 s0 h0 h1
  have e1 : f 104 l0 * (9 - s0) = tget a b 14 l0 1 * (9 - s0) := by rw [hl.1.2.1]
  have ho2 : oddX a b 11 l0 s0 = min 100 (tget a b 14 l0 0 + tget a b 14 l0 1 * (9 - s0)) := rfl
  change _ ∧ _ ∧ 0 ≤ tget a b 14 l0 1 * (9 - s0) ∧ tget a b 14 l0 1 * (9 - s0) ≤ 81 at ho
  refine r_aload_n X dX8_oddsOf_0 hl 0 rfl ?_
  refine g_8_7 (k := 100) X Y rfl wm_744 dX8_oddsOf_1 ?_
  refine r_iload_n X dX8_oddsOf_4 hl 1 rfl ?_
  refine g_ild (k := 103) X Y rfl (by omega) (by have q : ((al 103 : Nat) : Int) = 7 := rfl; omega) dX8_oddsOf_5 ?_
  refine r_aload_n X dX8_oddsOf_6 hl 0 rfl ?_
  refine g_8_8 (k := 100) X Y rfl wm_745 dX8_oddsOf_7 ?_
  refine r_iload_n X dX8_oddsOf_10 hl 1 rfl ?_
  refine g_ild (k := 104) X Y rfl (by omega) (by have q : ((al 104 : Nat) : Int) = 7 := rfl; omega) dX8_oddsOf_11 ?_
  refine r_bipush X 9 dX8_oddsOf_12 (by decide) ?_
  refine r_iload_n X dX8_oddsOf_14 hl 2 rfl ?_
  refine r_isub X dX8_oddsOf_15 ?_
  refine r_imul X dX8_oddsOf_16 ?_
  refine r_iadd X dX8_oddsOf_17 ?_
  refine r_istore_n X dX8_oddsOf_18 hl [(3, .int (iV ((f 103 l0) + ((f 104 l0) * (9 - s0))))), (0, .ref (g.1 + 100)), (1, .int (iV (l0))), (2, .int (iV (s0)))] (by decide) rfl (fun ls hl => ?_)
  refine r_iload_n X dX8_oddsOf_19 hl 0 rfl ?_
  refine r_bipush X 100 dX8_oddsOf_20 (by decide) ?_
  refine r_icmp_le X (tgt := 30) dX8_oddsOf_22 (by decide) ⟨by omega, by omega⟩ ⟨by omega, by omega⟩ (fun c22 => ?_) (fun c22 => ?_)
  · refine r_iload_n X dX8_oddsOf_30 hl 0 rfl ?_
    exact ret _ _ _ _ _ _ _ dX8_oddsOf_31 Y ⟨by omega, rfl, rfl⟩
  · refine r_bipush X 100 dX8_oddsOf_25 (by decide) ?_
    refine r_goto X 31 dX8_oddsOf_27 (by decide) ?_
    exact ret _ _ _ _ _ _ _ dX8_oddsOf_31 Y ⟨by omega, rfl, rfl⟩

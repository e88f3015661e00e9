/-! the class's helpers by contract -/
set_option maxHeartbeats 4000000 in
set_option maxRecDepth 100000 in
theorem ct_X7_whereSheIs (l : Launch) (g : uG) (t : uN) (f : uF)  (h : HI t f) : cF_i l yX7_whereSheIs cX7_whereSheIs 1 (some .int) 2 g [.ref (g.1 + 0)] t f (whereX t) (t) (f) := by
  refine eF_i (by decide +kernel) (Nat.le_of_ble_eq_true rfl) ?_
  intro p e R s m args below meth c Q ls H locs X Y hl ret
  have X : uX p 2 R s m args c cX7_whereSheIs 1 RX7 := X
  have hl : lv_has ls 1 [(0, .ref (g.1 + 0))] := hl
  have hb := h.b
  refine r_aload_n X dX7_whereSheIs_0 hl 0 rfl ?_
  refine g_7_3 (k := 0) X Y rfl wm_259 dX7_whereSheIs_1 ?_
  refine g_4_4 (k := 18) X Y rfl wm_173 dX7_whereSheIs_4 ?_
  refine r_if_eq X (tgt := 12) dX7_whereSheIs_7 (by decide) ⟨by omega, by omega⟩ (fun c7 => ?_) (fun c7 => ?_)
  · refine r_aload_n X dX7_whereSheIs_12 hl 0 rfl ?_
    refine g_7_2 (k := 0) X Y rfl wm_258 dX7_whereSheIs_13 ?_
    refine g_6_1 (k := 11) X Y rfl wm_122 dX7_whereSheIs_16 ?_
    refine r_aload_n X dX7_whereSheIs_19 hl 0 rfl ?_
    refine g_7_3 (k := 0) X Y rfl wm_259 dX7_whereSheIs_20 ?_
    refine g_4_3 (k := 18) X Y rfl wm_170 dX7_whereSheIs_23 ?_
    refine vF_i X Y [.int (iV (t 18 3))] [] (ct_X5_has l g t f 14 (t 18 3) rfl h.1.1.2.1 ⟨by omega, by omega⟩) mk_X5_has mi_X5_has wm_441 (by decide) (rv_5 Y rfl) rfl hl (Nat.le_of_ble_eq_true rfl) rfl dX7_whereSheIs_26 (Nat.zero_le _) (Nat.zero_le _) (fun H locs Y => ?_)
    have qb26 := thas_b t 14 (t 18 3)
    refine r_if_eq X (tgt := 36) dX7_whereSheIs_29 (by decide) ⟨by omega, by omega⟩ (fun c29 => ?_) (fun c29 => ?_)
    · refine r_iconst X dX7_whereSheIs_36 ?_
      exact ret _ _ _ _ _ _ _ dX7_whereSheIs_37 Y ⟨by unfold whereX; repeat (first | rw [if_pos (by omega)] | rw [if_neg (by omega)]), rfl, rfl⟩
    · refine r_iconst X dX7_whereSheIs_32 ?_
      refine r_goto X 37 dX7_whereSheIs_33 (by decide) ?_
      exact ret _ _ _ _ _ _ _ dX7_whereSheIs_37 Y ⟨by unfold whereX; repeat (first | rw [if_pos (by omega)] | rw [if_neg (by omega)]), rfl, rfl⟩
  · refine r_iconst X dX7_whereSheIs_10 ?_
    exact ret _ _ _ _ _ _ _ dX7_whereSheIs_11 Y ⟨by unfold whereX; repeat (first | rw [if_pos (by omega)] | rw [if_neg (by omega)]), rfl, rfl⟩
set_option maxHeartbeats 4000000 in
set_option maxRecDepth 100000 in
theorem ct_X7_isInPort (l : Launch) (g : uG) (t : uN) (f : uF)  (h : HI t f) : cF_i l yX7_isInPort cX7_isInPort 1 (some .boolean) 3 g [.ref (g.1 + 0)] t f (inPortX t) (t) (f) := by
  refine eF_z (by decide +kernel) (Nat.le_of_ble_eq_true rfl) ?_
  intro p e R s m args below meth c Q ls H locs X Y hl ret
  have X : uX p 3 R s m args c cX7_isInPort 1 RX7 := X
  have hl : lv_has ls 1 [(0, .ref (g.1 + 0))] := hl
  have hb := h.b
  refine r_aload_n X dX7_isInPort_0 hl 0 rfl ?_
  refine vF_i X Y [] [] (ct_X7_whereSheIs l g t f h) mk_X7_whereSheIs mi_X7_whereSheIs wm_437 (by decide) (rv_7 Y rfl) rfl hl (Nat.le_of_ble_eq_true rfl) rfl dX7_isInPort_1 (Nat.zero_le _) (Nat.zero_le _) (fun H locs Y => ?_)
  have qw1 := whereX_b h.b.1.2.2.2
  refine r_if_ne X (tgt := 11) dX7_isInPort_4 (by decide) ⟨by omega, by omega⟩ (fun c4 => ?_) (fun c4 => ?_)
  · refine r_iconst X dX7_isInPort_11 ?_
    exact ret _ _ _ _ _ _ _ dX7_isInPort_12 Y (by first | exact Or.inl rfl | exact Or.inr rfl | omega) ⟨by unfold inPortX; (first | rw [if_pos (by omega)] | rw [if_neg (by omega)]), rfl, rfl⟩
  · refine r_iconst X dX7_isInPort_7 ?_
    refine r_goto X 12 dX7_isInPort_8 (by decide) ?_
    exact ret _ _ _ _ _ _ _ dX7_isInPort_12 Y (by first | exact Or.inl rfl | exact Or.inr rfl | omega) ⟨by unfold inPortX; (first | rw [if_pos (by omega)] | rw [if_neg (by omega)]), rfl, rfl⟩
set_option maxHeartbeats 4000000 in
set_option maxRecDepth 100000 in
theorem ct_X7_cannotTry (l : Launch) (g : uG) (t : uN) (f : uF)  (h : HI t f) : cF_i l yX7_cannotTry cX7_cannotTry 1 (some .boolean) 2 g [.ref (g.1 + 0)] t f (goneX t) (t) (f) := by
  refine eF_z (by decide +kernel) (Nat.le_of_ble_eq_true rfl) ?_
  intro p e R s m args below meth c Q ls H locs X Y hl ret
  have X : uX p 2 R s m args c cX7_cannotTry 1 RX7 := X
  have hl : lv_has ls 1 [(0, .ref (g.1 + 0))] := hl
  have hb := h.b
  refine r_aload_n X dX7_cannotTry_0 hl 0 rfl ?_
  refine g_7_3 (k := 0) X Y rfl wm_259 dX7_cannotTry_1 ?_
  refine g_4_4 (k := 18) X Y rfl wm_173 dX7_cannotTry_4 ?_
  refine r_if_ne X (tgt := 23) dX7_cannotTry_7 (by decide) ⟨by omega, by omega⟩ (fun c7 => ?_) (fun c7 => ?_)
  · refine r_iconst X dX7_cannotTry_23 ?_
    refine r_goto X 28 dX7_cannotTry_24 (by decide) ?_
    exact ret _ _ _ _ _ _ _ dX7_cannotTry_28 Y (by first | exact Or.inl rfl | exact Or.inr rfl | omega) ⟨by unfold goneX; (first | rw [if_pos (by omega)] | rw [if_neg (by omega)]), rfl, rfl⟩
  · refine r_aload_n X dX7_cannotTry_10 hl 0 rfl ?_
    refine g_7_2 (k := 0) X Y rfl wm_258 dX7_cannotTry_11 ?_
    refine g_6_0 (k := 11) X Y rfl wm_119 dX7_cannotTry_14 ?_
    refine vF_i X Y [] [] (ct_X5_rows l g t f 12 rfl) mk_X5_rows mi_X5_rows wm_320 (by decide) (rv_5 Y rfl) rfl hl (Nat.le_of_ble_eq_true rfl) rfl dX7_cannotTry_17 (Nat.zero_le _) (Nat.zero_le _) (fun H locs Y => ?_)
    refine r_if_ne X (tgt := 27) dX7_cannotTry_20 (by decide) ⟨by omega, by omega⟩ (fun c20 => ?_) (fun c20 => ?_)
    · refine r_iconst X dX7_cannotTry_27 ?_
      exact ret _ _ _ _ _ _ _ dX7_cannotTry_28 Y (by first | exact Or.inl rfl | exact Or.inr rfl | omega) ⟨by unfold goneX; (first | rw [if_pos (by omega)] | rw [if_neg (by omega)]), rfl, rfl⟩
    · refine r_iconst X dX7_cannotTry_23 ?_
      refine r_goto X 28 dX7_cannotTry_24 (by decide) ?_
      exact ret _ _ _ _ _ _ _ dX7_cannotTry_28 Y (by first | exact Or.inl rfl | exact Or.inr rfl | omega) ⟨by unfold goneX; (first | rw [if_pos (by omega)] | rw [if_neg (by omega)]), rfl, rfl⟩
set_option maxHeartbeats 4000000 in
set_option maxRecDepth 100000 in
theorem ct_X7_costHere (l : Launch) (g : uG) (t : uN) (f : uF)  (h : HI t f) : cF_i l yX7_costHere cX7_costHere 1 (some .int) 3 g [.ref (g.1 + 0)] t f (costX t f) (t) (f) := by
  refine eF_i (by decide +kernel) (Nat.le_of_ble_eq_true rfl) ?_
  intro p e R s m args below meth c Q ls H locs X Y hl ret
  have X : uX p 3 R s m args c cX7_costHere 1 RX7 := X
  have hl : lv_has ls 1 [(0, .ref (g.1 + 0))] := hl
  have hb := h.b
  refine r_aload_n X dX7_costHere_0 hl 0 rfl ?_
  refine g_7_2 (k := 0) X Y rfl wm_258 dX7_costHere_1 ?_
  refine g_6_1 (k := 11) X Y rfl wm_122 dX7_costHere_4 ?_
  refine r_aload_n X dX7_costHere_7 hl 0 rfl ?_
  refine g_7_3 (k := 0) X Y rfl wm_259 dX7_costHere_8 ?_
  refine g_4_3 (k := 18) X Y rfl wm_170 dX7_costHere_11 ?_
  refine r_iconst X dX7_costHere_14 ?_
  refine vF_i X Y [.int (iV (t 18 3)), .int (iV (2))] [] (ct_X5_get l g t f 14 (t 18 3) 2 rfl h.1.1.2.1 ⟨by omega, by omega⟩ ⟨by omega, by omega⟩) mk_X5_get mi_X5_get wm_436 (by decide) (rv_5 Y rfl) rfl hl (Nat.le_of_ble_eq_true rfl) rfl dX7_costHere_15 (Nat.zero_le _) (Nat.zero_le _) (fun H locs Y => ?_)
  exact ret _ _ _ _ _ _ _ dX7_costHere_18 Y ⟨rfl, rfl, rfl⟩
set_option maxHeartbeats 4000000 in
set_option maxRecDepth 100000 in
theorem ct_X7_hasYet (l : Launch) (g : uG) (t : uN) (f : uF) (m0 : Int) (h : HI t f) (hm : inI m0) : cF_i l yX7_hasYet cX7_hasYet 2 (some .int) 4 g [.ref (g.1 + 0), .int (iV (m0))] t f (yetX t f m0) (t) (f) := by
  refine eF_i (by decide +kernel) (Nat.le_of_ble_eq_true rfl) ?_
  intro p e R s m args below meth c Q ls H locs X Y hl ret
  have X : uX p 4 R s m args c cX7_hasYet 2 RX7 := X
  have hl : lv_has ls 2 [(0, .ref (g.1 + 0)), (1, .int (iV (m0)))] := hl
  have hb := h.b
  refine r_aload_n X dX7_hasYet_0 hl 0 rfl ?_
  refine g_7_2 (k := 0) X Y rfl wm_258 dX7_hasYet_1 ?_
  refine g_6_2 (k := 11) X Y rfl wm_126 dX7_hasYet_4 ?_
  refine r_iload_n X dX7_hasYet_7 hl 1 rfl ?_
  refine r_iconst X dX7_hasYet_8 ?_
  refine vF_i X Y [.int (iV (m0)), .int (iV (0))] [] (ct_X5_get l g t f 16 m0 0 rfl h.1.1.2.2 ⟨by omega, by omega⟩ ⟨by omega, by omega⟩) mk_X5_get mi_X5_get wm_436 (by decide) (rv_5 Y rfl) rfl hl (Nat.le_of_ble_eq_true rfl) rfl dX7_hasYet_9 (Nat.zero_le _) (Nat.zero_le _) (fun H locs Y => ?_)
  refine r_aload_n X dX7_hasYet_12 hl 0 rfl ?_
  refine g_7_3 (k := 0) X Y rfl wm_259 dX7_hasYet_13 ?_
  refine r_iload_n X dX7_hasYet_16 hl 1 rfl ?_
  refine vF_i X Y [.int (iV (m0))] [.int (iV (tget t f 16 m0 0))] (ct_X4_lentBy l g t f 18 m0 rfl h.2 ⟨by omega, by omega⟩) mk_X4_lentBy mi_X4_lentBy wm_486 (by decide) (rv_4 Y rfl) rfl hl (Nat.le_of_ble_eq_true rfl) rfl dX7_hasYet_17 (Nat.zero_le _) (Nat.zero_le _) (fun H locs Y => ?_)
  refine r_isub X dX7_hasYet_20 ?_
  exact ret _ _ _ _ _ _ _ dX7_hasYet_21 Y ⟨rfl, rfl, rfl⟩
set_option maxHeartbeats 4000000 in
set_option maxRecDepth 100000 in
theorem ct_X7_rateFor (l : Launch) (g : uG) (t : uN) (f : uF) (c0 : Int) (h0 : 0 ≤ c0) (h1 : c0 ≤ 1000000) : cF_i l yX7_rateFor cX7_rateFor 2 (some .int) 1 g [.int (iV (c0))] t f (rateX c0) (t) (f) := by
  refine eF_i (by decide +kernel) (Nat.le_of_ble_eq_true rfl) ?_
  intro p e R s m args below meth c Q ls H locs X Y hl ret
  have X : uX p 1 R s m args c cX7_rateFor 2 RX7 := X
  have hl : lv_has ls 2 [(0, .int (iV (c0)))] := hl
  refine r_iload_n X dX7_rateFor_0 hl 0 rfl ?_
  refine r_if_gt X (tgt := 6) dX7_rateFor_1 (by decide) ⟨by omega, by omega⟩ (fun c1 => ?_) (fun c1 => ?_)
  · refine r_ldc_w X 100000000 wm_595 (by decide) dX7_rateFor_6 ?_
    refine r_iload_n X dX7_rateFor_9 hl 0 rfl ?_
    refine r_iadd X dX7_rateFor_10 ?_
    refine r_iconst X dX7_rateFor_11 ?_
    refine r_isub X dX7_rateFor_12 ?_
    refine r_iload_n X dX7_rateFor_13 hl 0 rfl ?_
    refine r_idiv X dX7_rateFor_14 ⟨by omega, by omega⟩ ⟨by omega, by omega⟩ (by omega) ?_
    have hq : 0 ≤ (100000000 + c0 - 1).tdiv c0 ∧ (100000000 + c0 - 1).tdiv c0 ≤ 101000000 := by
      rw [Int.tdiv_eq_ediv_of_nonneg (by omega)]
      exact ⟨Int.ediv_nonneg (by omega) (by omega), Int.le_trans (Int.ediv_le_self _ (by omega)) (by omega)⟩
    refine r_istore_n X dX7_rateFor_15 hl [(1, .int (iV (((100000000 + c0) - 1).tdiv c0))), (0, .int (iV (c0)))] (by decide) rfl (fun ls hl => ?_)
    refine r_iload_n X dX7_rateFor_16 hl 0 rfl ?_
    refine r_bipush X 100 dX7_rateFor_17 (by decide) ?_
    refine r_isub X dX7_rateFor_19 ?_
    refine r_sipush X 999 dX7_rateFor_20 (by decide) ?_
    refine r_icmp_gt X (tgt := 33) dX7_rateFor_23 (by decide) ⟨by omega, by omega⟩ ⟨by omega, by omega⟩ (fun c23 => ?_) (fun c23 => ?_)
    · refine r_iconst X dX7_rateFor_33 ?_
      exact ret _ _ _ _ _ _ _ dX7_rateFor_34 Y ⟨by unfold rateX; repeat (first | rw [if_pos (by omega)] | rw [if_neg (by omega)]), rfl, rfl⟩
    · refine r_iload_n X dX7_rateFor_26 hl 0 rfl ?_
      refine r_bipush X 100 dX7_rateFor_27 (by decide) ?_
      refine r_isub X dX7_rateFor_29 ?_
      refine r_goto X 34 dX7_rateFor_30 (by decide) ?_
      exact ret _ _ _ _ _ _ _ dX7_rateFor_34 Y ⟨by unfold rateX; repeat (first | rw [if_pos (by omega)] | rw [if_neg (by omega)]), rfl, rfl⟩
  · refine r_iconst X dX7_rateFor_4 ?_
    exact ret _ _ _ _ _ _ _ dX7_rateFor_5 Y ⟨by unfold rateX; repeat (first | rw [if_pos (by omega)] | rw [if_neg (by omega)]), rfl, rfl⟩
set_option maxHeartbeats 4000000 in
set_option maxRecDepth 100000 in
theorem ct_X7_shipMoney (l : Launch) (g : uG) (t : uN) (f : uF) (fr : Int) (h : HI t f) (h0 : -2000000 ≤ fr) (h1 : fr ≤ 999) : cF_i l yX7_shipMoney cX7_shipMoney 2 (some .int) 4 g [.ref (g.1 + 0), .int (iV (fr))] t f (smX t f fr) (t) (f) := by
  refine eF_i (by decide +kernel) (Nat.le_of_ble_eq_true rfl) ?_
  intro p e R s m args below meth c Q ls H locs X Y hl ret
  have X : uX p 4 R s m args c cX7_shipMoney 2 RX7 := X
  have hl : lv_has ls 2 [(0, .ref (g.1 + 0)), (1, .int (iV (fr)))] := hl
  have hb := h.b
  have hds := dueS_rng (k := 18) rfl h.2 0 1 (by omega)
  refine r_aload_n X dX7_shipMoney_0 hl 0 rfl ?_
  refine g_7_2 (k := 0) X Y rfl wm_258 dX7_shipMoney_1 ?_
  refine g_6_0 (k := 11) X Y rfl wm_119 dX7_shipMoney_4 ?_
  refine r_iconst X dX7_shipMoney_7 ?_
  refine r_iconst X dX7_shipMoney_8 ?_
  refine vF_i X Y [.int (iV (0)), .int (iV (0))] [] (ct_X5_get l g t f 12 0 0 rfl h.1.1.1 ⟨by omega, by omega⟩ ⟨by omega, by omega⟩) mk_X5_get mi_X5_get wm_436 (by decide) (rv_5 Y rfl) rfl hl (Nat.le_of_ble_eq_true rfl) rfl dX7_shipMoney_9 (Nat.zero_le _) (Nat.zero_le _) (fun H locs Y => ?_)
  refine r_aload_n X dX7_shipMoney_12 hl 0 rfl ?_
  refine g_7_3 (k := 0) X Y rfl wm_259 dX7_shipMoney_13 ?_
  refine g_4_2 (k := 18) X Y rfl wm_167 dX7_shipMoney_16 ?_
  refine r_iadd X dX7_shipMoney_19 ?_
  refine r_iconst X dX7_shipMoney_20 ?_
  refine r_iload_n X dX7_shipMoney_21 hl 1 rfl ?_
  refine r_aload_n X dX7_shipMoney_22 hl 0 rfl ?_
  refine g_7_3 (k := 0) X Y rfl wm_259 dX7_shipMoney_23 ?_
  refine r_iconst X dX7_shipMoney_26 ?_
  refine r_iconst X dX7_shipMoney_27 ?_
  refine vF_i X Y [.int (iV (0)), .int (iV (1))] [.int (iV (fr)), .int (iV (0)), .int (iV ((tget t f 12 0 0) + (t 18 2)))] (ct_X4_dueFrom l g t f 18 0 1 rfl h.2 (by omega) (by omega) ⟨by omega, by omega⟩) mk_X4_dueFrom mi_X4_dueFrom wm_445 (by decide) (rv_4 Y rfl) rfl hl (Nat.le_of_ble_eq_true rfl) rfl dX7_shipMoney_28 (Nat.zero_le _) (Nat.zero_le _) (fun H locs Y => ?_)
  refine r_isub X dX7_shipMoney_31 ?_
  refine r_max X hl (by decide) (Nat.zero_le _) (Nat.zero_le _) wm_462 (Nat.le_of_ble_eq_true rfl) dX7_shipMoney_32 ⟨by omega, by omega⟩ ⟨by omega, by omega⟩ ?_
  refine r_iadd X dX7_shipMoney_35 ?_
  exact ret _ _ _ _ _ _ _ dX7_shipMoney_36 Y ⟨rfl, rfl, rfl⟩
set_option maxHeartbeats 4000000 in
set_option maxRecDepth 100000 in
theorem ct_X7_paidNow (l : Launch) (g : uG) (t : uN) (f : uF) (i : Int) (h : HI t f) (h0 : 0 ≤ i) (h1 : i < t 19 3) : cF_i l yX7_paidNow cX7_paidNow 3 (some .int) 5 g [.ref (g.1 + 0), .int (iV (i))] t f (paidX t f i) (t) (f) := by
  refine eF_i (by decide +kernel) (Nat.le_of_ble_eq_true rfl) ?_
  intro p e R s m args below meth c Q ls H locs X Y hl ret
  have X : uX p 5 R s m args c cX7_paidNow 3 RX7 := X
  have hl : lv_has ls 3 [(0, .ref (g.1 + 0)), (1, .int (iV (i)))] := hl
  have hb := h.b
  refine r_aload_n X dX7_paidNow_0 hl 0 rfl ?_
  refine g_7_2 (k := 0) X Y rfl wm_258 dX7_paidNow_1 ?_
  refine g_6_0 (k := 11) X Y rfl wm_119 dX7_paidNow_4 ?_
  refine r_iconst X dX7_paidNow_7 ?_
  refine r_iconst X dX7_paidNow_8 ?_
  refine vF_i X Y [.int (iV (0)), .int (iV (1))] [] (ct_X5_get l g t f 12 0 1 rfl h.1.1.1 ⟨by omega, by omega⟩ ⟨by omega, by omega⟩) mk_X5_get mi_X5_get wm_436 (by decide) (rv_5 Y rfl) rfl hl (Nat.le_of_ble_eq_true rfl) rfl dX7_paidNow_9 (Nat.zero_le _) (Nat.zero_le _) (fun H locs Y => ?_)
  refine r_istore_n X dX7_paidNow_12 hl [(2, .int (iV (tget t f 12 0 1))), (0, .ref (g.1 + 0)), (1, .int (iV (i)))] (by decide) rfl (fun ls hl => ?_)
  refine r_aload_n X dX7_paidNow_13 hl 1 rfl ?_
  refine g_7_3 (k := 0) X Y rfl wm_259 dX7_paidNow_14 ?_
  refine r_iload_n X dX7_paidNow_17 hl 2 rfl ?_
  refine r_aload_n X dX7_paidNow_18 hl 1 rfl ?_
  refine r_iload_n X dX7_paidNow_19 hl 0 rfl ?_
  refine vF_i X Y [.int (iV (tget t f 12 0 1))] [.int (iV (i)), .ref (g.1 + 18)] (ct_X7_shipMoney l g t f (tget t f 12 0 1) h (by omega) (by omega)) mk_X7_shipMoney mi_X7_shipMoney wm_458 (by decide) (rv_7 Y rfl) rfl hl (Nat.le_of_ble_eq_true rfl) rfl dX7_paidNow_20 (Nat.zero_le _) (Nat.zero_le _) (fun H locs Y => ?_)
  have qs20 := smX_rng h (tget t f 12 0 1) (by omega) (by omega)
  refine r_iload_n X dX7_paidNow_23 hl 0 rfl ?_
  refine vF_i X Y [.int (iV (i)), .int (iV (smX t f (tget t f 12 0 1))), .int (iV (tget t f 12 0 1))] [] (ct_X4_paidOf l g t f 18 i (smX t f (tget t f 12 0 1)) (tget t f 12 0 1) rfl h.2 (by omega) (show i < t 19 3 by omega) ⟨by omega, by omega⟩ ⟨by omega, by omega⟩) mk_X4_paidOf mi_X4_paidOf wm_608 (by decide) (rv_4 Y rfl) rfl hl (Nat.le_of_ble_eq_true rfl) rfl dX7_paidNow_24 (Nat.zero_le _) (Nat.zero_le _) (fun H locs Y => ?_)
  exact ret _ _ _ _ _ _ _ dX7_paidNow_27 Y ⟨rfl, rfl, rfl⟩
set_option maxHeartbeats 4000000 in
set_option maxRecDepth 100000 in
theorem ct_X7_leftBesidesPurse (l : Launch) (g : uG) (t : uN) (f : uF)  (h : HI t f) : cF_i l yX7_leftBesidesPurse cX7_leftBesidesPurse 1 (some .int) 5 g [.ref (g.1 + 0)] t f (lbpX t f) (t) (f) := by
  refine eF_i (by decide +kernel) (Nat.le_of_ble_eq_true rfl) ?_
  intro p e R s m args below meth c Q ls H locs X Y hl ret
  have X : uX p 5 R s m args c cX7_leftBesidesPurse 1 RX7 := X
  have hl : lv_has ls 1 [(0, .ref (g.1 + 0))] := hl
  have hb := h.b
  refine r_aload_n X dX7_leftBesidesPurse_0 hl 0 rfl ?_
  refine r_aload_n X dX7_leftBesidesPurse_1 hl 0 rfl ?_
  refine g_7_2 (k := 0) X Y rfl wm_258 dX7_leftBesidesPurse_2 ?_
  refine g_6_0 (k := 11) X Y rfl wm_119 dX7_leftBesidesPurse_5 ?_
  refine r_iconst X dX7_leftBesidesPurse_8 ?_
  refine r_iconst X dX7_leftBesidesPurse_9 ?_
  refine vF_i X Y [.int (iV (0)), .int (iV (1))] [.ref (g.1 + 0)] (ct_X5_get l g t f 12 0 1 rfl h.1.1.1 ⟨by omega, by omega⟩ ⟨by omega, by omega⟩) mk_X5_get mi_X5_get wm_436 (by decide) (rv_5 Y rfl) rfl hl (Nat.le_of_ble_eq_true rfl) rfl dX7_leftBesidesPurse_10 (Nat.zero_le _) (Nat.zero_le _) (fun H locs Y => ?_)
  refine vF_i X Y [.int (iV (tget t f 12 0 1))] [] (ct_X7_shipMoney l g t f (tget t f 12 0 1) h (by omega) (by omega)) mk_X7_shipMoney mi_X7_shipMoney wm_458 (by decide) (rv_7 Y rfl) rfl hl (Nat.le_of_ble_eq_true rfl) rfl dX7_leftBesidesPurse_13 (Nat.zero_le _) (Nat.zero_le _) (fun H locs Y => ?_)
  have qs13 := smX_rng h (tget t f 12 0 1) (by omega) (by omega)
  refine r_aload_n X dX7_leftBesidesPurse_16 hl 0 rfl ?_
  refine g_7_3 (k := 0) X Y rfl wm_259 dX7_leftBesidesPurse_17 ?_
  refine g_4_2 (k := 18) X Y rfl wm_167 dX7_leftBesidesPurse_20 ?_
  refine r_isub X dX7_leftBesidesPurse_23 ?_
  refine r_aload_n X dX7_leftBesidesPurse_24 hl 0 rfl ?_
  refine g_7_3 (k := 0) X Y rfl wm_259 dX7_leftBesidesPurse_25 ?_
  refine r_iconst X dX7_leftBesidesPurse_28 ?_
  refine r_iconst X dX7_leftBesidesPurse_29 ?_
  refine vF_i X Y [.int (iV (0)), .int (iV (0))] [.int (iV ((smX t f (tget t f 12 0 1)) - (t 18 2)))] (ct_X4_dueFrom l g t f 18 0 0 rfl h.2 (by omega) (by omega) ⟨by omega, by omega⟩) mk_X4_dueFrom mi_X4_dueFrom wm_445 (by decide) (rv_4 Y rfl) rfl hl (Nat.le_of_ble_eq_true rfl) rfl dX7_leftBesidesPurse_30 (Nat.zero_le _) (Nat.zero_le _) (fun H locs Y => ?_)
  refine r_isub X dX7_leftBesidesPurse_33 ?_
  exact ret _ _ _ _ _ _ _ dX7_leftBesidesPurse_34 Y ⟨rfl, rfl, rfl⟩
set_option maxHeartbeats 4000000 in
set_option maxRecDepth 100000 in
theorem ct_X7_isFreightTold (l : Launch) (g : uG) (t : uN) (f : uF) (n : Int) (h : HI t f) (hT : TI t f) (h0 : inI n) : cF_i l yX7_isFreightTold cX7_isFreightTold 2 (some .boolean) 3 g [.ref (g.1 + 0), .int (iV (n))] t f (frTX t f n) (t) (f) := by
  refine eF_z (by decide +kernel) (Nat.le_of_ble_eq_true rfl) ?_
  intro p e R s m args below meth c Q ls H locs X Y hl ret
  have X : uX p 3 R s m args c cX7_isFreightTold 2 RX7 := X
  have hl : lv_has ls 2 [(0, .ref (g.1 + 0)), (1, .int (iV (n)))] := hl
  have hb := h.b
  have ht := hT.2 n
  have hrow := h.loan (tget t f 96 n 0)
  refine r_aload_n X dX7_isFreightTold_0 hl 0 rfl ?_
  refine g_7_3 (k := 0) X Y rfl wm_259 dX7_isFreightTold_1 ?_
  refine g_4_0 (k := 18) X Y rfl wm_162 dX7_isFreightTold_4 ?_
  refine r_aload_n X dX7_isFreightTold_7 hl 0 rfl ?_
  refine g_7_8 (k := 0) X Y rfl wm_264 dX7_isFreightTold_8 ?_
  refine r_iload_n X dX7_isFreightTold_11 hl 1 rfl ?_
  refine r_iconst X dX7_isFreightTold_12 ?_
  refine vF_i X Y [.int (iV (n)), .int (iV (0))] [.ref (g.1 + 19)] (ct_X5_get l g t f 96 n 0 rfl hT.1 ⟨by omega, by omega⟩ ⟨by omega, by omega⟩) mk_X5_get mi_X5_get wm_436 (by decide) (rv_5 Y rfl) rfl hl (Nat.le_of_ble_eq_true rfl) rfl dX7_isFreightTold_13 (Nat.zero_le _) (Nat.zero_le _) (fun H locs Y => ?_)
  refine r_iconst X dX7_isFreightTold_16 ?_
  refine vF_i X Y [.int (iV (tget t f 96 n 0)), .int (iV (2))] [] (ct_X5_get l g t f 19 (tget t f 96 n 0) 2 rfl h.2.1 ⟨by omega, by omega⟩ ⟨by omega, by omega⟩) mk_X5_get mi_X5_get wm_436 (by decide) (rv_5 Y rfl) rfl hl (Nat.le_of_ble_eq_true rfl) rfl dX7_isFreightTold_17 (Nat.zero_le _) (Nat.zero_le _) (fun H locs Y => ?_)
  refine r_iconst X dX7_isFreightTold_20 ?_
  refine r_icmp_ne X (tgt := 28) dX7_isFreightTold_21 (by decide) ⟨by omega, by omega⟩ ⟨by omega, by omega⟩ (fun c21 => ?_) (fun c21 => ?_)
  · refine r_iconst X dX7_isFreightTold_28 ?_
    exact ret _ _ _ _ _ _ _ dX7_isFreightTold_29 Y (by first | exact Or.inl rfl | exact Or.inr rfl | omega) ⟨by unfold frTX; (first | rw [if_pos (by omega)] | rw [if_neg (by omega)]), rfl, rfl⟩
  · refine r_iconst X dX7_isFreightTold_24 ?_
    refine r_goto X 29 dX7_isFreightTold_25 (by decide) ?_
    exact ret _ _ _ _ _ _ _ dX7_isFreightTold_29 Y (by first | exact Or.inl rfl | exact Or.inr rfl | omega) ⟨by unfold frTX; (first | rw [if_pos (by omega)] | rw [if_neg (by omega)]), rfl, rfl⟩
set_option maxHeartbeats 4000000 in
set_option maxRecDepth 100000 in
theorem ct_X7_canBeSo (l : Launch) (g : uG) (t : uN) (f : uF) (n : Int) (h : HI t f) (hT : TI t f) (h0 : inI n) : cF_i l yX7_canBeSo cX7_canBeSo 5 (some .boolean) 5 g [.ref (g.1 + 0), .int (iV (n))] t f (canX t f n) (t) (f) := by
  refine eF_z (by decide +kernel) (Nat.le_of_ble_eq_true rfl) ?_
  intro p e R s m args below meth c Q ls H locs X Y hl ret
  have X : uX p 5 R s m args c cX7_canBeSo 5 RX7 := X
  have hl : lv_has ls 5 [(0, .ref (g.1 + 0)), (1, .int (iV (n)))] := hl
  have hb := h.b
  have ht := hT.2 n
  have hrow := h.loan (tget t f 96 n 0)
  refine r_aload_n X dX7_canBeSo_0 hl 0 rfl ?_
  refine g_7_8 (k := 0) X Y rfl wm_264 dX7_canBeSo_1 ?_
  refine r_iload_n X dX7_canBeSo_4 hl 1 rfl ?_
  refine r_iconst X dX7_canBeSo_5 ?_
  refine vF_i X Y [.int (iV (n)), .int (iV (0))] [] (ct_X5_get l g t f 96 n 0 rfl hT.1 ⟨by omega, by omega⟩ ⟨by omega, by omega⟩) mk_X5_get mi_X5_get wm_436 (by decide) (rv_5 Y rfl) rfl hl (Nat.le_of_ble_eq_true rfl) rfl dX7_canBeSo_6 (Nat.zero_le _) (Nat.zero_le _) (fun H locs Y => ?_)
  refine r_istore_n X dX7_canBeSo_9 hl [(2, .int (iV (tget t f 96 n 0))), (0, .ref (g.1 + 0)), (1, .int (iV (n)))] (by decide) rfl (fun ls hl => ?_)
  refine r_aload_n X dX7_canBeSo_10 hl 1 rfl ?_
  refine g_7_8 (k := 0) X Y rfl wm_264 dX7_canBeSo_11 ?_
  refine r_iload_n X dX7_canBeSo_14 hl 2 rfl ?_
  refine r_iconst X dX7_canBeSo_15 ?_
  refine vF_i X Y [.int (iV (n)), .int (iV (1))] [] (ct_X5_get l g t f 96 n 1 rfl hT.1 ⟨by omega, by omega⟩ ⟨by omega, by omega⟩) mk_X5_get mi_X5_get wm_436 (by decide) (rv_5 Y rfl) rfl hl (Nat.le_of_ble_eq_true rfl) rfl dX7_canBeSo_16 (Nat.zero_le _) (Nat.zero_le _) (fun H locs Y => ?_)
  refine r_istore_n X dX7_canBeSo_19 hl [(3, .int (iV (tget t f 96 n 1))), (2, .int (iV (tget t f 96 n 0))), (0, .ref (g.1 + 0)), (1, .int (iV (n)))] (by decide) rfl (fun ls hl => ?_)
  refine r_aload_n X dX7_canBeSo_20 hl 2 rfl ?_
  refine g_7_3 (k := 0) X Y rfl wm_259 dX7_canBeSo_21 ?_
  refine g_4_0 (k := 18) X Y rfl wm_162 dX7_canBeSo_24 ?_
  refine r_iload_n X dX7_canBeSo_27 hl 1 rfl ?_
  refine vF_i X Y [.int (iV (tget t f 96 n 0))] [] (ct_X5_has l g t f 19 (tget t f 96 n 0) rfl h.2.1 ⟨by omega, by omega⟩) mk_X5_has mi_X5_has wm_441 (by decide) (rv_5 Y rfl) rfl hl (Nat.le_of_ble_eq_true rfl) rfl dX7_canBeSo_28 (Nat.zero_le _) (Nat.zero_le _) (fun H locs Y => ?_)
  have qb28 := thas_b t 19 (tget t f 96 n 0)
  refine r_if_ne X (tgt := 36) dX7_canBeSo_31 (by decide) ⟨by omega, by omega⟩ (fun c31 => ?_) (fun c31 => ?_)
  · refine r_aload_n X dX7_canBeSo_36 hl 2 rfl ?_
    refine g_7_2 (k := 0) X Y rfl wm_258 dX7_canBeSo_37 ?_
    refine g_6_0 (k := 11) X Y rfl wm_119 dX7_canBeSo_40 ?_
    refine r_iconst X dX7_canBeSo_43 ?_
    refine r_iconst X dX7_canBeSo_44 ?_
    refine vF_i X Y [.int (iV (0)), .int (iV (1))] [] (ct_X5_get l g t f 12 0 1 rfl h.1.1.1 ⟨by omega, by omega⟩ ⟨by omega, by omega⟩) mk_X5_get mi_X5_get wm_436 (by decide) (rv_5 Y rfl) rfl hl (Nat.le_of_ble_eq_true rfl) rfl dX7_canBeSo_45 (Nat.zero_le _) (Nat.zero_le _) (fun H locs Y => ?_)
    refine r_istore X dX7_canBeSo_48 hl [(4, .int (iV (tget t f 12 0 1))), (3, .int (iV (tget t f 96 n 1))), (2, .int (iV (tget t f 96 n 0))), (0, .ref (g.1 + 0)), (1, .int (iV (n)))] (by decide) rfl (fun ls hl => ?_)
    refine r_aload_n X dX7_canBeSo_50 hl 3 rfl ?_
    refine r_iload_n X dX7_canBeSo_51 hl 4 rfl ?_
    refine vF_i X Y [.int (iV (n))] [] (ct_X7_isFreightTold l g t f n h hT ⟨by omega, by omega⟩) mk_X7_isFreightTold mi_X7_isFreightTold wm_689 (by decide) (rv_7 Y rfl) rfl hl (Nat.le_of_ble_eq_true rfl) rfl dX7_canBeSo_52 (Nat.zero_le _) (Nat.zero_le _) (fun H locs Y => ?_)
    have qf52 := frTX_b t f n
    refine r_if_eq X (tgt := 81) dX7_canBeSo_55 (by decide) ⟨by omega, by omega⟩ (fun c55 => ?_) (fun c55 => ?_)
    · refine r_iload_n X dX7_canBeSo_81 hl 1 rfl ?_
      refine r_aload_n X dX7_canBeSo_82 hl 3 rfl ?_
      refine g_7_3 (k := 0) X Y rfl wm_259 dX7_canBeSo_83 ?_
      refine g_4_0 (k := 18) X Y rfl wm_162 dX7_canBeSo_86 ?_
      refine r_iload_n X dX7_canBeSo_89 hl 2 rfl ?_
      refine r_iconst X dX7_canBeSo_90 ?_
      refine vF_i X Y [.int (iV (tget t f 96 n 0)), .int (iV (3))] [.int (iV (tget t f 96 n 1))] (ct_X5_get l g t f 19 (tget t f 96 n 0) 3 rfl h.2.1 ⟨by omega, by omega⟩ ⟨by omega, by omega⟩) mk_X5_get mi_X5_get wm_436 (by decide) (rv_5 Y rfl) rfl hl (Nat.le_of_ble_eq_true rfl) rfl dX7_canBeSo_91 (Nat.zero_le _) (Nat.zero_le _) (fun H locs Y => ?_)
      refine r_icmp_gt X (tgt := 101) dX7_canBeSo_94 (by decide) ⟨by omega, by omega⟩ ⟨by omega, by omega⟩ (fun c94 => ?_) (fun c94 => ?_)
      · refine r_iconst X dX7_canBeSo_101 ?_
        exact ret _ _ _ _ _ _ _ dX7_canBeSo_102 Y (by first | exact Or.inl rfl | exact Or.inr rfl | omega) ⟨by unfold canX; repeat (first | rw [if_pos (by omega)] | rw [if_neg (by omega)]), rfl, rfl⟩
      · refine r_iconst X dX7_canBeSo_97 ?_
        refine r_goto X 102 dX7_canBeSo_98 (by decide) ?_
        exact ret _ _ _ _ _ _ _ dX7_canBeSo_102 Y (by first | exact Or.inl rfl | exact Or.inr rfl | omega) ⟨by unfold canX; repeat (first | rw [if_pos (by omega)] | rw [if_neg (by omega)]), rfl, rfl⟩
    · refine r_aload_n X dX7_canBeSo_58 hl 3 rfl ?_
      refine g_7_3 (k := 0) X Y rfl wm_259 dX7_canBeSo_59 ?_
      refine r_iload_n X dX7_canBeSo_62 hl 2 rfl ?_
      refine r_iconst X dX7_canBeSo_63 ?_
      refine r_iload X dX7_canBeSo_64 hl 0 rfl ?_
      refine vF_i X Y [.int (iV (tget t f 96 n 0)), .int (iV (0)), .int (iV (tget t f 12 0 1))] [] (ct_X4_paidOf l g t f 18 (tget t f 96 n 0) 0 (tget t f 12 0 1) rfl h.2 (by omega) (show (tget t f 96 n 0) < t 19 3 by omega) ⟨by omega, by omega⟩ ⟨by omega, by omega⟩) mk_X4_paidOf mi_X4_paidOf wm_608 (by decide) (rv_4 Y rfl) rfl hl (Nat.le_of_ble_eq_true rfl) rfl dX7_canBeSo_66 (Nat.zero_le _) (Nat.zero_le _) (fun H locs Y => ?_)
      have qpd := paidS_rng h.2 (tget t f 96 n 0) 0 (tget t f 12 0 1)
      refine r_iload_n X dX7_canBeSo_69 hl 1 rfl ?_
      refine r_icmp_ne X (tgt := 77) dX7_canBeSo_70 (by decide) ⟨by omega, by omega⟩ ⟨by omega, by omega⟩ (fun c70 => ?_) (fun c70 => ?_)
      · refine r_iconst X dX7_canBeSo_77 ?_
        refine r_goto X 102 dX7_canBeSo_78 (by decide) ?_
        exact ret _ _ _ _ _ _ _ dX7_canBeSo_102 Y (by first | exact Or.inl rfl | exact Or.inr rfl | omega) ⟨by unfold canX; repeat (first | rw [if_pos (by omega)] | rw [if_neg (by omega)]), rfl, rfl⟩
      · refine r_iconst X dX7_canBeSo_73 ?_
        refine r_goto X 102 dX7_canBeSo_74 (by decide) ?_
        exact ret _ _ _ _ _ _ _ dX7_canBeSo_102 Y (by first | exact Or.inl rfl | exact Or.inr rfl | omega) ⟨by unfold canX; repeat (first | rw [if_pos (by omega)] | rw [if_neg (by omega)]), rfl, rfl⟩
  · refine r_iconst X dX7_canBeSo_34 ?_
    exact ret _ _ _ _ _ _ _ dX7_canBeSo_35 Y (by first | exact Or.inl rfl | exact Or.inr rfl | omega) ⟨by unfold canX; repeat (first | rw [if_pos (by omega)] | rw [if_neg (by omega)]), rfl, rfl⟩
set_option maxHeartbeats 4000000 in
set_option maxRecDepth 100000 in
theorem ct_X7_worthJustFor (l : Launch) (g : uG) (t : uN) (f : uF) (n : Int) (h : HI t f) (hT : TI t f) (h0 : inI n) : cF_i l yX7_worthJustFor cX7_worthJustFor 4 (some .int) 5 g [.ref (g.1 + 0), .int (iV (n))] t f (justX t f n) (t) (f) := by
  refine eF_i (by decide +kernel) (Nat.le_of_ble_eq_true rfl) ?_
  intro p e R s m args below meth c Q ls H locs X Y hl ret
  have X : uX p 5 R s m args c cX7_worthJustFor 4 RX7 := X
  have hl : lv_has ls 4 [(0, .ref (g.1 + 0)), (1, .int (iV (n)))] := hl
  have hb := h.b
  have ht := hT.2 n
  have hrow := h.loan (tget t f 96 n 0)
  refine r_aload_n X dX7_worthJustFor_0 hl 0 rfl ?_
  refine r_aload_n X dX7_worthJustFor_1 hl 0 rfl ?_
  refine g_7_2 (k := 0) X Y rfl wm_258 dX7_worthJustFor_2 ?_
  refine g_6_0 (k := 11) X Y rfl wm_119 dX7_worthJustFor_5 ?_
  refine r_iconst X dX7_worthJustFor_8 ?_
  refine r_iconst X dX7_worthJustFor_9 ?_
  refine vF_i X Y [.int (iV (0)), .int (iV (1))] [.ref (g.1 + 0)] (ct_X5_get l g t f 12 0 1 rfl h.1.1.1 ⟨by omega, by omega⟩ ⟨by omega, by omega⟩) mk_X5_get mi_X5_get wm_436 (by decide) (rv_5 Y rfl) rfl hl (Nat.le_of_ble_eq_true rfl) rfl dX7_worthJustFor_10 (Nat.zero_le _) (Nat.zero_le _) (fun H locs Y => ?_)
  refine vF_i X Y [.int (iV (tget t f 12 0 1))] [] (ct_X7_shipMoney l g t f (tget t f 12 0 1) h (by omega) (by omega)) mk_X7_shipMoney mi_X7_shipMoney wm_458 (by decide) (rv_7 Y rfl) rfl hl (Nat.le_of_ble_eq_true rfl) rfl dX7_worthJustFor_13 (Nat.zero_le _) (Nat.zero_le _) (fun H locs Y => ?_)
  have qs13 := smX_rng h (tget t f 12 0 1) (by omega) (by omega)
  refine r_aload_n X dX7_worthJustFor_16 hl 0 rfl ?_
  refine g_7_2 (k := 0) X Y rfl wm_258 dX7_worthJustFor_17 ?_
  refine g_6_0 (k := 11) X Y rfl wm_119 dX7_worthJustFor_20 ?_
  refine r_iconst X dX7_worthJustFor_23 ?_
  refine r_iconst X dX7_worthJustFor_24 ?_
  refine vF_i X Y [.int (iV (0)), .int (iV (0))] [.int (iV (smX t f (tget t f 12 0 1)))] (ct_X5_get l g t f 12 0 0 rfl h.1.1.1 ⟨by omega, by omega⟩ ⟨by omega, by omega⟩) mk_X5_get mi_X5_get wm_436 (by decide) (rv_5 Y rfl) rfl hl (Nat.le_of_ble_eq_true rfl) rfl dX7_worthJustFor_25 (Nat.zero_le _) (Nat.zero_le _) (fun H locs Y => ?_)
  refine r_isub X dX7_worthJustFor_28 ?_
  refine r_istore_n X dX7_worthJustFor_29 hl [(2, .int (iV ((smX t f (tget t f 12 0 1)) - (tget t f 12 0 0)))), (0, .ref (g.1 + 0)), (1, .int (iV (n)))] (by decide) rfl (fun ls hl => ?_)
  refine r_aload_n X dX7_worthJustFor_30 hl 1 rfl ?_
  refine g_7_3 (k := 0) X Y rfl wm_259 dX7_worthJustFor_31 ?_
  refine r_aload_n X dX7_worthJustFor_34 hl 1 rfl ?_
  refine g_7_8 (k := 0) X Y rfl wm_264 dX7_worthJustFor_35 ?_
  refine r_iload_n X dX7_worthJustFor_38 hl 2 rfl ?_
  refine r_iconst X dX7_worthJustFor_39 ?_
  refine vF_i X Y [.int (iV (n)), .int (iV (0))] [.ref (g.1 + 18)] (ct_X5_get l g t f 96 n 0 rfl hT.1 ⟨by omega, by omega⟩ ⟨by omega, by omega⟩) mk_X5_get mi_X5_get wm_436 (by decide) (rv_5 Y rfl) rfl hl (Nat.le_of_ble_eq_true rfl) rfl dX7_worthJustFor_40 (Nat.zero_le _) (Nat.zero_le _) (fun H locs Y => ?_)
  refine r_iconst X dX7_worthJustFor_43 ?_
  refine r_iadd X dX7_worthJustFor_44 ?_
  refine r_iconst X dX7_worthJustFor_45 ?_
  refine vF_i X Y [.int (iV ((tget t f 96 n 0) + 1)), .int (iV (0))] [] (ct_X4_dueFrom l g t f 18 ((tget t f 96 n 0) + 1) 0 rfl h.2 (by omega) (by omega) ⟨by omega, by omega⟩) mk_X4_dueFrom mi_X4_dueFrom wm_445 (by decide) (rv_4 Y rfl) rfl hl (Nat.le_of_ble_eq_true rfl) rfl dX7_worthJustFor_46 (Nat.zero_le _) (Nat.zero_le _) (fun H locs Y => ?_)
  refine r_istore_n X dX7_worthJustFor_49 hl [(3, .int (iV (dueS t f 18 ((tget t f 96 n 0) + 1) 0))), (2, .int (iV ((smX t f (tget t f 12 0 1)) - (tget t f 12 0 0)))), (0, .ref (g.1 + 0)), (1, .int (iV (n)))] (by decide) rfl (fun ls hl => ?_)
  refine r_aload_n X dX7_worthJustFor_50 hl 2 rfl ?_
  refine g_7_8 (k := 0) X Y rfl wm_264 dX7_worthJustFor_51 ?_
  refine r_iload_n X dX7_worthJustFor_54 hl 3 rfl ?_
  refine r_iconst X dX7_worthJustFor_55 ?_
  refine vF_i X Y [.int (iV (n)), .int (iV (1))] [] (ct_X5_get l g t f 96 n 1 rfl hT.1 ⟨by omega, by omega⟩ ⟨by omega, by omega⟩) mk_X5_get mi_X5_get wm_436 (by decide) (rv_5 Y rfl) rfl hl (Nat.le_of_ble_eq_true rfl) rfl dX7_worthJustFor_56 (Nat.zero_le _) (Nat.zero_le _) (fun H locs Y => ?_)
  refine r_iload_n X dX7_worthJustFor_59 hl 0 rfl ?_
  refine r_iadd X dX7_worthJustFor_60 ?_
  refine r_iload_n X dX7_worthJustFor_61 hl 1 rfl ?_
  refine r_isub X dX7_worthJustFor_62 ?_
  exact ret _ _ _ _ _ _ _ dX7_worthJustFor_63 Y ⟨rfl, rfl, rfl⟩
set_option maxHeartbeats 4000000 in
set_option maxRecDepth 100000 in
theorem ct_X7_leastWorthFor (l : Launch) (g : uG) (t : uN) (f : uF) (n : Int) (h : HI t f) (hT : TI t f) (h0 : inI n) : cF_i l yX7_leastWorthFor cX7_leastWorthFor 2 (some .int) 6 g [.ref (g.1 + 0), .int (iV (n))] t f (leastX t f n) (t) (f) := by
  refine eF_i (by decide +kernel) (Nat.le_of_ble_eq_true rfl) ?_
  intro p e R s m args below meth c Q ls H locs X Y hl ret
  have X : uX p 6 R s m args c cX7_leastWorthFor 2 RX7 := X
  have hl : lv_has ls 2 [(0, .ref (g.1 + 0)), (1, .int (iV (n)))] := hl
  have hb := h.b
  have ht := hT.2 n
  have hrow := h.loan (tget t f 96 n 0)
  refine r_aload_n X dX7_leastWorthFor_0 hl 0 rfl ?_
  refine r_iload_n X dX7_leastWorthFor_1 hl 1 rfl ?_
  refine vF_i X Y [.int (iV (n))] [] (ct_X7_canBeSo l g t f n h hT ⟨by omega, by omega⟩) mk_X7_canBeSo mi_X7_canBeSo wm_685 (by decide) (rv_7 Y rfl) rfl hl (Nat.le_of_ble_eq_true rfl) rfl dX7_leastWorthFor_2 (Nat.zero_le _) (Nat.zero_le _) (fun H locs Y => ?_)
  have qk2 := canX_b t f n
  refine r_if_ne X (tgt := 12) dX7_leastWorthFor_5 (by decide) ⟨by omega, by omega⟩ (fun c5 => ?_) (fun c5 => ?_)
  · refine r_aload_n X dX7_leastWorthFor_12 hl 0 rfl ?_
    refine r_iload_n X dX7_leastWorthFor_13 hl 1 rfl ?_
    refine vF_i X Y [.int (iV (n))] [] (ct_X7_isFreightTold l g t f n h hT ⟨by omega, by omega⟩) mk_X7_isFreightTold mi_X7_isFreightTold wm_689 (by decide) (rv_7 Y rfl) rfl hl (Nat.le_of_ble_eq_true rfl) rfl dX7_leastWorthFor_14 (Nat.zero_le _) (Nat.zero_le _) (fun H locs Y => ?_)
    have qf14 := frTX_b t f n
    refine r_if_ne X (tgt := 32) dX7_leastWorthFor_17 (by decide) ⟨by omega, by omega⟩ (fun c17 => ?_) (fun c17 => ?_)
    · refine r_iconst X dX7_leastWorthFor_32 ?_
      refine r_goto X 41 dX7_leastWorthFor_33 (by decide) ?_
      exact ret _ _ _ _ _ _ _ dX7_leastWorthFor_41 Y ⟨by unfold leastX; repeat (first | rw [if_pos (by omega)] | rw [if_neg (by omega)]), rfl, rfl⟩
    · refine r_aload_n X dX7_leastWorthFor_20 hl 0 rfl ?_
      refine g_7_8 (k := 0) X Y rfl wm_264 dX7_leastWorthFor_21 ?_
      refine r_iload_n X dX7_leastWorthFor_24 hl 1 rfl ?_
      refine r_iconst X dX7_leastWorthFor_25 ?_
      refine vF_i X Y [.int (iV (n)), .int (iV (1))] [] (ct_X5_get l g t f 96 n 1 rfl hT.1 ⟨by omega, by omega⟩ ⟨by omega, by omega⟩) mk_X5_get mi_X5_get wm_436 (by decide) (rv_5 Y rfl) rfl hl (Nat.le_of_ble_eq_true rfl) rfl dX7_leastWorthFor_26 (Nat.zero_le _) (Nat.zero_le _) (fun H locs Y => ?_)
      refine r_if_ne X (tgt := 36) dX7_leastWorthFor_29 (by decide) ⟨by omega, by omega⟩ (fun c29 => ?_) (fun c29 => ?_)
      · refine r_aload_n X dX7_leastWorthFor_36 hl 0 rfl ?_
        refine r_iload_n X dX7_leastWorthFor_37 hl 1 rfl ?_
        refine vF_i X Y [.int (iV (n))] [] (ct_X7_worthJustFor l g t f n h hT ⟨by omega, by omega⟩) mk_X7_worthJustFor mi_X7_worthJustFor wm_693 (by decide) (rv_7 Y rfl) rfl hl (Nat.le_of_ble_eq_true rfl) rfl dX7_leastWorthFor_38 (Nat.zero_le _) (Nat.zero_le _) (fun H locs Y => ?_)
        have qj38 := justX_rng h hT n
        exact ret _ _ _ _ _ _ _ dX7_leastWorthFor_41 Y ⟨by unfold leastX; repeat (first | rw [if_pos (by omega)] | rw [if_neg (by omega)]), rfl, rfl⟩
      · refine r_iconst X dX7_leastWorthFor_32 ?_
        refine r_goto X 41 dX7_leastWorthFor_33 (by decide) ?_
        exact ret _ _ _ _ _ _ _ dX7_leastWorthFor_41 Y ⟨by unfold leastX; repeat (first | rw [if_pos (by omega)] | rw [if_neg (by omega)]), rfl, rfl⟩
  · refine r_sipush X 1000 dX7_leastWorthFor_8 (by decide) ?_
    exact ret _ _ _ _ _ _ _ dX7_leastWorthFor_11 Y ⟨by unfold leastX; repeat (first | rw [if_pos (by omega)] | rw [if_neg (by omega)]), rfl, rfl⟩
set_option maxHeartbeats 4000000 in
set_option maxRecDepth 100000 in
theorem ct_X7_greatestWorthFor (l : Launch) (g : uG) (t : uN) (f : uF) (n : Int) (h : HI t f) (hT : TI t f) (h0 : inI n) : cF_i l yX7_greatestWorthFor cX7_greatestWorthFor 3 (some .int) 6 g [.ref (g.1 + 0), .int (iV (n))] t f (greatX t f n) (t) (f) := by
  refine eF_i (by decide +kernel) (Nat.le_of_ble_eq_true rfl) ?_
  intro p e R s m args below meth c Q ls H locs X Y hl ret
  have X : uX p 6 R s m args c cX7_greatestWorthFor 3 RX7 := X
  have hl : lv_has ls 3 [(0, .ref (g.1 + 0)), (1, .int (iV (n)))] := hl
  have hb := h.b
  have ht := hT.2 n
  have hrow := h.loan (tget t f 96 n 0)
  refine r_aload_n X dX7_greatestWorthFor_0 hl 0 rfl ?_
  refine r_iload_n X dX7_greatestWorthFor_1 hl 1 rfl ?_
  refine vF_i X Y [.int (iV (n))] [] (ct_X7_canBeSo l g t f n h hT ⟨by omega, by omega⟩) mk_X7_canBeSo mi_X7_canBeSo wm_685 (by decide) (rv_7 Y rfl) rfl hl (Nat.le_of_ble_eq_true rfl) rfl dX7_greatestWorthFor_2 (Nat.zero_le _) (Nat.zero_le _) (fun H locs Y => ?_)
  have qk2 := canX_b t f n
  refine r_if_ne X (tgt := 10) dX7_greatestWorthFor_5 (by decide) ⟨by omega, by omega⟩ (fun c5 => ?_) (fun c5 => ?_)
  · refine r_aload_n X dX7_greatestWorthFor_10 hl 0 rfl ?_
    refine g_7_8 (k := 0) X Y rfl wm_264 dX7_greatestWorthFor_11 ?_
    refine r_iload_n X dX7_greatestWorthFor_14 hl 1 rfl ?_
    refine r_iconst X dX7_greatestWorthFor_15 ?_
    refine vF_i X Y [.int (iV (n)), .int (iV (1))] [] (ct_X5_get l g t f 96 n 1 rfl hT.1 ⟨by omega, by omega⟩ ⟨by omega, by omega⟩) mk_X5_get mi_X5_get wm_436 (by decide) (rv_5 Y rfl) rfl hl (Nat.le_of_ble_eq_true rfl) rfl dX7_greatestWorthFor_16 (Nat.zero_le _) (Nat.zero_le _) (fun H locs Y => ?_)
    refine r_aload_n X dX7_greatestWorthFor_19 hl 0 rfl ?_
    refine g_7_3 (k := 0) X Y rfl wm_259 dX7_greatestWorthFor_20 ?_
    refine g_4_0 (k := 18) X Y rfl wm_162 dX7_greatestWorthFor_23 ?_
    refine r_aload_n X dX7_greatestWorthFor_26 hl 0 rfl ?_
    refine g_7_8 (k := 0) X Y rfl wm_264 dX7_greatestWorthFor_27 ?_
    refine r_iload_n X dX7_greatestWorthFor_30 hl 1 rfl ?_
    refine r_iconst X dX7_greatestWorthFor_31 ?_
    refine vF_i X Y [.int (iV (n)), .int (iV (0))] [.ref (g.1 + 19), .int (iV (tget t f 96 n 1))] (ct_X5_get l g t f 96 n 0 rfl hT.1 ⟨by omega, by omega⟩ ⟨by omega, by omega⟩) mk_X5_get mi_X5_get wm_436 (by decide) (rv_5 Y rfl) rfl hl (Nat.le_of_ble_eq_true rfl) rfl dX7_greatestWorthFor_32 (Nat.zero_le _) (Nat.zero_le _) (fun H locs Y => ?_)
    refine r_iconst X dX7_greatestWorthFor_35 ?_
    refine vF_i X Y [.int (iV (tget t f 96 n 0)), .int (iV (3))] [.int (iV (tget t f 96 n 1))] (ct_X5_get l g t f 19 (tget t f 96 n 0) 3 rfl h.2.1 ⟨by omega, by omega⟩ ⟨by omega, by omega⟩) mk_X5_get mi_X5_get wm_436 (by decide) (rv_5 Y rfl) rfl hl (Nat.le_of_ble_eq_true rfl) rfl dX7_greatestWorthFor_36 (Nat.zero_le _) (Nat.zero_le _) (fun H locs Y => ?_)
    refine r_icmp_ne X (tgt := 46) dX7_greatestWorthFor_39 (by decide) ⟨by omega, by omega⟩ ⟨by omega, by omega⟩ (fun c39 => ?_) (fun c39 => ?_)
    · refine r_iconst X dX7_greatestWorthFor_46 ?_
      refine r_istore_n X dX7_greatestWorthFor_47 hl [(2, .int (iV (0))), (0, .ref (g.1 + 0)), (1, .int (iV (n)))] (by decide) rfl (fun ls hl => ?_)
      refine r_aload_n X dX7_greatestWorthFor_48 hl 1 rfl ?_
      refine r_iload_n X dX7_greatestWorthFor_49 hl 2 rfl ?_
      refine vF_i X Y [.int (iV (n))] [] (ct_X7_isFreightTold l g t f n h hT ⟨by omega, by omega⟩) mk_X7_isFreightTold mi_X7_isFreightTold wm_689 (by decide) (rv_7 Y rfl) rfl hl (Nat.le_of_ble_eq_true rfl) rfl dX7_greatestWorthFor_50 (Nat.zero_le _) (Nat.zero_le _) (fun H locs Y => ?_)
      have qf50 := frTX_b t f n
      refine r_if_ne X (tgt := 60) dX7_greatestWorthFor_53 (by decide) ⟨by omega, by omega⟩ (fun c53 => ?_) (fun c53 => ?_)
      · refine r_sipush X 999 dX7_greatestWorthFor_60 (by decide) ?_
        refine r_goto X 71 dX7_greatestWorthFor_63 (by decide) ?_
        exact ret _ _ _ _ _ _ _ dX7_greatestWorthFor_71 Y ⟨by unfold greatX; repeat (first | rw [if_pos (by omega)] | rw [if_neg (by omega)]), rfl, rfl⟩
      · refine r_iload_n X dX7_greatestWorthFor_56 hl 0 rfl ?_
        refine r_if_eq X (tgt := 66) dX7_greatestWorthFor_57 (by decide) ⟨by omega, by omega⟩ (fun c57 => ?_) (fun c57 => ?_)
        · refine r_aload_n X dX7_greatestWorthFor_66 hl 1 rfl ?_
          refine r_iload_n X dX7_greatestWorthFor_67 hl 2 rfl ?_
          refine vF_i X Y [.int (iV (n))] [] (ct_X7_worthJustFor l g t f n h hT ⟨by omega, by omega⟩) mk_X7_worthJustFor mi_X7_worthJustFor wm_693 (by decide) (rv_7 Y rfl) rfl hl (Nat.le_of_ble_eq_true rfl) rfl dX7_greatestWorthFor_68 (Nat.zero_le _) (Nat.zero_le _) (fun H locs Y => ?_)
          have qj68 := justX_rng h hT n
          exact ret _ _ _ _ _ _ _ dX7_greatestWorthFor_71 Y ⟨by unfold greatX; repeat (first | rw [if_pos (by omega)] | rw [if_neg (by omega)]), rfl, rfl⟩
        · exact absurd c57 (by omega)
    · refine r_iconst X dX7_greatestWorthFor_42 ?_
      refine r_goto X 47 dX7_greatestWorthFor_43 (by decide) ?_
      refine r_istore_n X dX7_greatestWorthFor_47 hl [(2, .int (iV (1))), (0, .ref (g.1 + 0)), (1, .int (iV (n)))] (by decide) rfl (fun ls hl => ?_)
      refine r_aload_n X dX7_greatestWorthFor_48 hl 1 rfl ?_
      refine r_iload_n X dX7_greatestWorthFor_49 hl 2 rfl ?_
      refine vF_i X Y [.int (iV (n))] [] (ct_X7_isFreightTold l g t f n h hT ⟨by omega, by omega⟩) mk_X7_isFreightTold mi_X7_isFreightTold wm_689 (by decide) (rv_7 Y rfl) rfl hl (Nat.le_of_ble_eq_true rfl) rfl dX7_greatestWorthFor_50 (Nat.zero_le _) (Nat.zero_le _) (fun H locs Y => ?_)
      have qf50 := frTX_b t f n
      refine r_if_ne X (tgt := 60) dX7_greatestWorthFor_53 (by decide) ⟨by omega, by omega⟩ (fun c53 => ?_) (fun c53 => ?_)
      · refine r_sipush X 999 dX7_greatestWorthFor_60 (by decide) ?_
        refine r_goto X 71 dX7_greatestWorthFor_63 (by decide) ?_
        exact ret _ _ _ _ _ _ _ dX7_greatestWorthFor_71 Y ⟨by unfold greatX; repeat (first | rw [if_pos (by omega)] | rw [if_neg (by omega)]), rfl, rfl⟩
      · refine r_iload_n X dX7_greatestWorthFor_56 hl 0 rfl ?_
        refine r_if_eq X (tgt := 66) dX7_greatestWorthFor_57 (by decide) ⟨by omega, by omega⟩ (fun c57 => ?_) (fun c57 => ?_)
        · exact absurd c57 (by omega)
        · refine r_sipush X 999 dX7_greatestWorthFor_60 (by decide) ?_
          refine r_goto X 71 dX7_greatestWorthFor_63 (by decide) ?_
          exact ret _ _ _ _ _ _ _ dX7_greatestWorthFor_71 Y ⟨by unfold greatX; repeat (first | rw [if_pos (by omega)] | rw [if_neg (by omega)]), rfl, rfl⟩
  · refine r_iconst X dX7_greatestWorthFor_8 ?_
    exact ret _ _ _ _ _ _ _ dX7_greatestWorthFor_9 Y ⟨by unfold greatX; repeat (first | rw [if_pos (by omega)] | rw [if_neg (by omega)]), rfl, rfl⟩
set_option maxHeartbeats 4000000 in
set_option maxRecDepth 100000 in
theorem ct_X7_cheapestLender (l : Launch) (g : uG) (t : uN) (f : uF) (a : Int) (h : HI t f) (ha : inI a) : cF_i l yX7_cheapestLender cX7_cheapestLender 5 (some .int) 5 g [.ref (g.1 + 0), .int (iV (a))] t f (bestN (yetX t f) (fun j => tget t f 16 j 1) a (t 16 3).toNat) (t) (f) := by
  refine eF_i (by decide +kernel) (Nat.le_of_ble_eq_true rfl) ?_
  intro p e R s m args below meth c Q ls H locs X Y hl ret
  have X : uX p 5 R s m args c cX7_cheapestLender 5 RX7 := X
  have hl : lv_has ls 5 [(0, .ref (g.1 + 0)), (1, .int (iV (a)))] := hl
  have hb := h.b
  refine r_iconst X dX7_cheapestLender_0 ?_
  refine r_istore_n X dX7_cheapestLender_1 hl [(2, .int (iV ((-1)))), (0, .ref (g.1 + 0)), (1, .int (iV (a)))] (by decide) rfl (fun ls hl => ?_)
  refine r_iconst X dX7_cheapestLender_2 ?_
  refine r_istore_n X dX7_cheapestLender_3 hl [(3, .int (iV (0))), (2, .int (iV ((-1)))), (0, .ref (g.1 + 0)), (1, .int (iV (a)))] (by decide) rfl (fun ls hl => ?_)
  have loop4 : ∀ (N : Nat) (b : Int) (i : Int) (hi0 : 0 ≤ i) (hi1 : i ≤ t 16 3) (hb9 : b = bestN (yetX t f) (fun j => tget t f 16 j 1) a i.toNat) (H : Heap) (locs : List Loc) (ls : Array Slot), (t 16 3 - i).toNat < N → uY g 117 (cX g t f) s H locs → lv_has ls 5 [(2, .int (iV (b))), (3, .int (iV (i))), (0, .ref (g.1 + 0)), (1, .int (iV (a)))] → W p l e R s m args below meth c H locs 0 0 Q (F0 m 4 ls []) := by
    intro N
    induction N with
    | zero => intro b i hi0 hi1 hb9 H locs ls hmu Y hl; exact absurd hmu (Nat.not_lt_zero _)
    | succ N ih =>
      intro b i hi0 hi1 hb9 H locs ls hmu Y hl
      have hbr := bestN_rng (yetX t f) (fun j => tget t f 16 j 1) a i.toNat
      rw [← hb9] at hbr
      have hr1 := h.len i
      have hr2 := h.len b
      refine r_iload_n X dX7_cheapestLender_4 hl 1 rfl ?_
      refine r_aload_n X dX7_cheapestLender_5 hl 2 rfl ?_
      refine g_7_2 (k := 0) X Y rfl wm_258 dX7_cheapestLender_6 ?_
      refine g_6_2 (k := 11) X Y rfl wm_126 dX7_cheapestLender_9 ?_
      refine vF_i X Y [] [.int (iV (i))] (ct_X5_rows l g t f 16 rfl) mk_X5_rows mi_X5_rows wm_320 (by decide) (rv_5 Y rfl) rfl hl (Nat.le_of_ble_eq_true rfl) rfl dX7_cheapestLender_12 (Nat.zero_le _) (Nat.zero_le _) (fun H locs Y => ?_)
      refine r_icmp_ge X (tgt := 79) dX7_cheapestLender_15 (by decide) ⟨by omega, by omega⟩ ⟨by omega, by omega⟩ (fun c15 => ?_) (fun c15 => ?_)
      · refine r_iload_n X dX7_cheapestLender_79 hl 0 rfl ?_
        exact ret _ _ _ _ _ _ _ dX7_cheapestLender_80 Y ⟨by rw [hb9, show i = t 16 3 by omega], rfl, rfl⟩
      · refine r_iload_n X dX7_cheapestLender_18 hl 0 rfl ?_
        refine r_iconst X dX7_cheapestLender_19 ?_
        refine r_icmp_eq X (tgt := 50) dX7_cheapestLender_20 (by decide) ⟨by omega, by omega⟩ ⟨by omega, by omega⟩ (fun c20 => ?_) (fun c20 => ?_)
        · refine r_iconst X dX7_cheapestLender_50 ?_
          refine r_goto X 55 dX7_cheapestLender_51 (by decide) ?_
          refine r_istore X dX7_cheapestLender_55 hl [(4, .int (iV (1))), (2, .int (iV (b))), (3, .int (iV (i))), (0, .ref (g.1 + 0)), (1, .int (iV (a)))] (by decide) rfl (fun ls hl => ?_)
          refine r_iload X dX7_cheapestLender_57 hl 0 rfl ?_
          refine r_if_eq X (tgt := 73) dX7_cheapestLender_59 (by decide) ⟨by omega, by omega⟩ (fun c59 => ?_) (fun c59 => ?_)
          · exact absurd c59 (by omega)
          · refine r_aload_n X dX7_cheapestLender_62 hl 3 rfl ?_
            refine r_iload_n X dX7_cheapestLender_63 hl 2 rfl ?_
            refine vF_i X Y [.int (iV (i))] [] (ct_X7_hasYet l g t f i h ⟨by omega, by omega⟩) mk_X7_hasYet mi_X7_hasYet wm_482 (by decide) (rv_7 Y rfl) rfl hl (Nat.le_of_ble_eq_true rfl) rfl dX7_cheapestLender_64 (Nat.zero_le _) (Nat.zero_le _) (fun H locs Y => ?_)
            have qy64 := yetX_rng h i
            refine r_iload_n X dX7_cheapestLender_67 hl 4 rfl ?_
            refine r_icmp_lt X (tgt := 73) dX7_cheapestLender_68 (by decide) ⟨by omega, by omega⟩ ⟨by omega, by omega⟩ (fun c68 => ?_) (fun c68 => ?_)
            · refine r_iinc X dX7_cheapestLender_73 hl 2 rfl [(3, .int (iV (i + 1))), (4, .int (iV (1))), (2, .int (iV (b))), (0, .ref (g.1 + 0)), (1, .int (iV (a)))] (by decide) rfl (fun ls hl => ?_)
              refine r_goto X 4 dX7_cheapestLender_76 (by decide) ?_
              exact ih b (i + 1) (by omega) (by omega) (by rw [show (i + 1).toNat = i.toNat + 1 by omega, bestN, ← hb9, show ((i.toNat : Nat) : Int) = i by omega]; show _ = if a ≤ yetX t f i ∧ (b = -1 ∨ tget t f 16 i 1 < tget t f 16 b 1) then i else b; (first | rw [if_pos ⟨by omega, by omega⟩] | rw [if_neg (by omega)])) _ _ _ (by omega) Y (lv_sub hl [2, 0, 3, 4] rfl)
            · refine r_iload_n X dX7_cheapestLender_71 hl 2 rfl ?_
              refine r_istore_n X dX7_cheapestLender_72 hl [(2, .int (iV (i))), (4, .int (iV (1))), (3, .int (iV (i))), (0, .ref (g.1 + 0)), (1, .int (iV (a)))] (by decide) rfl (fun ls hl => ?_)
              refine r_iinc X dX7_cheapestLender_73 hl 2 rfl [(3, .int (iV (i + 1))), (2, .int (iV (i))), (4, .int (iV (1))), (0, .ref (g.1 + 0)), (1, .int (iV (a)))] (by decide) rfl (fun ls hl => ?_)
              refine r_goto X 4 dX7_cheapestLender_76 (by decide) ?_
              exact ih i (i + 1) (by omega) (by omega) (by rw [show (i + 1).toNat = i.toNat + 1 by omega, bestN, ← hb9, show ((i.toNat : Nat) : Int) = i by omega]; show _ = if a ≤ yetX t f i ∧ (b = -1 ∨ tget t f 16 i 1 < tget t f 16 b 1) then i else b; (first | rw [if_pos ⟨by omega, by omega⟩] | rw [if_neg (by omega)])) _ _ _ (by omega) Y (lv_sub hl [1, 0, 3, 4] rfl)
        · refine r_aload_n X dX7_cheapestLender_23 hl 2 rfl ?_
          refine g_7_2 (k := 0) X Y rfl wm_258 dX7_cheapestLender_24 ?_
          refine g_6_2 (k := 11) X Y rfl wm_126 dX7_cheapestLender_27 ?_
          refine r_iload_n X dX7_cheapestLender_30 hl 1 rfl ?_
          refine r_iconst X dX7_cheapestLender_31 ?_
          refine vF_i X Y [.int (iV (i)), .int (iV (1))] [] (ct_X5_get l g t f 16 i 1 rfl h.1.1.2.2 ⟨by omega, by omega⟩ ⟨by omega, by omega⟩) mk_X5_get mi_X5_get wm_436 (by decide) (rv_5 Y rfl) rfl hl (Nat.le_of_ble_eq_true rfl) rfl dX7_cheapestLender_32 (Nat.zero_le _) (Nat.zero_le _) (fun H locs Y => ?_)
          refine r_aload_n X dX7_cheapestLender_35 hl 2 rfl ?_
          refine g_7_2 (k := 0) X Y rfl wm_258 dX7_cheapestLender_36 ?_
          refine g_6_2 (k := 11) X Y rfl wm_126 dX7_cheapestLender_39 ?_
          refine r_iload_n X dX7_cheapestLender_42 hl 0 rfl ?_
          refine r_iconst X dX7_cheapestLender_43 ?_
          refine vF_i X Y [.int (iV (b)), .int (iV (1))] [.int (iV (tget t f 16 i 1))] (ct_X5_get l g t f 16 b 1 rfl h.1.1.2.2 ⟨by omega, by omega⟩ ⟨by omega, by omega⟩) mk_X5_get mi_X5_get wm_436 (by decide) (rv_5 Y rfl) rfl hl (Nat.le_of_ble_eq_true rfl) rfl dX7_cheapestLender_44 (Nat.zero_le _) (Nat.zero_le _) (fun H locs Y => ?_)
          refine r_icmp_ge X (tgt := 54) dX7_cheapestLender_47 (by decide) ⟨by omega, by omega⟩ ⟨by omega, by omega⟩ (fun c47 => ?_) (fun c47 => ?_)
          · refine r_iconst X dX7_cheapestLender_54 ?_
            refine r_istore X dX7_cheapestLender_55 hl [(4, .int (iV (0))), (2, .int (iV (b))), (3, .int (iV (i))), (0, .ref (g.1 + 0)), (1, .int (iV (a)))] (by decide) rfl (fun ls hl => ?_)
            refine r_iload X dX7_cheapestLender_57 hl 0 rfl ?_
            refine r_if_eq X (tgt := 73) dX7_cheapestLender_59 (by decide) ⟨by omega, by omega⟩ (fun c59 => ?_) (fun c59 => ?_)
            · refine r_iinc X dX7_cheapestLender_73 hl 2 rfl [(3, .int (iV (i + 1))), (4, .int (iV (0))), (2, .int (iV (b))), (0, .ref (g.1 + 0)), (1, .int (iV (a)))] (by decide) rfl (fun ls hl => ?_)
              refine r_goto X 4 dX7_cheapestLender_76 (by decide) ?_
              exact ih b (i + 1) (by omega) (by omega) (by rw [show (i + 1).toNat = i.toNat + 1 by omega, bestN, ← hb9, show ((i.toNat : Nat) : Int) = i by omega]; show _ = if a ≤ yetX t f i ∧ (b = -1 ∨ tget t f 16 i 1 < tget t f 16 b 1) then i else b; (first | rw [if_pos ⟨by omega, by omega⟩] | rw [if_neg (by omega)])) _ _ _ (by omega) Y (lv_sub hl [2, 0, 3, 4] rfl)
            · exact absurd c59 (by omega)
          · refine r_iconst X dX7_cheapestLender_50 ?_
            refine r_goto X 55 dX7_cheapestLender_51 (by decide) ?_
            refine r_istore X dX7_cheapestLender_55 hl [(4, .int (iV (1))), (2, .int (iV (b))), (3, .int (iV (i))), (0, .ref (g.1 + 0)), (1, .int (iV (a)))] (by decide) rfl (fun ls hl => ?_)
            refine r_iload X dX7_cheapestLender_57 hl 0 rfl ?_
            refine r_if_eq X (tgt := 73) dX7_cheapestLender_59 (by decide) ⟨by omega, by omega⟩ (fun c59 => ?_) (fun c59 => ?_)
            · exact absurd c59 (by omega)
            · refine r_aload_n X dX7_cheapestLender_62 hl 3 rfl ?_
              refine r_iload_n X dX7_cheapestLender_63 hl 2 rfl ?_
              refine vF_i X Y [.int (iV (i))] [] (ct_X7_hasYet l g t f i h ⟨by omega, by omega⟩) mk_X7_hasYet mi_X7_hasYet wm_482 (by decide) (rv_7 Y rfl) rfl hl (Nat.le_of_ble_eq_true rfl) rfl dX7_cheapestLender_64 (Nat.zero_le _) (Nat.zero_le _) (fun H locs Y => ?_)
              have qy64 := yetX_rng h i
              refine r_iload_n X dX7_cheapestLender_67 hl 4 rfl ?_
              refine r_icmp_lt X (tgt := 73) dX7_cheapestLender_68 (by decide) ⟨by omega, by omega⟩ ⟨by omega, by omega⟩ (fun c68 => ?_) (fun c68 => ?_)
              · refine r_iinc X dX7_cheapestLender_73 hl 2 rfl [(3, .int (iV (i + 1))), (4, .int (iV (1))), (2, .int (iV (b))), (0, .ref (g.1 + 0)), (1, .int (iV (a)))] (by decide) rfl (fun ls hl => ?_)
                refine r_goto X 4 dX7_cheapestLender_76 (by decide) ?_
                exact ih b (i + 1) (by omega) (by omega) (by rw [show (i + 1).toNat = i.toNat + 1 by omega, bestN, ← hb9, show ((i.toNat : Nat) : Int) = i by omega]; show _ = if a ≤ yetX t f i ∧ (b = -1 ∨ tget t f 16 i 1 < tget t f 16 b 1) then i else b; (first | rw [if_pos ⟨by omega, by omega⟩] | rw [if_neg (by omega)])) _ _ _ (by omega) Y (lv_sub hl [2, 0, 3, 4] rfl)
              · refine r_iload_n X dX7_cheapestLender_71 hl 2 rfl ?_
                refine r_istore_n X dX7_cheapestLender_72 hl [(2, .int (iV (i))), (4, .int (iV (1))), (3, .int (iV (i))), (0, .ref (g.1 + 0)), (1, .int (iV (a)))] (by decide) rfl (fun ls hl => ?_)
                refine r_iinc X dX7_cheapestLender_73 hl 2 rfl [(3, .int (iV (i + 1))), (2, .int (iV (i))), (4, .int (iV (1))), (0, .ref (g.1 + 0)), (1, .int (iV (a)))] (by decide) rfl (fun ls hl => ?_)
                refine r_goto X 4 dX7_cheapestLender_76 (by decide) ?_
                exact ih i (i + 1) (by omega) (by omega) (by rw [show (i + 1).toNat = i.toNat + 1 by omega, bestN, ← hb9, show ((i.toNat : Nat) : Int) = i by omega]; show _ = if a ≤ yetX t f i ∧ (b = -1 ∨ tget t f 16 i 1 < tget t f 16 b 1) then i else b; (first | rw [if_pos ⟨by omega, by omega⟩] | rw [if_neg (by omega)])) _ _ _ (by omega) Y (lv_sub hl [1, 0, 3, 4] rfl)
  exact loop4 (((t 16 3 - 0).toNat) + 1) (-1) 0 (by omega) (by omega) rfl _ _ _ (Nat.lt_succ_self _) Y (lv_sub hl [1, 0, 2, 3] rfl)
set_option maxHeartbeats 4000000 in
set_option maxRecDepth 100000 in
theorem ct_X7_drawOfHundred (l : Launch) (g : uG) (t : uN) (f : uF)  (h0 : 0 ≤ t 0 11) (h1 : t 0 11 ≤ 2147483647) : cF_i l yX7_drawOfHundred cX7_drawOfHundred 3 (some .int) 1 g [.ref (g.1 + 0)] t f (((nextS (t 0 11)).tdiv 65536).tmod 100) (up2 t 0 11 (nextS (t 0 11))) (f) := by
  refine eF_i (by decide +kernel) (Nat.le_of_ble_eq_true rfl) ?_
  intro p e R s m args below meth c Q ls H locs X Y hl ret
  have X : uX p 1 R s m args c cX7_drawOfHundred 3 RX7 := X
  have hl : lv_has ls 3 [(0, .ref (g.1 + 0))] := hl
  refine r_aload_n X dX7_drawOfHundred_0 hl 0 rfl ?_
  refine g_7_11 (k := 0) X Y rfl wm_267 dX7_drawOfHundred_1 ?_
  refine r_i2l X dX7_drawOfHundred_4 ⟨by omega, by omega⟩ ?_
  refine r_ldc2 X 1103515245 wm_560 (by decide) dX7_drawOfHundred_5 ?_
  refine r_lmul X dX7_drawOfHundred_8 ?_
  refine r_ldc2 X 12345 wm_561 (by decide) dX7_drawOfHundred_9 ?_
  refine r_ladd X dX7_drawOfHundred_12 ?_
  refine r_lstore_n X dX7_drawOfHundred_13 hl [(1, .long (lV (((t 0 11) * 1103515245) + 12345))), (0, .ref (g.1 + 0))] (by decide) rfl (fun ls hl => ?_)
  refine r_aload_n X dX7_drawOfHundred_14 hl 1 rfl ?_
  refine r_lload_n X dX7_drawOfHundred_15 hl 0 rfl ?_
  refine r_ldc2 X 2147483647 wm_562 (by decide) dX7_drawOfHundred_16 ?_
  refine r_land31 X dX7_drawOfHundred_19 (by omega) (by omega) ?_
  refine r_l2i X dX7_drawOfHundred_20 ?_
  refine p_7_11 (k := 0) X Y rfl wm_267 dX7_drawOfHundred_21 (fun H locs Y => ?_)
  obtain ⟨tq1, htq1⟩ : ∃ q, q = up2 t 0 11 ((((t 0 11) * 1103515245) + 12345) % 2147483648) := ⟨_, rfl⟩
  have Y : uY g 117 (cX g tq1 f) s H locs := by rw [htq1]; exact Y
  refine r_aload_n X dX7_drawOfHundred_24 hl 1 rfl ?_
  refine g_7_11 (k := 0) X Y rfl wm_267 dX7_drawOfHundred_25 ?_
  refine r_ldc_w X 65536 wm_563 (by decide) dX7_drawOfHundred_28 ?_
  have e1 : tq1 0 11 = nextS (t 0 11) := by rw [htq1, up2_s]; rfl
  have e2 := nextS_rng (t 0 11)
  have e3 : 0 ≤ (tq1 0 11).tdiv 65536 ∧ (tq1 0 11).tdiv 65536 ≤ 32767 := by rw [Int.tdiv_eq_ediv_of_nonneg (by omega)]; omega
  refine r_idiv X dX7_drawOfHundred_31 ⟨by omega, by omega⟩ ⟨by omega, by omega⟩ (by omega) ?_
  refine r_bipush X 100 dX7_drawOfHundred_32 (by decide) ?_
  refine r_irem X dX7_drawOfHundred_34 ⟨by omega, by omega⟩ ⟨by omega, by omega⟩ (by omega) ?_
  exact ret _ _ _ _ _ _ _ dX7_drawOfHundred_35 Y ⟨by rw [e1], htq1, rfl⟩
set_option maxHeartbeats 4000000 in
set_option maxRecDepth 100000 in
theorem ct_X7_imageOf_0 (l : Launch) (g : uG) (t : uN) (f : uF) (i : Int) (hi : i = 0) : cF_q l yX7_imageOf cX7_imageOf 2 "BottomryLoans$Image" 1 g [.ref (g.1 + 0), .int (iV (i))] t f (some (g.1 + 83)) (t) (f) := by
  refine eF_q (by decide +kernel) (Nat.le_of_ble_eq_true rfl) ?_
  intro p e R s m args below meth c Q ls H locs X Y hl ret
  have X : uX p 1 R s m args c cX7_imageOf 2 RX7 := X
  have hl : lv_has ls 2 [(0, .ref (g.1 + 0)), (1, .int (iV (i)))] := hl
  refine r_iload_n X dX7_imageOf_0 hl 1 rfl ?_
  refine r_if_ne X (tgt := 9) dX7_imageOf_1 (by decide) ⟨by omega, by omega⟩ (fun c1 => ?_) (fun c1 => ?_)
  · exact absurd c1 (by omega)
  · refine r_aload_n X dX7_imageOf_4 hl 0 rfl ?_
    refine g_7_5 (k := 0) X Y rfl wm_261 dX7_imageOf_5 ?_
    exact ret _ _ _ _ _ _ _ dX7_imageOf_8 Y ⟨rfl, rfl, rfl⟩
set_option maxHeartbeats 4000000 in
set_option maxRecDepth 100000 in
theorem ct_X7_imageOf_1 (l : Launch) (g : uG) (t : uN) (f : uF) (i : Int) (hi : i = 1) : cF_q l yX7_imageOf cX7_imageOf 2 "BottomryLoans$Image" 1 g [.ref (g.1 + 0), .int (iV (i))] t f (some (g.1 + 87)) (t) (f) := by
  refine eF_q (by decide +kernel) (Nat.le_of_ble_eq_true rfl) ?_
  intro p e R s m args below meth c Q ls H locs X Y hl ret
  have X : uX p 1 R s m args c cX7_imageOf 2 RX7 := X
  have hl : lv_has ls 2 [(0, .ref (g.1 + 0)), (1, .int (iV (i)))] := hl
  refine r_iload_n X dX7_imageOf_0 hl 1 rfl ?_
  refine r_if_ne X (tgt := 9) dX7_imageOf_1 (by decide) ⟨by omega, by omega⟩ (fun c1 => ?_) (fun c1 => ?_)
  · refine r_iload_n X dX7_imageOf_9 hl 1 rfl ?_
    refine r_iconst X dX7_imageOf_10 ?_
    refine r_icmp_ne X (tgt := 21) dX7_imageOf_11 (by decide) ⟨by omega, by omega⟩ ⟨by omega, by omega⟩ (fun c11 => ?_) (fun c11 => ?_)
    · exact absurd c11 (by omega)
    · refine r_aload_n X dX7_imageOf_14 hl 0 rfl ?_
      refine g_7_6 (k := 0) X Y rfl wm_262 dX7_imageOf_15 ?_
      refine r_goto X 22 dX7_imageOf_18 (by decide) ?_
      exact ret _ _ _ _ _ _ _ dX7_imageOf_22 Y ⟨rfl, rfl, rfl⟩
  · exact absurd c1 (by omega)
set_option maxHeartbeats 4000000 in
set_option maxRecDepth 100000 in
theorem ct_X7_imageOf_2 (l : Launch) (g : uG) (t : uN) (f : uF) (i : Int) (hi : inI i ∧ ¬ i = 0 ∧ ¬ i = 1) : cF_q l yX7_imageOf cX7_imageOf 2 "BottomryLoans$Image" 1 g [.ref (g.1 + 0), .int (iV (i))] t f (none) (t) (f) := by
  refine eF_q (by decide +kernel) (Nat.le_of_ble_eq_true rfl) ?_
  intro p e R s m args below meth c Q ls H locs X Y hl ret
  have X : uX p 1 R s m args c cX7_imageOf 2 RX7 := X
  have hl : lv_has ls 2 [(0, .ref (g.1 + 0)), (1, .int (iV (i)))] := hl
  refine r_iload_n X dX7_imageOf_0 hl 1 rfl ?_
  refine r_if_ne X (tgt := 9) dX7_imageOf_1 (by decide) ⟨by omega, by omega⟩ (fun c1 => ?_) (fun c1 => ?_)
  · refine r_iload_n X dX7_imageOf_9 hl 1 rfl ?_
    refine r_iconst X dX7_imageOf_10 ?_
    refine r_icmp_ne X (tgt := 21) dX7_imageOf_11 (by decide) ⟨by omega, by omega⟩ ⟨by omega, by omega⟩ (fun c11 => ?_) (fun c11 => ?_)
    · refine r_null X dX7_imageOf_21 ?_
      exact ret _ _ _ _ _ _ _ dX7_imageOf_22 Y ⟨rfl, rfl, rfl⟩
    · exact absurd c11 (by omega)
  · exact absurd c1 (by omega)
set_option maxHeartbeats 4000000 in
set_option maxRecDepth 100000 in
theorem ct_X2_forget (l : Launch) (g : uG) (t : uN) (f : uF)   : cF_v l yX2_forget cX2_forget 1 1 g [.ref (g.1 + 91)] t f (up2 t 91 6 0) (f) := by
  refine eF_v (by decide +kernel) (Nat.le_of_ble_eq_true rfl) ?_
  intro p e R s m args below meth c Q ls H locs X Y hl ret
  have X : uX p 1 R s m args c cX2_forget 1 RX2 := X
  have hl : lv_has ls 1 [(0, .ref (g.1 + 91))] := hl
  refine r_aload_n X dX2_forget_0 hl 0 rfl ?_
  refine r_iconst X dX2_forget_1 ?_
  refine p_2_6 (k := 91) X Y rfl wm_240 (by first | exact Or.inl rfl | exact Or.inr rfl | omega) dX2_forget_2 (fun H locs Y => ?_)
  obtain ⟨tq1, htq1⟩ : ∃ q, q = up2 t 91 6 (0) := ⟨_, rfl⟩
  have Y : uY g 117 (cX g tq1 f) s H locs := by rw [htq1]; exact Y
  exact ret _ _ _ _ _ _ dX2_forget_5 Y (by subst htq1; exact ⟨rfl, rfl⟩)
set_option maxHeartbeats 4000000 in
set_option maxRecDepth 100000 in
theorem ct_X2_isDone (l : Launch) (g : uG) (t : uN) (f : uF)  (h : t 91 6 = 0 ∨ t 91 6 = 1) : cF_i l yX2_isDone cX2_isDone 1 (some .boolean) 1 g [.ref (g.1 + 91)] t f (t 91 6) (t) (f) := by
  refine eF_z (by decide +kernel) (Nat.le_of_ble_eq_true rfl) ?_
  intro p e R s m args below meth c Q ls H locs X Y hl ret
  have X : uX p 1 R s m args c cX2_isDone 1 RX2 := X
  have hl : lv_has ls 1 [(0, .ref (g.1 + 91))] := hl
  refine r_aload_n X dX2_isDone_0 hl 0 rfl ?_
  refine g_2_6 (k := 91) X Y rfl wm_240 dX2_isDone_1 ?_
  exact ret _ _ _ _ _ _ _ dX2_isDone_4 Y (by first | exact Or.inl rfl | exact Or.inr rfl | omega) ⟨rfl, rfl, rfl⟩
set_option maxHeartbeats 4000000 in
set_option maxRecDepth 100000 in
theorem ct_X2_howMuch (l : Launch) (g : uG) (t : uN) (f : uF)   : cF_i l yX2_howMuch cX2_howMuch 1 (some .int) 1 g [.ref (g.1 + 91)] t f (t 91 5) (t) (f) := by
  refine eF_i (by decide +kernel) (Nat.le_of_ble_eq_true rfl) ?_
  intro p e R s m args below meth c Q ls H locs X Y hl ret
  have X : uX p 1 R s m args c cX2_howMuch 1 RX2 := X
  have hl : lv_has ls 1 [(0, .ref (g.1 + 91))] := hl
  refine r_aload_n X dX2_howMuch_0 hl 0 rfl ?_
  refine g_2_5 (k := 91) X Y rfl wm_239 dX2_howMuch_1 ?_
  refine r_l2i X dX2_howMuch_4 ?_
  exact ret _ _ _ _ _ _ _ dX2_howMuch_5 Y ⟨rfl, rfl, rfl⟩
set_option maxHeartbeats 4000000 in
set_option maxRecDepth 100000 in
theorem ct_X2_pointsIn (l : Launch) (g : uG) (t : uN) (f : uF) (i : Int) (h94 : tOK t 94) (hi : inI i) : cF_i l yX2_pointsIn cX2_pointsIn 2 (some .int) 3 g [.ref (g.1 + 91), .int (iV (i))] t f (if thas t 94 i = 1 then tget t f 94 i 0 else -1) (t) (f) := by
  refine eF_i (by decide +kernel) (Nat.le_of_ble_eq_true rfl) ?_
  intro p e R s m args below meth c Q ls H locs X Y hl ret
  have X : uX p 3 R s m args c cX2_pointsIn 2 RX2 := X
  have hl : lv_has ls 2 [(0, .ref (g.1 + 91)), (1, .int (iV (i)))] := hl
  refine r_aload_n X dX2_pointsIn_0 hl 0 rfl ?_
  refine g_2_2 (k := 91) X Y rfl wm_236 dX2_pointsIn_1 ?_
  refine r_iload_n X dX2_pointsIn_4 hl 1 rfl ?_
  refine vF_i X Y [.int (iV (i))] [] (ct_X5_has l g t f 94 i rfl h94 ⟨by omega, by omega⟩) mk_X5_has mi_X5_has wm_660 (by decide) (rv_5 Y rfl) rfl hl (Nat.le_of_ble_eq_true rfl) rfl dX2_pointsIn_5 (Nat.zero_le _) (Nat.zero_le _) (fun H locs Y => ?_)
  have qb5 := thas_b t 94 i
  refine r_if_eq X (tgt := 23) dX2_pointsIn_8 (by decide) ⟨by omega, by omega⟩ (fun c8 => ?_) (fun c8 => ?_)
  · refine r_iconst X dX2_pointsIn_23 ?_
    exact ret _ _ _ _ _ _ _ dX2_pointsIn_24 Y ⟨by first | rw [if_pos (by omega)] | rw [if_neg (by omega)], rfl, rfl⟩
  · refine r_aload_n X dX2_pointsIn_11 hl 0 rfl ?_
    refine g_2_2 (k := 91) X Y rfl wm_236 dX2_pointsIn_12 ?_
    refine r_iload_n X dX2_pointsIn_15 hl 1 rfl ?_
    refine r_iconst X dX2_pointsIn_16 ?_
    refine vF_i X Y [.int (iV (i)), .int (iV (0))] [] (ct_X5_get l g t f 94 i 0 rfl h94 ⟨by omega, by omega⟩ ⟨by omega, by omega⟩) mk_X5_get mi_X5_get wm_649 (by decide) (rv_5 Y rfl) rfl hl (Nat.le_of_ble_eq_true rfl) rfl dX2_pointsIn_17 (Nat.zero_le _) (Nat.zero_le _) (fun H locs Y => ?_)
    refine r_goto X 24 dX2_pointsIn_20 (by decide) ?_
    exact ret _ _ _ _ _ _ _ dX2_pointsIn_24 Y ⟨by first | rw [if_pos (by omega)] | rw [if_neg (by omega)], rfl, rfl⟩
set_option maxHeartbeats 4000000 in
set_option maxRecDepth 100000 in
theorem ct_X7_remember (l : Launch) (g : uG) (t : uN) (f : uF)  (h0 : 0 ≤ t 21 1) (h1 : t 21 1 < 20) (h2 : 0 ≤ t 21 2) (h3 : t 21 2 ≤ 20) (hs : tOK t (23 + 3 * (t 21 1).toNat + 1)) (hn : tOK t 19) (h4 : t 18 4 = 0 ∨ t 18 4 = 1) : cF_v l yX7_remember cX7_remember 1 5 g [.ref (g.1 + 0)] t f (up2 (putT t) 91 6 0) (putF t f) := by
  refine eF_v (by decide +kernel) (Nat.le_of_ble_eq_true rfl) ?_
  intro p e R s m args below meth c Q ls H locs X Y hl ret
  have X : uX p 5 R s m args c cX7_remember 1 RX7 := X
  have hl : lv_has ls 1 [(0, .ref (g.1 + 0))] := hl
  refine r_aload_n X dX7_remember_0 hl 0 rfl ?_
  refine g_7_4 (k := 0) X Y rfl wm_260 dX7_remember_1 ?_
  refine r_aload_n X dX7_remember_4 hl 0 rfl ?_
  refine g_7_3 (k := 0) X Y rfl wm_259 dX7_remember_5 ?_
  refine vF_v X Y [.ref (g.1 + 18)] [] (ct_X1_put l g t f h0 h1 h2 h3 hs hn h4) mk_X1_put mi_X1_put wm_515 (by decide) (rv_1 Y rfl) rfl hl (Nat.le_of_ble_eq_true rfl) rfl dX7_remember_8 (Nat.zero_le _) (Nat.zero_le _) (fun H locs Y => ?_)
  obtain ⟨tq1, htq1⟩ : ∃ q, q = putT t := ⟨_, rfl⟩
  obtain ⟨fq2, hfq2⟩ : ∃ q, q = putF t f := ⟨_, rfl⟩
  have Y : uY g 117 (cX g tq1 fq2) s H locs := by rw [htq1, hfq2]; exact Y
  refine r_aload_n X dX7_remember_11 hl 0 rfl ?_
  refine g_7_7 (k := 0) X Y rfl wm_263 dX7_remember_12 ?_
  refine vF_v X Y [] [] (ct_X2_forget l g tq1 fq2) mk_X2_forget mi_X2_forget wm_424 (by decide) (rv_2 Y rfl) rfl hl (Nat.le_of_ble_eq_true rfl) rfl dX7_remember_15 (Nat.zero_le _) (Nat.zero_le _) (fun H locs Y => ?_)
  obtain ⟨tq3, htq3⟩ : ∃ q, q = up2 tq1 91 6 0 := ⟨_, rfl⟩
  have Y : uY g 117 (cX g tq3 fq2) s H locs := by rw [htq3]; exact Y
  exact ret _ _ _ _ _ _ dX7_remember_18 Y (by subst htq1 hfq2 htq3; exact ⟨rfl, rfl⟩)

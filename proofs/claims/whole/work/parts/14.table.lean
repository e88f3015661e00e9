/-! the tables: their methods by contract -/
set_option maxHeartbeats 4000000 in
set_option maxRecDepth 100000 in
theorem ct_X5_width (l : Launch) (g : uG) (t : uN) (f : uF) (k : Nat) (hk : kd k = 5)  : cF_i l yX5_width cX5_width 1 (some .int) 1 g [.ref (g.1 + k)] t f (tw k) (t) (f) := by
  refine eF_i (by decide +kernel) (Nat.le_of_ble_eq_true rfl) ?_
  intro p e R s m args below meth c Q ls H locs X Y hl ret
  have X : uX p 1 R s m args c cX5_width 1 RX5 := X
  have hl : lv_has ls 1 [(0, .ref (g.1 + k))] := hl
  refine r_aload_n X dX5_width_0 hl 0 rfl ?_
  refine g_5_0 (k := k) X Y hk wm_89 dX5_width_1 ?_
  exact ret _ _ _ _ _ _ _ dX5_width_4 Y ⟨rfl, rfl, rfl⟩
set_option maxHeartbeats 4000000 in
set_option maxRecDepth 100000 in
theorem ct_X5_rows (l : Launch) (g : uG) (t : uN) (f : uF) (k : Nat) (hk : kd k = 5)  : cF_i l yX5_rows cX5_rows 1 (some .int) 1 g [.ref (g.1 + k)] t f (t k 3) (t) (f) := by
  refine eF_i (by decide +kernel) (Nat.le_of_ble_eq_true rfl) ?_
  intro p e R s m args below meth c Q ls H locs X Y hl ret
  have X : uX p 1 R s m args c cX5_rows 1 RX5 := X
  have hl : lv_has ls 1 [(0, .ref (g.1 + k))] := hl
  refine r_aload_n X dX5_rows_0 hl 0 rfl ?_
  refine g_5_3 (k := k) X Y hk wm_92 dX5_rows_1 ?_
  exact ret _ _ _ _ _ _ _ dX5_rows_4 Y ⟨rfl, rfl, rfl⟩
set_option maxHeartbeats 4000000 in
set_option maxRecDepth 100000 in
theorem ct_X5_has (l : Launch) (g : uG) (t : uN) (f : uF) (k : Nat) (row : Int) (hk : kd k = 5) (ht : tOK t k) (hr : inI row) : cF_i l yX5_has cX5_has 2 (some .boolean) 1 g [.ref (g.1 + k), .int (iV (row))] t f (thas t k row) (t) (f) := by
  refine eF_z (by decide +kernel) (Nat.le_of_ble_eq_true rfl) ?_
  intro p e R s m args below meth c Q ls H locs X Y hl ret
  have X : uX p 1 R s m args c cX5_has 2 RX5 := X
  have hl : lv_has ls 2 [(0, .ref (g.1 + k)), (1, .int (iV (row)))] := hl
  have hw := kd5_w hk
  have hal := kd5_al hk
  have h3 := ht.1
  have h3b := ht.2
  refine r_iload_n X dX5_has_0 hl 1 rfl ?_
  refine r_if_lt X (tgt := 16) dX5_has_1 (by decide) ⟨by omega, by omega⟩ (fun c1 => ?_) (fun c1 => ?_)
  · refine r_iconst X dX5_has_16 ?_
    exact ret _ _ _ _ _ _ _ dX5_has_17 Y (by first | exact Or.inl rfl | exact Or.inr rfl | omega) ⟨by unfold thas; (first | rw [if_pos (by omega)] | rw [if_neg (by omega)]), rfl, rfl⟩
  · refine r_iload_n X dX5_has_4 hl 1 rfl ?_
    refine r_aload_n X dX5_has_5 hl 0 rfl ?_
    refine g_5_3 (k := k) X Y hk wm_92 dX5_has_6 ?_
    refine r_icmp_ge X (tgt := 16) dX5_has_9 (by decide) ⟨by omega, by omega⟩ ⟨by omega, by omega⟩ (fun c9 => ?_) (fun c9 => ?_)
    · refine r_iconst X dX5_has_16 ?_
      exact ret _ _ _ _ _ _ _ dX5_has_17 Y (by first | exact Or.inl rfl | exact Or.inr rfl | omega) ⟨by unfold thas; (first | rw [if_pos (by omega)] | rw [if_neg (by omega)]), rfl, rfl⟩
    · refine r_iconst X dX5_has_12 ?_
      refine r_goto X 17 dX5_has_13 (by decide) ?_
      exact ret _ _ _ _ _ _ _ dX5_has_17 Y (by first | exact Or.inl rfl | exact Or.inr rfl | omega) ⟨by unfold thas; (first | rw [if_pos (by omega)] | rw [if_neg (by omega)]), rfl, rfl⟩
set_option maxHeartbeats 4000000 in
set_option maxRecDepth 100000 in
theorem ct_X5_isFull (l : Launch) (g : uG) (t : uN) (f : uF) (k : Nat) (hk : kd k = 5) (ht : tOK t k) : cF_i l yX5_isFull cX5_isFull 1 (some .boolean) 1 g [.ref (g.1 + k)] t f (tfull t k) (t) (f) := by
  refine eF_z (by decide +kernel) (Nat.le_of_ble_eq_true rfl) ?_
  intro p e R s m args below meth c Q ls H locs X Y hl ret
  have X : uX p 1 R s m args c cX5_isFull 1 RX5 := X
  have hl : lv_has ls 1 [(0, .ref (g.1 + k))] := hl
  have hw := kd5_w hk
  have hal := kd5_al hk
  have h3 := ht.1
  have h3b := ht.2
  refine r_aload_n X dX5_isFull_0 hl 0 rfl ?_
  refine g_5_3 (k := k) X Y hk wm_92 dX5_isFull_1 ?_
  refine r_aload_n X dX5_isFull_4 hl 0 rfl ?_
  refine g_5_1 (k := k) X Y hk wm_90 dX5_isFull_5 ?_
  refine r_icmp_lt X (tgt := 15) dX5_isFull_8 (by decide) ⟨by omega, by omega⟩ ⟨by omega, by omega⟩ (fun c8 => ?_) (fun c8 => ?_)
  · refine r_iconst X dX5_isFull_15 ?_
    exact ret _ _ _ _ _ _ _ dX5_isFull_16 Y (by first | exact Or.inl rfl | exact Or.inr rfl | omega) ⟨by unfold tfull; (first | rw [if_pos (by omega)] | rw [if_neg (by omega)]), rfl, rfl⟩
  · refine r_iconst X dX5_isFull_11 ?_
    refine r_goto X 16 dX5_isFull_12 (by decide) ?_
    exact ret _ _ _ _ _ _ _ dX5_isFull_16 Y (by first | exact Or.inl rfl | exact Or.inr rfl | omega) ⟨by unfold tfull; (first | rw [if_pos (by omega)] | rw [if_neg (by omega)]), rfl, rfl⟩
set_option maxHeartbeats 4000000 in
set_option maxRecDepth 100000 in
theorem ct_X5_clear (l : Launch) (g : uG) (t : uN) (f : uF) (k : Nat) (hk : kd k = 5) : cF_v l yX5_clear cX5_clear 1 1 g [.ref (g.1 + k)] t f (up2 t k 3 0) (f) := by
  refine eF_v (by decide +kernel) (Nat.le_of_ble_eq_true rfl) ?_
  intro p e R s m args below meth c Q ls H locs X Y hl ret
  have X : uX p 1 R s m args c cX5_clear 1 RX5 := X
  have hl : lv_has ls 1 [(0, .ref (g.1 + k))] := hl
  refine r_aload_n X dX5_clear_0 hl 0 rfl ?_
  refine r_iconst X dX5_clear_1 ?_
  refine p_5_3 (k := k) X Y hk wm_92 dX5_clear_2 (fun H locs Y => ?_)
  obtain ⟨tq1, htq1⟩ : ∃ q, q = up2 t k 3 (0) := ⟨_, rfl⟩
  have Y : uY g 117 (cX g tq1 f) s H locs := by rw [htq1]; exact Y
  exact ret _ _ _ _ _ _ dX5_clear_5 Y ⟨htq1, rfl⟩
set_option maxHeartbeats 4000000 in
set_option maxRecDepth 100000 in
theorem ct_X5_cellOf (l : Launch) (g : uG) (t : uN) (f : uF) (k : Nat) (row col : Int) (hk : kd k = 5) (ht : tOK t k) (hr : inI row) (hc : inI col) : cF_i l yX5_cellOf cX5_cellOf 4 (some .int) 1 g [.ref (g.1 + k), .int (iV (row)), .int (iV (col))] t f (cellZ t k row col) (t) (f) := by
  refine eF_i (by decide +kernel) (Nat.le_of_ble_eq_true rfl) ?_
  intro p e R s m args below meth c Q ls H locs X Y hl ret
  have X : uX p 1 R s m args c cX5_cellOf 4 RX5 := X
  have hl : lv_has ls 4 [(0, .ref (g.1 + k)), (1, .int (iV (row))), (2, .int (iV (col)))] := hl
  have hw := kd5_w hk
  have hal := kd5_al hk
  have h3 := ht.1
  have h3b := ht.2
  refine r_iload_n X dX5_cellOf_0 hl 1 rfl ?_
  refine r_if_lt X (tgt := 28) dX5_cellOf_1 (by decide) ⟨by omega, by omega⟩ (fun c1 => ?_) (fun c1 => ?_)
  · refine r_iconst X dX5_cellOf_28 ?_
    refine r_istore_n X dX5_cellOf_29 hl [(3, .int (iV (0))), (0, .ref (g.1 + k)), (1, .int (iV (row))), (2, .int (iV (col)))] (by decide) rfl (fun ls hl => ?_)
    refine r_iload_n X dX5_cellOf_30 hl 0 rfl ?_
    refine r_if_eq X (tgt := 45) dX5_cellOf_31 (by decide) ⟨by omega, by omega⟩ (fun c31 => ?_) (fun c31 => ?_)
    · refine r_iconst X dX5_cellOf_45 ?_
      exact ret _ _ _ _ _ _ _ dX5_cellOf_46 Y ⟨by unfold cellZ; (first | rw [if_pos (by omega)] | rw [if_neg (by omega)]), rfl, rfl⟩
    · exact absurd c31 (by omega)
  · refine r_iload_n X dX5_cellOf_4 hl 1 rfl ?_
    refine r_aload_n X dX5_cellOf_5 hl 0 rfl ?_
    refine g_5_3 (k := k) X Y hk wm_92 dX5_cellOf_6 ?_
    refine r_icmp_ge X (tgt := 28) dX5_cellOf_9 (by decide) ⟨by omega, by omega⟩ ⟨by omega, by omega⟩ (fun c9 => ?_) (fun c9 => ?_)
    · refine r_iconst X dX5_cellOf_28 ?_
      refine r_istore_n X dX5_cellOf_29 hl [(3, .int (iV (0))), (0, .ref (g.1 + k)), (1, .int (iV (row))), (2, .int (iV (col)))] (by decide) rfl (fun ls hl => ?_)
      refine r_iload_n X dX5_cellOf_30 hl 0 rfl ?_
      refine r_if_eq X (tgt := 45) dX5_cellOf_31 (by decide) ⟨by omega, by omega⟩ (fun c31 => ?_) (fun c31 => ?_)
      · refine r_iconst X dX5_cellOf_45 ?_
        exact ret _ _ _ _ _ _ _ dX5_cellOf_46 Y ⟨by unfold cellZ; (first | rw [if_pos (by omega)] | rw [if_neg (by omega)]), rfl, rfl⟩
      · exact absurd c31 (by omega)
    · refine r_iload_n X dX5_cellOf_12 hl 2 rfl ?_
      refine r_if_lt X (tgt := 28) dX5_cellOf_13 (by decide) ⟨by omega, by omega⟩ (fun c13 => ?_) (fun c13 => ?_)
      · refine r_iconst X dX5_cellOf_28 ?_
        refine r_istore_n X dX5_cellOf_29 hl [(3, .int (iV (0))), (0, .ref (g.1 + k)), (1, .int (iV (row))), (2, .int (iV (col)))] (by decide) rfl (fun ls hl => ?_)
        refine r_iload_n X dX5_cellOf_30 hl 0 rfl ?_
        refine r_if_eq X (tgt := 45) dX5_cellOf_31 (by decide) ⟨by omega, by omega⟩ (fun c31 => ?_) (fun c31 => ?_)
        · refine r_iconst X dX5_cellOf_45 ?_
          exact ret _ _ _ _ _ _ _ dX5_cellOf_46 Y ⟨by unfold cellZ; (first | rw [if_pos (by omega)] | rw [if_neg (by omega)]), rfl, rfl⟩
        · exact absurd c31 (by omega)
      · refine r_iload_n X dX5_cellOf_16 hl 2 rfl ?_
        refine r_aload_n X dX5_cellOf_17 hl 0 rfl ?_
        refine g_5_0 (k := k) X Y hk wm_89 dX5_cellOf_18 ?_
        refine r_icmp_ge X (tgt := 28) dX5_cellOf_21 (by decide) ⟨by omega, by omega⟩ ⟨by omega, by omega⟩ (fun c21 => ?_) (fun c21 => ?_)
        · refine r_iconst X dX5_cellOf_28 ?_
          refine r_istore_n X dX5_cellOf_29 hl [(3, .int (iV (0))), (0, .ref (g.1 + k)), (1, .int (iV (row))), (2, .int (iV (col)))] (by decide) rfl (fun ls hl => ?_)
          refine r_iload_n X dX5_cellOf_30 hl 0 rfl ?_
          refine r_if_eq X (tgt := 45) dX5_cellOf_31 (by decide) ⟨by omega, by omega⟩ (fun c31 => ?_) (fun c31 => ?_)
          · refine r_iconst X dX5_cellOf_45 ?_
            exact ret _ _ _ _ _ _ _ dX5_cellOf_46 Y ⟨by unfold cellZ; (first | rw [if_pos (by omega)] | rw [if_neg (by omega)]), rfl, rfl⟩
          · exact absurd c31 (by omega)
        · refine r_iconst X dX5_cellOf_24 ?_
          refine r_goto X 29 dX5_cellOf_25 (by decide) ?_
          refine r_istore_n X dX5_cellOf_29 hl [(3, .int (iV (1))), (0, .ref (g.1 + k)), (1, .int (iV (row))), (2, .int (iV (col)))] (by decide) rfl (fun ls hl => ?_)
          refine r_iload_n X dX5_cellOf_30 hl 0 rfl ?_
          refine r_if_eq X (tgt := 45) dX5_cellOf_31 (by decide) ⟨by omega, by omega⟩ (fun c31 => ?_) (fun c31 => ?_)
          · exact absurd c31 (by omega)
          · refine r_iload_n X dX5_cellOf_34 hl 2 rfl ?_
            refine r_aload_n X dX5_cellOf_35 hl 1 rfl ?_
            refine g_5_0 (k := k) X Y hk wm_89 dX5_cellOf_36 ?_
            refine r_imul X dX5_cellOf_39 ?_
            refine r_iload_n X dX5_cellOf_40 hl 3 rfl ?_
            refine r_iadd X dX5_cellOf_41 ?_
            refine r_goto X 46 dX5_cellOf_42 (by decide) ?_
            exact ret _ _ _ _ _ _ _ dX5_cellOf_46 Y ⟨by unfold cellZ; (first | rw [if_pos (by omega)] | rw [if_neg (by omega)]), rfl, rfl⟩
set_option maxHeartbeats 4000000 in
set_option maxRecDepth 100000 in
theorem ct_X5_get (l : Launch) (g : uG) (t : uN) (f : uF) (k : Nat) (row col : Int) (hk : kd k = 5) (ht : tOK t k) (hr : inI row) (hc : inI col) : cF_i l yX5_get cX5_get 4 (some .int) 2 g [.ref (g.1 + k), .int (iV (row)), .int (iV (col))] t f (tget t f k row col) (t) (f) := by
  refine eF_i (by decide +kernel) (Nat.le_of_ble_eq_true rfl) ?_
  intro p e R s m args below meth c Q ls H locs X Y hl ret
  have X : uX p 2 R s m args c cX5_get 4 RX5 := X
  have hl : lv_has ls 4 [(0, .ref (g.1 + k)), (1, .int (iV (row))), (2, .int (iV (col)))] := hl
  have hw := kd5_w hk
  have hal := kd5_al hk
  have h3 := ht.1
  have h3b := ht.2
  have hz := cellZ_rng hk ht row col
  have hz0 : 0 ≤ cellZ t k row col ↔ 0 ≤ row ∧ row < t k 3 ∧ 0 ≤ col ∧ col < tw k := by
    unfold cellZ
    split
    · next h => exact ⟨fun _ => h, fun _ => (cell_rng hk ht h).1⟩
    · next h => exact ⟨fun q => absurd q (by omega), fun q => absurd q h⟩
  refine r_aload_n X dX5_get_0 hl 0 rfl ?_
  refine r_iload_n X dX5_get_1 hl 1 rfl ?_
  refine r_iload_n X dX5_get_2 hl 2 rfl ?_
  refine vF_i X Y [.int (iV (row)), .int (iV (col))] [] (ct_X5_cellOf l g t f k row col hk (ht) ⟨by omega, by omega⟩ ⟨by omega, by omega⟩) mk_X5_cellOf mi_X5_cellOf wm_316 (by decide) (rv_5 Y hk) rfl hl (Nat.le_of_ble_eq_true rfl) rfl dX5_get_3 (Nat.zero_le _) (Nat.zero_le _) (fun H locs Y => ?_)
  refine r_istore_n X dX5_get_6 hl [(3, .int (iV (cellZ t k row col))), (0, .ref (g.1 + k)), (1, .int (iV (row))), (2, .int (iV (col)))] (by decide) rfl (fun ls hl => ?_)
  refine r_iload_n X dX5_get_7 hl 0 rfl ?_
  refine r_if_lt X (tgt := 29) dX5_get_8 (by decide) ⟨by omega, by omega⟩ (fun c8 => ?_) (fun c8 => ?_)
  · refine r_iconst X dX5_get_29 ?_
    exact ret _ _ _ _ _ _ _ dX5_get_30 Y ⟨by unfold tget; (first | (rw [if_pos (by omega), cellZ, if_pos (by omega)]) | rw [if_neg (by omega)]), rfl, rfl⟩
  · refine r_iload_n X dX5_get_11 hl 0 rfl ?_
    refine r_aload_n X dX5_get_12 hl 1 rfl ?_
    refine g_5_2 (k := k) X Y hk wm_91 dX5_get_13 ?_
    refine g_ilen (k := (k+1)) X Y (kr_5_2 hk) dX5_get_16 ?_
    refine r_icmp_ge X (tgt := 29) dX5_get_17 (by decide) ⟨by omega, by omega⟩ ⟨by omega, by omega⟩ (fun c17 => ?_) (fun c17 => ?_)
    · refine r_iconst X dX5_get_29 ?_
      exact ret _ _ _ _ _ _ _ dX5_get_30 Y ⟨by unfold tget; (first | (rw [if_pos (by omega), cellZ, if_pos (by omega)]) | rw [if_neg (by omega)]), rfl, rfl⟩
    · refine r_aload_n X dX5_get_20 hl 1 rfl ?_
      refine g_5_2 (k := k) X Y hk wm_91 dX5_get_21 ?_
      refine r_iload_n X dX5_get_24 hl 0 rfl ?_
      refine g_ild (k := (k+1)) X Y (kr_5_2 hk) (by omega) (by omega) dX5_get_25 ?_
      refine r_goto X 30 dX5_get_26 (by decide) ?_
      exact ret _ _ _ _ _ _ _ dX5_get_30 Y ⟨by unfold tget; (first | (rw [if_pos (by omega), cellZ, if_pos (by omega)]) | rw [if_neg (by omega)]), rfl, rfl⟩
set_option maxHeartbeats 4000000 in
set_option maxRecDepth 100000 in
theorem ct_X5_set (l : Launch) (g : uG) (t : uN) (f : uF) (k : Nat) (row col v : Int) (hk : kd k = 5) (ht : tOK t k) (hr : inI row) (hc : inI col) : cF_v l yX5_set cX5_set 5 2 g [.ref (g.1 + k), .int (iV (row)), .int (iV (col)), .int (iV (v))] t f (t) (tset t f k row col v) := by
  refine eF_v (by decide +kernel) (Nat.le_of_ble_eq_true rfl) ?_
  intro p e R s m args below meth c Q ls H locs X Y hl ret
  have X : uX p 2 R s m args c cX5_set 5 RX5 := X
  have hl : lv_has ls 5 [(0, .ref (g.1 + k)), (1, .int (iV (row))), (2, .int (iV (col))), (3, .int (iV (v)))] := hl
  have hw := kd5_w hk
  have hal := kd5_al hk
  have h3 := ht.1
  have h3b := ht.2
  have hz := cellZ_rng hk ht row col
  have hz0 : 0 ≤ cellZ t k row col ↔ 0 ≤ row ∧ row < t k 3 ∧ 0 ≤ col ∧ col < tw k := by
    unfold cellZ
    split
    · next h => exact ⟨fun _ => h, fun _ => (cell_rng hk ht h).1⟩
    · next h => exact ⟨fun q => absurd q (by omega), fun q => absurd q h⟩
  refine r_aload_n X dX5_set_0 hl 0 rfl ?_
  refine r_iload_n X dX5_set_1 hl 1 rfl ?_
  refine r_iload_n X dX5_set_2 hl 2 rfl ?_
  refine vF_i X Y [.int (iV (row)), .int (iV (col))] [] (ct_X5_cellOf l g t f k row col hk (ht) ⟨by omega, by omega⟩ ⟨by omega, by omega⟩) mk_X5_cellOf mi_X5_cellOf wm_316 (by decide) (rv_5 Y hk) rfl hl (Nat.le_of_ble_eq_true rfl) rfl dX5_set_3 (Nat.zero_le _) (Nat.zero_le _) (fun H locs Y => ?_)
  refine r_istore X dX5_set_6 hl [(4, .int (iV (cellZ t k row col))), (0, .ref (g.1 + k)), (1, .int (iV (row))), (2, .int (iV (col))), (3, .int (iV (v)))] (by decide) rfl (fun ls hl => ?_)
  refine r_iload X dX5_set_8 hl 0 rfl ?_
  refine r_if_lt X (tgt := 31) dX5_set_10 (by decide) ⟨by omega, by omega⟩ (fun c10 => ?_) (fun c10 => ?_)
  · exact ret _ _ _ _ _ _ dX5_set_31 Y ⟨rfl, by unfold tset; (first | (rw [if_pos (by omega)]; rw [cellZ, if_pos (by omega)] at hfq1; exact hfq1) | rw [if_neg (by omega)])⟩
  · refine r_iload X dX5_set_13 hl 0 rfl ?_
    refine r_aload_n X dX5_set_15 hl 1 rfl ?_
    refine g_5_2 (k := k) X Y hk wm_91 dX5_set_16 ?_
    refine g_ilen (k := (k+1)) X Y (kr_5_2 hk) dX5_set_19 ?_
    refine r_icmp_ge X (tgt := 31) dX5_set_20 (by decide) ⟨by omega, by omega⟩ ⟨by omega, by omega⟩ (fun c20 => ?_) (fun c20 => ?_)
    · exact ret _ _ _ _ _ _ dX5_set_31 Y ⟨rfl, by unfold tset; (first | (rw [if_pos (by omega)]; rw [cellZ, if_pos (by omega)] at hfq1; exact hfq1) | rw [if_neg (by omega)])⟩
    · refine r_aload_n X dX5_set_23 hl 1 rfl ?_
      refine g_5_2 (k := k) X Y hk wm_91 dX5_set_24 ?_
      refine r_iload X dX5_set_27 hl 0 rfl ?_
      refine r_iload_n X dX5_set_29 hl 4 rfl ?_
      refine p_ist (k := (k+1)) X Y (kr_5_2 hk) (by omega) (by omega) dX5_set_30 (fun H locs Y => ?_)
      obtain ⟨fq1, hfq1⟩ : ∃ q, q = upA f (k+1) (cellZ t k row col) v := ⟨_, rfl⟩
      have Y : uY g 117 (cX g t fq1) s H locs := by rw [hfq1]; exact Y
      exact ret _ _ _ _ _ _ dX5_set_31 Y ⟨rfl, by unfold tset; (first | (rw [if_pos (by omega)]; rw [cellZ, if_pos (by omega)] at hfq1; exact hfq1) | rw [if_neg (by omega)])⟩

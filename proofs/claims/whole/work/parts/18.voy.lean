/-! the voyage, the ship's copies, the past, by contract -/
set_option maxHeartbeats 4000000 in
set_option maxRecDepth 100000 in
theorem ct_X6_oddsOf (l : Launch) (g : uG) (t : uN) (f : uF) (v : Nat) (i s0 : Int) (hv : kd v = 6) (h : VOK t f v) (hi : inI i) (h0 : 0 ≤ s0) (h1 : s0 ≤ 9) : cF_i l yX6_oddsOf cX6_oddsOf 4 (some .int) 3 g [.ref (g.1 + v), .int (iV (i)), .int (iV (s0))] t f (oddX t f v i s0) (t) (f) := by
  refine eF_i (by decide +kernel) (Nat.le_of_ble_eq_true rfl) ?_
  intro p e R s m args below meth c Q ls H locs X Y hl ret
  have X : uX p 3 R s m args c cX6_oddsOf 4 RX6 := X
  have hl : lv_has ls 4 [(0, .ref (g.1 + v)), (1, .int (iV (i))), (2, .int (iV (s0)))] := hl
  have hn := h.n hv
  have hk1 := kr_6_0 hv
  have hk3 := kr_6_1 hv
  have hk5 := kr_6_2 hv
  have hr := h.2.1 i
  have ho := oddX_rng h i s0 h0 h1
  refine r_bipush X 9 dX6_oddsOf_0 (by decide) ?_
  refine r_iload_n X dX6_oddsOf_2 hl 2 rfl ?_
  refine r_isub X dX6_oddsOf_3 ?_
  refine r_istore_n X dX6_oddsOf_4 hl [(3, .int (iV (9 - s0))), (0, .ref (g.1 + v)), (1, .int (iV (i))), (2, .int (iV (s0)))] (by decide) rfl (fun ls hl => ?_)
  refine r_bipush X 100 dX6_oddsOf_5 (by decide) ?_
  refine r_aload_n X dX6_oddsOf_7 hl 1 rfl ?_
  refine g_6_1 (k := v) X Y hv wm_121 dX6_oddsOf_8 ?_
  refine r_iload_n X dX6_oddsOf_11 hl 2 rfl ?_
  refine r_iconst X dX6_oddsOf_12 ?_
  refine vF_i X Y [.int (iV (i)), .int (iV (0))] [.int (iV (100))] (ct_X5_get l g t f (v+3) i 0 (kr_6_1 hv) h.1.2.1 ⟨by omega, by omega⟩ ⟨by omega, by omega⟩) mk_X5_get mi_X5_get wm_476 (by decide) (rv_5 Y (kr_6_1 hv)) rfl hl (Nat.le_of_ble_eq_true rfl) rfl dX6_oddsOf_13 (Nat.zero_le _) (Nat.zero_le _) (fun H locs Y => ?_)
  refine r_aload_n X dX6_oddsOf_16 hl 1 rfl ?_
  refine g_6_1 (k := v) X Y hv wm_121 dX6_oddsOf_17 ?_
  refine r_iload_n X dX6_oddsOf_20 hl 2 rfl ?_
  refine r_iconst X dX6_oddsOf_21 ?_
  refine vF_i X Y [.int (iV (i)), .int (iV (1))] [.int (iV (tget t f (v+3) i 0)), .int (iV (100))] (ct_X5_get l g t f (v+3) i 1 (kr_6_1 hv) h.1.2.1 ⟨by omega, by omega⟩ ⟨by omega, by omega⟩) mk_X5_get mi_X5_get wm_476 (by decide) (rv_5 Y (kr_6_1 hv)) rfl hl (Nat.le_of_ble_eq_true rfl) rfl dX6_oddsOf_22 (Nat.zero_le _) (Nat.zero_le _) (fun H locs Y => ?_)
  refine r_iload_n X dX6_oddsOf_25 hl 0 rfl ?_
  refine r_imul X dX6_oddsOf_26 ?_
  refine r_iadd X dX6_oddsOf_27 ?_
  refine r_min X hl (by decide) (Nat.zero_le _) (Nat.zero_le _) wm_477 (Nat.le_of_ble_eq_true rfl) dX6_oddsOf_28 ⟨by omega, by omega⟩ ⟨by omega, by omega⟩ ?_
  exact ret _ _ _ _ _ _ _ dX6_oddsOf_31 Y ⟨rfl, rfl, rfl⟩
set_option maxHeartbeats 4000000 in
set_option maxRecDepth 100000 in
theorem ct_X6_comeThrough (l : Launch) (g : uG) (t : uN) (f : uF) (v : Nat) (i s0 c0 : Int) (hv : kd v = 6) (h : VOK t f v) (hi : inI i) (h0 : 0 ≤ s0) (h1 : s0 ≤ 9) (h2 : 0 ≤ c0) (h3 : c0 ≤ 1000000) : cF_i l yX6_comeThrough cX6_comeThrough 4 (some .int) 4 g [.ref (g.1 + v), .int (iV (i)), .int (iV (s0)), .int (iV (c0))] t f ((c0 * (100 - oddX t f v i s0)).tdiv 100) (t) (f) := by
  refine eF_i (by decide +kernel) (Nat.le_of_ble_eq_true rfl) ?_
  intro p e R s m args below meth c Q ls H locs X Y hl ret
  have X : uX p 4 R s m args c cX6_comeThrough 4 RX6 := X
  have hl : lv_has ls 4 [(0, .ref (g.1 + v)), (1, .int (iV (i))), (2, .int (iV (s0))), (3, .int (iV (c0)))] := hl
  have hn := h.n hv
  have hk1 := kr_6_0 hv
  have hk3 := kr_6_1 hv
  have hk5 := kr_6_2 hv
  have ho := oddX_rng h i s0 h0 h1
  have hs := step_rng h2 h3 ho.1 ho.2.1
  refine r_iload_n X dX6_comeThrough_0 hl 3 rfl ?_
  refine r_bipush X 100 dX6_comeThrough_1 (by decide) ?_
  refine r_aload_n X dX6_comeThrough_3 hl 0 rfl ?_
  refine r_iload_n X dX6_comeThrough_4 hl 1 rfl ?_
  refine r_iload_n X dX6_comeThrough_5 hl 2 rfl ?_
  refine vF_i X Y [.int (iV (i)), .int (iV (s0))] [.int (iV (100)), .int (iV (c0))] (ct_X6_oddsOf l g t f v i s0 hv h ⟨by omega, by omega⟩ (by omega) (by omega)) mk_X6_oddsOf mi_X6_oddsOf wm_585 (by decide) (rv_6 Y hv) rfl hl (Nat.le_of_ble_eq_true rfl) rfl dX6_comeThrough_6 (Nat.zero_le _) (Nat.zero_le _) (fun H locs Y => ?_)
  refine r_isub X dX6_comeThrough_9 ?_
  refine r_imul X dX6_comeThrough_10 ?_
  refine r_bipush X 100 dX6_comeThrough_11 (by decide) ?_
  refine r_idiv X dX6_comeThrough_13 ⟨by omega, by omega⟩ ⟨by omega, by omega⟩ (by omega) ?_
  exact ret _ _ _ _ _ _ _ dX6_comeThrough_14 Y ⟨rfl, rfl, rfl⟩
set_option maxHeartbeats 4000000 in
set_option maxRecDepth 100000 in
theorem ct_X6_chanceThrough (l : Launch) (g : uG) (t : uN) (f : uF) (v : Nat) (a b s0 : Int) (hv : kd v = 6) (h : VOK t f v) (h0 : 0 ≤ s0) (h1 : s0 ≤ 9) (ha : 0 ≤ a ∧ a ≤ 100) (hb : 0 ≤ b ∧ b ≤ 100) : cF_i l yX6_chanceThrough cX6_chanceThrough 7 (some .int) 5 g [.ref (g.1 + v), .int (iV (a)), .int (iV (b)), .int (iV (s0))] t f (thru (oddX t f v) a b s0 1000000) (t) (f) := by
  refine eF_i (by decide +kernel) (Nat.le_of_ble_eq_true rfl) ?_
  intro p e R s m args below meth c Q ls H locs X Y hl ret
  have X : uX p 5 R s m args c cX6_chanceThrough 7 RX6 := X
  have hl : lv_has ls 7 [(0, .ref (g.1 + v)), (1, .int (iV (a))), (2, .int (iV (b))), (3, .int (iV (s0)))] := hl
  have hn := h.n hv
  have hk1 := kr_6_0 hv
  have hk3 := kr_6_1 hv
  have hk5 := kr_6_2 hv
  refine r_ldc X 1000000 wm_580 (by decide) dX6_chanceThrough_0 ?_
  refine r_istore X dX6_chanceThrough_2 hl [(4, .int (iV (1000000))), (0, .ref (g.1 + v)), (1, .int (iV (a))), (2, .int (iV (b))), (3, .int (iV (s0)))] (by decide) rfl (fun ls hl => ?_)
  refine r_iload_n X dX6_chanceThrough_4 hl 4 rfl ?_
  refine r_istore X dX6_chanceThrough_5 hl [(5, .int (iV (s0))), (4, .int (iV (1000000))), (0, .ref (g.1 + v)), (1, .int (iV (a))), (2, .int (iV (b))), (3, .int (iV (s0)))] (by decide) rfl (fun ls hl => ?_)
  refine r_iload_n X dX6_chanceThrough_7 hl 3 rfl ?_
  refine r_istore X dX6_chanceThrough_8 hl [(6, .int (iV (a))), (5, .int (iV (s0))), (4, .int (iV (1000000))), (0, .ref (g.1 + v)), (1, .int (iV (a))), (2, .int (iV (b))), (3, .int (iV (s0)))] (by decide) rfl (fun ls hl => ?_)
  have loop10 : ∀ (N : Nat) (i : Int) (q : Int) (c0 : Int) (hi0 : a ≤ i) (hi1 : i ≤ a ∨ i ≤ b) (hq0 : 0 ≤ q) (hq1 : q ≤ 9) (hc0 : 0 ≤ c0) (hc1 : c0 ≤ 1000000) (he : thru (oddX t f v) i b q c0 = thru (oddX t f v) a b s0 1000000) (H : Heap) (locs : List Loc) (ls : Array Slot), (b - i).toNat < N → uY g 117 (cX g t f) s H locs → lv_has ls 7 [(4, .int (iV (c0))), (5, .int (iV (q))), (6, .int (iV (i))), (0, .ref (g.1 + v)), (2, .int (iV (b)))] → W p l e R s m args below meth c H locs 0 0 Q (F0 m 10 ls []) := by
    intro N
    induction N with
    | zero => intro i q c0 hi0 hi1 hq0 hq1 hc0 hc1 he H locs ls hmu Y hl; exact absurd hmu (Nat.not_lt_zero _)
    | succ N ih =>
      intro i q c0 hi0 hi1 hq0 hq1 hc0 hc1 he H locs ls hmu Y hl
      have ho := oddX_rng h i q hq0 hq1
      have hs := step_rng hc0 hc1 ho.1 ho.2.1
      refine r_iload X dX6_chanceThrough_10 hl 2 rfl ?_
      refine r_iload_n X dX6_chanceThrough_12 hl 4 rfl ?_
      refine r_icmp_ge X (tgt := 44) dX6_chanceThrough_13 (by decide) ⟨by omega, by omega⟩ ⟨by omega, by omega⟩ (fun c13 => ?_) (fun c13 => ?_)
      · refine r_iload X dX6_chanceThrough_44 hl 0 rfl ?_
        exact ret _ _ _ _ _ _ _ dX6_chanceThrough_46 Y ⟨by rw [← he, thru_end _ (by omega)], rfl, rfl⟩
      · refine r_aload_n X dX6_chanceThrough_16 hl 3 rfl ?_
        refine r_iload X dX6_chanceThrough_17 hl 2 rfl ?_
        refine r_iload X dX6_chanceThrough_19 hl 1 rfl ?_
        refine r_iload X dX6_chanceThrough_21 hl 0 rfl ?_
        refine vF_i X Y [.int (iV (i)), .int (iV (q)), .int (iV (c0))] [] (ct_X6_comeThrough l g t f v i q c0 hv h ⟨by omega, by omega⟩ (by omega) (by omega) (by omega) (by omega)) mk_X6_comeThrough mi_X6_comeThrough wm_581 (by decide) (rv_6 Y hv) rfl hl (Nat.le_of_ble_eq_true rfl) rfl dX6_chanceThrough_23 (Nat.zero_le _) (Nat.zero_le _) (fun H locs Y => ?_)
        refine r_istore X dX6_chanceThrough_26 hl [(4, .int (iV ((c0 * (100 - oddX t f v i q)).tdiv 100))), (5, .int (iV (q))), (6, .int (iV (i))), (0, .ref (g.1 + v)), (2, .int (iV (b)))] (by decide) rfl (fun ls hl => ?_)
        refine r_iconst X dX6_chanceThrough_28 ?_
        refine r_iload X dX6_chanceThrough_29 hl 1 rfl ?_
        refine r_iconst X dX6_chanceThrough_31 ?_
        refine r_isub X dX6_chanceThrough_32 ?_
        refine r_max X hl (by decide) (Nat.zero_le _) (Nat.zero_le _) wm_586 (Nat.le_of_ble_eq_true rfl) dX6_chanceThrough_33 ⟨by omega, by omega⟩ ⟨by omega, by omega⟩ ?_
        refine r_istore X dX6_chanceThrough_36 hl [(5, .int (iV (max 0 (q - 1)))), (4, .int (iV ((c0 * (100 - oddX t f v i q)).tdiv 100))), (6, .int (iV (i))), (0, .ref (g.1 + v)), (2, .int (iV (b)))] (by decide) rfl (fun ls hl => ?_)
        refine r_iinc X dX6_chanceThrough_38 hl 2 rfl [(6, .int (iV (i + 1))), (5, .int (iV (max 0 (q - 1)))), (4, .int (iV ((c0 * (100 - oddX t f v i q)).tdiv 100))), (0, .ref (g.1 + v)), (2, .int (iV (b)))] (by decide) rfl (fun ls hl => ?_)
        refine r_goto X 10 dX6_chanceThrough_41 (by decide) ?_
        exact ih (i + 1) (max 0 (q - 1)) ((c0 * (100 - oddX t f v i q)).tdiv 100) (by omega) (by omega) (by omega) (by omega) (by omega) (by omega) (by rw [← he]; exact (thru_step (o := oddX t f v) (a := i) (b := b) (s := q) (v := c0) (by omega)).symm) _ _ _ (by omega) Y (lv_sub hl [2, 1, 0, 3, 4] rfl)
  exact loop10 (((b - a).toNat) + 1) a s0 1000000 (by omega) (by omega) (by omega) (by omega) (by omega) (by omega) rfl _ _ _ (Nat.lt_succ_self _) Y (lv_sub hl [2, 1, 0, 3, 5] rfl)
set_option maxHeartbeats 4000000 in
set_option maxRecDepth 100000 in
theorem ct_X6_dueOf (l : Launch) (g : uG) (t : uN) (f : uF) (v : Nat) (m0 a : Int) (hv : kd v = 6) (h : VOK t f v) (hm : inI m0) (h0 : 0 ≤ a) (h1 : a ≤ 999) : cF_i l yX6_dueOf cX6_dueOf 3 (some .int) 3 g [.ref (g.1 + v), .int (iV (m0)), .int (iV (a))] t f (owedX t f v m0 a) (t) (f) := by
  refine eF_i (by decide +kernel) (Nat.le_of_ble_eq_true rfl) ?_
  intro p e R s m args below meth c Q ls H locs X Y hl ret
  have X : uX p 3 R s m args c cX6_dueOf 3 RX6 := X
  have hl : lv_has ls 3 [(0, .ref (g.1 + v)), (1, .int (iV (m0))), (2, .int (iV (a)))] := hl
  have hn := h.n hv
  have hk1 := kr_6_0 hv
  have hk3 := kr_6_1 hv
  have hk5 := kr_6_2 hv
  have hr := owedX_rng h m0 a h0 h1
  refine r_iload_n X dX6_dueOf_0 hl 2 rfl ?_
  refine r_iload_n X dX6_dueOf_1 hl 2 rfl ?_
  refine r_aload_n X dX6_dueOf_2 hl 0 rfl ?_
  refine g_6_2 (k := v) X Y hv wm_125 dX6_dueOf_3 ?_
  refine r_iload_n X dX6_dueOf_6 hl 1 rfl ?_
  refine r_iconst X dX6_dueOf_7 ?_
  refine vF_i X Y [.int (iV (m0)), .int (iV (1))] [.int (iV (a)), .int (iV (a))] (ct_X5_get l g t f (v+5) m0 1 (kr_6_2 hv) h.1.2.2 ⟨by omega, by omega⟩ ⟨by omega, by omega⟩) mk_X5_get mi_X5_get wm_476 (by decide) (rv_5 Y (kr_6_2 hv)) rfl hl (Nat.le_of_ble_eq_true rfl) rfl dX6_dueOf_8 (Nat.zero_le _) (Nat.zero_le _) (fun H locs Y => ?_)
  refine r_imul X dX6_dueOf_11 ?_
  refine r_bipush X 100 dX6_dueOf_12 (by decide) ?_
  refine r_idiv X dX6_dueOf_14 ⟨by omega, by omega⟩ ⟨by omega, by omega⟩ (by omega) ?_
  refine r_iadd X dX6_dueOf_15 ?_
  exact ret _ _ _ _ _ _ _ dX6_dueOf_16 Y ⟨rfl, rfl, rfl⟩
set_option maxHeartbeats 4000000 in
set_option maxRecDepth 100000 in
theorem ct_X6_clear (l : Launch) (g : uG) (t : uN) (f : uF)   : cF_v l yX6_clear cX6_clear 1 2 g [.ref (g.1 + 4)] t f (up2 (up2 (up2 t 5 3 0) 7 3 0) 9 3 0) (f) := by
  refine eF_v (by decide +kernel) (Nat.le_of_ble_eq_true rfl) ?_
  intro p e R s m args below meth c Q ls H locs X Y hl ret
  have X : uX p 2 R s m args c cX6_clear 1 RX6 := X
  have hl : lv_has ls 1 [(0, .ref (g.1 + 4))] := hl
  refine r_aload_n X dX6_clear_0 hl 0 rfl ?_
  refine g_6_0 (k := 4) X Y rfl wm_117 dX6_clear_1 ?_
  refine vF_v X Y [] [] (ct_X5_clear l g t f 5 rfl) mk_X5_clear mi_X5_clear wm_336 (by decide) (rv_5 Y rfl) rfl hl (Nat.le_of_ble_eq_true rfl) rfl dX6_clear_4 (Nat.zero_le _) (Nat.zero_le _) (fun H locs Y => ?_)
  obtain ⟨tq1, htq1⟩ : ∃ q, q = up2 t 5 3 0 := ⟨_, rfl⟩
  have Y : uY g 117 (cX g tq1 f) s H locs := by rw [htq1]; exact Y
  refine r_aload_n X dX6_clear_7 hl 0 rfl ?_
  refine g_6_1 (k := 4) X Y rfl wm_121 dX6_clear_8 ?_
  refine vF_v X Y [] [] (ct_X5_clear l g tq1 f 7 rfl) mk_X5_clear mi_X5_clear wm_336 (by decide) (rv_5 Y rfl) rfl hl (Nat.le_of_ble_eq_true rfl) rfl dX6_clear_11 (Nat.zero_le _) (Nat.zero_le _) (fun H locs Y => ?_)
  obtain ⟨tq2, htq2⟩ : ∃ q, q = up2 tq1 7 3 0 := ⟨_, rfl⟩
  have Y : uY g 117 (cX g tq2 f) s H locs := by rw [htq2]; exact Y
  refine r_aload_n X dX6_clear_14 hl 0 rfl ?_
  refine g_6_2 (k := 4) X Y rfl wm_125 dX6_clear_15 ?_
  refine vF_v X Y [] [] (ct_X5_clear l g tq2 f 9 rfl) mk_X5_clear mi_X5_clear wm_336 (by decide) (rv_5 Y rfl) rfl hl (Nat.le_of_ble_eq_true rfl) rfl dX6_clear_18 (Nat.zero_le _) (Nat.zero_le _) (fun H locs Y => ?_)
  obtain ⟨tq3, htq3⟩ : ∃ q, q = up2 tq2 9 3 0 := ⟨_, rfl⟩
  have Y : uY g 117 (cX g tq3 f) s H locs := by rw [htq3]; exact Y
  exact ret _ _ _ _ _ _ dX6_clear_21 Y (by subst htq1 htq2 htq3; exact ⟨rfl, rfl⟩)
set_option maxHeartbeats 4000000 in
set_option maxRecDepth 100000 in
theorem ct_X6_become (l : Launch) (g : uG) (t : uN) (f : uF)  (h5 : tOK t 5) (h7 : tOK t 7) (h9 : tOK t 9) (h12 : tOK t 12) (h14 : tOK t 14) (h16 : tOK t 16) : cF_v l yX6_become cX6_become 2 3 g [.ref (g.1 + 11), .ref (g.1 + 4)] t f ((fun t => up2 t 16 3 (t 9 3)) ((fun t => up2 t 14 3 (t 7 3)) (up2 t 12 3 (t 5 3)))) (cpA (cpA (cpA f 6 13 4) 8 15 21) 10 17 10) := by
  refine eF_v (by decide +kernel) (Nat.le_of_ble_eq_true rfl) ?_
  intro p e R s m args below meth c Q ls H locs X Y hl ret
  have X : uX p 3 R s m args c cX6_become 2 RX6 := X
  have hl : lv_has ls 2 [(0, .ref (g.1 + 11)), (1, .ref (g.1 + 4))] := hl
  refine r_aload_n X dX6_become_0 hl 0 rfl ?_
  refine g_6_0 (k := 11) X Y rfl wm_117 dX6_become_1 ?_
  refine r_aload_n X dX6_become_4 hl 1 rfl ?_
  refine g_6_0 (k := 4) X Y rfl wm_117 dX6_become_5 ?_
  refine vF_v X Y [.ref (g.1 + 5)] [] (ct_X5_become l g t f 12 5 rfl h12 rfl h5 rfl rfl) mk_X5_become mi_X5_become wm_406 (by decide) (rv_5 Y rfl) rfl hl (Nat.le_of_ble_eq_true rfl) rfl dX6_become_8 (Nat.zero_le _) (Nat.zero_le _) (fun H locs Y => ?_)
  obtain ⟨tq1, htq1⟩ : ∃ q, q = up2 t 12 3 (t 5 3) := ⟨_, rfl⟩
  obtain ⟨fq2, hfq2⟩ : ∃ q, q = cpA f (5 + 1) (12 + 1) (tw 12 * tm 12) := ⟨_, rfl⟩
  have Y : uY g 117 (cX g tq1 fq2) s H locs := by rw [htq1, hfq2]; exact Y
  refine r_aload_n X dX6_become_11 hl 0 rfl ?_
  refine g_6_1 (k := 11) X Y rfl wm_121 dX6_become_12 ?_
  refine r_aload_n X dX6_become_15 hl 1 rfl ?_
  refine g_6_1 (k := 4) X Y rfl wm_121 dX6_become_16 ?_
  refine vF_v X Y [.ref (g.1 + 7)] [] (ct_X5_become l g tq1 fq2 14 7 rfl (by rw [htq1]; exact tOK_k (by decide) h14) rfl (by rw [htq1]; exact tOK_k (by decide) h7) rfl rfl) mk_X5_become mi_X5_become wm_406 (by decide) (rv_5 Y rfl) rfl hl (Nat.le_of_ble_eq_true rfl) rfl dX6_become_19 (Nat.zero_le _) (Nat.zero_le _) (fun H locs Y => ?_)
  obtain ⟨tq3, htq3⟩ : ∃ q, q = up2 tq1 14 3 (tq1 7 3) := ⟨_, rfl⟩
  obtain ⟨fq4, hfq4⟩ : ∃ q, q = cpA fq2 (7 + 1) (14 + 1) (tw 14 * tm 14) := ⟨_, rfl⟩
  have Y : uY g 117 (cX g tq3 fq4) s H locs := by rw [htq3, hfq4]; exact Y
  refine r_aload_n X dX6_become_22 hl 0 rfl ?_
  refine g_6_2 (k := 11) X Y rfl wm_125 dX6_become_23 ?_
  refine r_aload_n X dX6_become_26 hl 1 rfl ?_
  refine g_6_2 (k := 4) X Y rfl wm_125 dX6_become_27 ?_
  refine vF_v X Y [.ref (g.1 + 9)] [] (ct_X5_become l g tq3 fq4 16 9 rfl (by rw [htq3]; exact tOK_k (by decide) (by rw [htq1]; exact tOK_k (by decide) h16)) rfl (by rw [htq3]; exact tOK_k (by decide) (by rw [htq1]; exact tOK_k (by decide) h9)) rfl rfl) mk_X5_become mi_X5_become wm_406 (by decide) (rv_5 Y rfl) rfl hl (Nat.le_of_ble_eq_true rfl) rfl dX6_become_30 (Nat.zero_le _) (Nat.zero_le _) (fun H locs Y => ?_)
  obtain ⟨tq5, htq5⟩ : ∃ q, q = up2 tq3 16 3 (tq3 9 3) := ⟨_, rfl⟩
  obtain ⟨fq6, hfq6⟩ : ∃ q, q = cpA fq4 (9 + 1) (16 + 1) (tw 16 * tm 16) := ⟨_, rfl⟩
  have Y : uY g 117 (cX g tq5 fq6) s H locs := by rw [htq5, hfq6]; exact Y
  exact ret _ _ _ _ _ _ dX6_become_33 Y (by subst htq1 hfq2 htq3 hfq4 htq5 hfq6; exact ⟨rfl, rfl⟩)
set_option maxHeartbeats 4000000 in
set_option maxRecDepth 100000 in
theorem ct_X4_become (l : Launch) (g : uG) (t : uN) (f : uF) (k k2 : Nat) (hk : kd k = 4) (hk2 : kd k2 = 4) (hne : k2 ≠ k) (h1 : tOK t (k + 1)) (h2 : tOK t (k2 + 1)) (h4 : t k2 4 = 0 ∨ t k2 4 = 1) : cF_v l yX4_become cX4_become 2 3 g [.ref (g.1 + k), .ref (g.1 + k2)] t f (sheCp t k k2) (cpA f (k2 + 2) (k + 2) 40) := by
  refine eF_v (by decide +kernel) (Nat.le_of_ble_eq_true rfl) ?_
  intro p e R s m args below meth c Q ls H locs X Y hl ret
  have X : uX p 3 R s m args c cX4_become 2 RX4 := X
  have hl : lv_has ls 2 [(0, .ref (g.1 + k)), (1, .ref (g.1 + k2))] := hl
  have e1 : k2 ≠ k + 1 := kd_ne (by rw [hk2, kr_4_0 hk]; decide)
  refine r_aload_n X dX4_become_0 hl 0 rfl ?_
  refine g_4_0 (k := k) X Y hk wm_161 dX4_become_1 ?_
  refine r_aload_n X dX4_become_4 hl 1 rfl ?_
  refine g_4_0 (k := k2) X Y hk2 wm_161 dX4_become_5 ?_
  refine vF_v X Y [.ref (g.1 + (k2+1))] [] (ct_X5_become l g t f (k+1) (k2+1) (kr_4_0 hk) h1 (kr_4_0 hk2) h2 (by rw [(kd4_w hk).1, (kd4_w hk2).1]) (by rw [(kd4_w hk).2, (kd4_w hk2).2])) mk_X5_become mi_X5_become wm_527 (by decide) (rv_5 Y (kr_4_0 hk)) rfl hl (Nat.le_of_ble_eq_true rfl) rfl dX4_become_8 (Nat.zero_le _) (Nat.zero_le _) (fun H locs Y => ?_)
  obtain ⟨tq1, htq1⟩ : ∃ q, q = up2 t (k+1) 3 (t (k2+1) 3) := ⟨_, rfl⟩
  obtain ⟨fq2, hfq2⟩ : ∃ q, q = cpA f ((k2+1) + 1) ((k+1) + 1) (tw (k+1) * tm (k+1)) := ⟨_, rfl⟩
  have Y : uY g 117 (cX g tq1 fq2) s H locs := by rw [htq1, hfq2]; exact Y
  refine r_aload_n X dX4_become_11 hl 0 rfl ?_
  refine r_aload_n X dX4_become_12 hl 1 rfl ?_
  refine g_4_1 (k := k2) X Y hk2 wm_163 dX4_become_13 ?_
  refine p_4_1 (k := k) X Y hk wm_163 dX4_become_16 (fun H locs Y => ?_)
  obtain ⟨tq3, htq3⟩ : ∃ q, q = up2 tq1 k 1 (tq1 k2 1) := ⟨_, rfl⟩
  have Y : uY g 117 (cX g tq3 fq2) s H locs := by rw [htq3]; exact Y
  refine r_aload_n X dX4_become_19 hl 0 rfl ?_
  refine r_aload_n X dX4_become_20 hl 1 rfl ?_
  refine g_4_2 (k := k2) X Y hk2 wm_166 dX4_become_21 ?_
  refine p_4_2 (k := k) X Y hk wm_166 dX4_become_24 (fun H locs Y => ?_)
  obtain ⟨tq4, htq4⟩ : ∃ q, q = up2 tq3 k 2 (tq3 k2 2) := ⟨_, rfl⟩
  have Y : uY g 117 (cX g tq4 fq2) s H locs := by rw [htq4]; exact Y
  refine r_aload_n X dX4_become_27 hl 0 rfl ?_
  refine r_aload_n X dX4_become_28 hl 1 rfl ?_
  refine g_4_3 (k := k2) X Y hk2 wm_169 dX4_become_29 ?_
  refine p_4_3 (k := k) X Y hk wm_169 dX4_become_32 (fun H locs Y => ?_)
  obtain ⟨tq5, htq5⟩ : ∃ q, q = up2 tq4 k 3 (tq4 k2 3) := ⟨_, rfl⟩
  have Y : uY g 117 (cX g tq5 fq2) s H locs := by rw [htq5]; exact Y
  refine r_aload_n X dX4_become_35 hl 0 rfl ?_
  refine r_aload_n X dX4_become_36 hl 1 rfl ?_
  refine g_4_4 (k := k2) X Y hk2 wm_172 dX4_become_37 ?_
  have hz : tq5 k2 4 = 0 ∨ tq5 k2 4 = 1 := by simp only [htq5, htq4, htq3, htq1, up2_k _ _ _ _ hne, up2_k _ _ _ _ e1]; exact h4
  refine p_4_4 (k := k) X Y hk wm_172 (by first | exact Or.inl rfl | exact Or.inr rfl | omega) dX4_become_40 (fun H locs Y => ?_)
  obtain ⟨tq6, htq6⟩ : ∃ q, q = up2 tq5 k 4 (tq5 k2 4) := ⟨_, rfl⟩
  have Y : uY g 117 (cX g tq6 fq2) s H locs := by rw [htq6]; exact Y
  exact ret _ _ _ _ _ _ dX4_become_43 Y (by subst htq1 hfq2 htq3 htq4 htq5 htq6; exact ⟨rfl, by rw [(kd4_w hk).1, (kd4_w hk).2]; rfl⟩)
set_option maxHeartbeats 4000000 in
set_option maxRecDepth 100000 in
theorem ct_X4_begin (l : Launch) (g : uG) (t : uN) (f : uF)  (h12 : tOK t 12) : cF_v l yX4_begin cX4_begin 2 3 g [.ref (g.1 + 18), .ref (g.1 + 11)] t f ((fun t => up2 (up2 (up2 t 18 2 (tget t f 12 0 3)) 18 3 0) 18 4 0) ((fun t => up2 t 18 1 (tget t f 12 0 2)) (up2 t 19 3 0))) (f) := by
  refine eF_v (by decide +kernel) (Nat.le_of_ble_eq_true rfl) ?_
  intro p e R s m args below meth c Q ls H locs X Y hl ret
  have X : uX p 3 R s m args c cX4_begin 2 RX4 := X
  have hl : lv_has ls 2 [(0, .ref (g.1 + 18)), (1, .ref (g.1 + 11))] := hl
  refine r_aload_n X dX4_begin_0 hl 0 rfl ?_
  refine g_4_0 (k := 18) X Y rfl wm_161 dX4_begin_1 ?_
  refine vF_v X Y [] [] (ct_X5_clear l g t f 19 rfl) mk_X5_clear mi_X5_clear wm_418 (by decide) (rv_5 Y rfl) rfl hl (Nat.le_of_ble_eq_true rfl) rfl dX4_begin_4 (Nat.zero_le _) (Nat.zero_le _) (fun H locs Y => ?_)
  obtain ⟨tq1, htq1⟩ : ∃ q, q = up2 t 19 3 0 := ⟨_, rfl⟩
  have Y : uY g 117 (cX g tq1 f) s H locs := by rw [htq1]; exact Y
  refine r_aload_n X dX4_begin_7 hl 0 rfl ?_
  refine r_aload_n X dX4_begin_8 hl 1 rfl ?_
  refine g_6_0 (k := 11) X Y rfl wm_118 dX4_begin_9 ?_
  refine r_iconst X dX4_begin_12 ?_
  refine r_iconst X dX4_begin_13 ?_
  refine vF_i X Y [.int (iV (0)), .int (iV (2))] [.ref (g.1 + 18)] (ct_X5_get l g tq1 f 12 0 2 rfl (by rw [htq1]; exact tOK_k (by decide) h12) ⟨by omega, by omega⟩ ⟨by omega, by omega⟩) mk_X5_get mi_X5_get wm_419 (by decide) (rv_5 Y rfl) rfl hl (Nat.le_of_ble_eq_true rfl) rfl dX4_begin_14 (Nat.zero_le _) (Nat.zero_le _) (fun H locs Y => ?_)
  refine p_4_1 (k := 18) X Y rfl wm_163 dX4_begin_17 (fun H locs Y => ?_)
  obtain ⟨tq2, htq2⟩ : ∃ q, q = up2 tq1 18 1 (tget tq1 f 12 0 2) := ⟨_, rfl⟩
  have Y : uY g 117 (cX g tq2 f) s H locs := by rw [htq2]; exact Y
  refine r_aload_n X dX4_begin_20 hl 0 rfl ?_
  refine r_aload_n X dX4_begin_21 hl 1 rfl ?_
  refine g_6_0 (k := 11) X Y rfl wm_118 dX4_begin_22 ?_
  refine r_iconst X dX4_begin_25 ?_
  refine r_iconst X dX4_begin_26 ?_
  refine vF_i X Y [.int (iV (0)), .int (iV (3))] [.ref (g.1 + 18)] (ct_X5_get l g tq2 f 12 0 3 rfl (by rw [htq2]; exact tOK_k (by decide) (by rw [htq1]; exact tOK_k (by decide) h12)) ⟨by omega, by omega⟩ ⟨by omega, by omega⟩) mk_X5_get mi_X5_get wm_419 (by decide) (rv_5 Y rfl) rfl hl (Nat.le_of_ble_eq_true rfl) rfl dX4_begin_27 (Nat.zero_le _) (Nat.zero_le _) (fun H locs Y => ?_)
  refine p_4_2 (k := 18) X Y rfl wm_166 dX4_begin_30 (fun H locs Y => ?_)
  obtain ⟨tq3, htq3⟩ : ∃ q, q = up2 tq2 18 2 (tget tq2 f 12 0 3) := ⟨_, rfl⟩
  have Y : uY g 117 (cX g tq3 f) s H locs := by rw [htq3]; exact Y
  refine r_aload_n X dX4_begin_33 hl 0 rfl ?_
  refine r_iconst X dX4_begin_34 ?_
  refine p_4_3 (k := 18) X Y rfl wm_169 dX4_begin_35 (fun H locs Y => ?_)
  obtain ⟨tq4, htq4⟩ : ∃ q, q = up2 tq3 18 3 (0) := ⟨_, rfl⟩
  have Y : uY g 117 (cX g tq4 f) s H locs := by rw [htq4]; exact Y
  refine r_aload_n X dX4_begin_38 hl 0 rfl ?_
  refine r_iconst X dX4_begin_39 ?_
  refine p_4_4 (k := 18) X Y rfl wm_172 (by first | exact Or.inl rfl | exact Or.inr rfl | omega) dX4_begin_40 (fun H locs Y => ?_)
  obtain ⟨tq5, htq5⟩ : ∃ q, q = up2 tq4 18 4 (0) := ⟨_, rfl⟩
  have Y : uY g 117 (cX g tq5 f) s H locs := by rw [htq5]; exact Y
  exact ret _ _ _ _ _ _ dX4_begin_43 Y (by subst htq1 htq2 htq3 htq4 htq5; exact ⟨rfl, rfl⟩)
set_option maxHeartbeats 4000000 in
set_option maxRecDepth 100000 in
theorem ct_X1_acts (l : Launch) (g : uG) (t : uN) (f : uF)   : cF_i l yX1_acts cX1_acts 1 (some .int) 1 g [.ref (g.1 + 21)] t f (t 21 2) (t) (f) := by
  refine eF_i (by decide +kernel) (Nat.le_of_ble_eq_true rfl) ?_
  intro p e R s m args below meth c Q ls H locs X Y hl ret
  have X : uX p 1 R s m args c cX1_acts 1 RX1 := X
  have hl : lv_has ls 1 [(0, .ref (g.1 + 21))] := hl
  refine r_aload_n X dX1_acts_0 hl 0 rfl ?_
  refine g_1_2 (k := 21) X Y rfl wm_196 dX1_acts_1 ?_
  exact ret _ _ _ _ _ _ _ dX1_acts_4 Y ⟨rfl, rfl, rfl⟩
set_option maxHeartbeats 4000000 in
set_option maxRecDepth 100000 in
theorem ct_X1_clear (l : Launch) (g : uG) (t : uN) (f : uF)   : cF_v l yX1_clear cX1_clear 1 1 g [.ref (g.1 + 21)] t f (up2 t 21 2 0) (f) := by
  refine eF_v (by decide +kernel) (Nat.le_of_ble_eq_true rfl) ?_
  intro p e R s m args below meth c Q ls H locs X Y hl ret
  have X : uX p 1 R s m args c cX1_clear 1 RX1 := X
  have hl : lv_has ls 1 [(0, .ref (g.1 + 21))] := hl
  refine r_aload_n X dX1_clear_0 hl 0 rfl ?_
  refine r_iconst X dX1_clear_1 ?_
  refine p_1_2 (k := 21) X Y rfl wm_196 dX1_clear_2 (fun H locs Y => ?_)
  obtain ⟨tq1, htq1⟩ : ∃ q, q = up2 t 21 2 (0) := ⟨_, rfl⟩
  have Y : uY g 117 (cX g tq1 f) s H locs := by rw [htq1]; exact Y
  exact ret _ _ _ _ _ _ dX1_clear_5 Y (by subst htq1; exact ⟨rfl, rfl⟩)
set_option maxHeartbeats 4000000 in
set_option maxRecDepth 100000 in
theorem ct_X1_slotOf (l : Launch) (g : uG) (t : uN) (f : uF) (i : Int) (h0 : 0 ≤ i) (h1 : i < 20) : cF_q l yX1_slotOf cX1_slotOf 2 "BottomryLoans$She" 1 g [.ref (g.1 + 21), .int (iV (i))] t f (some (g.1 + (23 + 3 * i.toNat))) (t) (f) := by
  refine eF_q (by decide +kernel) (Nat.le_of_ble_eq_true rfl) ?_
  intro p e R s m args below meth c Q ls H locs X Y hl ret
  have X : uX p 1 R s m args c cX1_slotOf 2 RX1 := X
  have hl : lv_has ls 2 [(0, .ref (g.1 + 21)), (1, .int (iV (i)))] := hl
  refine r_iload_n X dX1_slotOf_0 hl 1 rfl ?_
  refine r_if_lt X (tgt := 22) dX1_slotOf_1 (by decide) ⟨by omega, by omega⟩ (fun c1 => ?_) (fun c1 => ?_)
  · exact absurd c1 (by omega)
  · refine r_iload_n X dX1_slotOf_4 hl 1 rfl ?_
    refine r_aload_n X dX1_slotOf_5 hl 0 rfl ?_
    refine g_1_0 (k := 21) X Y rfl wm_194 dX1_slotOf_6 ?_
    refine g_alen (k := 22) X Y rfl dX1_slotOf_9 ?_
    refine r_icmp_ge X (tgt := 22) dX1_slotOf_10 (by decide) ⟨by omega, by omega⟩ ⟨by omega, by omega⟩ (fun c10 => ?_) (fun c10 => ?_)
    · exact absurd c10 (by omega)
    · refine r_aload_n X dX1_slotOf_13 hl 0 rfl ?_
      refine g_1_0 (k := 21) X Y rfl wm_194 dX1_slotOf_14 ?_
      refine r_iload_n X dX1_slotOf_17 hl 1 rfl ?_
      refine g_ald (k := 22) X Y rfl (by omega) (by omega) dX1_slotOf_18 ?_
      refine r_goto X 23 dX1_slotOf_19 (by decide) ?_
      exact ret _ _ _ _ _ _ _ dX1_slotOf_23 Y ⟨rfl, rfl, rfl⟩
set_option maxHeartbeats 4000000 in
set_option maxRecDepth 100000 in
theorem ct_X1_put (l : Launch) (g : uG) (t : uN) (f : uF)  (h0 : 0 ≤ t 21 1) (h1 : t 21 1 < 20) (h2 : 0 ≤ t 21 2) (h3 : t 21 2 ≤ 20) (hs : tOK t (23 + 3 * (t 21 1).toNat + 1)) (hn : tOK t 19) (h4 : t 18 4 = 0 ∨ t 18 4 = 1) : cF_v l yX1_put cX1_put 3 4 g [.ref (g.1 + 21), .ref (g.1 + 18)] t f (putT t) (putF t f) := by
  refine eF_v (by decide +kernel) (Nat.le_of_ble_eq_true rfl) ?_
  intro p e R s m args below meth c Q ls H locs X Y hl ret
  have X : uX p 4 R s m args c cX1_put 3 RX1 := X
  have hl : lv_has ls 3 [(0, .ref (g.1 + 21)), (1, .ref (g.1 + 18))] := hl
  have e0 : 18 ≠ 23 + 3 * (t 21 1).toNat := by omega
  refine r_aload_n X dX1_put_0 hl 0 rfl ?_
  refine r_aload_n X dX1_put_1 hl 0 rfl ?_
  refine g_1_1 (k := 21) X Y rfl wm_195 dX1_put_2 ?_
  refine vF_q X Y [.int (iV (t 21 1))] [] (ct_X1_slotOf l g t f (t 21 1) (by omega) (by omega)) mk_X1_slotOf mi_X1_slotOf wm_519 (by decide) (rv_1 Y rfl) rfl hl (Nat.le_of_ble_eq_true rfl) rfl dX1_put_5 (Nat.zero_le _) (Nat.zero_le _) (fun H locs Y => ?_)
  refine r_astore_n X dX1_put_8 hl [(2, .ref (g.1 + (23+3*(t 21 1 : Int).toNat))), (0, .ref (g.1 + 21)), (1, .ref (g.1 + 18))] (by decide) rfl (fun ls hl => ?_)
  refine r_aload_n X dX1_put_9 hl 0 rfl ?_
  refine r_ifnull X dX1_put_10 ?_
  refine r_aload_n X dX1_put_13 hl 0 rfl ?_
  refine r_aload_n X dX1_put_14 hl 2 rfl ?_
  refine vF_v X Y [.ref (g.1 + 18)] [] (ct_X4_become l g t f (23+3*(t 21 1 : Int).toNat) 18 (kd_ring (by omega)) rfl e0 hs hn h4) mk_X4_become mi_X4_become wm_523 (by decide) (rv_4 Y (kd_ring (by omega))) rfl hl (Nat.le_of_ble_eq_true rfl) rfl dX1_put_15 (Nat.zero_le _) (Nat.zero_le _) (fun H locs Y => ?_)
  obtain ⟨tq1, htq1⟩ : ∃ q, q = sheCp t (23+3*(t 21 1 : Int).toNat) 18 := ⟨_, rfl⟩
  obtain ⟨fq2, hfq2⟩ : ∃ q, q = cpA f (18 + 2) ((23+3*(t 21 1 : Int).toNat) + 2) 40 := ⟨_, rfl⟩
  have Y : uY g 117 (cX g tq1 fq2) s H locs := by rw [htq1, hfq2]; exact Y
  have e1 : tq1 21 1 = t 21 1 := by rw [htq1]; exact sheCp_off (by omega) (by omega) 1
  have e2 : tq1 21 2 = t 21 2 := by rw [htq1]; exact sheCp_off (by omega) (by omega) 2
  refine r_aload_n X dX1_put_18 hl 1 rfl ?_
  refine r_aload_n X dX1_put_19 hl 1 rfl ?_
  refine g_1_1 (k := 21) X Y rfl wm_195 dX1_put_20 ?_
  refine r_iconst X dX1_put_23 ?_
  refine r_iadd X dX1_put_24 ?_
  refine r_bipush X 20 dX1_put_25 (by decide) ?_
  refine r_icmp_ge X (tgt := 39) dX1_put_27 (by decide) ⟨by omega, by omega⟩ ⟨by omega, by omega⟩ (fun c27 => ?_) (fun c27 => ?_)
  · refine r_iconst X dX1_put_39 ?_
    refine p_1_1 (k := 21) X Y rfl wm_195 dX1_put_40 (fun H locs Y => ?_)
    obtain ⟨tq3, htq3⟩ : ∃ q, q = up2 tq1 21 1 (0) := ⟨_, rfl⟩
    have Y : uY g 117 (cX g tq3 fq2) s H locs := by rw [htq3]; exact Y
    refine r_aload_n X dX1_put_43 hl 1 rfl ?_
    refine r_bipush X 20 dX1_put_44 (by decide) ?_
    refine r_aload_n X dX1_put_46 hl 1 rfl ?_
    refine g_1_2 (k := 21) X Y rfl wm_196 dX1_put_47 ?_
    refine r_iconst X dX1_put_50 ?_
    refine r_iadd X dX1_put_51 ?_
    have e3 : tq3 21 2 = t 21 2 := by rw [htq3, up2_j _ _ _ (by decide)]; exact e2
    refine r_min X hl (by decide) (Nat.zero_le _) (Nat.zero_le _) wm_528 (Nat.le_of_ble_eq_true rfl) dX1_put_52 ⟨by omega, by omega⟩ ⟨by omega, by omega⟩ ?_
    refine p_1_2 (k := 21) X Y rfl wm_196 dX1_put_55 (fun H locs Y => ?_)
    obtain ⟨tq4, htq4⟩ : ∃ q, q = up2 tq3 21 2 (min 20 ((tq3 21 2) + 1)) := ⟨_, rfl⟩
    have Y : uY g 117 (cX g tq4 fq2) s H locs := by rw [htq4]; exact Y
    exact ret _ _ _ _ _ _ dX1_put_58 Y ⟨by rw [htq4, htq3]; unfold putT; rw [← htq1]; simp only []; first | rw [if_pos (by omega)] | rw [if_neg (by omega)], by rw [hfq2]; rfl⟩
  · refine r_aload_n X dX1_put_30 hl 1 rfl ?_
    refine g_1_1 (k := 21) X Y rfl wm_195 dX1_put_31 ?_
    refine r_iconst X dX1_put_34 ?_
    refine r_iadd X dX1_put_35 ?_
    refine r_goto X 40 dX1_put_36 (by decide) ?_
    refine p_1_1 (k := 21) X Y rfl wm_195 dX1_put_40 (fun H locs Y => ?_)
    obtain ⟨tq3, htq3⟩ : ∃ q, q = up2 tq1 21 1 ((tq1 21 1) + 1) := ⟨_, rfl⟩
    have Y : uY g 117 (cX g tq3 fq2) s H locs := by rw [htq3]; exact Y
    refine r_aload_n X dX1_put_43 hl 1 rfl ?_
    refine r_bipush X 20 dX1_put_44 (by decide) ?_
    refine r_aload_n X dX1_put_46 hl 1 rfl ?_
    refine g_1_2 (k := 21) X Y rfl wm_196 dX1_put_47 ?_
    refine r_iconst X dX1_put_50 ?_
    refine r_iadd X dX1_put_51 ?_
    have e3 : tq3 21 2 = t 21 2 := by rw [htq3, up2_j _ _ _ (by decide)]; exact e2
    refine r_min X hl (by decide) (Nat.zero_le _) (Nat.zero_le _) wm_528 (Nat.le_of_ble_eq_true rfl) dX1_put_52 ⟨by omega, by omega⟩ ⟨by omega, by omega⟩ ?_
    refine p_1_2 (k := 21) X Y rfl wm_196 dX1_put_55 (fun H locs Y => ?_)
    obtain ⟨tq4, htq4⟩ : ∃ q, q = up2 tq3 21 2 (min 20 ((tq3 21 2) + 1)) := ⟨_, rfl⟩
    have Y : uY g 117 (cX g tq4 fq2) s H locs := by rw [htq4]; exact Y
    exact ret _ _ _ _ _ _ dX1_put_58 Y ⟨by rw [htq4, htq3]; unfold putT; rw [← htq1]; simp only []; first | rw [if_pos (by omega)] | rw [if_neg (by omega)], by rw [hfq2]; rfl⟩
set_option maxHeartbeats 4000000 in
set_option maxRecDepth 100000 in
theorem ct_X1_takeBack (l : Launch) (g : uG) (t : uN) (f : uF)  (h0 : 0 ≤ t 21 1) (h1 : t 21 1 < 20) (h2 : 0 < t 21 2) (h3 : t 21 2 ≤ 20) (hs : tOK t (23 + 3 * (latC t).toNat + 1)) (hn : tOK t 19) (h4 : t (23 + 3 * (latC t).toNat) 4 = 0 ∨ t (23 + 3 * (latC t).toNat) 4 = 1) : cF_v l yX1_takeBack cX1_takeBack 4 4 g [.ref (g.1 + 21), .ref (g.1 + 18)] t f (takT t) (takF t f) := by
  refine eF_v (by decide +kernel) (Nat.le_of_ble_eq_true rfl) ?_
  intro p e R s m args below meth c Q ls H locs X Y hl ret
  have X : uX p 4 R s m args c cX1_takeBack 4 RX1 := X
  have hl : lv_has ls 4 [(0, .ref (g.1 + 21)), (1, .ref (g.1 + 18))] := hl
  refine r_aload_n X dX1_takeBack_0 hl 0 rfl ?_
  refine g_1_1 (k := 21) X Y rfl wm_195 dX1_takeBack_1 ?_
  refine r_if_le X (tgt := 16) dX1_takeBack_4 (by decide) ⟨by omega, by omega⟩ (fun c4 => ?_) (fun c4 => ?_)
  · have el : latC t = 19 := by unfold latC; rw [if_neg (by omega)]
    rw [el] at hs h4
    refine r_bipush X 19 dX1_takeBack_16 (by decide) ?_
    refine r_istore_n X dX1_takeBack_18 hl [(2, .int (iV (19))), (0, .ref (g.1 + 21)), (1, .ref (g.1 + 18))] (by decide) rfl (fun ls hl => ?_)
    refine r_aload_n X dX1_takeBack_19 hl 1 rfl ?_
    refine r_iload_n X dX1_takeBack_20 hl 0 rfl ?_
    refine vF_q X Y [.int (iV (19))] [] (ct_X1_slotOf l g t f 19 (by omega) (by omega)) mk_X1_slotOf mi_X1_slotOf wm_519 (by decide) (rv_1 Y rfl) rfl hl (Nat.le_of_ble_eq_true rfl) rfl dX1_takeBack_21 (Nat.zero_le _) (Nat.zero_le _) (fun H locs Y => ?_)
    refine r_astore_n X dX1_takeBack_24 hl [(3, .ref (g.1 + (23+3*(19 : Int).toNat))), (2, .int (iV (19))), (0, .ref (g.1 + 21)), (1, .ref (g.1 + 18))] (by decide) rfl (fun ls hl => ?_)
    refine r_aload_n X dX1_takeBack_25 hl 0 rfl ?_
    refine r_ifnull X dX1_takeBack_26 ?_
    refine r_aload_n X dX1_takeBack_29 hl 2 rfl ?_
    refine g_1_2 (k := 21) X Y rfl wm_196 dX1_takeBack_30 ?_
    refine r_if_le X (tgt := 56) dX1_takeBack_33 (by decide) ⟨by omega, by omega⟩ (fun c33 => ?_) (fun c33 => ?_)
    · exact absurd c33 (by omega)
    · refine r_aload_n X dX1_takeBack_36 hl 3 rfl ?_
      refine r_aload_n X dX1_takeBack_37 hl 0 rfl ?_
      refine vF_v X Y [.ref (g.1 + (23+3*(19 : Int).toNat))] [] (ct_X4_become l g t f 18 (23+3*(19 : Int).toNat) rfl (kd_ring (by omega)) (by omega) hn hs h4) mk_X4_become mi_X4_become wm_523 (by decide) (rv_4 Y rfl) rfl hl (Nat.le_of_ble_eq_true rfl) rfl dX1_takeBack_38 (Nat.zero_le _) (Nat.zero_le _) (fun H locs Y => ?_)
      obtain ⟨tq1, htq1⟩ : ∃ q, q = sheCp t 18 (23+3*(19 : Int).toNat) := ⟨_, rfl⟩
      obtain ⟨fq2, hfq2⟩ : ∃ q, q = cpA f ((23+3*(19 : Int).toNat) + 2) (18 + 2) 40 := ⟨_, rfl⟩
      have Y : uY g 117 (cX g tq1 fq2) s H locs := by rw [htq1, hfq2]; exact Y
      have e1 : tq1 21 2 = t 21 2 := by rw [htq1]; exact sheCp_off (by decide) (by decide) 2
      refine r_aload_n X dX1_takeBack_41 hl 2 rfl ?_
      refine r_iload_n X dX1_takeBack_42 hl 1 rfl ?_
      refine p_1_1 (k := 21) X Y rfl wm_195 dX1_takeBack_43 (fun H locs Y => ?_)
      obtain ⟨tq3, htq3⟩ : ∃ q, q = up2 tq1 21 1 (19) := ⟨_, rfl⟩
      have Y : uY g 117 (cX g tq3 fq2) s H locs := by rw [htq3]; exact Y
      refine r_aload_n X dX1_takeBack_46 hl 2 rfl ?_
      refine r_dup X dX1_takeBack_47 rfl ?_
      refine g_1_2 (k := 21) X Y rfl wm_196 dX1_takeBack_48 ?_
      refine r_iconst X dX1_takeBack_51 ?_
      refine r_isub X dX1_takeBack_52 ?_
      refine p_1_2 (k := 21) X Y rfl wm_196 dX1_takeBack_53 (fun H locs Y => ?_)
      obtain ⟨tq4, htq4⟩ : ∃ q, q = up2 tq3 21 2 ((tq3 21 2) - 1) := ⟨_, rfl⟩
      have Y : uY g 117 (cX g tq4 fq2) s H locs := by rw [htq4]; exact Y
      exact ret _ _ _ _ _ _ dX1_takeBack_56 Y ⟨by unfold takT; rw [el, htq4, htq3, htq1], by unfold takF; rw [el, hfq2]⟩
  · have el : latC t = t 21 1 - 1 := by unfold latC; rw [if_pos (by omega)]
    rw [el] at hs h4
    refine r_aload_n X dX1_takeBack_7 hl 0 rfl ?_
    refine g_1_1 (k := 21) X Y rfl wm_195 dX1_takeBack_8 ?_
    refine r_iconst X dX1_takeBack_11 ?_
    refine r_isub X dX1_takeBack_12 ?_
    refine r_goto X 18 dX1_takeBack_13 (by decide) ?_
    refine r_istore_n X dX1_takeBack_18 hl [(2, .int (iV ((t 21 1) - 1))), (0, .ref (g.1 + 21)), (1, .ref (g.1 + 18))] (by decide) rfl (fun ls hl => ?_)
    refine r_aload_n X dX1_takeBack_19 hl 1 rfl ?_
    refine r_iload_n X dX1_takeBack_20 hl 0 rfl ?_
    refine vF_q X Y [.int (iV ((t 21 1) - 1))] [] (ct_X1_slotOf l g t f ((t 21 1) - 1) (by omega) (by omega)) mk_X1_slotOf mi_X1_slotOf wm_519 (by decide) (rv_1 Y rfl) rfl hl (Nat.le_of_ble_eq_true rfl) rfl dX1_takeBack_21 (Nat.zero_le _) (Nat.zero_le _) (fun H locs Y => ?_)
    refine r_astore_n X dX1_takeBack_24 hl [(3, .ref (g.1 + (23+3*((t 21 1) - 1 : Int).toNat))), (2, .int (iV ((t 21 1) - 1))), (0, .ref (g.1 + 21)), (1, .ref (g.1 + 18))] (by decide) rfl (fun ls hl => ?_)
    refine r_aload_n X dX1_takeBack_25 hl 0 rfl ?_
    refine r_ifnull X dX1_takeBack_26 ?_
    refine r_aload_n X dX1_takeBack_29 hl 2 rfl ?_
    refine g_1_2 (k := 21) X Y rfl wm_196 dX1_takeBack_30 ?_
    refine r_if_le X (tgt := 56) dX1_takeBack_33 (by decide) ⟨by omega, by omega⟩ (fun c33 => ?_) (fun c33 => ?_)
    · exact absurd c33 (by omega)
    · refine r_aload_n X dX1_takeBack_36 hl 3 rfl ?_
      refine r_aload_n X dX1_takeBack_37 hl 0 rfl ?_
      refine vF_v X Y [.ref (g.1 + (23+3*((t 21 1) - 1 : Int).toNat))] [] (ct_X4_become l g t f 18 (23+3*((t 21 1) - 1 : Int).toNat) rfl (kd_ring (by omega)) (by omega) hn hs h4) mk_X4_become mi_X4_become wm_523 (by decide) (rv_4 Y rfl) rfl hl (Nat.le_of_ble_eq_true rfl) rfl dX1_takeBack_38 (Nat.zero_le _) (Nat.zero_le _) (fun H locs Y => ?_)
      obtain ⟨tq1, htq1⟩ : ∃ q, q = sheCp t 18 (23+3*((t 21 1) - 1 : Int).toNat) := ⟨_, rfl⟩
      obtain ⟨fq2, hfq2⟩ : ∃ q, q = cpA f ((23+3*((t 21 1) - 1 : Int).toNat) + 2) (18 + 2) 40 := ⟨_, rfl⟩
      have Y : uY g 117 (cX g tq1 fq2) s H locs := by rw [htq1, hfq2]; exact Y
      have e1 : tq1 21 2 = t 21 2 := by rw [htq1]; exact sheCp_off (by decide) (by decide) 2
      refine r_aload_n X dX1_takeBack_41 hl 2 rfl ?_
      refine r_iload_n X dX1_takeBack_42 hl 1 rfl ?_
      refine p_1_1 (k := 21) X Y rfl wm_195 dX1_takeBack_43 (fun H locs Y => ?_)
      obtain ⟨tq3, htq3⟩ : ∃ q, q = up2 tq1 21 1 ((t 21 1) - 1) := ⟨_, rfl⟩
      have Y : uY g 117 (cX g tq3 fq2) s H locs := by rw [htq3]; exact Y
      refine r_aload_n X dX1_takeBack_46 hl 2 rfl ?_
      refine r_dup X dX1_takeBack_47 rfl ?_
      refine g_1_2 (k := 21) X Y rfl wm_196 dX1_takeBack_48 ?_
      refine r_iconst X dX1_takeBack_51 ?_
      refine r_isub X dX1_takeBack_52 ?_
      refine p_1_2 (k := 21) X Y rfl wm_196 dX1_takeBack_53 (fun H locs Y => ?_)
      obtain ⟨tq4, htq4⟩ : ∃ q, q = up2 tq3 21 2 ((tq3 21 2) - 1) := ⟨_, rfl⟩
      have Y : uY g 117 (cX g tq4 fq2) s H locs := by rw [htq4]; exact Y
      exact ret _ _ _ _ _ _ dX1_takeBack_56 Y ⟨by unfold takT; rw [el, htq4, htq3, htq1], by unfold takF; rw [el, hfq2]⟩

/-! tables (open, add, become) and the ship by contract -/
set_option maxHeartbeats 4000000 in
set_option maxRecDepth 100000 in
theorem ct_X5_open (l : Launch) (g : uG) (t : uN) (f : uF) (k : Nat) (hk : kd k = 5) (ht : tOK t k) : cF_i l yX5_open cX5_open 1 (some .int) 2 g [.ref (g.1 + k)] t f (topenR t k) (topenT t k) (f) := by
  refine eF_i (by decide +kernel) (Nat.le_of_ble_eq_true rfl) ?_
  intro p e R s m args below meth c Q ls H locs X Y hl ret
  have X : uX p 2 R s m args c cX5_open 1 RX5 := X
  have hl : lv_has ls 1 [(0, .ref (g.1 + k))] := hl
  have hw := kd5_w hk
  have hal := kd5_al hk
  have h3 := ht.1
  have h3b := ht.2
  have hf0 : tfull t k = 0 ↔ t k 3 < tm k := by unfold tfull; split <;> omega
  have hf1 : 0 ≤ tfull t k ∧ tfull t k ≤ 1 := by unfold tfull; split <;> omega
  refine r_aload_n X dX5_open_0 hl 0 rfl ?_
  refine vF_i X Y [] [] (ct_X5_isFull l g t f k hk (ht)) mk_X5_isFull mi_X5_isFull wm_311 (by decide) (rv_5 Y hk) rfl hl (Nat.le_of_ble_eq_true rfl) rfl dX5_open_1 (Nat.zero_le _) (Nat.zero_le _) (fun H locs Y => ?_)
  refine r_if_eq X (tgt := 9) dX5_open_4 (by decide) ⟨by omega, by omega⟩ (fun c4 => ?_) (fun c4 => ?_)
  · refine r_aload_n X dX5_open_9 hl 0 rfl ?_
    refine r_dup X dX5_open_10 rfl ?_
    refine g_5_3 (k := k) X Y hk wm_92 dX5_open_11 ?_
    refine r_iconst X dX5_open_14 ?_
    refine r_iadd X dX5_open_15 ?_
    refine p_5_3 (k := k) X Y hk wm_92 dX5_open_16 (fun H locs Y => ?_)
    obtain ⟨tq1, htq1⟩ : ∃ q, q = up2 t k 3 ((t k 3) + 1) := ⟨_, rfl⟩
    have Y : uY g 117 (cX g tq1 f) s H locs := by rw [htq1]; exact Y
    refine r_aload_n X dX5_open_19 hl 0 rfl ?_
    refine g_5_3 (k := k) X Y hk wm_92 dX5_open_20 ?_
    refine r_iconst X dX5_open_23 ?_
    refine r_isub X dX5_open_24 ?_
    exact ret _ _ _ _ _ _ _ dX5_open_25 Y ⟨by rw [topenR, if_neg (by omega), htq1, up2_s]; omega, by rw [topenT, if_neg (by omega)]; exact htq1, rfl⟩
  · refine r_iconst X dX5_open_7 ?_
    exact ret _ _ _ _ _ _ _ dX5_open_8 Y ⟨by rw [topenR, if_pos (by omega)], by rw [topenT, if_pos (by omega)], rfl⟩
set_option maxHeartbeats 4000000 in
set_option maxRecDepth 100000 in
theorem ct_X5_add (l : Launch) (g : uG) (t : uN) (f : uF) (k : Nat) (v : Int) (hk : kd k = 5) (ht : tOK t k) : cF_v l yX5_add cX5_add 2 3 g [.ref (g.1 + k), .int (iV (v))] t f (topenT t k) (tset (topenT t k) f k (topenR t k) 0 v) := by
  refine eF_v (by decide +kernel) (Nat.le_of_ble_eq_true rfl) ?_
  intro p e R s m args below meth c Q ls H locs X Y hl ret
  have X : uX p 3 R s m args c cX5_add 2 RX5 := X
  have hl : lv_has ls 2 [(0, .ref (g.1 + k)), (1, .int (iV (v)))] := hl
  have hw := kd5_w hk
  have hal := kd5_al hk
  have h3 := ht.1
  have h3b := ht.2
  have hr := topenR_rng hk ht
  refine r_aload_n X dX5_add_0 hl 0 rfl ?_
  refine r_aload_n X dX5_add_1 hl 0 rfl ?_
  refine vF_i X Y [] [.ref (g.1 + k)] (ct_X5_open l g t f k hk ht) mk_X5_open mi_X5_open wm_307 (by decide) (rv_5 Y hk) rfl hl (Nat.le_of_ble_eq_true rfl) rfl dX5_add_2 (Nat.zero_le _) (Nat.zero_le _) (fun H locs Y => ?_)
  obtain ⟨tq1, htq1⟩ : ∃ q, q = topenT t k := ⟨_, rfl⟩
  have Y : uY g 117 (cX g tq1 f) s H locs := by rw [htq1]; exact Y
  refine r_iconst X dX5_add_5 ?_
  refine r_iload_n X dX5_add_6 hl 1 rfl ?_
  have ht2 : tOK tq1 k := by rw [htq1]; exact topenT_ok ht
  refine vF_v X Y [.int (iV (topenR t k)), .int (iV (0)), .int (iV (v))] [] (ct_X5_set l g tq1 f k (topenR t k) 0 v hk ht2 ⟨by omega, by omega⟩ ⟨by omega, by omega⟩) mk_X5_set mi_X5_set wm_312 (by decide) (rv_5 Y hk) rfl hl (Nat.le_of_ble_eq_true rfl) rfl dX5_add_7 (Nat.zero_le _) (Nat.zero_le _) (fun H locs Y => ?_)
  obtain ⟨fq2, hfq2⟩ : ∃ q, q = tset tq1 f k (topenR t k) 0 v := ⟨_, rfl⟩
  have Y : uY g 117 (cX g tq1 fq2) s H locs := by rw [hfq2]; exact Y
  exact ret _ _ _ _ _ _ dX5_add_10 Y (by subst htq1 hfq2; exact ⟨rfl, rfl⟩)
set_option maxHeartbeats 4000000 in
set_option maxRecDepth 100000 in
theorem ct_X5_become (l : Launch) (g : uG) (t : uN) (f : uF) (k k2 : Nat) (hk : kd k = 5) (ht : tOK t k) (hk2 : kd k2 = 5) (ht2 : tOK t k2) (he1 : tw k = tw k2) (he2 : tm k = tm k2) : cF_v l yX5_become cX5_become 2 2 g [.ref (g.1 + k), .ref (g.1 + k2)] t f (up2 t k 3 (t k2 3)) (cpA f (k2 + 1) (k + 1) (tw k * tm k)) := by
  refine eF_v (by decide +kernel) (Nat.le_of_ble_eq_true rfl) ?_
  intro p e R s m args below meth c Q ls H locs X Y hl ret
  have X : uX p 2 R s m args c cX5_become 2 RX5 := X
  have hl : lv_has ls 2 [(0, .ref (g.1 + k)), (1, .ref (g.1 + k2))] := hl
  have hw := kd5_w hk
  have hal := kd5_al hk
  have h3 := ht.1
  have h3b := ht.2
  have hw2 := kd5_w hk2
  have hal2 := kd5_al hk2
  have h4 := ht2.1
  have h4b := ht2.2
  rw [← he1, ← he2] at hal2
  have hmn : (0 : Int) ≤ tw k * tm k := by omega
  refine r_aload_n X dX5_become_0 hl 0 rfl ?_
  refine r_aload_n X dX5_become_1 hl 1 rfl ?_
  refine g_5_3 (k := k2) X Y hk2 wm_92 dX5_become_2 ?_
  refine r_aload_n X dX5_become_5 hl 0 rfl ?_
  refine g_5_1 (k := k) X Y hk wm_90 dX5_become_6 ?_
  refine r_min X hl (by decide) (Nat.zero_le _) (Nat.zero_le _) wm_410 (Nat.le_of_ble_eq_true rfl) dX5_become_9 ⟨by omega, by omega⟩ ⟨by omega, by omega⟩ ?_
  refine p_5_3 (k := k) X Y hk wm_92 dX5_become_12 (fun H locs Y => ?_)
  obtain ⟨tq1, htq1⟩ : ∃ q, q = up2 t k 3 (min (t k2 3) (tm k)) := ⟨_, rfl⟩
  have Y : uY g 117 (cX g tq1 f) s H locs := by rw [htq1]; exact Y
  refine r_aload_n X dX5_become_15 hl 1 rfl ?_
  refine g_5_2 (k := k2) X Y hk2 wm_91 dX5_become_16 ?_
  refine r_iconst X dX5_become_19 ?_
  refine r_aload_n X dX5_become_20 hl 0 rfl ?_
  refine g_5_2 (k := k) X Y hk wm_91 dX5_become_21 ?_
  refine r_iconst X dX5_become_24 ?_
  refine r_aload_n X dX5_become_25 hl 1 rfl ?_
  refine g_5_2 (k := k2) X Y hk2 wm_91 dX5_become_26 ?_
  refine g_ilen (k := (k2+1)) X Y (kr_5_2 hk2) dX5_become_29 ?_
  refine r_aload_n X dX5_become_30 hl 0 rfl ?_
  refine g_5_2 (k := k) X Y hk wm_91 dX5_become_31 ?_
  refine g_ilen (k := (k+1)) X Y (kr_5_2 hk) dX5_become_34 ?_
  refine r_min X hl (by decide) (Nat.zero_le _) (Nat.zero_le _) wm_410 (Nat.le_of_ble_eq_true rfl) dX5_become_35 ⟨by omega, by omega⟩ ⟨by omega, by omega⟩ ?_
  refine r_copy (a := (k2+1)) (b := (k+1)) X Y hl (by decide) wm_411 (kr_5_2 hk2) (kr_5_2 hk) (by omega) (by omega) (by omega) (Nat.le_of_ble_eq_true rfl) dX5_become_38 (fun H locs Y => ?_)
  obtain ⟨fq2, hfq2⟩ : ∃ q, q = cpA f (k2+1) (k+1) (min (al (k2+1) : Nat) (al (k+1) : Nat)) := ⟨_, rfl⟩
  have Y : uY g 117 (cX g tq1 fq2) s H locs := by rw [hfq2]; exact Y
  exact ret _ _ _ _ _ _ dX5_become_41 Y ⟨by rw [htq1, show min (t k2 3) (tm k) = t k2 3 by omega], by rw [hfq2, show min ((al (k2 + 1) : Nat) : Int) ((al (k + 1) : Nat) : Int) = tw k * tm k by omega]⟩
set_option maxHeartbeats 4000000 in
set_option maxRecDepth 100000 in
theorem ct_X4_lentBy (l : Launch) (g : uG) (t : uN) (f : uF) (k : Nat) (m0 : Int) (hk : kd k = 4) (h : SOK t f k) (hm : inI m0) : cF_i l yX4_lentBy cX4_lentBy 4 (some .int) 3 g [.ref (g.1 + k), .int (iV (m0))] t f (lentS t f k m0) (t) (f) := by
  refine eF_i (by decide +kernel) (Nat.le_of_ble_eq_true rfl) ?_
  intro p e R s m args below meth c Q ls H locs X Y hl ret
  have X : uX p 3 R s m args c cX4_lentBy 4 RX4 := X
  have hl : lv_has ls 4 [(0, .ref (g.1 + k)), (1, .int (iV (m0)))] := hl
  have hn := h.n hk
  have hb := h.2.1
  have hb2 := h.2.2.1
  have hb3 := h.2.2.2.1
  have hb4 := h.2.2.2.2.1
  have hk1 := kr_4_0 hk
  have ht := h.1
  refine r_iconst X dX4_lentBy_0 ?_
  refine r_istore_n X dX4_lentBy_1 hl [(2, .int (iV (0))), (0, .ref (g.1 + k)), (1, .int (iV (m0)))] (by decide) rfl (fun ls hl => ?_)
  refine r_iconst X dX4_lentBy_2 ?_
  refine r_istore_n X dX4_lentBy_3 hl [(3, .int (iV (0))), (2, .int (iV (0))), (0, .ref (g.1 + k)), (1, .int (iV (m0)))] (by decide) rfl (fun ls hl => ?_)
  have loop4 : ∀ (N : Nat) (i : Int) (a : Int) (hi0 : 0 ≤ i) (hi1 : i ≤ 0 ∨ i ≤ t (k + 1) 3) (ha : a = sumR (lentX t f k m0) 0 i) (H : Heap) (locs : List Loc) (ls : Array Slot), ((t (k + 1) 3) - i).toNat < N → uY g 117 (cX g t f) s H locs → lv_has ls 4 [(2, .int (iV (a))), (3, .int (iV (i))), (0, .ref (g.1 + k)), (1, .int (iV (m0)))] → W p l e R s m args below meth c H locs 0 0 Q (F0 m 4 ls []) := by
    intro N
    induction N with
    | zero => intro i a hi0 hi1 ha H locs ls hmu Y hl; exact absurd hmu (Nat.not_lt_zero _)
    | succ N ih =>
      intro i a hi0 hi1 ha H locs ls hmu Y hl
      have hrow := h.2.2.2.2.2 i
      have har := sumR_rng (lentX t f k m0) (0) i 999 (by omega) 8 (by omega) (fun j _ _ => lentX_rng h m0 j)
      rw [← ha] at har
      refine r_iload_n X dX4_lentBy_4 hl 1 rfl ?_
      refine r_aload_n X dX4_lentBy_5 hl 2 rfl ?_
      refine g_4_0 (k := k) X Y hk wm_161 dX4_lentBy_6 ?_
      refine vF_i X Y [] [.int (iV (i))] (ct_X5_rows l g t f (k+1) (kr_4_0 hk)) mk_X5_rows mi_X5_rows wm_449 (by decide) (rv_5 Y (kr_4_0 hk)) rfl hl (Nat.le_of_ble_eq_true rfl) rfl dX4_lentBy_9 (Nat.zero_le _) (Nat.zero_le _) (fun H locs Y => ?_)
      refine r_icmp_ge X (tgt := 50) dX4_lentBy_12 (by decide) ⟨by omega, by omega⟩ ⟨by omega, by omega⟩ (fun c12 => ?_) (fun c12 => ?_)
      · refine r_iload_n X dX4_lentBy_50 hl 0 rfl ?_
        exact ret _ _ _ _ _ _ _ dX4_lentBy_51 Y ⟨by rw [ha]; exact sum_fin hi0 hi1 (by omega), rfl, rfl⟩
      · refine r_iload_n X dX4_lentBy_15 hl 0 rfl ?_
        refine r_aload_n X dX4_lentBy_16 hl 2 rfl ?_
        refine g_4_0 (k := k) X Y hk wm_161 dX4_lentBy_17 ?_
        refine r_iload_n X dX4_lentBy_20 hl 1 rfl ?_
        refine r_iconst X dX4_lentBy_21 ?_
        refine vF_i X Y [.int (iV (i)), .int (iV (0))] [.int (iV (a))] (ct_X5_get l g t f (k+1) i 0 (kr_4_0 hk) h.1 ⟨by omega, by omega⟩ ⟨by omega, by omega⟩) mk_X5_get mi_X5_get wm_419 (by decide) (rv_5 Y (kr_4_0 hk)) rfl hl (Nat.le_of_ble_eq_true rfl) rfl dX4_lentBy_22 (Nat.zero_le _) (Nat.zero_le _) (fun H locs Y => ?_)
        refine r_iload_n X dX4_lentBy_25 hl 3 rfl ?_
        refine r_icmp_ne X (tgt := 41) dX4_lentBy_26 (by decide) ⟨by omega, by omega⟩ ⟨by omega, by omega⟩ (fun c26 => ?_) (fun c26 => ?_)
        · refine r_iconst X dX4_lentBy_41 ?_
          refine r_iadd X dX4_lentBy_42 ?_
          refine r_istore_n X dX4_lentBy_43 hl [(2, .int (iV (a + 0))), (3, .int (iV (i))), (0, .ref (g.1 + k)), (1, .int (iV (m0)))] (by decide) rfl (fun ls hl => ?_)
          refine r_iinc X dX4_lentBy_44 hl 1 rfl [(3, .int (iV (i + 1))), (2, .int (iV (a + 0))), (0, .ref (g.1 + k)), (1, .int (iV (m0)))] (by decide) rfl (fun ls hl => ?_)
          refine r_goto X 4 dX4_lentBy_47 (by decide) ?_
          exact ih (i + 1) (a + 0) (by omega) (by omega) (by rw [sumR_succ _ (by omega), ← ha]; unfold lentX; (first | rw [if_pos (by omega)] | rw [if_neg (by omega)])) _ _ _ (by omega) Y (lv_sub hl [1, 0, 2, 3] rfl)
        · refine r_aload_n X dX4_lentBy_29 hl 2 rfl ?_
          refine g_4_0 (k := k) X Y hk wm_161 dX4_lentBy_30 ?_
          refine r_iload_n X dX4_lentBy_33 hl 1 rfl ?_
          refine r_iconst X dX4_lentBy_34 ?_
          refine vF_i X Y [.int (iV (i)), .int (iV (1))] [.int (iV (a))] (ct_X5_get l g t f (k+1) i 1 (kr_4_0 hk) h.1 ⟨by omega, by omega⟩ ⟨by omega, by omega⟩) mk_X5_get mi_X5_get wm_419 (by decide) (rv_5 Y (kr_4_0 hk)) rfl hl (Nat.le_of_ble_eq_true rfl) rfl dX4_lentBy_35 (Nat.zero_le _) (Nat.zero_le _) (fun H locs Y => ?_)
          refine r_goto X 42 dX4_lentBy_38 (by decide) ?_
          refine r_iadd X dX4_lentBy_42 ?_
          refine r_istore_n X dX4_lentBy_43 hl [(2, .int (iV (a + (tget t f (k+1) i 1)))), (3, .int (iV (i))), (0, .ref (g.1 + k)), (1, .int (iV (m0)))] (by decide) rfl (fun ls hl => ?_)
          refine r_iinc X dX4_lentBy_44 hl 1 rfl [(3, .int (iV (i + 1))), (2, .int (iV (a + (tget t f (k+1) i 1)))), (0, .ref (g.1 + k)), (1, .int (iV (m0)))] (by decide) rfl (fun ls hl => ?_)
          refine r_goto X 4 dX4_lentBy_47 (by decide) ?_
          exact ih (i + 1) (a + (tget t f (k+1) i 1)) (by omega) (by omega) (by rw [sumR_succ _ (by omega), ← ha]; unfold lentX; (first | rw [if_pos (by omega)] | rw [if_neg (by omega)])) _ _ _ (by omega) Y (lv_sub hl [1, 0, 2, 3] rfl)
  exact loop4 ((((t (k + 1) 3) - (0)).toNat) + 1) 0 0 (by omega) (by omega) (sumR_nil _ (by omega)).symm _ _ _ (Nat.lt_succ_self _) Y (lv_sub hl [1, 0, 2, 3] rfl)
set_option maxHeartbeats 4000000 in
set_option maxRecDepth 100000 in
theorem ct_X4_dueFrom (l : Launch) (g : uG) (t : uN) (f : uF) (k : Nat) (first kind : Int) (hk : kd k = 4) (h : SOK t f k) (h0 : 0 ≤ first) (h1 : first ≤ 8) (h2 : inI kind) : cF_i l yX4_dueFrom cX4_dueFrom 5 (some .int) 3 g [.ref (g.1 + k), .int (iV (first)), .int (iV (kind))] t f (dueS t f k first kind) (t) (f) := by
  refine eF_i (by decide +kernel) (Nat.le_of_ble_eq_true rfl) ?_
  intro p e R s m args below meth c Q ls H locs X Y hl ret
  have X : uX p 3 R s m args c cX4_dueFrom 5 RX4 := X
  have hl : lv_has ls 5 [(0, .ref (g.1 + k)), (1, .int (iV (first))), (2, .int (iV (kind)))] := hl
  have hn := h.n hk
  have hb := h.2.1
  have hb2 := h.2.2.1
  have hb3 := h.2.2.2.1
  have hb4 := h.2.2.2.2.1
  have hk1 := kr_4_0 hk
  have ht := h.1
  refine r_iconst X dX4_dueFrom_0 ?_
  refine r_istore_n X dX4_dueFrom_1 hl [(3, .int (iV (0))), (0, .ref (g.1 + k)), (1, .int (iV (first))), (2, .int (iV (kind)))] (by decide) rfl (fun ls hl => ?_)
  refine r_iload_n X dX4_dueFrom_2 hl 2 rfl ?_
  refine r_istore X dX4_dueFrom_3 hl [(4, .int (iV (first))), (3, .int (iV (0))), (0, .ref (g.1 + k)), (1, .int (iV (first))), (2, .int (iV (kind)))] (by decide) rfl (fun ls hl => ?_)
  have loop5 : ∀ (N : Nat) (i : Int) (a : Int) (hi0 : first ≤ i) (hi1 : i ≤ first ∨ i ≤ t (k + 1) 3) (ha : a = sumR (dueX t f k kind) first i) (H : Heap) (locs : List Loc) (ls : Array Slot), ((t (k + 1) 3) - i).toNat < N → uY g 117 (cX g t f) s H locs → lv_has ls 5 [(3, .int (iV (a))), (4, .int (iV (i))), (0, .ref (g.1 + k)), (2, .int (iV (kind)))] → W p l e R s m args below meth c H locs 0 0 Q (F0 m 5 ls []) := by
    intro N
    induction N with
    | zero => intro i a hi0 hi1 ha H locs ls hmu Y hl; exact absurd hmu (Nat.not_lt_zero _)
    | succ N ih =>
      intro i a hi0 hi1 ha H locs ls hmu Y hl
      have hrow := h.2.2.2.2.2 i
      have har := sumR_rng (dueX t f k kind) (first) i 2997 (by omega) 8 (by omega) (fun j _ _ => dueX_rng h kind j)
      rw [← ha] at har
      refine r_iload X dX4_dueFrom_5 hl 1 rfl ?_
      refine r_aload_n X dX4_dueFrom_7 hl 2 rfl ?_
      refine g_4_0 (k := k) X Y hk wm_161 dX4_dueFrom_8 ?_
      refine vF_i X Y [] [.int (iV (i))] (ct_X5_rows l g t f (k+1) (kr_4_0 hk)) mk_X5_rows mi_X5_rows wm_449 (by decide) (rv_5 Y (kr_4_0 hk)) rfl hl (Nat.le_of_ble_eq_true rfl) rfl dX4_dueFrom_11 (Nat.zero_le _) (Nat.zero_le _) (fun H locs Y => ?_)
      refine r_icmp_ge X (tgt := 54) dX4_dueFrom_14 (by decide) ⟨by omega, by omega⟩ ⟨by omega, by omega⟩ (fun c14 => ?_) (fun c14 => ?_)
      · refine r_iload_n X dX4_dueFrom_54 hl 0 rfl ?_
        exact ret _ _ _ _ _ _ _ dX4_dueFrom_55 Y ⟨by rw [ha]; exact sum_fin hi0 hi1 (by omega), rfl, rfl⟩
      · refine r_iload_n X dX4_dueFrom_17 hl 0 rfl ?_
        refine r_aload_n X dX4_dueFrom_18 hl 2 rfl ?_
        refine g_4_0 (k := k) X Y hk wm_161 dX4_dueFrom_19 ?_
        refine r_iload X dX4_dueFrom_22 hl 1 rfl ?_
        refine r_iconst X dX4_dueFrom_24 ?_
        refine vF_i X Y [.int (iV (i)), .int (iV (2))] [.int (iV (a))] (ct_X5_get l g t f (k+1) i 2 (kr_4_0 hk) h.1 ⟨by omega, by omega⟩ ⟨by omega, by omega⟩) mk_X5_get mi_X5_get wm_419 (by decide) (rv_5 Y (kr_4_0 hk)) rfl hl (Nat.le_of_ble_eq_true rfl) rfl dX4_dueFrom_25 (Nat.zero_le _) (Nat.zero_le _) (fun H locs Y => ?_)
        refine r_iload_n X dX4_dueFrom_28 hl 3 rfl ?_
        refine r_icmp_ne X (tgt := 45) dX4_dueFrom_29 (by decide) ⟨by omega, by omega⟩ ⟨by omega, by omega⟩ (fun c29 => ?_) (fun c29 => ?_)
        · refine r_iconst X dX4_dueFrom_45 ?_
          refine r_iadd X dX4_dueFrom_46 ?_
          refine r_istore_n X dX4_dueFrom_47 hl [(3, .int (iV (a + 0))), (4, .int (iV (i))), (0, .ref (g.1 + k)), (2, .int (iV (kind)))] (by decide) rfl (fun ls hl => ?_)
          refine r_iinc X dX4_dueFrom_48 hl 1 rfl [(4, .int (iV (i + 1))), (3, .int (iV (a + 0))), (0, .ref (g.1 + k)), (2, .int (iV (kind)))] (by decide) rfl (fun ls hl => ?_)
          refine r_goto X 5 dX4_dueFrom_51 (by decide) ?_
          exact ih (i + 1) (a + 0) (by omega) (by omega) (by rw [sumR_succ _ (by omega), ← ha]; unfold dueX; (first | rw [if_pos (by omega)] | rw [if_neg (by omega)])) _ _ _ (by omega) Y (lv_sub hl [1, 0, 2, 3] rfl)
        · refine r_aload_n X dX4_dueFrom_32 hl 2 rfl ?_
          refine g_4_0 (k := k) X Y hk wm_161 dX4_dueFrom_33 ?_
          refine r_iload X dX4_dueFrom_36 hl 1 rfl ?_
          refine r_iconst X dX4_dueFrom_38 ?_
          refine vF_i X Y [.int (iV (i)), .int (iV (3))] [.int (iV (a))] (ct_X5_get l g t f (k+1) i 3 (kr_4_0 hk) h.1 ⟨by omega, by omega⟩ ⟨by omega, by omega⟩) mk_X5_get mi_X5_get wm_419 (by decide) (rv_5 Y (kr_4_0 hk)) rfl hl (Nat.le_of_ble_eq_true rfl) rfl dX4_dueFrom_39 (Nat.zero_le _) (Nat.zero_le _) (fun H locs Y => ?_)
          refine r_goto X 46 dX4_dueFrom_42 (by decide) ?_
          refine r_iadd X dX4_dueFrom_46 ?_
          refine r_istore_n X dX4_dueFrom_47 hl [(3, .int (iV (a + (tget t f (k+1) i 3)))), (4, .int (iV (i))), (0, .ref (g.1 + k)), (2, .int (iV (kind)))] (by decide) rfl (fun ls hl => ?_)
          refine r_iinc X dX4_dueFrom_48 hl 1 rfl [(4, .int (iV (i + 1))), (3, .int (iV (a + (tget t f (k+1) i 3)))), (0, .ref (g.1 + k)), (2, .int (iV (kind)))] (by decide) rfl (fun ls hl => ?_)
          refine r_goto X 5 dX4_dueFrom_51 (by decide) ?_
          exact ih (i + 1) (a + (tget t f (k+1) i 3)) (by omega) (by omega) (by rw [sumR_succ _ (by omega), ← ha]; unfold dueX; (first | rw [if_pos (by omega)] | rw [if_neg (by omega)])) _ _ _ (by omega) Y (lv_sub hl [1, 0, 2, 3] rfl)
  exact loop5 ((((t (k + 1) 3) - (first)).toNat) + 1) first 0 (by omega) (by omega) (sumR_nil _ (by omega)).symm _ _ _ (Nat.lt_succ_self _) Y (lv_sub hl [1, 0, 2, 4] rfl)
set_option maxHeartbeats 4000000 in
set_option maxRecDepth 100000 in
theorem ct_X4_countFrom (l : Launch) (g : uG) (t : uN) (f : uF) (k : Nat) (first kind : Int) (hk : kd k = 4) (h : SOK t f k) (h0 : 0 ≤ first) (h1 : first ≤ 8) (h2 : inI kind) : cF_i l yX4_countFrom cX4_countFrom 5 (some .int) 3 g [.ref (g.1 + k), .int (iV (first)), .int (iV (kind))] t f (cntS t f k first kind) (t) (f) := by
  refine eF_i (by decide +kernel) (Nat.le_of_ble_eq_true rfl) ?_
  intro p e R s m args below meth c Q ls H locs X Y hl ret
  have X : uX p 3 R s m args c cX4_countFrom 5 RX4 := X
  have hl : lv_has ls 5 [(0, .ref (g.1 + k)), (1, .int (iV (first))), (2, .int (iV (kind)))] := hl
  have hn := h.n hk
  have hb := h.2.1
  have hb2 := h.2.2.1
  have hb3 := h.2.2.2.1
  have hb4 := h.2.2.2.2.1
  have hk1 := kr_4_0 hk
  have ht := h.1
  refine r_iconst X dX4_countFrom_0 ?_
  refine r_istore_n X dX4_countFrom_1 hl [(3, .int (iV (0))), (0, .ref (g.1 + k)), (1, .int (iV (first))), (2, .int (iV (kind)))] (by decide) rfl (fun ls hl => ?_)
  refine r_iload_n X dX4_countFrom_2 hl 2 rfl ?_
  refine r_istore X dX4_countFrom_3 hl [(4, .int (iV (first))), (3, .int (iV (0))), (0, .ref (g.1 + k)), (1, .int (iV (first))), (2, .int (iV (kind)))] (by decide) rfl (fun ls hl => ?_)
  have loop5 : ∀ (N : Nat) (i : Int) (a : Int) (hi0 : first ≤ i) (hi1 : i ≤ first ∨ i ≤ t (k + 1) 3) (ha : a = sumR (cntX t f k kind) first i) (H : Heap) (locs : List Loc) (ls : Array Slot), ((t (k + 1) 3) - i).toNat < N → uY g 117 (cX g t f) s H locs → lv_has ls 5 [(3, .int (iV (a))), (4, .int (iV (i))), (0, .ref (g.1 + k)), (2, .int (iV (kind)))] → W p l e R s m args below meth c H locs 0 0 Q (F0 m 5 ls []) := by
    intro N
    induction N with
    | zero => intro i a hi0 hi1 ha H locs ls hmu Y hl; exact absurd hmu (Nat.not_lt_zero _)
    | succ N ih =>
      intro i a hi0 hi1 ha H locs ls hmu Y hl
      have hrow := h.2.2.2.2.2 i
      have har := sumR_rng (cntX t f k kind) (first) i 1 (by omega) 8 (by omega) (fun j _ _ => cntX_rng t f k kind j)
      rw [← ha] at har
      refine r_iload X dX4_countFrom_5 hl 1 rfl ?_
      refine r_aload_n X dX4_countFrom_7 hl 2 rfl ?_
      refine g_4_0 (k := k) X Y hk wm_161 dX4_countFrom_8 ?_
      refine vF_i X Y [] [.int (iV (i))] (ct_X5_rows l g t f (k+1) (kr_4_0 hk)) mk_X5_rows mi_X5_rows wm_449 (by decide) (rv_5 Y (kr_4_0 hk)) rfl hl (Nat.le_of_ble_eq_true rfl) rfl dX4_countFrom_11 (Nat.zero_le _) (Nat.zero_le _) (fun H locs Y => ?_)
      refine r_icmp_ge X (tgt := 45) dX4_countFrom_14 (by decide) ⟨by omega, by omega⟩ ⟨by omega, by omega⟩ (fun c14 => ?_) (fun c14 => ?_)
      · refine r_iload_n X dX4_countFrom_45 hl 0 rfl ?_
        exact ret _ _ _ _ _ _ _ dX4_countFrom_46 Y ⟨by rw [ha]; exact sum_fin hi0 hi1 (by omega), rfl, rfl⟩
      · refine r_iload_n X dX4_countFrom_17 hl 0 rfl ?_
        refine r_aload_n X dX4_countFrom_18 hl 2 rfl ?_
        refine g_4_0 (k := k) X Y hk wm_161 dX4_countFrom_19 ?_
        refine r_iload X dX4_countFrom_22 hl 1 rfl ?_
        refine r_iconst X dX4_countFrom_24 ?_
        refine vF_i X Y [.int (iV (i)), .int (iV (2))] [.int (iV (a))] (ct_X5_get l g t f (k+1) i 2 (kr_4_0 hk) h.1 ⟨by omega, by omega⟩ ⟨by omega, by omega⟩) mk_X5_get mi_X5_get wm_419 (by decide) (rv_5 Y (kr_4_0 hk)) rfl hl (Nat.le_of_ble_eq_true rfl) rfl dX4_countFrom_25 (Nat.zero_le _) (Nat.zero_le _) (fun H locs Y => ?_)
        refine r_iload_n X dX4_countFrom_28 hl 3 rfl ?_
        refine r_icmp_ne X (tgt := 36) dX4_countFrom_29 (by decide) ⟨by omega, by omega⟩ ⟨by omega, by omega⟩ (fun c29 => ?_) (fun c29 => ?_)
        · refine r_iconst X dX4_countFrom_36 ?_
          refine r_iadd X dX4_countFrom_37 ?_
          refine r_istore_n X dX4_countFrom_38 hl [(3, .int (iV (a + 0))), (4, .int (iV (i))), (0, .ref (g.1 + k)), (2, .int (iV (kind)))] (by decide) rfl (fun ls hl => ?_)
          refine r_iinc X dX4_countFrom_39 hl 1 rfl [(4, .int (iV (i + 1))), (3, .int (iV (a + 0))), (0, .ref (g.1 + k)), (2, .int (iV (kind)))] (by decide) rfl (fun ls hl => ?_)
          refine r_goto X 5 dX4_countFrom_42 (by decide) ?_
          exact ih (i + 1) (a + 0) (by omega) (by omega) (by rw [sumR_succ _ (by omega), ← ha]; unfold cntX; (first | rw [if_pos (by omega)] | rw [if_neg (by omega)])) _ _ _ (by omega) Y (lv_sub hl [1, 0, 2, 3] rfl)
        · refine r_iconst X dX4_countFrom_32 ?_
          refine r_goto X 37 dX4_countFrom_33 (by decide) ?_
          refine r_iadd X dX4_countFrom_37 ?_
          refine r_istore_n X dX4_countFrom_38 hl [(3, .int (iV (a + 1))), (4, .int (iV (i))), (0, .ref (g.1 + k)), (2, .int (iV (kind)))] (by decide) rfl (fun ls hl => ?_)
          refine r_iinc X dX4_countFrom_39 hl 1 rfl [(4, .int (iV (i + 1))), (3, .int (iV (a + 1))), (0, .ref (g.1 + k)), (2, .int (iV (kind)))] (by decide) rfl (fun ls hl => ?_)
          refine r_goto X 5 dX4_countFrom_42 (by decide) ?_
          exact ih (i + 1) (a + 1) (by omega) (by omega) (by rw [sumR_succ _ (by omega), ← ha]; unfold cntX; (first | rw [if_pos (by omega)] | rw [if_neg (by omega)])) _ _ _ (by omega) Y (lv_sub hl [1, 0, 2, 3] rfl)
  exact loop5 ((((t (k + 1) 3) - (first)).toNat) + 1) first 0 (by omega) (by omega) (sumR_nil _ (by omega)).symm _ _ _ (Nat.lt_succ_self _) Y (lv_sub hl [1, 0, 2, 4] rfl)
set_option maxHeartbeats 4000000 in
set_option maxRecDepth 100000 in
theorem ct_X4_rankOf (l : Launch) (g : uG) (t : uN) (f : uF) (k : Nat) (i : Int) (hk : kd k = 4) (h : SOK t f k) (h0 : 0 ≤ i) (h1 : i < t (k + 1) 3) : cF_i l yX4_rankOf cX4_rankOf 4 (some .int) 4 g [.ref (g.1 + k), .int (iV (i))] t f (rankS t f k i) (t) (f) := by
  refine eF_i (by decide +kernel) (Nat.le_of_ble_eq_true rfl) ?_
  intro p e R s m args below meth c Q ls H locs X Y hl ret
  have X : uX p 4 R s m args c cX4_rankOf 4 RX4 := X
  have hl : lv_has ls 4 [(0, .ref (g.1 + k)), (1, .int (iV (i)))] := hl
  have hn := h.n hk
  have hb := h.2.1
  have hb2 := h.2.2.1
  have hb3 := h.2.2.2.1
  have hb4 := h.2.2.2.2.1
  have hk1 := kr_4_0 hk
  have ht := h.1
  have hrow := h.2.2.2.2.2 i
  refine r_aload_n X dX4_rankOf_0 hl 0 rfl ?_
  refine g_4_0 (k := k) X Y hk wm_161 dX4_rankOf_1 ?_
  refine r_iload_n X dX4_rankOf_4 hl 1 rfl ?_
  refine r_iconst X dX4_rankOf_5 ?_
  refine vF_i X Y [.int (iV (i)), .int (iV (2))] [] (ct_X5_get l g t f (k+1) i 2 (kr_4_0 hk) h.1 ⟨by omega, by omega⟩ ⟨by omega, by omega⟩) mk_X5_get mi_X5_get wm_419 (by decide) (rv_5 Y (kr_4_0 hk)) rfl hl (Nat.le_of_ble_eq_true rfl) rfl dX4_rankOf_6 (Nat.zero_le _) (Nat.zero_le _) (fun H locs Y => ?_)
  refine r_istore_n X dX4_rankOf_9 hl [(2, .int (iV (tget t f (k+1) i 2))), (0, .ref (g.1 + k)), (1, .int (iV (i)))] (by decide) rfl (fun ls hl => ?_)
  refine r_iload_n X dX4_rankOf_10 hl 0 rfl ?_
  refine r_if_ne X (tgt := 23) dX4_rankOf_11 (by decide) ⟨by omega, by omega⟩ (fun c11 => ?_) (fun c11 => ?_)
  · refine r_iconst X dX4_rankOf_23 ?_
    refine r_istore_n X dX4_rankOf_24 hl [(3, .int (iV (0))), (2, .int (iV (tget t f (k+1) i 2))), (0, .ref (g.1 + k)), (1, .int (iV (i)))] (by decide) rfl (fun ls hl => ?_)
    refine r_iload_n X dX4_rankOf_25 hl 0 rfl ?_
    refine r_aload_n X dX4_rankOf_26 hl 2 rfl ?_
    refine r_iload_n X dX4_rankOf_27 hl 3 rfl ?_
    refine r_iconst X dX4_rankOf_28 ?_
    refine r_iadd X dX4_rankOf_29 ?_
    refine r_iload_n X dX4_rankOf_30 hl 1 rfl ?_
    refine vF_i X Y [.int (iV (i + 1)), .int (iV (tget t f (k+1) i 2))] [.int (iV (0))] (ct_X4_countFrom l g t f k (i + 1) (tget t f (k+1) i 2) hk h (by omega) (by omega) ⟨by omega, by omega⟩) mk_X4_countFrom mi_X4_countFrom wm_498 (by decide) (rv_4 Y hk) rfl hl (Nat.le_of_ble_eq_true rfl) rfl dX4_rankOf_31 (Nat.zero_le _) (Nat.zero_le _) (fun H locs Y => ?_)
    refine r_iadd X dX4_rankOf_34 ?_
    exact ret _ _ _ _ _ _ _ dX4_rankOf_35 Y ⟨by unfold rankS; (first | rw [if_pos (by omega)] | rw [if_neg (by omega)]), rfl, rfl⟩
  · refine r_aload_n X dX4_rankOf_14 hl 1 rfl ?_
    refine r_iconst X dX4_rankOf_15 ?_
    refine r_iconst X dX4_rankOf_16 ?_
    refine vF_i X Y [.int (iV (0)), .int (iV (1))] [] (ct_X4_countFrom l g t f k 0 1 hk h (by omega) (by omega) ⟨by omega, by omega⟩) mk_X4_countFrom mi_X4_countFrom wm_498 (by decide) (rv_4 Y hk) rfl hl (Nat.le_of_ble_eq_true rfl) rfl dX4_rankOf_17 (Nat.zero_le _) (Nat.zero_le _) (fun H locs Y => ?_)
    refine r_goto X 24 dX4_rankOf_20 (by decide) ?_
    refine r_istore_n X dX4_rankOf_24 hl [(3, .int (iV (cntS t f k 0 1))), (2, .int (iV (tget t f (k+1) i 2))), (0, .ref (g.1 + k)), (1, .int (iV (i)))] (by decide) rfl (fun ls hl => ?_)
    refine r_iload_n X dX4_rankOf_25 hl 0 rfl ?_
    refine r_aload_n X dX4_rankOf_26 hl 2 rfl ?_
    refine r_iload_n X dX4_rankOf_27 hl 3 rfl ?_
    refine r_iconst X dX4_rankOf_28 ?_
    refine r_iadd X dX4_rankOf_29 ?_
    refine r_iload_n X dX4_rankOf_30 hl 1 rfl ?_
    refine vF_i X Y [.int (iV (i + 1)), .int (iV (tget t f (k+1) i 2))] [.int (iV (cntS t f k 0 1))] (ct_X4_countFrom l g t f k (i + 1) (tget t f (k+1) i 2) hk h (by omega) (by omega) ⟨by omega, by omega⟩) mk_X4_countFrom mi_X4_countFrom wm_498 (by decide) (rv_4 Y hk) rfl hl (Nat.le_of_ble_eq_true rfl) rfl dX4_rankOf_31 (Nat.zero_le _) (Nat.zero_le _) (fun H locs Y => ?_)
    refine r_iadd X dX4_rankOf_34 ?_
    exact ret _ _ _ _ _ _ _ dX4_rankOf_35 Y ⟨by unfold rankS; (first | rw [if_pos (by omega)] | rw [if_neg (by omega)]), rfl, rfl⟩
set_option maxHeartbeats 4000000 in
set_option maxRecDepth 100000 in
theorem ct_X4_paidOf (l : Launch) (g : uG) (t : uN) (f : uF) (k : Nat) (i sm fm : Int) (hk : kd k = 4) (h : SOK t f k) (h0 : 0 ≤ i) (h1 : i < t (k + 1) 3) (h2 : -1000000 ≤ sm ∧ sm ≤ 1000000) (h3 : -1000000 ≤ fm ∧ fm ≤ 1000000) : cF_i l yX4_paidOf cX4_paidOf 7 (some .int) 4 g [.ref (g.1 + k), .int (iV (i)), .int (iV (sm)), .int (iV (fm))] t f (paidS t f k i sm fm) (t) (f) := by
  refine eF_i (by decide +kernel) (Nat.le_of_ble_eq_true rfl) ?_
  intro p e R s m args below meth c Q ls H locs X Y hl ret
  have X : uX p 4 R s m args c cX4_paidOf 7 RX4 := X
  have hl : lv_has ls 7 [(0, .ref (g.1 + k)), (1, .int (iV (i))), (2, .int (iV (sm))), (3, .int (iV (fm)))] := hl
  have hn := h.n hk
  have hb := h.2.1
  have hb2 := h.2.2.1
  have hb3 := h.2.2.2.1
  have hb4 := h.2.2.2.2.1
  have hk1 := kr_4_0 hk
  have ht := h.1
  have hrow := h.2.2.2.2.2 i
  have hds := dueS_rng hk h (i + 1) (tget t f (k + 1) i 2) (by omega)
  refine r_aload_n X dX4_paidOf_0 hl 0 rfl ?_
  refine g_4_0 (k := k) X Y hk wm_161 dX4_paidOf_1 ?_
  refine r_iload_n X dX4_paidOf_4 hl 1 rfl ?_
  refine r_iconst X dX4_paidOf_5 ?_
  refine vF_i X Y [.int (iV (i)), .int (iV (2))] [] (ct_X5_get l g t f (k+1) i 2 (kr_4_0 hk) h.1 ⟨by omega, by omega⟩ ⟨by omega, by omega⟩) mk_X5_get mi_X5_get wm_419 (by decide) (rv_5 Y (kr_4_0 hk)) rfl hl (Nat.le_of_ble_eq_true rfl) rfl dX4_paidOf_6 (Nat.zero_le _) (Nat.zero_le _) (fun H locs Y => ?_)
  refine r_istore X dX4_paidOf_9 hl [(4, .int (iV (tget t f (k+1) i 2))), (0, .ref (g.1 + k)), (1, .int (iV (i))), (2, .int (iV (sm))), (3, .int (iV (fm)))] (by decide) rfl (fun ls hl => ?_)
  refine r_iload X dX4_paidOf_11 hl 0 rfl ?_
  refine r_iconst X dX4_paidOf_13 ?_
  refine r_icmp_ne X (tgt := 21) dX4_paidOf_14 (by decide) ⟨by omega, by omega⟩ ⟨by omega, by omega⟩ (fun c14 => ?_) (fun c14 => ?_)
  · refine r_iload_n X dX4_paidOf_21 hl 3 rfl ?_
    refine r_istore X dX4_paidOf_22 hl [(5, .int (iV (sm))), (4, .int (iV (tget t f (k+1) i 2))), (0, .ref (g.1 + k)), (1, .int (iV (i))), (2, .int (iV (sm))), (3, .int (iV (fm)))] (by decide) rfl (fun ls hl => ?_)
    refine r_iload X dX4_paidOf_24 hl 0 rfl ?_
    refine r_aload_n X dX4_paidOf_26 hl 2 rfl ?_
    refine r_iload_n X dX4_paidOf_27 hl 3 rfl ?_
    refine r_iconst X dX4_paidOf_28 ?_
    refine r_iadd X dX4_paidOf_29 ?_
    refine r_iload X dX4_paidOf_30 hl 1 rfl ?_
    refine vF_i X Y [.int (iV (i + 1)), .int (iV (tget t f (k+1) i 2))] [.int (iV (sm))] (ct_X4_dueFrom l g t f k (i + 1) (tget t f (k+1) i 2) hk h (by omega) (by omega) ⟨by omega, by omega⟩) mk_X4_dueFrom mi_X4_dueFrom wm_612 (by decide) (rv_4 Y hk) rfl hl (Nat.le_of_ble_eq_true rfl) rfl dX4_paidOf_32 (Nat.zero_le _) (Nat.zero_le _) (fun H locs Y => ?_)
    refine r_isub X dX4_paidOf_35 ?_
    refine r_istore X dX4_paidOf_36 hl [(6, .int (iV (sm - (dueS t f k (i + 1) (tget t f (k+1) i 2))))), (5, .int (iV (sm))), (4, .int (iV (tget t f (k+1) i 2))), (0, .ref (g.1 + k)), (1, .int (iV (i))), (2, .int (iV (sm))), (3, .int (iV (fm)))] (by decide) rfl (fun ls hl => ?_)
    refine r_iconst X dX4_paidOf_38 ?_
    refine r_iload X dX4_paidOf_39 hl 0 rfl ?_
    refine r_aload_n X dX4_paidOf_41 hl 3 rfl ?_
    refine g_4_0 (k := k) X Y hk wm_161 dX4_paidOf_42 ?_
    refine r_iload_n X dX4_paidOf_45 hl 4 rfl ?_
    refine r_iconst X dX4_paidOf_46 ?_
    refine vF_i X Y [.int (iV (i)), .int (iV (3))] [.int (iV (sm - (dueS t f k (i + 1) (tget t f (k+1) i 2)))), .int (iV (0))] (ct_X5_get l g t f (k+1) i 3 (kr_4_0 hk) h.1 ⟨by omega, by omega⟩ ⟨by omega, by omega⟩) mk_X5_get mi_X5_get wm_419 (by decide) (rv_5 Y (kr_4_0 hk)) rfl hl (Nat.le_of_ble_eq_true rfl) rfl dX4_paidOf_47 (Nat.zero_le _) (Nat.zero_le _) (fun H locs Y => ?_)
    refine r_min X hl (by decide) (Nat.zero_le _) (Nat.zero_le _) wm_613 (Nat.le_of_ble_eq_true rfl) dX4_paidOf_50 ⟨by omega, by omega⟩ ⟨by omega, by omega⟩ ?_
    refine r_max X hl (by decide) (Nat.zero_le _) (Nat.zero_le _) wm_551 (Nat.le_of_ble_eq_true rfl) dX4_paidOf_53 ⟨by omega, by omega⟩ ⟨by omega, by omega⟩ ?_
    exact ret _ _ _ _ _ _ _ dX4_paidOf_56 Y ⟨by unfold paidS; (first | rw [if_pos (by omega)] | rw [if_neg (by omega)]), rfl, rfl⟩
  · refine r_iload_n X dX4_paidOf_17 hl 4 rfl ?_
    refine r_goto X 22 dX4_paidOf_18 (by decide) ?_
    refine r_istore X dX4_paidOf_22 hl [(5, .int (iV (fm))), (4, .int (iV (tget t f (k+1) i 2))), (0, .ref (g.1 + k)), (1, .int (iV (i))), (2, .int (iV (sm))), (3, .int (iV (fm)))] (by decide) rfl (fun ls hl => ?_)
    refine r_iload X dX4_paidOf_24 hl 0 rfl ?_
    refine r_aload_n X dX4_paidOf_26 hl 2 rfl ?_
    refine r_iload_n X dX4_paidOf_27 hl 3 rfl ?_
    refine r_iconst X dX4_paidOf_28 ?_
    refine r_iadd X dX4_paidOf_29 ?_
    refine r_iload X dX4_paidOf_30 hl 1 rfl ?_
    refine vF_i X Y [.int (iV (i + 1)), .int (iV (tget t f (k+1) i 2))] [.int (iV (fm))] (ct_X4_dueFrom l g t f k (i + 1) (tget t f (k+1) i 2) hk h (by omega) (by omega) ⟨by omega, by omega⟩) mk_X4_dueFrom mi_X4_dueFrom wm_612 (by decide) (rv_4 Y hk) rfl hl (Nat.le_of_ble_eq_true rfl) rfl dX4_paidOf_32 (Nat.zero_le _) (Nat.zero_le _) (fun H locs Y => ?_)
    refine r_isub X dX4_paidOf_35 ?_
    refine r_istore X dX4_paidOf_36 hl [(6, .int (iV (fm - (dueS t f k (i + 1) (tget t f (k+1) i 2))))), (5, .int (iV (fm))), (4, .int (iV (tget t f (k+1) i 2))), (0, .ref (g.1 + k)), (1, .int (iV (i))), (2, .int (iV (sm))), (3, .int (iV (fm)))] (by decide) rfl (fun ls hl => ?_)
    refine r_iconst X dX4_paidOf_38 ?_
    refine r_iload X dX4_paidOf_39 hl 0 rfl ?_
    refine r_aload_n X dX4_paidOf_41 hl 3 rfl ?_
    refine g_4_0 (k := k) X Y hk wm_161 dX4_paidOf_42 ?_
    refine r_iload_n X dX4_paidOf_45 hl 4 rfl ?_
    refine r_iconst X dX4_paidOf_46 ?_
    refine vF_i X Y [.int (iV (i)), .int (iV (3))] [.int (iV (fm - (dueS t f k (i + 1) (tget t f (k+1) i 2)))), .int (iV (0))] (ct_X5_get l g t f (k+1) i 3 (kr_4_0 hk) h.1 ⟨by omega, by omega⟩ ⟨by omega, by omega⟩) mk_X5_get mi_X5_get wm_419 (by decide) (rv_5 Y (kr_4_0 hk)) rfl hl (Nat.le_of_ble_eq_true rfl) rfl dX4_paidOf_47 (Nat.zero_le _) (Nat.zero_le _) (fun H locs Y => ?_)
    refine r_min X hl (by decide) (Nat.zero_le _) (Nat.zero_le _) wm_613 (Nat.le_of_ble_eq_true rfl) dX4_paidOf_50 ⟨by omega, by omega⟩ ⟨by omega, by omega⟩ ?_
    refine r_max X hl (by decide) (Nat.zero_le _) (Nat.zero_le _) wm_551 (Nat.le_of_ble_eq_true rfl) dX4_paidOf_53 ⟨by omega, by omega⟩ ⟨by omega, by omega⟩ ?_
    exact ret _ _ _ _ _ _ _ dX4_paidOf_56 Y ⟨by unfold paidS; (first | rw [if_pos (by omega)] | rw [if_neg (by omega)]), rfl, rfl⟩
set_option maxHeartbeats 4000000 in
set_option maxRecDepth 100000 in
theorem ct_X4_sailOn (l : Launch) (g : uG) (t : uN) (f : uF) (k : Nat) (comes : Int) (hk : kd k = 4) (h : 0 ≤ t k 1 ∧ t k 1 ≤ 9) (hc : comes = 0 ∨ comes = 1) : cF_v l yX4_sailOn cX4_sailOn 2 1 g [.ref (g.1 + k), .int (iV (comes))] t f (sailT t k comes) (f) := by
  refine eF_v (by decide +kernel) (Nat.le_of_ble_eq_true rfl) ?_
  intro p e R s m args below meth c Q ls H locs X Y hl ret
  have X : uX p 1 R s m args c cX4_sailOn 2 RX4 := X
  have hl : lv_has ls 2 [(0, .ref (g.1 + k)), (1, .int (iV (comes)))] := hl
  refine r_iload_n X dX4_sailOn_0 hl 1 rfl ?_
  refine r_if_eq X (tgt := 31) dX4_sailOn_1 (by decide) ⟨by omega, by omega⟩ (fun c1 => ?_) (fun c1 => ?_)
  · refine r_aload_n X dX4_sailOn_31 hl 0 rfl ?_
    refine r_iconst X dX4_sailOn_32 ?_
    refine p_4_4 (k := k) X Y hk wm_172 (by first | exact Or.inl rfl | exact Or.inr rfl | omega) dX4_sailOn_33 (fun H locs Y => ?_)
    obtain ⟨tq1, htq1⟩ : ∃ q, q = up2 t k 4 (1) := ⟨_, rfl⟩
    have Y : uY g 117 (cX g tq1 f) s H locs := by rw [htq1]; exact Y
    exact ret _ _ _ _ _ _ dX4_sailOn_36 Y (by subst htq1; unfold sailT; (first | rw [if_pos (by omega)] | rw [if_neg (by omega)]); exact ⟨rfl, rfl⟩)
  · refine r_aload_n X dX4_sailOn_4 hl 0 rfl ?_
    refine r_dup X dX4_sailOn_5 rfl ?_
    refine g_4_3 (k := k) X Y hk wm_169 dX4_sailOn_6 ?_
    refine r_iconst X dX4_sailOn_9 ?_
    refine r_iadd X dX4_sailOn_10 ?_
    refine p_4_3 (k := k) X Y hk wm_169 dX4_sailOn_11 (fun H locs Y => ?_)
    obtain ⟨tq1, htq1⟩ : ∃ q, q = up2 t k 3 ((t k 3) + 1) := ⟨_, rfl⟩
    have Y : uY g 117 (cX g tq1 f) s H locs := by rw [htq1]; exact Y
    refine r_aload_n X dX4_sailOn_14 hl 0 rfl ?_
    refine r_iconst X dX4_sailOn_15 ?_
    refine r_aload_n X dX4_sailOn_16 hl 0 rfl ?_
    refine g_4_1 (k := k) X Y hk wm_163 dX4_sailOn_17 ?_
    refine r_iconst X dX4_sailOn_20 ?_
    refine r_isub X dX4_sailOn_21 ?_
    have hq : tq1 k 1 = t k 1 := by rw [htq1, up2_j _ _ _ (by decide)]
    refine r_max X hl (by decide) (Nat.zero_le _) (Nat.zero_le _) wm_551 (Nat.le_of_ble_eq_true rfl) dX4_sailOn_22 ⟨by omega, by omega⟩ ⟨by omega, by omega⟩ ?_
    refine p_4_1 (k := k) X Y hk wm_163 dX4_sailOn_25 (fun H locs Y => ?_)
    obtain ⟨tq2, htq2⟩ : ∃ q, q = up2 tq1 k 1 (max 0 ((tq1 k 1) - 1)) := ⟨_, rfl⟩
    have Y : uY g 117 (cX g tq2 f) s H locs := by rw [htq2]; exact Y
    refine r_goto X 36 dX4_sailOn_28 (by decide) ?_
    exact ret _ _ _ _ _ _ dX4_sailOn_36 Y (by subst htq1 htq2; unfold sailT; (first | rw [if_pos (by omega)] | rw [if_neg (by omega)]); exact ⟨by rw [up2_j _ _ _ (by decide)], rfl⟩)

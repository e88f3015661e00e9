/-! the constructors -/
abbrev bkL0 : List Value := [.null, .int (iV 0), .int (iV 0)]
theorem bk_0 : ∀ j, j < 3 → defaultValue (tyX0 j) = vp_V bkL0 j := fun j hj => by
  rcases (show j = 0 ∨ j = 1 ∨ j = 2 by omega) with rfl | rfl | rfl <;> rfl
abbrev bkL1 : List Value := [.null, .int (iV 0), .int (iV 0)]
theorem bk_1 : ∀ j, j < 3 → defaultValue (tyX1 j) = vp_V bkL1 j := fun j hj => by
  rcases (show j = 0 ∨ j = 1 ∨ j = 2 by omega) with rfl | rfl | rfl <;> rfl
abbrev bkL2 : List Value := [.null, .null, .null, .int (iV 0), .int (iV 0), .long (lV 0), .int (iV 0)]
theorem bk_2 : ∀ j, j < 7 → defaultValue (tyX2 j) = vp_V bkL2 j := fun j hj => by
  rcases (show j = 0 ∨ j = 1 ∨ j = 2 ∨ j = 3 ∨ j = 4 ∨ j = 5 ∨ j = 6 by omega) with rfl | rfl | rfl | rfl | rfl | rfl | rfl <;> rfl
abbrev bkL3 : List Value := [.null, .null, .int (iV 0), .int (iV 0), .int (iV 0)]
theorem bk_3 : ∀ j, j < 5 → defaultValue (tyX3 j) = vp_V bkL3 j := fun j hj => by
  rcases (show j = 0 ∨ j = 1 ∨ j = 2 ∨ j = 3 ∨ j = 4 by omega) with rfl | rfl | rfl | rfl | rfl <;> rfl
abbrev bkL4 : List Value := [.null, .int (iV 0), .int (iV 0), .int (iV 0), .int (iV 0)]
theorem bk_4 : ∀ j, j < 5 → defaultValue (tyX4 j) = vp_V bkL4 j := fun j hj => by
  rcases (show j = 0 ∨ j = 1 ∨ j = 2 ∨ j = 3 ∨ j = 4 by omega) with rfl | rfl | rfl | rfl | rfl <;> rfl
abbrev bkL5 : List Value := [.int (iV 0), .int (iV 0), .null, .int (iV 0)]
theorem bk_5 : ∀ j, j < 4 → defaultValue (tyX5 j) = vp_V bkL5 j := fun j hj => by
  rcases (show j = 0 ∨ j = 1 ∨ j = 2 ∨ j = 3 by omega) with rfl | rfl | rfl | rfl <;> rfl
abbrev bkL6 : List Value := [.null, .null, .null]
theorem bk_6 : ∀ j, j < 3 → defaultValue (tyX6 j) = vp_V bkL6 j := fun j hj => by
  rcases (show j = 0 ∨ j = 1 ∨ j = 2 by omega) with rfl | rfl | rfl <;> rfl
abbrev bkL7 : List Value := [.null, .null, .null, .null, .null, .null, .null, .null, .null, .null, .int (iV 0), .int (iV 0)]
theorem bk_7 : ∀ j, j < 12 → defaultValue (tyX7 j) = vp_V bkL7 j := fun j hj => by
  rcases (show j = 0 ∨ j = 1 ∨ j = 2 ∨ j = 3 ∨ j = 4 ∨ j = 5 ∨ j = 6 ∨ j = 7 ∨ j = 8 ∨ j = 9 ∨ j = 10 ∨ j = 11 by omega) with rfl | rfl | rfl | rfl | rfl | rfl | rfl | rfl | rfl | rfl | rfl | rfl <;> rfl
abbrev bkL8 : List Value := [.null, .null, .int (iV 0), .int (iV 0), .int (iV 0), .int (iV 0), .int (iV 0), .null, .null, .null, .int (iV 0), .null, .null, .null, .int (iV 0), .int (iV 0), .int (iV 0), .int (iV 0), .int (iV 0), .int (iV 0), .int (iV 0), .null, .int (iV 0), .null, .int (iV 0), .null, .null, .int (iV 0), .null, .int (iV 0), .long (lV 0), .int (iV 0), .null, .null, .int (iV 0), .null]
theorem bk_8 : ∀ j, j < 36 → defaultValue (tyX8 j) = vp_V bkL8 j := fun j hj => by
  rcases (show j = 0 ∨ j = 1 ∨ j = 2 ∨ j = 3 ∨ j = 4 ∨ j = 5 ∨ j = 6 ∨ j = 7 ∨ j = 8 ∨ j = 9 ∨ j = 10 ∨ j = 11 ∨ j = 12 ∨ j = 13 ∨ j = 14 ∨ j = 15 ∨ j = 16 ∨ j = 17 ∨ j = 18 ∨ j = 19 ∨ j = 20 ∨ j = 21 ∨ j = 22 ∨ j = 23 ∨ j = 24 ∨ j = 25 ∨ j = 26 ∨ j = 27 ∨ j = 28 ∨ j = 29 ∨ j = 30 ∨ j = 31 ∨ j = 32 ∨ j = 33 ∨ j = 34 ∨ j = 35 by omega) with rfl | rfl | rfl | rfl | rfl | rfl | rfl | rfl | rfl | rfl | rfl | rfl | rfl | rfl | rfl | rfl | rfl | rfl | rfl | rfl | rfl | rfl | rfl | rfl | rfl | rfl | rfl | rfl | rfl | rfl | rfl | rfl | rfl | rfl | rfl | rfl <;> rfl
theorem al_4 {k : Nat} (h : kd k = 4) : al (k + 2) = 40 := kd_all (P := fun k => al (k + 2) = 40) 4 (by decide) (by decide +kernel) k h
theorem al_6 {k : Nat} (h : kd k = 6) : al (k + 2) = 4 ∧ al (k + 4) = 21 ∧ al (k + 6) = 10 := kd_all (P := fun k => al (k + 2) = 4 ∧ al (k + 4) = 21 ∧ al (k + 6) = 10) 6 (by decide) (by decide +kernel) k h
set_option maxHeartbeats 4000000 in
set_option maxRecDepth 100000 in
theorem cc_X5_init (l : Launch) (g : uG) (k : Nat) (w m0 : Int) (N : Nat) (hk : kd k = 5) (hw : w = tw k) (hm : m0 = tm k) (hN : al (k + 1) = N) : cC l yX5_init cX5_init 3 1 1 (0 + N) g [.int (iV (w)), .int (iV (m0))] k (.inr (5, bkL5)) (k + 2) := by
  intro E0 hE0
  refine u_ent_v (by decide +kernel) (Nat.le_of_ble_eq_true rfl) ?_
  intro p e R s m args below meth c Q ls X hR hnm Y hl ret
  have X : uX p 1 R s m args c cX5_init 3 RX5 := X
  have hl : lv_has ls 3 [(0, .ref (g.1 + k)), (1, .int (iV (w))), (2, .int (iV (m0)))] := hl
  have I : uPI g E0 k (.inr (5, bkL5)) (k+1) E0 := uPI.init g E0 k hE0
  have Y : uY g (k+1) E0 s s.heap [] := Y
  have hal := kd5_al hk
  have hb := kd5_w hk
  rw [← hw, ← hm] at hal hb
  rw [hN] at hal
  refine r_aload_n X dX5_init_0 hl 0 rfl ?_
  refine u_obj X hl (by decide) wm_85 (Nat.le_of_ble_eq_true rfl) dX5_init_1 ?_
  refine r_aload_n X dX5_init_4 hl 0 rfl ?_
  refine r_iconst X dX5_init_5 ?_
  refine u_put X Y I.1 I.2.2.1 fw_X5 tyX5 tyX5_ok nmX5 (T := TX5) rfl 3 (by decide) wm_92 rfl rfl rfl rfl (Nat.le_of_ble_eq_true rfl) dX5_init_6 (fun H locs Y => ?_)
  have I := I.put (.inr (5, [.int (iV 0), .int (iV 0), .null, .int (iV (0))]))
  obtain ⟨E1, hEE⟩ : ∃ q, q = va_up E0 k (.inr (5, [.int (iV 0), .int (iV 0), .null, .int (iV (0))])) := ⟨_, rfl⟩
  rw [← hEE] at I
  have Y : uY g (k+1) E1 s H locs := by rw [hEE]; exact Y
  clear hEE
  refine r_aload_n X dX5_init_9 hl 0 rfl ?_
  refine r_iload_n X dX5_init_10 hl 1 rfl ?_
  refine u_putF X Y I.1 I.2.2.1 fw_X5 tyX5 tyX5_ok nmX5 (T := TX5) rfl 0 (by decide) wm_89 rfl rfl rfl hnm rfl rfl (Nat.le_of_ble_eq_true rfl) dX5_init_11 (fun H locs Y => ?_)
  have I := I.put (.inr (5, [.int (iV (w)), .int (iV 0), .null, .int (iV (0))]))
  obtain ⟨E2, hEE⟩ : ∃ q, q = va_up E1 k (.inr (5, [.int (iV (w)), .int (iV 0), .null, .int (iV (0))])) := ⟨_, rfl⟩
  rw [← hEE] at I
  have Y : uY g (k+1) E2 s H locs := by rw [hEE]; exact Y
  clear hEE
  refine r_aload_n X dX5_init_14 hl 0 rfl ?_
  refine r_iload_n X dX5_init_15 hl 2 rfl ?_
  refine u_putF X Y I.1 I.2.2.1 fw_X5 tyX5 tyX5_ok nmX5 (T := TX5) rfl 1 (by decide) wm_90 rfl rfl rfl hnm rfl rfl (Nat.le_of_ble_eq_true rfl) dX5_init_16 (fun H locs Y => ?_)
  have I := I.put (.inr (5, [.int (iV (w)), .int (iV (m0)), .null, .int (iV (0))]))
  obtain ⟨E3, hEE⟩ : ∃ q, q = va_up E2 k (.inr (5, [.int (iV (w)), .int (iV (m0)), .null, .int (iV (0))])) := ⟨_, rfl⟩
  rw [← hEE] at I
  have Y : uY g (k+1) E3 s H locs := by rw [hEE]; exact Y
  clear hEE
  refine r_aload_n X dX5_init_19 hl 0 rfl ?_
  refine r_iconst X dX5_init_20 ?_
  refine r_iload_n X dX5_init_21 hl 1 rfl ?_
  refine r_iload_n X dX5_init_22 hl 2 rfl ?_
  refine r_imul X dX5_init_23 ?_
  refine r_max X hl (by decide) (Nat.zero_le _) (Nat.zero_le _) wm_86 (Nat.le_of_ble_eq_true rfl) dX5_init_24 ⟨by omega, by omega⟩ ⟨by omega, by omega⟩ ?_
  refine u_newa X Y wm_102 (N := N) (by omega) (by omega) (by omega) (by omega) dX5_init_27 (fun H Y => ?_)
  have I := I.new (e2 := aV g.2.2.1 N (fun _ => 0)) (by show _ = cXk g (k+1) _ _; rw [cX_10 (kr_5_2 hk), hN])
  obtain ⟨E4, hEE⟩ : ∃ q, q = va_up E3 (k+1) (aV g.2.2.1 N (fun _ => 0)) := ⟨_, rfl⟩
  rw [← hEE] at I
  have Y : uY g (k+2) E4 s H locs := by rw [hEE]; exact Y
  clear hEE
  refine u_putF X Y I.1 I.2.2.1 fw_X5 tyX5 tyX5_ok nmX5 (T := TX5) rfl 2 (by decide) wm_91 rfl rfl rfl hnm rfl rfl (Nat.le_of_ble_eq_true rfl) dX5_init_29 (fun H locs Y => ?_)
  have I := I.put (.inr (5, [.int (iV (w)), .int (iV (m0)), .ref (g.1 + (k+1)), .int (iV (0))]))
  obtain ⟨E5, hEE⟩ : ∃ q, q = va_up E4 k (.inr (5, [.int (iV (w)), .int (iV (m0)), .ref (g.1 + (k+1)), .int (iV (0))])) := ⟨_, rfl⟩
  rw [← hEE] at I
  have Y : uY g (k+2) E5 s H locs := by rw [hEE]; exact Y
  clear hEE
  exact ret _ _ _ _ _ dX5_init_32 Y (I.done (by show _ = cXk g k _ _; rw [cX_5 hk, t0N_z (kd_n0 hk (by decide)), hw, hm]))
set_option maxHeartbeats 4000000 in
set_option maxRecDepth 100000 in
theorem cc_X4_init (l : Launch) (g : uG) (k : Nat) (hk : kd k = 4) : cC l yX4_init cX4_init 1 2 2 44 g [] k (.inr (4, bkL4)) (k + 3) := by
  intro E0 hE0
  refine u_ent_v (by decide +kernel) (Nat.le_of_ble_eq_true rfl) ?_
  intro p e R s m args below meth c Q ls X hR hnm Y hl ret
  have X : uX p 2 R s m args c cX4_init 1 RX4 := X
  have hl : lv_has ls 1 [(0, .ref (g.1 + k))] := hl
  have I : uPI g E0 k (.inr (4, bkL4)) (k+1) E0 := uPI.init g E0 k hE0
  have Y : uY g (k+1) E0 s s.heap [] := Y
  refine r_aload_n X dX4_init_0 hl 0 rfl ?_
  refine u_obj X hl (by decide) wm_158 (Nat.le_of_ble_eq_true rfl) dX4_init_1 ?_
  refine r_aload_n X dX4_init_4 hl 0 rfl ?_
  refine u_new (ci := 5) X Y fw_X5 tyX5 tyX5_ok wm_159 wm_81 wm_62 rfl bk_5 (by omega) (by omega) dX4_init_5 (fun H Y => ?_)
  refine r_dup X dX4_init_8 rfl ?_
  refine r_iconst X dX4_init_9 ?_
  refine r_bipush X 8 dX4_init_10 (by decide) ?_
  refine u_bv Y (u_runI (As := [.int (iV (5)), .int (iV (8))]) (rest := [.ref (g.1 + (k+1)), .ref (g.1 + k)]) X Y (cc_X5_init l g (k+1) 5 8 40 (kr_4_0 hk) (kd4_w hk).1.symm (kd4_w hk).2.symm (al_4 hk) _ (va_up_self _ _ _)) mk_X5_init mi_X5_init rfl wm_160 (by decide) rfl hl (Nat.le_of_ble_eq_true rfl) rfl dX4_init_12 ⟨by omega, by omega⟩) (fun E1 H locs hu Y => ?_)
  have I := I.call (n' := (k+3)) (by omega) hu
  have Y : uY g (k+3) E1 s H locs := Y
  clear hu
  refine u_putF X Y I.1 I.2.2.1 fw_X4 tyX4 tyX4_ok nmX4 (T := TX4) rfl 0 (by decide) wm_161 rfl rfl rfl hnm rfl rfl (Nat.le_of_ble_eq_true rfl) dX4_init_15 (fun H locs Y => ?_)
  have I := I.put (.inr (4, [.ref (g.1 + (k+1)), .int (iV 0), .int (iV 0), .int (iV 0), .int (iV 0)]))
  obtain ⟨E2, hEE⟩ : ∃ q, q = va_up E1 k (.inr (4, [.ref (g.1 + (k+1)), .int (iV 0), .int (iV 0), .int (iV 0), .int (iV 0)])) := ⟨_, rfl⟩
  rw [← hEE] at I
  have Y : uY g (k+3) E2 s H locs := by rw [hEE]; exact Y
  clear hEE
  refine r_aload_n X dX4_init_18 hl 0 rfl ?_
  refine r_iconst X dX4_init_19 ?_
  refine u_put X Y I.1 I.2.2.1 fw_X4 tyX4 tyX4_ok nmX4 (T := TX4) rfl 1 (by decide) wm_163 rfl rfl rfl rfl (Nat.le_of_ble_eq_true rfl) dX4_init_20 (fun H locs Y => ?_)
  have I := I.put (.inr (4, [.ref (g.1 + (k+1)), .int (iV (0)), .int (iV 0), .int (iV 0), .int (iV 0)]))
  obtain ⟨E3, hEE⟩ : ∃ q, q = va_up E2 k (.inr (4, [.ref (g.1 + (k+1)), .int (iV (0)), .int (iV 0), .int (iV 0), .int (iV 0)])) := ⟨_, rfl⟩
  rw [← hEE] at I
  have Y : uY g (k+3) E3 s H locs := by rw [hEE]; exact Y
  clear hEE
  refine r_aload_n X dX4_init_23 hl 0 rfl ?_
  refine r_iconst X dX4_init_24 ?_
  refine u_put X Y I.1 I.2.2.1 fw_X4 tyX4 tyX4_ok nmX4 (T := TX4) rfl 2 (by decide) wm_166 rfl rfl rfl rfl (Nat.le_of_ble_eq_true rfl) dX4_init_25 (fun H locs Y => ?_)
  have I := I.put (.inr (4, [.ref (g.1 + (k+1)), .int (iV (0)), .int (iV (0)), .int (iV 0), .int (iV 0)]))
  obtain ⟨E4, hEE⟩ : ∃ q, q = va_up E3 k (.inr (4, [.ref (g.1 + (k+1)), .int (iV (0)), .int (iV (0)), .int (iV 0), .int (iV 0)])) := ⟨_, rfl⟩
  rw [← hEE] at I
  have Y : uY g (k+3) E4 s H locs := by rw [hEE]; exact Y
  clear hEE
  refine r_aload_n X dX4_init_28 hl 0 rfl ?_
  refine r_iconst X dX4_init_29 ?_
  refine u_put X Y I.1 I.2.2.1 fw_X4 tyX4 tyX4_ok nmX4 (T := TX4) rfl 3 (by decide) wm_169 rfl rfl rfl rfl (Nat.le_of_ble_eq_true rfl) dX4_init_30 (fun H locs Y => ?_)
  have I := I.put (.inr (4, [.ref (g.1 + (k+1)), .int (iV (0)), .int (iV (0)), .int (iV (0)), .int (iV 0)]))
  obtain ⟨E5, hEE⟩ : ∃ q, q = va_up E4 k (.inr (4, [.ref (g.1 + (k+1)), .int (iV (0)), .int (iV (0)), .int (iV (0)), .int (iV 0)])) := ⟨_, rfl⟩
  rw [← hEE] at I
  have Y : uY g (k+3) E5 s H locs := by rw [hEE]; exact Y
  clear hEE
  refine r_aload_n X dX4_init_33 hl 0 rfl ?_
  refine r_iconst X dX4_init_34 ?_
  refine u_put X Y I.1 I.2.2.1 fw_X4 tyX4 tyX4_ok nmX4 (T := TX4) rfl 4 (by decide) wm_172 rfl rfl rfl rfl (Nat.le_of_ble_eq_true rfl) dX4_init_35 (fun H locs Y => ?_)
  have I := I.put (.inr (4, [.ref (g.1 + (k+1)), .int (iV (0)), .int (iV (0)), .int (iV (0)), .int (iV (0))]))
  obtain ⟨E6, hEE⟩ : ∃ q, q = va_up E5 k (.inr (4, [.ref (g.1 + (k+1)), .int (iV (0)), .int (iV (0)), .int (iV (0)), .int (iV (0))])) := ⟨_, rfl⟩
  rw [← hEE] at I
  have Y : uY g (k+3) E6 s H locs := by rw [hEE]; exact Y
  clear hEE
  exact ret _ _ _ _ _ dX4_init_38 Y (I.done (by show _ = cXk g k _ _; rw [cX_4 hk, t0N_z (kd_n0 hk (by decide)), t0N_z (kd_n0 hk (by decide)), t0N_z (kd_n0 hk (by decide)), t0N_z (kd_n0 hk (by decide))]))
set_option maxHeartbeats 4000000 in
set_option maxRecDepth 100000 in
theorem cc_X6_init (l : Launch) (g : uG) (k : Nat) (hk : kd k = 6) : cC l yX6_init cX6_init 1 2 6 47 g [] k (.inr (6, bkL6)) (k + 7) := by
  intro E0 hE0
  refine u_ent_v (by decide +kernel) (Nat.le_of_ble_eq_true rfl) ?_
  intro p e R s m args below meth c Q ls X hR hnm Y hl ret
  have X : uX p 2 R s m args c cX6_init 1 RX6 := X
  have hl : lv_has ls 1 [(0, .ref (g.1 + k))] := hl
  have I : uPI g E0 k (.inr (6, bkL6)) (k+1) E0 := uPI.init g E0 k hE0
  have Y : uY g (k+1) E0 s s.heap [] := Y
  refine r_aload_n X dX6_init_0 hl 0 rfl ?_
  refine u_obj X hl (by decide) wm_114 (Nat.le_of_ble_eq_true rfl) dX6_init_1 ?_
  refine r_aload_n X dX6_init_4 hl 0 rfl ?_
  refine u_new (ci := 5) X Y fw_X5 tyX5 tyX5_ok wm_115 wm_81 wm_62 rfl bk_5 (by omega) (by omega) dX6_init_5 (fun H Y => ?_)
  refine r_dup X dX6_init_8 rfl ?_
  refine r_iconst X dX6_init_9 ?_
  refine r_iconst X dX6_init_10 ?_
  refine u_bv Y (u_runI (As := [.int (iV (4)), .int (iV (1))]) (rest := [.ref (g.1 + (k+1)), .ref (g.1 + k)]) X Y (cc_X5_init l g (k+1) 4 1 4 (kr_6_0 hk) (kd6_w hk).1.1.symm (kd6_w hk).1.2.symm (al_6 hk).1 _ (va_up_self _ _ _)) mk_X5_init mi_X5_init rfl wm_116 (by decide) rfl hl (Nat.le_of_ble_eq_true rfl) rfl dX6_init_11 ⟨by omega, by omega⟩) (fun E1 H locs hu Y => ?_)
  have I := I.call (n' := (k+3)) (by omega) hu
  have Y : uY g (k+3) E1 s H locs := Y
  clear hu
  refine u_putF X Y I.1 I.2.2.1 fw_X6 tyX6 tyX6_ok nmX6 (T := TX6) rfl 0 (by decide) wm_117 rfl rfl rfl hnm rfl rfl (Nat.le_of_ble_eq_true rfl) dX6_init_14 (fun H locs Y => ?_)
  have I := I.put (.inr (6, [.ref (g.1 + (k+1)), .null, .null]))
  obtain ⟨E2, hEE⟩ : ∃ q, q = va_up E1 k (.inr (6, [.ref (g.1 + (k+1)), .null, .null])) := ⟨_, rfl⟩
  rw [← hEE] at I
  have Y : uY g (k+3) E2 s H locs := by rw [hEE]; exact Y
  clear hEE
  refine r_aload_n X dX6_init_17 hl 0 rfl ?_
  refine u_new (ci := 5) X Y fw_X5 tyX5 tyX5_ok wm_115 wm_81 wm_62 rfl bk_5 (by omega) (by omega) dX6_init_18 (fun H Y => ?_)
  refine r_dup X dX6_init_21 rfl ?_
  refine r_iconst X dX6_init_22 ?_
  refine r_bipush X 7 dX6_init_23 (by decide) ?_
  refine u_bv Y (u_runI (As := [.int (iV (3)), .int (iV (7))]) (rest := [.ref (g.1 + (k+3)), .ref (g.1 + k)]) X Y (cc_X5_init l g (k+3) 3 7 21 (kr_6_1 hk) (kd6_w hk).2.1.1.symm (kd6_w hk).2.1.2.symm (al_6 hk).2.1 _ (va_up_self _ _ _)) mk_X5_init mi_X5_init rfl wm_116 (by decide) rfl hl (Nat.le_of_ble_eq_true rfl) rfl dX6_init_25 ⟨by omega, by omega⟩) (fun E3 H locs hu Y => ?_)
  have I := I.call (n' := (k+5)) (by omega) hu
  have Y : uY g (k+5) E3 s H locs := Y
  clear hu
  refine u_putF X Y I.1 I.2.2.1 fw_X6 tyX6 tyX6_ok nmX6 (T := TX6) rfl 1 (by decide) wm_121 rfl rfl rfl hnm rfl rfl (Nat.le_of_ble_eq_true rfl) dX6_init_28 (fun H locs Y => ?_)
  have I := I.put (.inr (6, [.ref (g.1 + (k+1)), .ref (g.1 + (k+3)), .null]))
  obtain ⟨E4, hEE⟩ : ∃ q, q = va_up E3 k (.inr (6, [.ref (g.1 + (k+1)), .ref (g.1 + (k+3)), .null])) := ⟨_, rfl⟩
  rw [← hEE] at I
  have Y : uY g (k+5) E4 s H locs := by rw [hEE]; exact Y
  clear hEE
  refine r_aload_n X dX6_init_31 hl 0 rfl ?_
  refine u_new (ci := 5) X Y fw_X5 tyX5 tyX5_ok wm_115 wm_81 wm_62 rfl bk_5 (by omega) (by omega) dX6_init_32 (fun H Y => ?_)
  refine r_dup X dX6_init_35 rfl ?_
  refine r_iconst X dX6_init_36 ?_
  refine r_iconst X dX6_init_37 ?_
  refine u_bv Y (u_runI (As := [.int (iV (2)), .int (iV (5))]) (rest := [.ref (g.1 + (k+5)), .ref (g.1 + k)]) X Y (cc_X5_init l g (k+5) 2 5 10 (kr_6_2 hk) (kd6_w hk).2.2.1.symm (kd6_w hk).2.2.2.symm (al_6 hk).2.2 _ (va_up_self _ _ _)) mk_X5_init mi_X5_init rfl wm_116 (by decide) rfl hl (Nat.le_of_ble_eq_true rfl) rfl dX6_init_38 ⟨by omega, by omega⟩) (fun E5 H locs hu Y => ?_)
  have I := I.call (n' := (k+7)) (by omega) hu
  have Y : uY g (k+7) E5 s H locs := Y
  clear hu
  refine u_putF X Y I.1 I.2.2.1 fw_X6 tyX6 tyX6_ok nmX6 (T := TX6) rfl 2 (by decide) wm_125 rfl rfl rfl hnm rfl rfl (Nat.le_of_ble_eq_true rfl) dX6_init_41 (fun H locs Y => ?_)
  have I := I.put (.inr (6, [.ref (g.1 + (k+1)), .ref (g.1 + (k+3)), .ref (g.1 + (k+5))]))
  obtain ⟨E6, hEE⟩ : ∃ q, q = va_up E5 k (.inr (6, [.ref (g.1 + (k+1)), .ref (g.1 + (k+3)), .ref (g.1 + (k+5))])) := ⟨_, rfl⟩
  rw [← hEE] at I
  have Y : uY g (k+7) E6 s H locs := by rw [hEE]; exact Y
  clear hEE
  exact ret _ _ _ _ _ dX6_init_44 Y (I.done (by show _ = cXk g k _ _; rw [cX_6 hk]))
set_option maxHeartbeats 4000000 in
set_option maxRecDepth 100000 in
theorem cc_X0_init (l : Launch) (g : uG) (k : Nat) (hk : kd k = 0) : cC l yX0_init cX0_init 1 3 3 49 g [] k (.inr (0, bkL0)) (k + 4) := by
  intro E0 hE0
  refine u_ent_v (by decide +kernel) (Nat.le_of_ble_eq_true rfl) ?_
  intro p e R s m args below meth c Q ls X hR hnm Y hl ret
  have X : uX p 3 R s m args c cX0_init 1 RX0 := X
  have hl : lv_has ls 1 [(0, .ref (g.1 + k))] := hl
  have I : uPI g E0 k (.inr (0, bkL0)) (k+1) E0 := uPI.init g E0 k hE0
  have Y : uY g (k+1) E0 s s.heap [] := Y
  refine r_aload_n X dX0_init_0 hl 0 rfl ?_
  refine u_obj X hl (by decide) wm_209 (Nat.le_of_ble_eq_true rfl) dX0_init_1 ?_
  refine r_aload_n X dX0_init_4 hl 0 rfl ?_
  refine u_new (ci := 4) X Y fw_X4 tyX4 tyX4_ok wm_210 wm_154 wm_66 rfl bk_4 (by omega) (by omega) dX0_init_5 (fun H Y => ?_)
  refine r_dup X dX0_init_8 rfl ?_
  refine u_bv Y (u_runIN (As := []) (rest := [.ref (g.1 + (k+1)), .ref (g.1 + k)]) X Y (cc_X4_init l g (k+1) (kr_0_0 hk) _ (va_up_self _ _ _)) mk_X4_init mi_X4_init rfl Y.2.2.2.2.2.2.2.2.2.2.2.1 (by decide) rfl hl (Nat.le_of_ble_eq_true rfl) rfl dX0_init_9 ⟨by omega, by omega⟩) (fun E1 H locs hu Y => ?_)
  have I := I.call (n' := (k+4)) (by omega) hu
  have Y : uY g (k+4) E1 s H locs := Y
  clear hu
  refine u_putF X Y I.1 I.2.2.1 fw_X0 tyX0 tyX0_ok nmX0 (T := TX0) rfl 0 (by decide) wm_212 rfl rfl rfl hnm rfl rfl (Nat.le_of_ble_eq_true rfl) dX0_init_12 (fun H locs Y => ?_)
  have I := I.put (.inr (0, [.ref (g.1 + (k+1)), .int (iV 0), .int (iV 0)]))
  obtain ⟨E2, hEE⟩ : ∃ q, q = va_up E1 k (.inr (0, [.ref (g.1 + (k+1)), .int (iV 0), .int (iV 0)])) := ⟨_, rfl⟩
  rw [← hEE] at I
  have Y : uY g (k+4) E2 s H locs := by rw [hEE]; exact Y
  clear hEE
  refine r_aload_n X dX0_init_15 hl 0 rfl ?_
  refine r_iconst X dX0_init_16 ?_
  refine u_put X Y I.1 I.2.2.1 fw_X0 tyX0 tyX0_ok nmX0 (T := TX0) rfl 1 (by decide) wm_214 rfl rfl rfl rfl (Nat.le_of_ble_eq_true rfl) dX0_init_17 (fun H locs Y => ?_)
  have I := I.put (.inr (0, [.ref (g.1 + (k+1)), .int (iV (0)), .int (iV 0)]))
  obtain ⟨E3, hEE⟩ : ∃ q, q = va_up E2 k (.inr (0, [.ref (g.1 + (k+1)), .int (iV (0)), .int (iV 0)])) := ⟨_, rfl⟩
  rw [← hEE] at I
  have Y : uY g (k+4) E3 s H locs := by rw [hEE]; exact Y
  clear hEE
  refine r_aload_n X dX0_init_20 hl 0 rfl ?_
  refine r_iconst X dX0_init_21 ?_
  refine u_put X Y I.1 I.2.2.1 fw_X0 tyX0 tyX0_ok nmX0 (T := TX0) rfl 2 (by decide) wm_216 rfl rfl rfl rfl (Nat.le_of_ble_eq_true rfl) dX0_init_22 (fun H locs Y => ?_)
  have I := I.put (.inr (0, [.ref (g.1 + (k+1)), .int (iV (0)), .int (iV (0))]))
  obtain ⟨E4, hEE⟩ : ∃ q, q = va_up E3 k (.inr (0, [.ref (g.1 + (k+1)), .int (iV (0)), .int (iV (0))])) := ⟨_, rfl⟩
  rw [← hEE] at I
  have Y : uY g (k+4) E4 s H locs := by rw [hEE]; exact Y
  clear hEE
  exact ret _ _ _ _ _ dX0_init_25 Y (I.done (by show _ = cXk g k _ _; rw [cX_0 hk, t0N_z (kd_n0 hk (by decide)), t0N_z (kd_n0 hk (by decide))]))
set_option maxHeartbeats 4000000 in
set_option maxRecDepth 100000 in
theorem cc_X3_init (l : Launch) (g : uG)   : cC l yX3_init cX3_init 2 3 7 50 g [.ref (g.1 + 1)] 3 (.inr (3, bkL3)) 11 := by
  intro E0 hE0
  refine u_ent_v (by decide +kernel) (Nat.le_of_ble_eq_true rfl) ?_
  intro p e R s m args below meth c Q ls X hR hnm Y hl ret
  have X : uX p 3 R s m args c cX3_init 2 RX3 := X
  have hl : lv_has ls 2 [(0, .ref (g.1 + 3)), (1, .ref (g.1 + 1))] := hl
  have I : uPI g E0 3 (.inr (3, bkL3)) 4 E0 := uPI.init g E0 3 hE0
  have Y : uY g 4 E0 s s.heap [] := Y
  refine r_aload_n X dX3_init_0 hl 0 rfl ?_
  refine u_obj X hl (by decide) wm_108 (Nat.le_of_ble_eq_true rfl) dX3_init_1 ?_
  refine r_aload_n X dX3_init_4 hl 0 rfl ?_
  refine u_new (ci := 6) X Y fw_X6 tyX6 tyX6_ok wm_109 wm_110 wm_65 rfl bk_6 (by omega) (by omega) dX3_init_5 (fun H Y => ?_)
  refine r_dup X dX3_init_8 rfl ?_
  refine u_bv Y (u_runIN (As := []) (rest := [.ref (g.1 + 4), .ref (g.1 + 3)]) X Y (cc_X6_init l g 4 rfl _ (va_up_self _ _ _)) mk_X6_init mi_X6_init rfl Y.2.2.2.2.2.2.1 (by decide) rfl hl (Nat.le_of_ble_eq_true rfl) rfl dX3_init_9 ⟨by omega, by omega⟩) (fun E1 H locs hu Y => ?_)
  have I := I.call (n' := 11) (by omega) hu
  have Y : uY g 11 E1 s H locs := Y
  clear hu
  refine u_putF X Y I.1 I.2.2.1 fw_X3 tyX3 tyX3_ok nmX3 (T := TX3) rfl 1 (by decide) wm_136 rfl rfl rfl hnm rfl rfl (Nat.le_of_ble_eq_true rfl) dX3_init_12 (fun H locs Y => ?_)
  have I := I.put (.inr (3, [.null, .ref (g.1 + 4), .int (iV 0), .int (iV 0), .int (iV 0)]))
  obtain ⟨E2, hEE⟩ : ∃ q, q = va_up E1 3 (.inr (3, [.null, .ref (g.1 + 4), .int (iV 0), .int (iV 0), .int (iV 0)])) := ⟨_, rfl⟩
  rw [← hEE] at I
  have Y : uY g 11 E2 s H locs := by rw [hEE]; exact Y
  clear hEE
  refine r_aload_n X dX3_init_15 hl 0 rfl ?_
  refine r_iconst X dX3_init_16 ?_
  refine u_put X Y I.1 I.2.2.1 fw_X3 tyX3 tyX3_ok nmX3 (T := TX3) rfl 2 (by decide) wm_137 rfl rfl rfl rfl (Nat.le_of_ble_eq_true rfl) dX3_init_17 (fun H locs Y => ?_)
  have I := I.put (.inr (3, [.null, .ref (g.1 + 4), .int (iV (0)), .int (iV 0), .int (iV 0)]))
  obtain ⟨E3, hEE⟩ : ∃ q, q = va_up E2 3 (.inr (3, [.null, .ref (g.1 + 4), .int (iV (0)), .int (iV 0), .int (iV 0)])) := ⟨_, rfl⟩
  rw [← hEE] at I
  have Y : uY g 11 E3 s H locs := by rw [hEE]; exact Y
  clear hEE
  refine r_aload_n X dX3_init_20 hl 0 rfl ?_
  refine r_iconst X dX3_init_21 ?_
  refine u_put X Y I.1 I.2.2.1 fw_X3 tyX3 tyX3_ok nmX3 (T := TX3) rfl 3 (by decide) wm_138 rfl rfl rfl rfl (Nat.le_of_ble_eq_true rfl) dX3_init_22 (fun H locs Y => ?_)
  have I := I.put (.inr (3, [.null, .ref (g.1 + 4), .int (iV (0)), .int (iV (0)), .int (iV 0)]))
  obtain ⟨E4, hEE⟩ : ∃ q, q = va_up E3 3 (.inr (3, [.null, .ref (g.1 + 4), .int (iV (0)), .int (iV (0)), .int (iV 0)])) := ⟨_, rfl⟩
  rw [← hEE] at I
  have Y : uY g 11 E4 s H locs := by rw [hEE]; exact Y
  clear hEE
  refine r_aload_n X dX3_init_25 hl 0 rfl ?_
  refine r_iconst X dX3_init_26 ?_
  refine u_put X Y I.1 I.2.2.1 fw_X3 tyX3 tyX3_ok nmX3 (T := TX3) rfl 4 (by decide) wm_139 rfl rfl rfl rfl (Nat.le_of_ble_eq_true rfl) dX3_init_27 (fun H locs Y => ?_)
  have I := I.put (.inr (3, [.null, .ref (g.1 + 4), .int (iV (0)), .int (iV (0)), .int (iV ((-1)))]))
  obtain ⟨E5, hEE⟩ : ∃ q, q = va_up E4 3 (.inr (3, [.null, .ref (g.1 + 4), .int (iV (0)), .int (iV (0)), .int (iV ((-1)))])) := ⟨_, rfl⟩
  rw [← hEE] at I
  have Y : uY g 11 E5 s H locs := by rw [hEE]; exact Y
  clear hEE
  refine r_aload_n X dX3_init_30 hl 0 rfl ?_
  refine r_aload_n X dX3_init_31 hl 1 rfl ?_
  refine u_putF X Y I.1 I.2.2.1 fw_X3 tyX3 tyX3_ok nmX3 (T := TX3) rfl 0 (by decide) wm_135 rfl rfl rfl hnm rfl rfl (Nat.le_of_ble_eq_true rfl) dX3_init_32 (fun H locs Y => ?_)
  have I := I.put (.inr (3, [.ref (g.1 + 1), .ref (g.1 + 4), .int (iV (0)), .int (iV (0)), .int (iV ((-1)))]))
  obtain ⟨E6, hEE⟩ : ∃ q, q = va_up E5 3 (.inr (3, [.ref (g.1 + 1), .ref (g.1 + 4), .int (iV (0)), .int (iV (0)), .int (iV ((-1)))])) := ⟨_, rfl⟩
  rw [← hEE] at I
  have Y : uY g 11 E6 s H locs := by rw [hEE]; exact Y
  clear hEE
  exact ret _ _ _ _ _ dX3_init_35 Y (I.done rfl)
set_option maxHeartbeats 4000000 in
set_option maxRecDepth 100000 in
theorem cc_X2_init (l : Launch) (g : uG)   : cC l yX2_init cX2_init 2 2 4 22 g [.ref (g.1 + 11)] 91 (.inr (2, bkL2)) 96 := by
  intro E0 hE0
  refine u_ent_v (by decide +kernel) (Nat.le_of_ble_eq_true rfl) ?_
  intro p e R s m args below meth c Q ls X hR hnm Y hl ret
  have X : uX p 2 R s m args c cX2_init 2 RX2 := X
  have hl : lv_has ls 2 [(0, .ref (g.1 + 91)), (1, .ref (g.1 + 11))] := hl
  have I : uPI g E0 91 (.inr (2, bkL2)) 92 E0 := uPI.init g E0 91 hE0
  have Y : uY g 92 E0 s s.heap [] := Y
  refine r_aload_n X dX2_init_0 hl 0 rfl ?_
  refine u_obj X hl (by decide) wm_230 (Nat.le_of_ble_eq_true rfl) dX2_init_1 ?_
  refine r_aload_n X dX2_init_4 hl 0 rfl ?_
  refine u_new (ci := 5) X Y fw_X5 tyX5 tyX5_ok wm_231 wm_81 wm_62 rfl bk_5 (by omega) (by omega) dX2_init_5 (fun H Y => ?_)
  refine r_dup X dX2_init_8 rfl ?_
  refine r_iconst X dX2_init_9 ?_
  refine r_bipush X 7 dX2_init_10 (by decide) ?_
  refine u_bv Y (u_runI (As := [.int (iV (1)), .int (iV (7))]) (rest := [.ref (g.1 + 92), .ref (g.1 + 91)]) X Y (cc_X5_init l g 92 1 7 7 rfl rfl rfl rfl _ (va_up_self _ _ _)) mk_X5_init mi_X5_init rfl wm_232 (by decide) rfl hl (Nat.le_of_ble_eq_true rfl) rfl dX2_init_12 ⟨by omega, by omega⟩) (fun E1 H locs hu Y => ?_)
  have I := I.call (n' := 94) (by omega) hu
  have Y : uY g 94 E1 s H locs := Y
  clear hu
  refine u_putF X Y I.1 I.2.2.1 fw_X2 tyX2 tyX2_ok nmX2 (T := TX2) rfl 1 (by decide) wm_235 rfl rfl rfl hnm rfl rfl (Nat.le_of_ble_eq_true rfl) dX2_init_15 (fun H locs Y => ?_)
  have I := I.put (.inr (2, [.null, .ref (g.1 + 92), .null, .int (iV 0), .int (iV 0), .long (lV 0), .int (iV 0)]))
  obtain ⟨E2, hEE⟩ : ∃ q, q = va_up E1 91 (.inr (2, [.null, .ref (g.1 + 92), .null, .int (iV 0), .int (iV 0), .long (lV 0), .int (iV 0)])) := ⟨_, rfl⟩
  rw [← hEE] at I
  have Y : uY g 94 E2 s H locs := by rw [hEE]; exact Y
  clear hEE
  refine r_aload_n X dX2_init_18 hl 0 rfl ?_
  refine u_new (ci := 5) X Y fw_X5 tyX5 tyX5_ok wm_231 wm_81 wm_62 rfl bk_5 (by omega) (by omega) dX2_init_19 (fun H Y => ?_)
  refine r_dup X dX2_init_22 rfl ?_
  refine r_iconst X dX2_init_23 ?_
  refine r_bipush X 7 dX2_init_24 (by decide) ?_
  refine u_bv Y (u_runI (As := [.int (iV (1)), .int (iV (7))]) (rest := [.ref (g.1 + 94), .ref (g.1 + 91)]) X Y (cc_X5_init l g 94 1 7 7 rfl rfl rfl rfl _ (va_up_self _ _ _)) mk_X5_init mi_X5_init rfl wm_232 (by decide) rfl hl (Nat.le_of_ble_eq_true rfl) rfl dX2_init_26 ⟨by omega, by omega⟩) (fun E3 H locs hu Y => ?_)
  have I := I.call (n' := 96) (by omega) hu
  have Y : uY g 96 E3 s H locs := Y
  clear hu
  refine u_putF X Y I.1 I.2.2.1 fw_X2 tyX2 tyX2_ok nmX2 (T := TX2) rfl 2 (by decide) wm_236 rfl rfl rfl hnm rfl rfl (Nat.le_of_ble_eq_true rfl) dX2_init_29 (fun H locs Y => ?_)
  have I := I.put (.inr (2, [.null, .ref (g.1 + 92), .ref (g.1 + 94), .int (iV 0), .int (iV 0), .long (lV 0), .int (iV 0)]))
  obtain ⟨E4, hEE⟩ : ∃ q, q = va_up E3 91 (.inr (2, [.null, .ref (g.1 + 92), .ref (g.1 + 94), .int (iV 0), .int (iV 0), .long (lV 0), .int (iV 0)])) := ⟨_, rfl⟩
  rw [← hEE] at I
  have Y : uY g 96 E4 s H locs := by rw [hEE]; exact Y
  clear hEE
  refine r_aload_n X dX2_init_32 hl 0 rfl ?_
  refine r_iconst X dX2_init_33 ?_
  refine u_put X Y I.1 I.2.2.1 fw_X2 tyX2 tyX2_ok nmX2 (T := TX2) rfl 3 (by decide) wm_237 rfl rfl rfl rfl (Nat.le_of_ble_eq_true rfl) dX2_init_34 (fun H locs Y => ?_)
  have I := I.put (.inr (2, [.null, .ref (g.1 + 92), .ref (g.1 + 94), .int (iV (0)), .int (iV 0), .long (lV 0), .int (iV 0)]))
  obtain ⟨E5, hEE⟩ : ∃ q, q = va_up E4 91 (.inr (2, [.null, .ref (g.1 + 92), .ref (g.1 + 94), .int (iV (0)), .int (iV 0), .long (lV 0), .int (iV 0)])) := ⟨_, rfl⟩
  rw [← hEE] at I
  have Y : uY g 96 E5 s H locs := by rw [hEE]; exact Y
  clear hEE
  refine r_aload_n X dX2_init_37 hl 0 rfl ?_
  refine r_iconst X dX2_init_38 ?_
  refine u_put X Y I.1 I.2.2.1 fw_X2 tyX2 tyX2_ok nmX2 (T := TX2) rfl 4 (by decide) wm_238 rfl rfl rfl rfl (Nat.le_of_ble_eq_true rfl) dX2_init_39 (fun H locs Y => ?_)
  have I := I.put (.inr (2, [.null, .ref (g.1 + 92), .ref (g.1 + 94), .int (iV (0)), .int (iV (0)), .long (lV 0), .int (iV 0)]))
  obtain ⟨E6, hEE⟩ : ∃ q, q = va_up E5 91 (.inr (2, [.null, .ref (g.1 + 92), .ref (g.1 + 94), .int (iV (0)), .int (iV (0)), .long (lV 0), .int (iV 0)])) := ⟨_, rfl⟩
  rw [← hEE] at I
  have Y : uY g 96 E6 s H locs := by rw [hEE]; exact Y
  clear hEE
  refine r_aload_n X dX2_init_42 hl 0 rfl ?_
  refine r_ldc2 X (-1) wm_233 (by decide) dX2_init_43 ?_
  refine u_put X Y I.1 I.2.2.1 fw_X2 tyX2 tyX2_ok nmX2 (T := TX2) rfl 5 (by decide) wm_239 rfl rfl rfl rfl (Nat.le_of_ble_eq_true rfl) dX2_init_46 (fun H locs Y => ?_)
  have I := I.put (.inr (2, [.null, .ref (g.1 + 92), .ref (g.1 + 94), .int (iV (0)), .int (iV (0)), .long (lV ((-1))), .int (iV 0)]))
  obtain ⟨E7, hEE⟩ : ∃ q, q = va_up E6 91 (.inr (2, [.null, .ref (g.1 + 92), .ref (g.1 + 94), .int (iV (0)), .int (iV (0)), .long (lV ((-1))), .int (iV 0)])) := ⟨_, rfl⟩
  rw [← hEE] at I
  have Y : uY g 96 E7 s H locs := by rw [hEE]; exact Y
  clear hEE
  refine r_aload_n X dX2_init_49 hl 0 rfl ?_
  refine r_iconst X dX2_init_50 ?_
  refine u_put X Y I.1 I.2.2.1 fw_X2 tyX2 tyX2_ok nmX2 (T := TX2) rfl 6 (by decide) wm_240 rfl rfl rfl rfl (Nat.le_of_ble_eq_true rfl) dX2_init_51 (fun H locs Y => ?_)
  have I := I.put (.inr (2, [.null, .ref (g.1 + 92), .ref (g.1 + 94), .int (iV (0)), .int (iV (0)), .long (lV ((-1))), .int (iV (0))]))
  obtain ⟨E8, hEE⟩ : ∃ q, q = va_up E7 91 (.inr (2, [.null, .ref (g.1 + 92), .ref (g.1 + 94), .int (iV (0)), .int (iV (0)), .long (lV ((-1))), .int (iV (0))])) := ⟨_, rfl⟩
  rw [← hEE] at I
  have Y : uY g 96 E8 s H locs := by rw [hEE]; exact Y
  clear hEE
  refine r_aload_n X dX2_init_54 hl 0 rfl ?_
  refine r_aload_n X dX2_init_55 hl 1 rfl ?_
  refine u_putF X Y I.1 I.2.2.1 fw_X2 tyX2 tyX2_ok nmX2 (T := TX2) rfl 0 (by decide) wm_234 rfl rfl rfl hnm rfl rfl (Nat.le_of_ble_eq_true rfl) dX2_init_56 (fun H locs Y => ?_)
  have I := I.put (.inr (2, [.ref (g.1 + 11), .ref (g.1 + 92), .ref (g.1 + 94), .int (iV (0)), .int (iV (0)), .long (lV ((-1))), .int (iV (0))]))
  obtain ⟨E9, hEE⟩ : ∃ q, q = va_up E8 91 (.inr (2, [.ref (g.1 + 11), .ref (g.1 + 92), .ref (g.1 + 94), .int (iV (0)), .int (iV (0)), .long (lV ((-1))), .int (iV (0))])) := ⟨_, rfl⟩
  rw [← hEE] at I
  have Y : uY g 96 E9 s H locs := by rw [hEE]; exact Y
  clear hEE
  exact ret _ _ _ _ _ dX2_init_59 Y (I.done rfl)
set_option maxHeartbeats 4000000 in
set_option maxRecDepth 100000 in
theorem cc_X1_init (l : Launch) (g : uG) : cC l yX1_init cX1_init 2 3 61 1000 g [] 21 (.inr (1, bkL1)) 83 := by
  intro E0 hE0
  refine u_ent_v (by decide +kernel) (Nat.le_of_ble_eq_true rfl) ?_
  intro p e R s m args below meth c Q ls X hR hnm Y hl ret
  have X : uX p 3 R s m args c cX1_init 2 RX1 := X
  have hl : lv_has ls 2 [(0, .ref (g.1 + 21))] := hl
  have Y : uY g 22 E0 s s.heap [] := Y
  refine r_aload_n X dX1_init_0 hl 0 rfl ?_
  refine u_obj X hl (by decide) wm_190 (Nat.le_of_ble_eq_true rfl) dX1_init_1 ?_
  refine r_aload_n X dX1_init_4 hl 0 rfl ?_
  refine r_bipush X 20 dX1_init_5 (by decide) ?_
  refine u_newq X Y wm_191 (by omega) (by omega) dX1_init_7 (fun H Y => ?_)
  have V : uPV g E0 0 bkL1 _ := uPV.ini hE0
  obtain ⟨E1, hEE⟩ : ∃ q, q = va_up E0 22 (qV g.2.2.2.2 20 (fun _ => none)) := ⟨_, rfl⟩
  rw [← hEE] at V
  have Y : uY g 23 E1 s H [] := by rw [hEE]; exact Y
  clear hEE
  refine u_putF X Y (by omega) V.2.1 fw_X1 tyX1 tyX1_ok nmX1 (T := TX1) rfl 0 (by decide) wm_194 rfl rfl rfl hnm rfl rfl (Nat.le_of_ble_eq_true rfl) dX1_init_10 (fun H locs Y => ?_)
  have V := V.put [.ref (g.1 + 22), .int (iV 0), .int (iV 0)]
  obtain ⟨E2, hEE⟩ : ∃ q, q = va_up E1 21 (.inr (1, [.ref (g.1 + 22), .int (iV 0), .int (iV 0)])) := ⟨_, rfl⟩
  rw [← hEE] at V
  have Y : uY g 23 E2 s H locs := by rw [hEE]; exact Y
  clear hEE
  refine r_aload_n X dX1_init_13 hl 0 rfl ?_
  refine r_iconst X dX1_init_14 ?_
  refine u_put X Y (by omega) V.2.1 fw_X1 tyX1 tyX1_ok nmX1 (T := TX1) rfl 1 (by decide) wm_195 rfl rfl rfl rfl (Nat.le_of_ble_eq_true rfl) dX1_init_15 (fun H locs Y => ?_)
  have V := V.put [.ref (g.1 + 22), .int (iV 0), .int (iV 0)]
  obtain ⟨E3, hEE⟩ : ∃ q, q = va_up E2 21 (.inr (1, [.ref (g.1 + 22), .int (iV 0), .int (iV 0)])) := ⟨_, rfl⟩
  rw [← hEE] at V
  have Y : uY g 23 E3 s H locs := by rw [hEE]; exact Y
  clear hEE
  refine r_aload_n X dX1_init_18 hl 0 rfl ?_
  refine r_iconst X dX1_init_19 ?_
  refine u_put X Y (by omega) V.2.1 fw_X1 tyX1 tyX1_ok nmX1 (T := TX1) rfl 2 (by decide) wm_196 rfl rfl rfl rfl (Nat.le_of_ble_eq_true rfl) dX1_init_20 (fun H locs Y => ?_)
  have V := V.put [.ref (g.1 + 22), .int (iV 0), .int (iV 0)]
  obtain ⟨E4, hEE⟩ : ∃ q, q = va_up E3 21 (.inr (1, [.ref (g.1 + 22), .int (iV 0), .int (iV 0)])) := ⟨_, rfl⟩
  rw [← hEE] at V
  have Y : uY g 23 E4 s H locs := by rw [hEE]; exact Y
  clear hEE
  refine r_iconst X dX1_init_23 ?_
  refine r_istore_n X dX1_init_24 hl [(1, .int (iV (0))), (0, .ref (g.1 + 21))] (by decide) rfl (fun ls hl => ?_)
  have loop : ∀ (N : Nat) (i : Int) (E : Nat → va_E) (hi0 : 0 ≤ i) (hi1 : i ≤ 20) (V : uPV g E0 i.toNat [.ref (g.1 + 22), .int (iV 0), .int (iV 0)] E) (H : Heap) (locs : List Loc) (ls : Array Slot), (20 - i).toNat < N → uY g (23 + 3 * i.toNat) E s H locs → lv_has ls 2 [(1, .int (iV (i))), (0, .ref (g.1 + 21))] → W p l e R s m args below meth c H locs (1 + 3 * i.toNat) (20 + 49 * i.toNat) Q (F0 m 25 ls []) := by
    intro N
    induction N with
    | zero => intro i E hi0 hi1 V H locs ls hmu Y hl; exact absurd hmu (Nat.not_lt_zero _)
    | succ N ih =>
      intro i E hi0 hi1 V H locs ls hmu Y hl
      refine r_iload_n X dX1_init_25 hl 0 rfl ?_
      refine r_aload_n X dX1_init_26 hl 1 rfl ?_
      refine u_get X Y (k := 21) (by omega) V.2.1 fw_X1 (T := TX1) rfl 0 (by decide) wm_194 rfl rfl dX1_init_27 ?_
      refine u_alen X Y (k := 22) (by omega) V.2.2.1 dX1_init_30 ?_
      refine r_icmp_ge X (tgt := 53) dX1_init_31 (by decide) ⟨by omega, by omega⟩ ⟨by omega, by omega⟩ (fun c31 => ?_) (fun c31 => ?_)
      · have hi : i = 20 := by omega
        subst hi
        exact ret _ _ _ _ _ dX1_init_53 (Y.ring (k := 22) (f2 := fun j => some (g.1 + (23 + 3 * j))) (by omega) V.2.2.1 (fun j hj => if_pos hj)) V.done
      · refine r_aload_n X dX1_init_34 hl 1 rfl ?_
        refine u_get X Y (k := 21) (by omega) V.2.1 fw_X1 (T := TX1) rfl 0 (by decide) wm_194 rfl rfl dX1_init_35 ?_
        refine r_iload_n X dX1_init_38 hl 0 rfl ?_
        refine u_new (ci := 4) X Y fw_X4 tyX4 tyX4_ok wm_191 wm_154 wm_66 rfl bk_4 (by omega) (by omega) dX1_init_39 (fun H Y => ?_)
        refine r_dup X dX1_init_42 rfl ?_
        refine u_bv Y (u_runIN (As := []) (rest := [.ref (g.1 + (23 + 3 * i.toNat)), .int (iV i), .ref (g.1 + 22)]) X Y (cc_X4_init l g (23 + 3 * i.toNat) (kd_ring (by omega)) _ (va_up_self _ _ _)) mk_X4_init mi_X4_init rfl Y.2.2.2.2.2.2.2.2.2.1 (by decide) rfl hl (Nat.le_of_ble_eq_true rfl) rfl dX1_init_43 ⟨by omega, by omega⟩) (fun u H locs hu Y => ?_)
        obtain ⟨⟨q21, q22⟩, V⟩ := V.step hu
        have q4 := (hu.2 (23 + 3 * i.toNat) (by omega) (by omega)).trans (cX_4 (kd_ring (by omega)))
        refine u_aast X Y (k := 22) (kv := 23 + 3 * i.toNat) (by omega) (by omega) q22 q4 hi0 (by omega) dX1_init_46 (fun H locs Y => ?_)
        refine r_iinc X dX1_init_47 hl 0 rfl [(1, .int (iV (i + 1))), (0, .ref (g.1 + 21))] (by decide) rfl (fun ls hl => ?_)
        refine r_goto X 25 dX1_init_50 (by decide) ?_
        rw [show 1 + 3 * i.toNat + 1 + 2 = 1 + 3 * (i + 1).toNat by omega, show 20 + 49 * i.toNat + 5 + 44 = 20 + 49 * (i + 1).toNat by omega]
        exact ih (i + 1) _ (by omega) (by omega) (by rw [show (i + 1).toNat = i.toNat + 1 by omega]; exact V) _ _ _ (by omega) (by rw [show 23 + 3 * (i + 1).toNat = 23 + 3 * i.toNat + 3 by omega]; exact Y) hl
  exact loop 21 0 E4 (by omega) (by omega) V _ _ _ (by decide) Y hl
set_option maxHeartbeats 4000000 in
set_option maxRecDepth 100000 in
theorem cc_X7_init (l : Launch) (g : uG)   : cC l yX7_init cX7_init 1 4 99 1549 g [] 0 (.inr (7, bkL7)) 100 := by
  intro E0 hE0
  refine u_ent_v (by decide +kernel) (Nat.le_of_ble_eq_true rfl) ?_
  intro p e R s m args below meth c Q ls X hR hnm Y hl ret
  have X : uX p 4 R s m args c cX7_init 1 RX7 := X
  have hl : lv_has ls 1 [(0, .ref (g.1 + 0))] := hl
  have I : uPI g E0 0 (.inr (7, bkL7)) 1 E0 := uPI.init g E0 0 hE0
  have Y : uY g 1 E0 s s.heap [] := Y
  refine r_aload_n X dX7_init_0 hl 0 rfl ?_
  refine u_obj X hl (by decide) wm_77 (Nat.le_of_ble_eq_true rfl) dX7_init_1 ?_
  refine r_aload_n X dX7_init_4 hl 0 rfl ?_
  refine u_new (ci := 5) X Y fw_X5 tyX5 tyX5_ok wm_80 wm_81 wm_62 rfl bk_5 (by omega) (by omega) dX7_init_5 (fun H Y => ?_)
  refine r_dup X dX7_init_8 rfl ?_
  refine r_iconst X dX7_init_9 ?_
  refine r_sipush X 220 dX7_init_10 (by decide) ?_
  refine u_bv Y (u_runI (As := [.int (iV (1)), .int (iV (220))]) (rest := [.ref (g.1 + 1), .ref (g.1 + 0)]) X Y (cc_X5_init l g 1 1 220 220 rfl rfl rfl rfl _ (va_up_self _ _ _)) mk_X5_init mi_X5_init rfl wm_82 (by decide) rfl hl (Nat.le_of_ble_eq_true rfl) rfl dX7_init_13 ⟨by omega, by omega⟩) (fun E1 H locs hu Y => ?_)
  have I := I.call (n' := 3) (by omega) hu
  have Y : uY g 3 E1 s H locs := Y
  clear hu
  refine u_putF X Y I.1 I.2.2.1 fw_X7 tyX7 tyX7_ok nmX7 (T := TX7) rfl 0 (by decide) wm_256 rfl rfl rfl hnm rfl rfl (Nat.le_of_ble_eq_true rfl) dX7_init_16 (fun H locs Y => ?_)
  have I := I.put (.inr (7, [.ref (g.1 + 1), .null, .null, .null, .null, .null, .null, .null, .null, .null, .int (iV 0), .int (iV 0)]))
  obtain ⟨E2, hEE⟩ : ∃ q, q = va_up E1 0 (.inr (7, [.ref (g.1 + 1), .null, .null, .null, .null, .null, .null, .null, .null, .null, .int (iV 0), .int (iV 0)])) := ⟨_, rfl⟩
  rw [← hEE] at I
  have Y : uY g 3 E2 s H locs := by rw [hEE]; exact Y
  clear hEE
  refine r_aload_n X dX7_init_19 hl 0 rfl ?_
  refine u_new (ci := 3) X Y fw_X3 tyX3 tyX3_ok wm_103 wm_104 wm_64 rfl bk_3 (by omega) (by omega) dX7_init_20 (fun H Y => ?_)
  refine r_dup X dX7_init_23 rfl ?_
  refine r_aload_n X dX7_init_24 hl 0 rfl ?_
  refine u_get X Y (by omega) ((va_up_ne _ _ (by omega)).trans I.2.2.1) fw_X7 (T := TX7) rfl 0 (by decide) wm_256 rfl rfl dX7_init_25 ?_
  refine u_bv Y (u_runI (As := [.ref (g.1 + 1)]) (rest := [.ref (g.1 + 3), .ref (g.1 + 0)]) X Y (cc_X3_init l g _ (va_up_self _ _ _)) mk_X3_init mi_X3_init rfl wm_105 (by decide) rfl hl (Nat.le_of_ble_eq_true rfl) rfl dX7_init_28 ⟨by omega, by omega⟩) (fun E3 H locs hu Y => ?_)
  have I := I.call (n' := 11) (by omega) hu
  have Y : uY g 11 E3 s H locs := Y
  clear hu
  refine u_putF X Y I.1 I.2.2.1 fw_X7 tyX7 tyX7_ok nmX7 (T := TX7) rfl 1 (by decide) wm_257 rfl rfl rfl hnm rfl rfl (Nat.le_of_ble_eq_true rfl) dX7_init_31 (fun H locs Y => ?_)
  have I := I.put (.inr (7, [.ref (g.1 + 1), .ref (g.1 + 3), .null, .null, .null, .null, .null, .null, .null, .null, .int (iV 0), .int (iV 0)]))
  obtain ⟨E4, hEE⟩ : ∃ q, q = va_up E3 0 (.inr (7, [.ref (g.1 + 1), .ref (g.1 + 3), .null, .null, .null, .null, .null, .null, .null, .null, .int (iV 0), .int (iV 0)])) := ⟨_, rfl⟩
  rw [← hEE] at I
  have Y : uY g 11 E4 s H locs := by rw [hEE]; exact Y
  clear hEE
  refine r_aload_n X dX7_init_34 hl 0 rfl ?_
  refine u_new (ci := 6) X Y fw_X6 tyX6 tyX6_ok wm_151 wm_110 wm_65 rfl bk_6 (by omega) (by omega) dX7_init_35 (fun H Y => ?_)
  refine r_dup X dX7_init_38 rfl ?_
  refine u_bv Y (u_runIN (As := []) (rest := [.ref (g.1 + 11), .ref (g.1 + 0)]) X Y (cc_X6_init l g 11 rfl _ (va_up_self _ _ _)) mk_X6_init mi_X6_init rfl Y.2.2.2.2.2.2.2.1 (by decide) rfl hl (Nat.le_of_ble_eq_true rfl) rfl dX7_init_39 ⟨by omega, by omega⟩) (fun E5 H locs hu Y => ?_)
  have I := I.call (n' := 18) (by omega) hu
  have Y : uY g 18 E5 s H locs := Y
  clear hu
  refine u_putF X Y I.1 I.2.2.1 fw_X7 tyX7 tyX7_ok nmX7 (T := TX7) rfl 2 (by decide) wm_258 rfl rfl rfl hnm rfl rfl (Nat.le_of_ble_eq_true rfl) dX7_init_42 (fun H locs Y => ?_)
  have I := I.put (.inr (7, [.ref (g.1 + 1), .ref (g.1 + 3), .ref (g.1 + 11), .null, .null, .null, .null, .null, .null, .null, .int (iV 0), .int (iV 0)]))
  obtain ⟨E6, hEE⟩ : ∃ q, q = va_up E5 0 (.inr (7, [.ref (g.1 + 1), .ref (g.1 + 3), .ref (g.1 + 11), .null, .null, .null, .null, .null, .null, .null, .int (iV 0), .int (iV 0)])) := ⟨_, rfl⟩
  rw [← hEE] at I
  have Y : uY g 18 E6 s H locs := by rw [hEE]; exact Y
  clear hEE
  refine r_aload_n X dX7_init_45 hl 0 rfl ?_
  refine u_new (ci := 4) X Y fw_X4 tyX4 tyX4_ok wm_153 wm_154 wm_66 rfl bk_4 (by omega) (by omega) dX7_init_46 (fun H Y => ?_)
  refine r_dup X dX7_init_49 rfl ?_
  refine u_bv Y (u_runIN (As := []) (rest := [.ref (g.1 + 18), .ref (g.1 + 0)]) X Y (cc_X4_init l g 18 rfl _ (va_up_self _ _ _)) mk_X4_init mi_X4_init rfl Y.2.2.2.2.2.2.2.2.1 (by decide) rfl hl (Nat.le_of_ble_eq_true rfl) rfl dX7_init_50 ⟨by omega, by omega⟩) (fun E7 H locs hu Y => ?_)
  have I := I.call (n' := 21) (by omega) hu
  have Y : uY g 21 E7 s H locs := Y
  clear hu
  refine u_putF X Y I.1 I.2.2.1 fw_X7 tyX7 tyX7_ok nmX7 (T := TX7) rfl 3 (by decide) wm_259 rfl rfl rfl hnm rfl rfl (Nat.le_of_ble_eq_true rfl) dX7_init_53 (fun H locs Y => ?_)
  have I := I.put (.inr (7, [.ref (g.1 + 1), .ref (g.1 + 3), .ref (g.1 + 11), .ref (g.1 + 18), .null, .null, .null, .null, .null, .null, .int (iV 0), .int (iV 0)]))
  obtain ⟨E8, hEE⟩ : ∃ q, q = va_up E7 0 (.inr (7, [.ref (g.1 + 1), .ref (g.1 + 3), .ref (g.1 + 11), .ref (g.1 + 18), .null, .null, .null, .null, .null, .null, .int (iV 0), .int (iV 0)])) := ⟨_, rfl⟩
  rw [← hEE] at I
  have Y : uY g 21 E8 s H locs := by rw [hEE]; exact Y
  clear hEE
  refine r_aload_n X dX7_init_56 hl 0 rfl ?_
  refine u_new (ci := 1) X Y fw_X1 tyX1 tyX1_ok wm_185 wm_186 wm_67 rfl bk_1 (by omega) (by omega) dX7_init_57 (fun H Y => ?_)
  refine r_dup X dX7_init_60 rfl ?_
  refine u_bv Y (u_runI (As := []) (rest := [.ref (g.1 + 21), .ref (g.1 + 0)]) X Y (cc_X1_init l g _ (va_up_self _ _ _)) mk_X1_init mi_X1_init rfl wm_187 (by decide) rfl hl (Nat.le_of_ble_eq_true rfl) rfl dX7_init_61 ⟨by omega, by omega⟩) (fun E9 H locs hu Y => ?_)
  have I := I.call (n' := 83) (by omega) hu
  have Y : uY g 83 E9 s H locs := Y
  clear hu
  refine u_putF X Y I.1 I.2.2.1 fw_X7 tyX7 tyX7_ok nmX7 (T := TX7) rfl 4 (by decide) wm_260 rfl rfl rfl hnm rfl rfl (Nat.le_of_ble_eq_true rfl) dX7_init_64 (fun H locs Y => ?_)
  have I := I.put (.inr (7, [.ref (g.1 + 1), .ref (g.1 + 3), .ref (g.1 + 11), .ref (g.1 + 18), .ref (g.1 + 21), .null, .null, .null, .null, .null, .int (iV 0), .int (iV 0)]))
  obtain ⟨E10, hEE⟩ : ∃ q, q = va_up E9 0 (.inr (7, [.ref (g.1 + 1), .ref (g.1 + 3), .ref (g.1 + 11), .ref (g.1 + 18), .ref (g.1 + 21), .null, .null, .null, .null, .null, .int (iV 0), .int (iV 0)])) := ⟨_, rfl⟩
  rw [← hEE] at I
  have Y : uY g 83 E10 s H locs := by rw [hEE]; exact Y
  clear hEE
  refine r_aload_n X dX7_init_67 hl 0 rfl ?_
  refine u_new (ci := 0) X Y fw_X0 tyX0 tyX0_ok wm_204 wm_205 wm_68 rfl bk_0 (by omega) (by omega) dX7_init_68 (fun H Y => ?_)
  refine r_dup X dX7_init_71 rfl ?_
  refine u_bv Y (u_runIN (As := []) (rest := [.ref (g.1 + 83), .ref (g.1 + 0)]) X Y (cc_X0_init l g 83 rfl _ (va_up_self _ _ _)) mk_X0_init mi_X0_init rfl Y.2.2.2.2.2.2.2.2.2.2.1 (by decide) rfl hl (Nat.le_of_ble_eq_true rfl) rfl dX7_init_72 ⟨by omega, by omega⟩) (fun E11 H locs hu Y => ?_)
  have I := I.call (n' := 87) (by omega) hu
  have Y : uY g 87 E11 s H locs := Y
  clear hu
  refine u_putF X Y I.1 I.2.2.1 fw_X7 tyX7 tyX7_ok nmX7 (T := TX7) rfl 5 (by decide) wm_261 rfl rfl rfl hnm rfl rfl (Nat.le_of_ble_eq_true rfl) dX7_init_75 (fun H locs Y => ?_)
  have I := I.put (.inr (7, [.ref (g.1 + 1), .ref (g.1 + 3), .ref (g.1 + 11), .ref (g.1 + 18), .ref (g.1 + 21), .ref (g.1 + 83), .null, .null, .null, .null, .int (iV 0), .int (iV 0)]))
  obtain ⟨E12, hEE⟩ : ∃ q, q = va_up E11 0 (.inr (7, [.ref (g.1 + 1), .ref (g.1 + 3), .ref (g.1 + 11), .ref (g.1 + 18), .ref (g.1 + 21), .ref (g.1 + 83), .null, .null, .null, .null, .int (iV 0), .int (iV 0)])) := ⟨_, rfl⟩
  rw [← hEE] at I
  have Y : uY g 87 E12 s H locs := by rw [hEE]; exact Y
  clear hEE
  refine r_aload_n X dX7_init_78 hl 0 rfl ?_
  refine u_new (ci := 0) X Y fw_X0 tyX0 tyX0_ok wm_204 wm_205 wm_68 rfl bk_0 (by omega) (by omega) dX7_init_79 (fun H Y => ?_)
  refine r_dup X dX7_init_82 rfl ?_
  refine u_bv Y (u_runIN (As := []) (rest := [.ref (g.1 + 87), .ref (g.1 + 0)]) X Y (cc_X0_init l g 87 rfl _ (va_up_self _ _ _)) mk_X0_init mi_X0_init rfl Y.2.2.2.2.2.2.2.2.2.2.1 (by decide) rfl hl (Nat.le_of_ble_eq_true rfl) rfl dX7_init_83 ⟨by omega, by omega⟩) (fun E13 H locs hu Y => ?_)
  have I := I.call (n' := 91) (by omega) hu
  have Y : uY g 91 E13 s H locs := Y
  clear hu
  refine u_putF X Y I.1 I.2.2.1 fw_X7 tyX7 tyX7_ok nmX7 (T := TX7) rfl 6 (by decide) wm_262 rfl rfl rfl hnm rfl rfl (Nat.le_of_ble_eq_true rfl) dX7_init_86 (fun H locs Y => ?_)
  have I := I.put (.inr (7, [.ref (g.1 + 1), .ref (g.1 + 3), .ref (g.1 + 11), .ref (g.1 + 18), .ref (g.1 + 21), .ref (g.1 + 83), .ref (g.1 + 87), .null, .null, .null, .int (iV 0), .int (iV 0)]))
  obtain ⟨E14, hEE⟩ : ∃ q, q = va_up E13 0 (.inr (7, [.ref (g.1 + 1), .ref (g.1 + 3), .ref (g.1 + 11), .ref (g.1 + 18), .ref (g.1 + 21), .ref (g.1 + 83), .ref (g.1 + 87), .null, .null, .null, .int (iV 0), .int (iV 0)])) := ⟨_, rfl⟩
  rw [← hEE] at I
  have Y : uY g 91 E14 s H locs := by rw [hEE]; exact Y
  clear hEE
  refine r_aload_n X dX7_init_89 hl 0 rfl ?_
  refine u_new (ci := 2) X Y fw_X2 tyX2 tyX2_ok wm_225 wm_226 wm_69 rfl bk_2 (by omega) (by omega) dX7_init_90 (fun H Y => ?_)
  refine r_dup X dX7_init_93 rfl ?_
  refine r_aload_n X dX7_init_94 hl 0 rfl ?_
  refine u_get X Y (by omega) ((va_up_ne _ _ (by omega)).trans I.2.2.1) fw_X7 (T := TX7) rfl 2 (by decide) wm_258 rfl rfl dX7_init_95 ?_
  refine u_bv Y (u_runI (As := [.ref (g.1 + 11)]) (rest := [.ref (g.1 + 91), .ref (g.1 + 0)]) X Y (cc_X2_init l g _ (va_up_self _ _ _)) mk_X2_init mi_X2_init rfl wm_227 (by decide) rfl hl (Nat.le_of_ble_eq_true rfl) rfl dX7_init_98 ⟨by omega, by omega⟩) (fun E15 H locs hu Y => ?_)
  have I := I.call (n' := 96) (by omega) hu
  have Y : uY g 96 E15 s H locs := Y
  clear hu
  refine u_putF X Y I.1 I.2.2.1 fw_X7 tyX7 tyX7_ok nmX7 (T := TX7) rfl 7 (by decide) wm_263 rfl rfl rfl hnm rfl rfl (Nat.le_of_ble_eq_true rfl) dX7_init_101 (fun H locs Y => ?_)
  have I := I.put (.inr (7, [.ref (g.1 + 1), .ref (g.1 + 3), .ref (g.1 + 11), .ref (g.1 + 18), .ref (g.1 + 21), .ref (g.1 + 83), .ref (g.1 + 87), .ref (g.1 + 91), .null, .null, .int (iV 0), .int (iV 0)]))
  obtain ⟨E16, hEE⟩ : ∃ q, q = va_up E15 0 (.inr (7, [.ref (g.1 + 1), .ref (g.1 + 3), .ref (g.1 + 11), .ref (g.1 + 18), .ref (g.1 + 21), .ref (g.1 + 83), .ref (g.1 + 87), .ref (g.1 + 91), .null, .null, .int (iV 0), .int (iV 0)])) := ⟨_, rfl⟩
  rw [← hEE] at I
  have Y : uY g 96 E16 s H locs := by rw [hEE]; exact Y
  clear hEE
  refine r_aload_n X dX7_init_104 hl 0 rfl ?_
  refine u_new (ci := 5) X Y fw_X5 tyX5 tyX5_ok wm_80 wm_81 wm_62 rfl bk_5 (by omega) (by omega) dX7_init_105 (fun H Y => ?_)
  refine r_dup X dX7_init_108 rfl ?_
  refine r_iconst X dX7_init_109 ?_
  refine r_bipush X 6 dX7_init_110 (by decide) ?_
  refine u_bv Y (u_runI (As := [.int (iV (2)), .int (iV (6))]) (rest := [.ref (g.1 + 96), .ref (g.1 + 0)]) X Y (cc_X5_init l g 96 2 6 12 rfl rfl rfl rfl _ (va_up_self _ _ _)) mk_X5_init mi_X5_init rfl wm_82 (by decide) rfl hl (Nat.le_of_ble_eq_true rfl) rfl dX7_init_112 ⟨by omega, by omega⟩) (fun E17 H locs hu Y => ?_)
  have I := I.call (n' := 98) (by omega) hu
  have Y : uY g 98 E17 s H locs := Y
  clear hu
  refine u_putF X Y I.1 I.2.2.1 fw_X7 tyX7 tyX7_ok nmX7 (T := TX7) rfl 8 (by decide) wm_264 rfl rfl rfl hnm rfl rfl (Nat.le_of_ble_eq_true rfl) dX7_init_115 (fun H locs Y => ?_)
  have I := I.put (.inr (7, [.ref (g.1 + 1), .ref (g.1 + 3), .ref (g.1 + 11), .ref (g.1 + 18), .ref (g.1 + 21), .ref (g.1 + 83), .ref (g.1 + 87), .ref (g.1 + 91), .ref (g.1 + 96), .null, .int (iV 0), .int (iV 0)]))
  obtain ⟨E18, hEE⟩ : ∃ q, q = va_up E17 0 (.inr (7, [.ref (g.1 + 1), .ref (g.1 + 3), .ref (g.1 + 11), .ref (g.1 + 18), .ref (g.1 + 21), .ref (g.1 + 83), .ref (g.1 + 87), .ref (g.1 + 91), .ref (g.1 + 96), .null, .int (iV 0), .int (iV 0)])) := ⟨_, rfl⟩
  rw [← hEE] at I
  have Y : uY g 98 E18 s H locs := by rw [hEE]; exact Y
  clear hEE
  refine r_aload_n X dX7_init_118 hl 0 rfl ?_
  refine u_new (ci := 5) X Y fw_X5 tyX5 tyX5_ok wm_80 wm_81 wm_62 rfl bk_5 (by omega) (by omega) dX7_init_119 (fun H Y => ?_)
  refine r_dup X dX7_init_122 rfl ?_
  refine r_iconst X dX7_init_123 ?_
  refine r_bipush X 15 dX7_init_124 (by decide) ?_
  refine u_bv Y (u_runI (As := [.int (iV (1)), .int (iV (15))]) (rest := [.ref (g.1 + 98), .ref (g.1 + 0)]) X Y (cc_X5_init l g 98 1 15 15 rfl rfl rfl rfl _ (va_up_self _ _ _)) mk_X5_init mi_X5_init rfl wm_82 (by decide) rfl hl (Nat.le_of_ble_eq_true rfl) rfl dX7_init_126 ⟨by omega, by omega⟩) (fun E19 H locs hu Y => ?_)
  have I := I.call (n' := 100) (by omega) hu
  have Y : uY g 100 E19 s H locs := Y
  clear hu
  refine u_putF X Y I.1 I.2.2.1 fw_X7 tyX7 tyX7_ok nmX7 (T := TX7) rfl 9 (by decide) wm_265 rfl rfl rfl hnm rfl rfl (Nat.le_of_ble_eq_true rfl) dX7_init_129 (fun H locs Y => ?_)
  have I := I.put (.inr (7, [.ref (g.1 + 1), .ref (g.1 + 3), .ref (g.1 + 11), .ref (g.1 + 18), .ref (g.1 + 21), .ref (g.1 + 83), .ref (g.1 + 87), .ref (g.1 + 91), .ref (g.1 + 96), .ref (g.1 + 98), .int (iV 0), .int (iV 0)]))
  obtain ⟨E20, hEE⟩ : ∃ q, q = va_up E19 0 (.inr (7, [.ref (g.1 + 1), .ref (g.1 + 3), .ref (g.1 + 11), .ref (g.1 + 18), .ref (g.1 + 21), .ref (g.1 + 83), .ref (g.1 + 87), .ref (g.1 + 91), .ref (g.1 + 96), .ref (g.1 + 98), .int (iV 0), .int (iV 0)])) := ⟨_, rfl⟩
  rw [← hEE] at I
  have Y : uY g 100 E20 s H locs := by rw [hEE]; exact Y
  clear hEE
  refine r_aload_n X dX7_init_132 hl 0 rfl ?_
  refine r_iconst X dX7_init_133 ?_
  refine u_put X Y I.1 I.2.2.1 fw_X7 tyX7 tyX7_ok nmX7 (T := TX7) rfl 10 (by decide) wm_266 rfl rfl rfl rfl (Nat.le_of_ble_eq_true rfl) dX7_init_134 (fun H locs Y => ?_)
  have I := I.put (.inr (7, [.ref (g.1 + 1), .ref (g.1 + 3), .ref (g.1 + 11), .ref (g.1 + 18), .ref (g.1 + 21), .ref (g.1 + 83), .ref (g.1 + 87), .ref (g.1 + 91), .ref (g.1 + 96), .ref (g.1 + 98), .int (iV ((-1))), .int (iV 0)]))
  obtain ⟨E21, hEE⟩ : ∃ q, q = va_up E20 0 (.inr (7, [.ref (g.1 + 1), .ref (g.1 + 3), .ref (g.1 + 11), .ref (g.1 + 18), .ref (g.1 + 21), .ref (g.1 + 83), .ref (g.1 + 87), .ref (g.1 + 91), .ref (g.1 + 96), .ref (g.1 + 98), .int (iV ((-1))), .int (iV 0)])) := ⟨_, rfl⟩
  rw [← hEE] at I
  have Y : uY g 100 E21 s H locs := by rw [hEE]; exact Y
  clear hEE
  refine r_aload_n X dX7_init_137 hl 0 rfl ?_
  refine r_iconst X dX7_init_138 ?_
  refine u_put X Y I.1 I.2.2.1 fw_X7 tyX7 tyX7_ok nmX7 (T := TX7) rfl 11 (by decide) wm_267 rfl rfl rfl rfl (Nat.le_of_ble_eq_true rfl) dX7_init_139 (fun H locs Y => ?_)
  have I := I.put (.inr (7, [.ref (g.1 + 1), .ref (g.1 + 3), .ref (g.1 + 11), .ref (g.1 + 18), .ref (g.1 + 21), .ref (g.1 + 83), .ref (g.1 + 87), .ref (g.1 + 91), .ref (g.1 + 96), .ref (g.1 + 98), .int (iV ((-1))), .int (iV (0))]))
  obtain ⟨E22, hEE⟩ : ∃ q, q = va_up E21 0 (.inr (7, [.ref (g.1 + 1), .ref (g.1 + 3), .ref (g.1 + 11), .ref (g.1 + 18), .ref (g.1 + 21), .ref (g.1 + 83), .ref (g.1 + 87), .ref (g.1 + 91), .ref (g.1 + 96), .ref (g.1 + 98), .int (iV ((-1))), .int (iV (0))])) := ⟨_, rfl⟩
  rw [← hEE] at I
  have Y : uY g 100 E22 s H locs := by rw [hEE]; exact Y
  clear hEE
  exact ret _ _ _ _ _ dX7_init_142 Y (I.done rfl)
set_option maxHeartbeats 4000000 in
set_option maxRecDepth 100000 in
theorem cc_X8_init (l : Launch) (g : uG)   : cC l yX8_init cX8_init 1 1 16 1341 g [] 100 (.inr (8, bkL8)) 117 := by
  intro E0 hE0
  refine u_ent_v (by decide +kernel) (Nat.le_of_ble_eq_true rfl) ?_
  intro p e R s m args below meth c Q ls X hR hnm Y hl ret
  have X : uX p 1 R s m args c cX8_init 1 RX8 := X
  have hl : lv_has ls 1 [(0, .ref (g.1 + 100))] := hl
  have I : uPI g E0 100 (.inr (8, bkL8)) 101 E0 := uPI.init g E0 100 hE0
  have Y : uY g 101 E0 s s.heap [] := Y
  refine r_aload_n X dX8_init_0 hl 0 rfl ?_
  refine u_obj X hl (by decide) wm_736 (Nat.le_of_ble_eq_true rfl) dX8_init_1 ?_
  refine r_aload_n X dX8_init_4 hl 0 rfl ?_
  refine r_sipush X 1008 dX8_init_5 (by decide) ?_
  refine u_newa X Y wm_102 (N := 1008) rfl (by decide) (by omega) (by omega) dX8_init_8 (fun H Y => ?_)
  have I := I.new (e2 := aV g.2.2.1 1008 (fun _ => 0)) rfl
  obtain ⟨E1, hEE⟩ : ∃ q, q = va_up E0 101 (aV g.2.2.1 1008 (fun _ => 0)) := ⟨_, rfl⟩
  rw [← hEE] at I
  have Y : uY g 102 E1 s H [] := by rw [hEE]; exact Y
  clear hEE
  refine u_putF X Y I.1 I.2.2.1 fw_X8 tyX8 tyX8_ok nmX8 (T := TX8) rfl 0 (by decide) wm_737 rfl rfl rfl hnm rfl rfl (Nat.le_of_ble_eq_true rfl) dX8_init_10 (fun H locs Y => ?_)
  have I := I.put (.inr (8, [.ref (g.1 + 101), .null, .int (iV 0), .int (iV 0), .int (iV 0), .int (iV 0), .int (iV 0), .null, .null, .null, .int (iV 0), .null, .null, .null, .int (iV 0), .int (iV 0), .int (iV 0), .int (iV 0), .int (iV 0), .int (iV 0), .int (iV 0), .null, .int (iV 0), .null, .int (iV 0), .null, .null, .int (iV 0), .null, .int (iV 0), .long (lV 0), .int (iV 0), .null, .null, .int (iV 0), .null]))
  obtain ⟨E2, hEE⟩ : ∃ q, q = va_up E1 100 (.inr (8, [.ref (g.1 + 101), .null, .int (iV 0), .int (iV 0), .int (iV 0), .int (iV 0), .int (iV 0), .null, .null, .null, .int (iV 0), .null, .null, .null, .int (iV 0), .int (iV 0), .int (iV 0), .int (iV 0), .int (iV 0), .int (iV 0), .int (iV 0), .null, .int (iV 0), .null, .int (iV 0), .null, .null, .int (iV 0), .null, .int (iV 0), .long (lV 0), .int (iV 0), .null, .null, .int (iV 0), .null])) := ⟨_, rfl⟩
  rw [← hEE] at I
  have Y : uY g 102 E2 s H locs := by rw [hEE]; exact Y
  clear hEE
  refine r_aload_n X dX8_init_13 hl 0 rfl ?_
  refine r_iconst X dX8_init_14 ?_
  refine u_newz X Y wm_846 (N := 2) rfl (by decide) (by omega) (by omega) dX8_init_15 (fun H Y => ?_)
  have I := I.new (e2 := aV g.2.2.2.1 2 (fun _ => 0)) rfl
  obtain ⟨E3, hEE⟩ : ∃ q, q = va_up E2 102 (aV g.2.2.2.1 2 (fun _ => 0)) := ⟨_, rfl⟩
  rw [← hEE] at I
  have Y : uY g 103 E3 s H locs := by rw [hEE]; exact Y
  clear hEE
  refine u_putF X Y I.1 I.2.2.1 fw_X8 tyX8 tyX8_ok nmX8 (T := TX8) rfl 1 (by decide) wm_738 rfl rfl rfl hnm rfl rfl (Nat.le_of_ble_eq_true rfl) dX8_init_17 (fun H locs Y => ?_)
  have I := I.put (.inr (8, [.ref (g.1 + 101), .ref (g.1 + 102), .int (iV 0), .int (iV 0), .int (iV 0), .int (iV 0), .int (iV 0), .null, .null, .null, .int (iV 0), .null, .null, .null, .int (iV 0), .int (iV 0), .int (iV 0), .int (iV 0), .int (iV 0), .int (iV 0), .int (iV 0), .null, .int (iV 0), .null, .int (iV 0), .null, .null, .int (iV 0), .null, .int (iV 0), .long (lV 0), .int (iV 0), .null, .null, .int (iV 0), .null]))
  obtain ⟨E4, hEE⟩ : ∃ q, q = va_up E3 100 (.inr (8, [.ref (g.1 + 101), .ref (g.1 + 102), .int (iV 0), .int (iV 0), .int (iV 0), .int (iV 0), .int (iV 0), .null, .null, .null, .int (iV 0), .null, .null, .null, .int (iV 0), .int (iV 0), .int (iV 0), .int (iV 0), .int (iV 0), .int (iV 0), .int (iV 0), .null, .int (iV 0), .null, .int (iV 0), .null, .null, .int (iV 0), .null, .int (iV 0), .long (lV 0), .int (iV 0), .null, .null, .int (iV 0), .null])) := ⟨_, rfl⟩
  rw [← hEE] at I
  have Y : uY g 103 E4 s H locs := by rw [hEE]; exact Y
  clear hEE
  refine r_aload_n X dX8_init_20 hl 0 rfl ?_
  refine r_bipush X 7 dX8_init_21 (by decide) ?_
  refine u_newa X Y wm_102 (N := 7) rfl (by decide) (by omega) (by omega) dX8_init_23 (fun H Y => ?_)
  have I := I.new (e2 := aV g.2.2.1 7 (fun _ => 0)) rfl
  obtain ⟨E5, hEE⟩ : ∃ q, q = va_up E4 103 (aV g.2.2.1 7 (fun _ => 0)) := ⟨_, rfl⟩
  rw [← hEE] at I
  have Y : uY g 104 E5 s H locs := by rw [hEE]; exact Y
  clear hEE
  refine u_putF X Y I.1 I.2.2.1 fw_X8 tyX8 tyX8_ok nmX8 (T := TX8) rfl 7 (by decide) wm_744 rfl rfl rfl hnm rfl rfl (Nat.le_of_ble_eq_true rfl) dX8_init_25 (fun H locs Y => ?_)
  have I := I.put (.inr (8, [.ref (g.1 + 101), .ref (g.1 + 102), .int (iV 0), .int (iV 0), .int (iV 0), .int (iV 0), .int (iV 0), .ref (g.1 + 103), .null, .null, .int (iV 0), .null, .null, .null, .int (iV 0), .int (iV 0), .int (iV 0), .int (iV 0), .int (iV 0), .int (iV 0), .int (iV 0), .null, .int (iV 0), .null, .int (iV 0), .null, .null, .int (iV 0), .null, .int (iV 0), .long (lV 0), .int (iV 0), .null, .null, .int (iV 0), .null]))
  obtain ⟨E6, hEE⟩ : ∃ q, q = va_up E5 100 (.inr (8, [.ref (g.1 + 101), .ref (g.1 + 102), .int (iV 0), .int (iV 0), .int (iV 0), .int (iV 0), .int (iV 0), .ref (g.1 + 103), .null, .null, .int (iV 0), .null, .null, .null, .int (iV 0), .int (iV 0), .int (iV 0), .int (iV 0), .int (iV 0), .int (iV 0), .int (iV 0), .null, .int (iV 0), .null, .int (iV 0), .null, .null, .int (iV 0), .null, .int (iV 0), .long (lV 0), .int (iV 0), .null, .null, .int (iV 0), .null])) := ⟨_, rfl⟩
  rw [← hEE] at I
  have Y : uY g 104 E6 s H locs := by rw [hEE]; exact Y
  clear hEE
  refine r_aload_n X dX8_init_28 hl 0 rfl ?_
  refine r_bipush X 7 dX8_init_29 (by decide) ?_
  refine u_newa X Y wm_102 (N := 7) rfl (by decide) (by omega) (by omega) dX8_init_31 (fun H Y => ?_)
  have I := I.new (e2 := aV g.2.2.1 7 (fun _ => 0)) rfl
  obtain ⟨E7, hEE⟩ : ∃ q, q = va_up E6 104 (aV g.2.2.1 7 (fun _ => 0)) := ⟨_, rfl⟩
  rw [← hEE] at I
  have Y : uY g 105 E7 s H locs := by rw [hEE]; exact Y
  clear hEE
  refine u_putF X Y I.1 I.2.2.1 fw_X8 tyX8 tyX8_ok nmX8 (T := TX8) rfl 8 (by decide) wm_745 rfl rfl rfl hnm rfl rfl (Nat.le_of_ble_eq_true rfl) dX8_init_33 (fun H locs Y => ?_)
  have I := I.put (.inr (8, [.ref (g.1 + 101), .ref (g.1 + 102), .int (iV 0), .int (iV 0), .int (iV 0), .int (iV 0), .int (iV 0), .ref (g.1 + 103), .ref (g.1 + 104), .null, .int (iV 0), .null, .null, .null, .int (iV 0), .int (iV 0), .int (iV 0), .int (iV 0), .int (iV 0), .int (iV 0), .int (iV 0), .null, .int (iV 0), .null, .int (iV 0), .null, .null, .int (iV 0), .null, .int (iV 0), .long (lV 0), .int (iV 0), .null, .null, .int (iV 0), .null]))
  obtain ⟨E8, hEE⟩ : ∃ q, q = va_up E7 100 (.inr (8, [.ref (g.1 + 101), .ref (g.1 + 102), .int (iV 0), .int (iV 0), .int (iV 0), .int (iV 0), .int (iV 0), .ref (g.1 + 103), .ref (g.1 + 104), .null, .int (iV 0), .null, .null, .null, .int (iV 0), .int (iV 0), .int (iV 0), .int (iV 0), .int (iV 0), .int (iV 0), .int (iV 0), .null, .int (iV 0), .null, .int (iV 0), .null, .null, .int (iV 0), .null, .int (iV 0), .long (lV 0), .int (iV 0), .null, .null, .int (iV 0), .null])) := ⟨_, rfl⟩
  rw [← hEE] at I
  have Y : uY g 105 E8 s H locs := by rw [hEE]; exact Y
  clear hEE
  refine r_aload_n X dX8_init_36 hl 0 rfl ?_
  refine r_bipush X 7 dX8_init_37 (by decide) ?_
  refine u_newa X Y wm_102 (N := 7) rfl (by decide) (by omega) (by omega) dX8_init_39 (fun H Y => ?_)
  have I := I.new (e2 := aV g.2.2.1 7 (fun _ => 0)) rfl
  obtain ⟨E9, hEE⟩ : ∃ q, q = va_up E8 105 (aV g.2.2.1 7 (fun _ => 0)) := ⟨_, rfl⟩
  rw [← hEE] at I
  have Y : uY g 106 E9 s H locs := by rw [hEE]; exact Y
  clear hEE
  refine u_putF X Y I.1 I.2.2.1 fw_X8 tyX8 tyX8_ok nmX8 (T := TX8) rfl 9 (by decide) wm_746 rfl rfl rfl hnm rfl rfl (Nat.le_of_ble_eq_true rfl) dX8_init_41 (fun H locs Y => ?_)
  have I := I.put (.inr (8, [.ref (g.1 + 101), .ref (g.1 + 102), .int (iV 0), .int (iV 0), .int (iV 0), .int (iV 0), .int (iV 0), .ref (g.1 + 103), .ref (g.1 + 104), .ref (g.1 + 105), .int (iV 0), .null, .null, .null, .int (iV 0), .int (iV 0), .int (iV 0), .int (iV 0), .int (iV 0), .int (iV 0), .int (iV 0), .null, .int (iV 0), .null, .int (iV 0), .null, .null, .int (iV 0), .null, .int (iV 0), .long (lV 0), .int (iV 0), .null, .null, .int (iV 0), .null]))
  obtain ⟨E10, hEE⟩ : ∃ q, q = va_up E9 100 (.inr (8, [.ref (g.1 + 101), .ref (g.1 + 102), .int (iV 0), .int (iV 0), .int (iV 0), .int (iV 0), .int (iV 0), .ref (g.1 + 103), .ref (g.1 + 104), .ref (g.1 + 105), .int (iV 0), .null, .null, .null, .int (iV 0), .int (iV 0), .int (iV 0), .int (iV 0), .int (iV 0), .int (iV 0), .int (iV 0), .null, .int (iV 0), .null, .int (iV 0), .null, .null, .int (iV 0), .null, .int (iV 0), .long (lV 0), .int (iV 0), .null, .null, .int (iV 0), .null])) := ⟨_, rfl⟩
  rw [← hEE] at I
  have Y : uY g 106 E10 s H locs := by rw [hEE]; exact Y
  clear hEE
  refine r_aload_n X dX8_init_44 hl 0 rfl ?_
  refine r_iconst X dX8_init_45 ?_
  refine u_newa X Y wm_102 (N := 5) rfl (by decide) (by omega) (by omega) dX8_init_46 (fun H Y => ?_)
  have I := I.new (e2 := aV g.2.2.1 5 (fun _ => 0)) rfl
  obtain ⟨E11, hEE⟩ : ∃ q, q = va_up E10 106 (aV g.2.2.1 5 (fun _ => 0)) := ⟨_, rfl⟩
  rw [← hEE] at I
  have Y : uY g 107 E11 s H locs := by rw [hEE]; exact Y
  clear hEE
  refine u_putF X Y I.1 I.2.2.1 fw_X8 tyX8 tyX8_ok nmX8 (T := TX8) rfl 11 (by decide) wm_748 rfl rfl rfl hnm rfl rfl (Nat.le_of_ble_eq_true rfl) dX8_init_48 (fun H locs Y => ?_)
  have I := I.put (.inr (8, [.ref (g.1 + 101), .ref (g.1 + 102), .int (iV 0), .int (iV 0), .int (iV 0), .int (iV 0), .int (iV 0), .ref (g.1 + 103), .ref (g.1 + 104), .ref (g.1 + 105), .int (iV 0), .ref (g.1 + 106), .null, .null, .int (iV 0), .int (iV 0), .int (iV 0), .int (iV 0), .int (iV 0), .int (iV 0), .int (iV 0), .null, .int (iV 0), .null, .int (iV 0), .null, .null, .int (iV 0), .null, .int (iV 0), .long (lV 0), .int (iV 0), .null, .null, .int (iV 0), .null]))
  obtain ⟨E12, hEE⟩ : ∃ q, q = va_up E11 100 (.inr (8, [.ref (g.1 + 101), .ref (g.1 + 102), .int (iV 0), .int (iV 0), .int (iV 0), .int (iV 0), .int (iV 0), .ref (g.1 + 103), .ref (g.1 + 104), .ref (g.1 + 105), .int (iV 0), .ref (g.1 + 106), .null, .null, .int (iV 0), .int (iV 0), .int (iV 0), .int (iV 0), .int (iV 0), .int (iV 0), .int (iV 0), .null, .int (iV 0), .null, .int (iV 0), .null, .null, .int (iV 0), .null, .int (iV 0), .long (lV 0), .int (iV 0), .null, .null, .int (iV 0), .null])) := ⟨_, rfl⟩
  rw [← hEE] at I
  have Y : uY g 107 E12 s H locs := by rw [hEE]; exact Y
  clear hEE
  refine r_aload_n X dX8_init_51 hl 0 rfl ?_
  refine r_iconst X dX8_init_52 ?_
  refine u_newa X Y wm_102 (N := 5) rfl (by decide) (by omega) (by omega) dX8_init_53 (fun H Y => ?_)
  have I := I.new (e2 := aV g.2.2.1 5 (fun _ => 0)) rfl
  obtain ⟨E13, hEE⟩ : ∃ q, q = va_up E12 107 (aV g.2.2.1 5 (fun _ => 0)) := ⟨_, rfl⟩
  rw [← hEE] at I
  have Y : uY g 108 E13 s H locs := by rw [hEE]; exact Y
  clear hEE
  refine u_putF X Y I.1 I.2.2.1 fw_X8 tyX8 tyX8_ok nmX8 (T := TX8) rfl 12 (by decide) wm_749 rfl rfl rfl hnm rfl rfl (Nat.le_of_ble_eq_true rfl) dX8_init_55 (fun H locs Y => ?_)
  have I := I.put (.inr (8, [.ref (g.1 + 101), .ref (g.1 + 102), .int (iV 0), .int (iV 0), .int (iV 0), .int (iV 0), .int (iV 0), .ref (g.1 + 103), .ref (g.1 + 104), .ref (g.1 + 105), .int (iV 0), .ref (g.1 + 106), .ref (g.1 + 107), .null, .int (iV 0), .int (iV 0), .int (iV 0), .int (iV 0), .int (iV 0), .int (iV 0), .int (iV 0), .null, .int (iV 0), .null, .int (iV 0), .null, .null, .int (iV 0), .null, .int (iV 0), .long (lV 0), .int (iV 0), .null, .null, .int (iV 0), .null]))
  obtain ⟨E14, hEE⟩ : ∃ q, q = va_up E13 100 (.inr (8, [.ref (g.1 + 101), .ref (g.1 + 102), .int (iV 0), .int (iV 0), .int (iV 0), .int (iV 0), .int (iV 0), .ref (g.1 + 103), .ref (g.1 + 104), .ref (g.1 + 105), .int (iV 0), .ref (g.1 + 106), .ref (g.1 + 107), .null, .int (iV 0), .int (iV 0), .int (iV 0), .int (iV 0), .int (iV 0), .int (iV 0), .int (iV 0), .null, .int (iV 0), .null, .int (iV 0), .null, .null, .int (iV 0), .null, .int (iV 0), .long (lV 0), .int (iV 0), .null, .null, .int (iV 0), .null])) := ⟨_, rfl⟩
  rw [← hEE] at I
  have Y : uY g 108 E14 s H locs := by rw [hEE]; exact Y
  clear hEE
  refine r_aload_n X dX8_init_58 hl 0 rfl ?_
  refine r_sipush X 220 dX8_init_59 (by decide) ?_
  refine u_newa X Y wm_102 (N := 220) rfl (by decide) (by omega) (by omega) dX8_init_62 (fun H Y => ?_)
  have I := I.new (e2 := aV g.2.2.1 220 (fun _ => 0)) rfl
  obtain ⟨E15, hEE⟩ : ∃ q, q = va_up E14 108 (aV g.2.2.1 220 (fun _ => 0)) := ⟨_, rfl⟩
  rw [← hEE] at I
  have Y : uY g 109 E15 s H locs := by rw [hEE]; exact Y
  clear hEE
  refine u_putF X Y I.1 I.2.2.1 fw_X8 tyX8 tyX8_ok nmX8 (T := TX8) rfl 13 (by decide) wm_750 rfl rfl rfl hnm rfl rfl (Nat.le_of_ble_eq_true rfl) dX8_init_64 (fun H locs Y => ?_)
  have I := I.put (.inr (8, [.ref (g.1 + 101), .ref (g.1 + 102), .int (iV 0), .int (iV 0), .int (iV 0), .int (iV 0), .int (iV 0), .ref (g.1 + 103), .ref (g.1 + 104), .ref (g.1 + 105), .int (iV 0), .ref (g.1 + 106), .ref (g.1 + 107), .ref (g.1 + 108), .int (iV 0), .int (iV 0), .int (iV 0), .int (iV 0), .int (iV 0), .int (iV 0), .int (iV 0), .null, .int (iV 0), .null, .int (iV 0), .null, .null, .int (iV 0), .null, .int (iV 0), .long (lV 0), .int (iV 0), .null, .null, .int (iV 0), .null]))
  obtain ⟨E16, hEE⟩ : ∃ q, q = va_up E15 100 (.inr (8, [.ref (g.1 + 101), .ref (g.1 + 102), .int (iV 0), .int (iV 0), .int (iV 0), .int (iV 0), .int (iV 0), .ref (g.1 + 103), .ref (g.1 + 104), .ref (g.1 + 105), .int (iV 0), .ref (g.1 + 106), .ref (g.1 + 107), .ref (g.1 + 108), .int (iV 0), .int (iV 0), .int (iV 0), .int (iV 0), .int (iV 0), .int (iV 0), .int (iV 0), .null, .int (iV 0), .null, .int (iV 0), .null, .null, .int (iV 0), .null, .int (iV 0), .long (lV 0), .int (iV 0), .null, .null, .int (iV 0), .null])) := ⟨_, rfl⟩
  rw [← hEE] at I
  have Y : uY g 109 E16 s H locs := by rw [hEE]; exact Y
  clear hEE
  refine r_aload_n X dX8_init_67 hl 0 rfl ?_
  refine r_iconst X dX8_init_68 ?_
  refine u_put X Y I.1 I.2.2.1 fw_X8 tyX8 tyX8_ok nmX8 (T := TX8) rfl 19 (by decide) wm_756 rfl rfl rfl rfl (Nat.le_of_ble_eq_true rfl) dX8_init_69 (fun H locs Y => ?_)
  have I := I.put (.inr (8, [.ref (g.1 + 101), .ref (g.1 + 102), .int (iV 0), .int (iV 0), .int (iV 0), .int (iV 0), .int (iV 0), .ref (g.1 + 103), .ref (g.1 + 104), .ref (g.1 + 105), .int (iV 0), .ref (g.1 + 106), .ref (g.1 + 107), .ref (g.1 + 108), .int (iV 0), .int (iV 0), .int (iV 0), .int (iV 0), .int (iV 0), .int (iV ((-1))), .int (iV 0), .null, .int (iV 0), .null, .int (iV 0), .null, .null, .int (iV 0), .null, .int (iV 0), .long (lV 0), .int (iV 0), .null, .null, .int (iV 0), .null]))
  obtain ⟨E17, hEE⟩ : ∃ q, q = va_up E16 100 (.inr (8, [.ref (g.1 + 101), .ref (g.1 + 102), .int (iV 0), .int (iV 0), .int (iV 0), .int (iV 0), .int (iV 0), .ref (g.1 + 103), .ref (g.1 + 104), .ref (g.1 + 105), .int (iV 0), .ref (g.1 + 106), .ref (g.1 + 107), .ref (g.1 + 108), .int (iV 0), .int (iV 0), .int (iV 0), .int (iV 0), .int (iV 0), .int (iV ((-1))), .int (iV 0), .null, .int (iV 0), .null, .int (iV 0), .null, .null, .int (iV 0), .null, .int (iV 0), .long (lV 0), .int (iV 0), .null, .null, .int (iV 0), .null])) := ⟨_, rfl⟩
  rw [← hEE] at I
  have Y : uY g 109 E17 s H locs := by rw [hEE]; exact Y
  clear hEE
  refine r_aload_n X dX8_init_72 hl 0 rfl ?_
  refine r_iconst X dX8_init_73 ?_
  refine u_newa X Y wm_102 (N := 4) rfl (by decide) (by omega) (by omega) dX8_init_74 (fun H Y => ?_)
  have I := I.new (e2 := aV g.2.2.1 4 (fun _ => 0)) rfl
  obtain ⟨E18, hEE⟩ : ∃ q, q = va_up E17 109 (aV g.2.2.1 4 (fun _ => 0)) := ⟨_, rfl⟩
  rw [← hEE] at I
  have Y : uY g 110 E18 s H locs := by rw [hEE]; exact Y
  clear hEE
  refine u_putF X Y I.1 I.2.2.1 fw_X8 tyX8 tyX8_ok nmX8 (T := TX8) rfl 21 (by decide) wm_758 rfl rfl rfl hnm rfl rfl (Nat.le_of_ble_eq_true rfl) dX8_init_76 (fun H locs Y => ?_)
  have I := I.put (.inr (8, [.ref (g.1 + 101), .ref (g.1 + 102), .int (iV 0), .int (iV 0), .int (iV 0), .int (iV 0), .int (iV 0), .ref (g.1 + 103), .ref (g.1 + 104), .ref (g.1 + 105), .int (iV 0), .ref (g.1 + 106), .ref (g.1 + 107), .ref (g.1 + 108), .int (iV 0), .int (iV 0), .int (iV 0), .int (iV 0), .int (iV 0), .int (iV ((-1))), .int (iV 0), .ref (g.1 + 109), .int (iV 0), .null, .int (iV 0), .null, .null, .int (iV 0), .null, .int (iV 0), .long (lV 0), .int (iV 0), .null, .null, .int (iV 0), .null]))
  obtain ⟨E19, hEE⟩ : ∃ q, q = va_up E18 100 (.inr (8, [.ref (g.1 + 101), .ref (g.1 + 102), .int (iV 0), .int (iV 0), .int (iV 0), .int (iV 0), .int (iV 0), .ref (g.1 + 103), .ref (g.1 + 104), .ref (g.1 + 105), .int (iV 0), .ref (g.1 + 106), .ref (g.1 + 107), .ref (g.1 + 108), .int (iV 0), .int (iV 0), .int (iV 0), .int (iV 0), .int (iV 0), .int (iV ((-1))), .int (iV 0), .ref (g.1 + 109), .int (iV 0), .null, .int (iV 0), .null, .null, .int (iV 0), .null, .int (iV 0), .long (lV 0), .int (iV 0), .null, .null, .int (iV 0), .null])) := ⟨_, rfl⟩
  rw [← hEE] at I
  have Y : uY g 110 E19 s H locs := by rw [hEE]; exact Y
  clear hEE
  refine r_aload_n X dX8_init_79 hl 0 rfl ?_
  refine r_bipush X 21 dX8_init_80 (by decide) ?_
  refine u_newa X Y wm_102 (N := 21) rfl (by decide) (by omega) (by omega) dX8_init_82 (fun H Y => ?_)
  have I := I.new (e2 := aV g.2.2.1 21 (fun _ => 0)) rfl
  obtain ⟨E20, hEE⟩ : ∃ q, q = va_up E19 110 (aV g.2.2.1 21 (fun _ => 0)) := ⟨_, rfl⟩
  rw [← hEE] at I
  have Y : uY g 111 E20 s H locs := by rw [hEE]; exact Y
  clear hEE
  refine u_putF X Y I.1 I.2.2.1 fw_X8 tyX8 tyX8_ok nmX8 (T := TX8) rfl 23 (by decide) wm_760 rfl rfl rfl hnm rfl rfl (Nat.le_of_ble_eq_true rfl) dX8_init_84 (fun H locs Y => ?_)
  have I := I.put (.inr (8, [.ref (g.1 + 101), .ref (g.1 + 102), .int (iV 0), .int (iV 0), .int (iV 0), .int (iV 0), .int (iV 0), .ref (g.1 + 103), .ref (g.1 + 104), .ref (g.1 + 105), .int (iV 0), .ref (g.1 + 106), .ref (g.1 + 107), .ref (g.1 + 108), .int (iV 0), .int (iV 0), .int (iV 0), .int (iV 0), .int (iV 0), .int (iV ((-1))), .int (iV 0), .ref (g.1 + 109), .int (iV 0), .ref (g.1 + 110), .int (iV 0), .null, .null, .int (iV 0), .null, .int (iV 0), .long (lV 0), .int (iV 0), .null, .null, .int (iV 0), .null]))
  obtain ⟨E21, hEE⟩ : ∃ q, q = va_up E20 100 (.inr (8, [.ref (g.1 + 101), .ref (g.1 + 102), .int (iV 0), .int (iV 0), .int (iV 0), .int (iV 0), .int (iV 0), .ref (g.1 + 103), .ref (g.1 + 104), .ref (g.1 + 105), .int (iV 0), .ref (g.1 + 106), .ref (g.1 + 107), .ref (g.1 + 108), .int (iV 0), .int (iV 0), .int (iV 0), .int (iV 0), .int (iV 0), .int (iV ((-1))), .int (iV 0), .ref (g.1 + 109), .int (iV 0), .ref (g.1 + 110), .int (iV 0), .null, .null, .int (iV 0), .null, .int (iV 0), .long (lV 0), .int (iV 0), .null, .null, .int (iV 0), .null])) := ⟨_, rfl⟩
  rw [← hEE] at I
  have Y : uY g 111 E21 s H locs := by rw [hEE]; exact Y
  clear hEE
  refine r_aload_n X dX8_init_87 hl 0 rfl ?_
  refine r_bipush X 10 dX8_init_88 (by decide) ?_
  refine u_newa X Y wm_102 (N := 10) rfl (by decide) (by omega) (by omega) dX8_init_90 (fun H Y => ?_)
  have I := I.new (e2 := aV g.2.2.1 10 (fun _ => 0)) rfl
  obtain ⟨E22, hEE⟩ : ∃ q, q = va_up E21 111 (aV g.2.2.1 10 (fun _ => 0)) := ⟨_, rfl⟩
  rw [← hEE] at I
  have Y : uY g 112 E22 s H locs := by rw [hEE]; exact Y
  clear hEE
  refine u_putF X Y I.1 I.2.2.1 fw_X8 tyX8 tyX8_ok nmX8 (T := TX8) rfl 25 (by decide) wm_762 rfl rfl rfl hnm rfl rfl (Nat.le_of_ble_eq_true rfl) dX8_init_92 (fun H locs Y => ?_)
  have I := I.put (.inr (8, [.ref (g.1 + 101), .ref (g.1 + 102), .int (iV 0), .int (iV 0), .int (iV 0), .int (iV 0), .int (iV 0), .ref (g.1 + 103), .ref (g.1 + 104), .ref (g.1 + 105), .int (iV 0), .ref (g.1 + 106), .ref (g.1 + 107), .ref (g.1 + 108), .int (iV 0), .int (iV 0), .int (iV 0), .int (iV 0), .int (iV 0), .int (iV ((-1))), .int (iV 0), .ref (g.1 + 109), .int (iV 0), .ref (g.1 + 110), .int (iV 0), .ref (g.1 + 111), .null, .int (iV 0), .null, .int (iV 0), .long (lV 0), .int (iV 0), .null, .null, .int (iV 0), .null]))
  obtain ⟨E23, hEE⟩ : ∃ q, q = va_up E22 100 (.inr (8, [.ref (g.1 + 101), .ref (g.1 + 102), .int (iV 0), .int (iV 0), .int (iV 0), .int (iV 0), .int (iV 0), .ref (g.1 + 103), .ref (g.1 + 104), .ref (g.1 + 105), .int (iV 0), .ref (g.1 + 106), .ref (g.1 + 107), .ref (g.1 + 108), .int (iV 0), .int (iV 0), .int (iV 0), .int (iV 0), .int (iV 0), .int (iV ((-1))), .int (iV 0), .ref (g.1 + 109), .int (iV 0), .ref (g.1 + 110), .int (iV 0), .ref (g.1 + 111), .null, .int (iV 0), .null, .int (iV 0), .long (lV 0), .int (iV 0), .null, .null, .int (iV 0), .null])) := ⟨_, rfl⟩
  rw [← hEE] at I
  have Y : uY g 112 E23 s H locs := by rw [hEE]; exact Y
  clear hEE
  refine r_aload_n X dX8_init_95 hl 0 rfl ?_
  refine r_bipush X 9 dX8_init_96 (by decide) ?_
  refine u_newa X Y wm_102 (N := 9) rfl (by decide) (by omega) (by omega) dX8_init_98 (fun H Y => ?_)
  have I := I.new (e2 := aV g.2.2.1 9 (fun _ => 0)) rfl
  obtain ⟨E24, hEE⟩ : ∃ q, q = va_up E23 112 (aV g.2.2.1 9 (fun _ => 0)) := ⟨_, rfl⟩
  rw [← hEE] at I
  have Y : uY g 113 E24 s H locs := by rw [hEE]; exact Y
  clear hEE
  refine u_putF X Y I.1 I.2.2.1 fw_X8 tyX8 tyX8_ok nmX8 (T := TX8) rfl 26 (by decide) wm_763 rfl rfl rfl hnm rfl rfl (Nat.le_of_ble_eq_true rfl) dX8_init_100 (fun H locs Y => ?_)
  have I := I.put (.inr (8, [.ref (g.1 + 101), .ref (g.1 + 102), .int (iV 0), .int (iV 0), .int (iV 0), .int (iV 0), .int (iV 0), .ref (g.1 + 103), .ref (g.1 + 104), .ref (g.1 + 105), .int (iV 0), .ref (g.1 + 106), .ref (g.1 + 107), .ref (g.1 + 108), .int (iV 0), .int (iV 0), .int (iV 0), .int (iV 0), .int (iV 0), .int (iV ((-1))), .int (iV 0), .ref (g.1 + 109), .int (iV 0), .ref (g.1 + 110), .int (iV 0), .ref (g.1 + 111), .ref (g.1 + 112), .int (iV 0), .null, .int (iV 0), .long (lV 0), .int (iV 0), .null, .null, .int (iV 0), .null]))
  obtain ⟨E25, hEE⟩ : ∃ q, q = va_up E24 100 (.inr (8, [.ref (g.1 + 101), .ref (g.1 + 102), .int (iV 0), .int (iV 0), .int (iV 0), .int (iV 0), .int (iV 0), .ref (g.1 + 103), .ref (g.1 + 104), .ref (g.1 + 105), .int (iV 0), .ref (g.1 + 106), .ref (g.1 + 107), .ref (g.1 + 108), .int (iV 0), .int (iV 0), .int (iV 0), .int (iV 0), .int (iV 0), .int (iV ((-1))), .int (iV 0), .ref (g.1 + 109), .int (iV 0), .ref (g.1 + 110), .int (iV 0), .ref (g.1 + 111), .ref (g.1 + 112), .int (iV 0), .null, .int (iV 0), .long (lV 0), .int (iV 0), .null, .null, .int (iV 0), .null])) := ⟨_, rfl⟩
  rw [← hEE] at I
  have Y : uY g 113 E25 s H locs := by rw [hEE]; exact Y
  clear hEE
  refine r_aload_n X dX8_init_103 hl 0 rfl ?_
  refine r_bipush X 9 dX8_init_104 (by decide) ?_
  refine u_newa X Y wm_102 (N := 9) rfl (by decide) (by omega) (by omega) dX8_init_106 (fun H Y => ?_)
  have I := I.new (e2 := aV g.2.2.1 9 (fun _ => 0)) rfl
  obtain ⟨E26, hEE⟩ : ∃ q, q = va_up E25 113 (aV g.2.2.1 9 (fun _ => 0)) := ⟨_, rfl⟩
  rw [← hEE] at I
  have Y : uY g 114 E26 s H locs := by rw [hEE]; exact Y
  clear hEE
  refine u_putF X Y I.1 I.2.2.1 fw_X8 tyX8 tyX8_ok nmX8 (T := TX8) rfl 28 (by decide) wm_765 rfl rfl rfl hnm rfl rfl (Nat.le_of_ble_eq_true rfl) dX8_init_108 (fun H locs Y => ?_)
  have I := I.put (.inr (8, [.ref (g.1 + 101), .ref (g.1 + 102), .int (iV 0), .int (iV 0), .int (iV 0), .int (iV 0), .int (iV 0), .ref (g.1 + 103), .ref (g.1 + 104), .ref (g.1 + 105), .int (iV 0), .ref (g.1 + 106), .ref (g.1 + 107), .ref (g.1 + 108), .int (iV 0), .int (iV 0), .int (iV 0), .int (iV 0), .int (iV 0), .int (iV ((-1))), .int (iV 0), .ref (g.1 + 109), .int (iV 0), .ref (g.1 + 110), .int (iV 0), .ref (g.1 + 111), .ref (g.1 + 112), .int (iV 0), .ref (g.1 + 113), .int (iV 0), .long (lV 0), .int (iV 0), .null, .null, .int (iV 0), .null]))
  obtain ⟨E27, hEE⟩ : ∃ q, q = va_up E26 100 (.inr (8, [.ref (g.1 + 101), .ref (g.1 + 102), .int (iV 0), .int (iV 0), .int (iV 0), .int (iV 0), .int (iV 0), .ref (g.1 + 103), .ref (g.1 + 104), .ref (g.1 + 105), .int (iV 0), .ref (g.1 + 106), .ref (g.1 + 107), .ref (g.1 + 108), .int (iV 0), .int (iV 0), .int (iV 0), .int (iV 0), .int (iV 0), .int (iV ((-1))), .int (iV 0), .ref (g.1 + 109), .int (iV 0), .ref (g.1 + 110), .int (iV 0), .ref (g.1 + 111), .ref (g.1 + 112), .int (iV 0), .ref (g.1 + 113), .int (iV 0), .long (lV 0), .int (iV 0), .null, .null, .int (iV 0), .null])) := ⟨_, rfl⟩
  rw [← hEE] at I
  have Y : uY g 114 E27 s H locs := by rw [hEE]; exact Y
  clear hEE
  refine r_aload_n X dX8_init_111 hl 0 rfl ?_
  refine r_bipush X 6 dX8_init_112 (by decide) ?_
  refine u_newa X Y wm_102 (N := 6) rfl (by decide) (by omega) (by omega) dX8_init_114 (fun H Y => ?_)
  have I := I.new (e2 := aV g.2.2.1 6 (fun _ => 0)) rfl
  obtain ⟨E28, hEE⟩ : ∃ q, q = va_up E27 114 (aV g.2.2.1 6 (fun _ => 0)) := ⟨_, rfl⟩
  rw [← hEE] at I
  have Y : uY g 115 E28 s H locs := by rw [hEE]; exact Y
  clear hEE
  refine u_putF X Y I.1 I.2.2.1 fw_X8 tyX8 tyX8_ok nmX8 (T := TX8) rfl 32 (by decide) wm_769 rfl rfl rfl hnm rfl rfl (Nat.le_of_ble_eq_true rfl) dX8_init_116 (fun H locs Y => ?_)
  have I := I.put (.inr (8, [.ref (g.1 + 101), .ref (g.1 + 102), .int (iV 0), .int (iV 0), .int (iV 0), .int (iV 0), .int (iV 0), .ref (g.1 + 103), .ref (g.1 + 104), .ref (g.1 + 105), .int (iV 0), .ref (g.1 + 106), .ref (g.1 + 107), .ref (g.1 + 108), .int (iV 0), .int (iV 0), .int (iV 0), .int (iV 0), .int (iV 0), .int (iV ((-1))), .int (iV 0), .ref (g.1 + 109), .int (iV 0), .ref (g.1 + 110), .int (iV 0), .ref (g.1 + 111), .ref (g.1 + 112), .int (iV 0), .ref (g.1 + 113), .int (iV 0), .long (lV 0), .int (iV 0), .ref (g.1 + 114), .null, .int (iV 0), .null]))
  obtain ⟨E29, hEE⟩ : ∃ q, q = va_up E28 100 (.inr (8, [.ref (g.1 + 101), .ref (g.1 + 102), .int (iV 0), .int (iV 0), .int (iV 0), .int (iV 0), .int (iV 0), .ref (g.1 + 103), .ref (g.1 + 104), .ref (g.1 + 105), .int (iV 0), .ref (g.1 + 106), .ref (g.1 + 107), .ref (g.1 + 108), .int (iV 0), .int (iV 0), .int (iV 0), .int (iV 0), .int (iV 0), .int (iV ((-1))), .int (iV 0), .ref (g.1 + 109), .int (iV 0), .ref (g.1 + 110), .int (iV 0), .ref (g.1 + 111), .ref (g.1 + 112), .int (iV 0), .ref (g.1 + 113), .int (iV 0), .long (lV 0), .int (iV 0), .ref (g.1 + 114), .null, .int (iV 0), .null])) := ⟨_, rfl⟩
  rw [← hEE] at I
  have Y : uY g 115 E29 s H locs := by rw [hEE]; exact Y
  clear hEE
  refine r_aload_n X dX8_init_119 hl 0 rfl ?_
  refine r_bipush X 6 dX8_init_120 (by decide) ?_
  refine u_newa X Y wm_102 (N := 6) rfl (by decide) (by omega) (by omega) dX8_init_122 (fun H Y => ?_)
  have I := I.new (e2 := aV g.2.2.1 6 (fun _ => 0)) rfl
  obtain ⟨E30, hEE⟩ : ∃ q, q = va_up E29 115 (aV g.2.2.1 6 (fun _ => 0)) := ⟨_, rfl⟩
  rw [← hEE] at I
  have Y : uY g 116 E30 s H locs := by rw [hEE]; exact Y
  clear hEE
  refine u_putF X Y I.1 I.2.2.1 fw_X8 tyX8 tyX8_ok nmX8 (T := TX8) rfl 33 (by decide) wm_770 rfl rfl rfl hnm rfl rfl (Nat.le_of_ble_eq_true rfl) dX8_init_124 (fun H locs Y => ?_)
  have I := I.put (.inr (8, [.ref (g.1 + 101), .ref (g.1 + 102), .int (iV 0), .int (iV 0), .int (iV 0), .int (iV 0), .int (iV 0), .ref (g.1 + 103), .ref (g.1 + 104), .ref (g.1 + 105), .int (iV 0), .ref (g.1 + 106), .ref (g.1 + 107), .ref (g.1 + 108), .int (iV 0), .int (iV 0), .int (iV 0), .int (iV 0), .int (iV 0), .int (iV ((-1))), .int (iV 0), .ref (g.1 + 109), .int (iV 0), .ref (g.1 + 110), .int (iV 0), .ref (g.1 + 111), .ref (g.1 + 112), .int (iV 0), .ref (g.1 + 113), .int (iV 0), .long (lV 0), .int (iV 0), .ref (g.1 + 114), .ref (g.1 + 115), .int (iV 0), .null]))
  obtain ⟨E31, hEE⟩ : ∃ q, q = va_up E30 100 (.inr (8, [.ref (g.1 + 101), .ref (g.1 + 102), .int (iV 0), .int (iV 0), .int (iV 0), .int (iV 0), .int (iV 0), .ref (g.1 + 103), .ref (g.1 + 104), .ref (g.1 + 105), .int (iV 0), .ref (g.1 + 106), .ref (g.1 + 107), .ref (g.1 + 108), .int (iV 0), .int (iV 0), .int (iV 0), .int (iV 0), .int (iV 0), .int (iV ((-1))), .int (iV 0), .ref (g.1 + 109), .int (iV 0), .ref (g.1 + 110), .int (iV 0), .ref (g.1 + 111), .ref (g.1 + 112), .int (iV 0), .ref (g.1 + 113), .int (iV 0), .long (lV 0), .int (iV 0), .ref (g.1 + 114), .ref (g.1 + 115), .int (iV 0), .null])) := ⟨_, rfl⟩
  rw [← hEE] at I
  have Y : uY g 116 E31 s H locs := by rw [hEE]; exact Y
  clear hEE
  refine r_aload_n X dX8_init_127 hl 0 rfl ?_
  refine r_bipush X 15 dX8_init_128 (by decide) ?_
  refine u_newa X Y wm_102 (N := 15) rfl (by decide) (by omega) (by omega) dX8_init_130 (fun H Y => ?_)
  have I := I.new (e2 := aV g.2.2.1 15 (fun _ => 0)) rfl
  obtain ⟨E32, hEE⟩ : ∃ q, q = va_up E31 116 (aV g.2.2.1 15 (fun _ => 0)) := ⟨_, rfl⟩
  rw [← hEE] at I
  have Y : uY g 117 E32 s H locs := by rw [hEE]; exact Y
  clear hEE
  refine u_putF X Y I.1 I.2.2.1 fw_X8 tyX8 tyX8_ok nmX8 (T := TX8) rfl 35 (by decide) wm_772 rfl rfl rfl hnm rfl rfl (Nat.le_of_ble_eq_true rfl) dX8_init_132 (fun H locs Y => ?_)
  have I := I.put (.inr (8, [.ref (g.1 + 101), .ref (g.1 + 102), .int (iV 0), .int (iV 0), .int (iV 0), .int (iV 0), .int (iV 0), .ref (g.1 + 103), .ref (g.1 + 104), .ref (g.1 + 105), .int (iV 0), .ref (g.1 + 106), .ref (g.1 + 107), .ref (g.1 + 108), .int (iV 0), .int (iV 0), .int (iV 0), .int (iV 0), .int (iV 0), .int (iV ((-1))), .int (iV 0), .ref (g.1 + 109), .int (iV 0), .ref (g.1 + 110), .int (iV 0), .ref (g.1 + 111), .ref (g.1 + 112), .int (iV 0), .ref (g.1 + 113), .int (iV 0), .long (lV 0), .int (iV 0), .ref (g.1 + 114), .ref (g.1 + 115), .int (iV 0), .ref (g.1 + 116)]))
  obtain ⟨E33, hEE⟩ : ∃ q, q = va_up E32 100 (.inr (8, [.ref (g.1 + 101), .ref (g.1 + 102), .int (iV 0), .int (iV 0), .int (iV 0), .int (iV 0), .int (iV 0), .ref (g.1 + 103), .ref (g.1 + 104), .ref (g.1 + 105), .int (iV 0), .ref (g.1 + 106), .ref (g.1 + 107), .ref (g.1 + 108), .int (iV 0), .int (iV 0), .int (iV 0), .int (iV 0), .int (iV 0), .int (iV ((-1))), .int (iV 0), .ref (g.1 + 109), .int (iV 0), .ref (g.1 + 110), .int (iV 0), .ref (g.1 + 111), .ref (g.1 + 112), .int (iV 0), .ref (g.1 + 113), .int (iV 0), .long (lV 0), .int (iV 0), .ref (g.1 + 114), .ref (g.1 + 115), .int (iV 0), .ref (g.1 + 116)])) := ⟨_, rfl⟩
  rw [← hEE] at I
  have Y : uY g 117 E33 s H locs := by rw [hEE]; exact Y
  clear hEE
  refine r_aload_n X dX8_init_135 hl 0 rfl ?_
  refine r_iconst X dX8_init_136 ?_
  refine u_put X Y I.1 I.2.2.1 fw_X8 tyX8 tyX8_ok nmX8 (T := TX8) rfl 3 (by decide) wm_740 rfl rfl rfl rfl (Nat.le_of_ble_eq_true rfl) dX8_init_137 (fun H locs Y => ?_)
  have I := I.put (.inr (8, [.ref (g.1 + 101), .ref (g.1 + 102), .int (iV 0), .int (iV (0)), .int (iV 0), .int (iV 0), .int (iV 0), .ref (g.1 + 103), .ref (g.1 + 104), .ref (g.1 + 105), .int (iV 0), .ref (g.1 + 106), .ref (g.1 + 107), .ref (g.1 + 108), .int (iV 0), .int (iV 0), .int (iV 0), .int (iV 0), .int (iV 0), .int (iV ((-1))), .int (iV 0), .ref (g.1 + 109), .int (iV 0), .ref (g.1 + 110), .int (iV 0), .ref (g.1 + 111), .ref (g.1 + 112), .int (iV 0), .ref (g.1 + 113), .int (iV 0), .long (lV 0), .int (iV 0), .ref (g.1 + 114), .ref (g.1 + 115), .int (iV 0), .ref (g.1 + 116)]))
  obtain ⟨E34, hEE⟩ : ∃ q, q = va_up E33 100 (.inr (8, [.ref (g.1 + 101), .ref (g.1 + 102), .int (iV 0), .int (iV (0)), .int (iV 0), .int (iV 0), .int (iV 0), .ref (g.1 + 103), .ref (g.1 + 104), .ref (g.1 + 105), .int (iV 0), .ref (g.1 + 106), .ref (g.1 + 107), .ref (g.1 + 108), .int (iV 0), .int (iV 0), .int (iV 0), .int (iV 0), .int (iV 0), .int (iV ((-1))), .int (iV 0), .ref (g.1 + 109), .int (iV 0), .ref (g.1 + 110), .int (iV 0), .ref (g.1 + 111), .ref (g.1 + 112), .int (iV 0), .ref (g.1 + 113), .int (iV 0), .long (lV 0), .int (iV 0), .ref (g.1 + 114), .ref (g.1 + 115), .int (iV 0), .ref (g.1 + 116)])) := ⟨_, rfl⟩
  rw [← hEE] at I
  have Y : uY g 117 E34 s H locs := by rw [hEE]; exact Y
  clear hEE
  exact ret _ _ _ _ _ dX8_init_140 Y (I.done rfl)

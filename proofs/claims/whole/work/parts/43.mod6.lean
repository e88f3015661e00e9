/-! the model's clauses' numbers by contract -/
set_option maxHeartbeats 4000000 in
set_option maxRecDepth 100000 in
theorem ct_X8_takesShip (l : Launch) (g : uG) (t : uN) (f : uF) (x : Int → Int) (n : Int) (pp : Int) (HT : TM x n t f) (hp : t 100 15 = pp + 1) : cR_i l yX8_takesShip cX8_takesShip 2 (some .boolean) 4 g [.ref (g.1 + 100)] t f (TWQ x n 0 pp 4 109 0 (up2 t 100 20 1) f) := by
  refine eR_z (by decide +kernel) (Nat.le_of_ble_eq_true rfl) ?_
  intro p e R s m args below meth c Q ls H locs X Y hl ret
  have X : uX p 4 R s m args c cX8_takesShip 2 RX8 := X
  have hl : lv_has ls 2 [(0, .ref (g.1 + 100))] := hl
  have hx := HT.1
  have hn := hx.1
  have h14 := HT.2.1
  have h8 := HT.2.2.1
  have hat := HT.2.2.2
  refine r_aload_n X dX8_takesShip_0 hl 0 rfl ?_
  refine r_iconst X dX8_takesShip_1 ?_
  refine p_8_20 (k := 100) X Y rfl wm_757 (by first | exact Or.inl rfl | exact Or.inr rfl | omega) dX8_takesShip_2 (fun H locs Y => ?_)
  obtain ⟨tq1, htq1⟩ : ∃ q, q = up2 t 100 20 (1) := ⟨_, rfl⟩
  have Y : uY g 117 (cX g tq1 f) s H locs := by rw [htq1]; exact Y
  refine r_iconst X dX8_takesShip_5 ?_
  refine r_istore_n X dX8_takesShip_6 hl [(1, .int (iV (0))), (0, .ref (g.1 + 100))] (by decide) rfl (fun ls hl => ?_)
  have loop7 : ∀ (N : Nat) (j : Int) (tz : uN) (fz : uF) (hj0 : 0 ≤ j) (hj1 : j ≤ 4) (hI : TWI x n 0 pp 4 109 0 tq1 f j tz fz) (H : Heap) (locs : List Loc) (ls : Array Slot), (4 - j).toNat < N → uY g 117 (cX g tz fz) s H locs → lv_has ls 2 [(1, .int (iV (j))), (0, .ref (g.1 + 100))] → W p l e R s m args below meth c H locs 0 0 Q (F0 m 7 ls []) := by
    intro N
    induction N with
    | zero => intro j tz fz hj0 hj1 hI H locs ls hmu Y hl; exact absurd hmu (Nat.not_lt_zero _)
    | succ N ih7 =>
      intro j tz fz hj0 hj1 hI H locs ls hmu Y hl
      have HT1 : TM x n tz fz := HT.of (by rw [hI.1 100 14 (by unfold rdj; omega)]; rw [htq1, up2_ne _ _ (by omega)]) hI.2.2.1 (fun i => hI.2.1 108 i (by omega))
      refine r_iload_n X dX8_takesShip_7 hl 0 rfl ?_
      refine r_iconst X dX8_takesShip_8 ?_
      refine r_icmp_ge X (tgt := 59) dX8_takesShip_9 (by decide) ⟨by omega, by omega⟩ ⟨by omega, by omega⟩ (fun c9 => ?_) (fun c9 => ?_)
      · refine r_iconst X dX8_takesShip_59 ?_
        exact ret _ _ _ _ _ _ _ dX8_takesShip_60 Y (by first | exact Or.inl rfl | exact Or.inr rfl | omega) (by rw [← htq1]; exact (TWI_end hI (by omega)))
      · refine r_aload_n X dX8_takesShip_12 hl 1 rfl ?_
        refine r_iload_n X dX8_takesShip_13 hl 0 rfl ?_
        refine r_if_ne X (tgt := 21) dX8_takesShip_14 (by decide) ⟨by omega, by omega⟩ (fun c14 => ?_) (fun c14 => ?_)
        · refine r_iconst X dX8_takesShip_21 ?_
          refine r_iload_n X dX8_takesShip_22 hl 0 rfl ?_
          refine r_iconst X dX8_takesShip_23 ?_
          refine r_icmp_ne X (tgt := 32) dX8_takesShip_24 (by decide) ⟨by omega, by omega⟩ ⟨by omega, by omega⟩ (fun c24 => ?_) (fun c24 => ?_)
          · refine r_sipush X 999 dX8_takesShip_32 (by decide) ?_
            refine vR_i X Y [.int (iV (0)), .int (iV (999))] [] (ct_X8_takesNumber l g tz fz x n 0 999 (0 * 4 + j) HT1 (by rw [(lTs j hj0 (by omega)).1]; exact if_neg (by omega)) (by rw [(lTs j hj0 (by omega)).2]; exact if_neg (by omega))) mk_X8_takesNumber mi_X8_takesNumber wm_881 (by decide) (rv_8 Y rfl) rfl hl (Nat.le_of_ble_eq_true rfl) rfl dX8_takesShip_35 (Nat.zero_le _) (Nat.zero_le _) (fun zq2 tq2 fq2 H locs hq2 Y => ?_)
            have hzr : zq2 = 0 ∨ zq2 = 1 := by rcases hq2.2.2 with h9 | h9; exact Or.inr h9.2.1; exact Or.inl h9.2.1
            refine r_if_ne X (tgt := 43) dX8_takesShip_38 (by decide) ⟨by omega, by omega⟩ (fun c38 => ?_) (fun c38 => ?_)
            · refine r_aload_n X dX8_takesShip_43 hl 1 rfl ?_
              refine g_8_21 (k := 100) X Y rfl wm_758 dX8_takesShip_44 ?_
              refine r_iload_n X dX8_takesShip_47 hl 0 rfl ?_
              refine r_aload_n X dX8_takesShip_48 hl 1 rfl ?_
              refine g_8_17 (k := 100) X Y rfl wm_754 dX8_takesShip_49 ?_
              refine p_ist (k := 109) X Y rfl (by omega) (by have q : ((al 109 : Nat) : Int) = 4 := rfl; omega) dX8_takesShip_52 (fun H locs Y => ?_)
              obtain ⟨fq3, hfq3⟩ : ∃ q, q = upA fq2 109 j (tq2 100 17) := ⟨_, rfl⟩
              have Y : uY g 117 (cX g tq2 fq3) s H locs := by rw [hfq3]; exact Y
              refine r_iinc X dX8_takesShip_53 hl 0 rfl [(1, .int (iV (j + 1))), (0, .ref (g.1 + 100))] (by decide) rfl (fun ls hl => ?_)
              refine r_goto X 7 dX8_takesShip_56 (by decide) ?_
              exact ih7 (j + 1) tq2 fq3 (by omega) (by omega) (TWI_step hx hI hj0 (by omega) hq2 c38 (by rw [Int.zero_add]; exact hfq3)) _ _ _ (by omega) Y (lv_sub hl [0, 1] rfl)
            · refine r_iconst X dX8_takesShip_41 ?_
              exact ret _ _ _ _ _ _ _ dX8_takesShip_42 Y (by first | exact Or.inl rfl | exact Or.inr rfl | omega) (by rw [← htq1]; exact (TWI_bad hI hj0 (by omega) hq2 (by omega)))
          · refine r_bipush X 9 dX8_takesShip_27 (by decide) ?_
            refine r_goto X 35 dX8_takesShip_29 (by decide) ?_
            refine vR_i X Y [.int (iV (0)), .int (iV (9))] [] (ct_X8_takesNumber l g tz fz x n 0 9 (0 * 4 + j) HT1 (by rw [(lTs j hj0 (by omega)).1]; exact if_neg (by omega)) (by rw [(lTs j hj0 (by omega)).2]; exact if_pos (by omega))) mk_X8_takesNumber mi_X8_takesNumber wm_881 (by decide) (rv_8 Y rfl) rfl hl (Nat.le_of_ble_eq_true rfl) rfl dX8_takesShip_35 (Nat.zero_le _) (Nat.zero_le _) (fun zq2 tq2 fq2 H locs hq2 Y => ?_)
            have hzr : zq2 = 0 ∨ zq2 = 1 := by rcases hq2.2.2 with h9 | h9; exact Or.inr h9.2.1; exact Or.inl h9.2.1
            refine r_if_ne X (tgt := 43) dX8_takesShip_38 (by decide) ⟨by omega, by omega⟩ (fun c38 => ?_) (fun c38 => ?_)
            · refine r_aload_n X dX8_takesShip_43 hl 1 rfl ?_
              refine g_8_21 (k := 100) X Y rfl wm_758 dX8_takesShip_44 ?_
              refine r_iload_n X dX8_takesShip_47 hl 0 rfl ?_
              refine r_aload_n X dX8_takesShip_48 hl 1 rfl ?_
              refine g_8_17 (k := 100) X Y rfl wm_754 dX8_takesShip_49 ?_
              refine p_ist (k := 109) X Y rfl (by omega) (by have q : ((al 109 : Nat) : Int) = 4 := rfl; omega) dX8_takesShip_52 (fun H locs Y => ?_)
              obtain ⟨fq3, hfq3⟩ : ∃ q, q = upA fq2 109 j (tq2 100 17) := ⟨_, rfl⟩
              have Y : uY g 117 (cX g tq2 fq3) s H locs := by rw [hfq3]; exact Y
              refine r_iinc X dX8_takesShip_53 hl 0 rfl [(1, .int (iV (j + 1))), (0, .ref (g.1 + 100))] (by decide) rfl (fun ls hl => ?_)
              refine r_goto X 7 dX8_takesShip_56 (by decide) ?_
              exact ih7 (j + 1) tq2 fq3 (by omega) (by omega) (TWI_step hx hI hj0 (by omega) hq2 c38 (by rw [Int.zero_add]; exact hfq3)) _ _ _ (by omega) Y (lv_sub hl [0, 1] rfl)
            · refine r_iconst X dX8_takesShip_41 ?_
              exact ret _ _ _ _ _ _ _ dX8_takesShip_42 Y (by first | exact Or.inl rfl | exact Or.inr rfl | omega) (by rw [← htq1]; exact (TWI_bad hI hj0 (by omega) hq2 (by omega)))
        · refine r_iconst X dX8_takesShip_17 ?_
          refine r_goto X 22 dX8_takesShip_18 (by decide) ?_
          refine r_iload_n X dX8_takesShip_22 hl 0 rfl ?_
          refine r_iconst X dX8_takesShip_23 ?_
          refine r_icmp_ne X (tgt := 32) dX8_takesShip_24 (by decide) ⟨by omega, by omega⟩ ⟨by omega, by omega⟩ (fun c24 => ?_) (fun c24 => ?_)
          · refine r_sipush X 999 dX8_takesShip_32 (by decide) ?_
            refine vR_i X Y [.int (iV (1)), .int (iV (999))] [] (ct_X8_takesNumber l g tz fz x n 1 999 (0 * 4 + j) HT1 (by rw [(lTs j hj0 (by omega)).1]; exact if_pos (by omega)) (by rw [(lTs j hj0 (by omega)).2]; exact if_neg (by omega))) mk_X8_takesNumber mi_X8_takesNumber wm_881 (by decide) (rv_8 Y rfl) rfl hl (Nat.le_of_ble_eq_true rfl) rfl dX8_takesShip_35 (Nat.zero_le _) (Nat.zero_le _) (fun zq2 tq2 fq2 H locs hq2 Y => ?_)
            have hzr : zq2 = 0 ∨ zq2 = 1 := by rcases hq2.2.2 with h9 | h9; exact Or.inr h9.2.1; exact Or.inl h9.2.1
            refine r_if_ne X (tgt := 43) dX8_takesShip_38 (by decide) ⟨by omega, by omega⟩ (fun c38 => ?_) (fun c38 => ?_)
            · refine r_aload_n X dX8_takesShip_43 hl 1 rfl ?_
              refine g_8_21 (k := 100) X Y rfl wm_758 dX8_takesShip_44 ?_
              refine r_iload_n X dX8_takesShip_47 hl 0 rfl ?_
              refine r_aload_n X dX8_takesShip_48 hl 1 rfl ?_
              refine g_8_17 (k := 100) X Y rfl wm_754 dX8_takesShip_49 ?_
              refine p_ist (k := 109) X Y rfl (by omega) (by have q : ((al 109 : Nat) : Int) = 4 := rfl; omega) dX8_takesShip_52 (fun H locs Y => ?_)
              obtain ⟨fq3, hfq3⟩ : ∃ q, q = upA fq2 109 j (tq2 100 17) := ⟨_, rfl⟩
              have Y : uY g 117 (cX g tq2 fq3) s H locs := by rw [hfq3]; exact Y
              refine r_iinc X dX8_takesShip_53 hl 0 rfl [(1, .int (iV (j + 1))), (0, .ref (g.1 + 100))] (by decide) rfl (fun ls hl => ?_)
              refine r_goto X 7 dX8_takesShip_56 (by decide) ?_
              exact ih7 (j + 1) tq2 fq3 (by omega) (by omega) (TWI_step hx hI hj0 (by omega) hq2 c38 (by rw [Int.zero_add]; exact hfq3)) _ _ _ (by omega) Y (lv_sub hl [0, 1] rfl)
            · refine r_iconst X dX8_takesShip_41 ?_
              exact ret _ _ _ _ _ _ _ dX8_takesShip_42 Y (by first | exact Or.inl rfl | exact Or.inr rfl | omega) (by rw [← htq1]; exact (TWI_bad hI hj0 (by omega) hq2 (by omega)))
          · refine r_bipush X 9 dX8_takesShip_27 (by decide) ?_
            refine r_goto X 35 dX8_takesShip_29 (by decide) ?_
            refine vR_i X Y [.int (iV (1)), .int (iV (9))] [] (ct_X8_takesNumber l g tz fz x n 1 9 (0 * 4 + j) HT1 (by rw [(lTs j hj0 (by omega)).1]; exact if_pos (by omega)) (by rw [(lTs j hj0 (by omega)).2]; exact if_pos (by omega))) mk_X8_takesNumber mi_X8_takesNumber wm_881 (by decide) (rv_8 Y rfl) rfl hl (Nat.le_of_ble_eq_true rfl) rfl dX8_takesShip_35 (Nat.zero_le _) (Nat.zero_le _) (fun zq2 tq2 fq2 H locs hq2 Y => ?_)
            have hzr : zq2 = 0 ∨ zq2 = 1 := by rcases hq2.2.2 with h9 | h9; exact Or.inr h9.2.1; exact Or.inl h9.2.1
            refine r_if_ne X (tgt := 43) dX8_takesShip_38 (by decide) ⟨by omega, by omega⟩ (fun c38 => ?_) (fun c38 => ?_)
            · refine r_aload_n X dX8_takesShip_43 hl 1 rfl ?_
              refine g_8_21 (k := 100) X Y rfl wm_758 dX8_takesShip_44 ?_
              refine r_iload_n X dX8_takesShip_47 hl 0 rfl ?_
              refine r_aload_n X dX8_takesShip_48 hl 1 rfl ?_
              refine g_8_17 (k := 100) X Y rfl wm_754 dX8_takesShip_49 ?_
              refine p_ist (k := 109) X Y rfl (by omega) (by have q : ((al 109 : Nat) : Int) = 4 := rfl; omega) dX8_takesShip_52 (fun H locs Y => ?_)
              obtain ⟨fq3, hfq3⟩ : ∃ q, q = upA fq2 109 j (tq2 100 17) := ⟨_, rfl⟩
              have Y : uY g 117 (cX g tq2 fq3) s H locs := by rw [hfq3]; exact Y
              refine r_iinc X dX8_takesShip_53 hl 0 rfl [(1, .int (iV (j + 1))), (0, .ref (g.1 + 100))] (by decide) rfl (fun ls hl => ?_)
              refine r_goto X 7 dX8_takesShip_56 (by decide) ?_
              exact ih7 (j + 1) tq2 fq3 (by omega) (by omega) (TWI_step hx hI hj0 (by omega) hq2 c38 (by rw [Int.zero_add]; exact hfq3)) _ _ _ (by omega) Y (lv_sub hl [0, 1] rfl)
            · refine r_iconst X dX8_takesShip_41 ?_
              exact ret _ _ _ _ _ _ _ dX8_takesShip_42 Y (by first | exact Or.inl rfl | exact Or.inr rfl | omega) (by rw [← htq1]; exact (TWI_bad hI hj0 (by omega) hq2 (by omega)))
  exact loop7 (((4 - (0:Int)).toNat) + 1) 0 tq1 f (by omega) (by omega) (TWI_init (by rw [htq1, up2_ne _ _ (by omega)]; exact hat) (by rw [htq1, up2_ne _ _ (by omega)]; exact hp)) _ _ _ (Nat.lt_succ_self _) Y (lv_sub hl [0, 1] rfl)
set_option maxHeartbeats 4000000 in
set_option maxRecDepth 100000 in
theorem ct_X8_takesLeg (l : Launch) (g : uG) (t : uN) (f : uF) (x : Int → Int) (n : Int) (pp : Int) (HT : TM x n t f) (hp : t 100 15 = pp + 1) (hr0 : 0 ≤ t 100 22) (hr1 : t 100 22 < 7) : cR_i l yX8_takesLeg cX8_takesLeg 2 (some .boolean) 4 g [.ref (g.1 + 100)] t f (LQ8 x n 1 pp 3 110 22 (3 * t 100 22) t f) := by
  refine eR_z (by decide +kernel) (Nat.le_of_ble_eq_true rfl) ?_
  intro p e R s m args below meth c Q ls H locs X Y hl ret
  have X : uX p 4 R s m args c cX8_takesLeg 2 RX8 := X
  have hl : lv_has ls 2 [(0, .ref (g.1 + 100))] := hl
  have hx := HT.1
  have hn := hx.1
  have h14 := HT.2.1
  have h8 := HT.2.2.1
  have hat := HT.2.2.2
  refine r_iconst X dX8_takesLeg_0 ?_
  refine r_istore_n X dX8_takesLeg_1 hl [(1, .int (iV (0))), (0, .ref (g.1 + 100))] (by decide) rfl (fun ls hl => ?_)
  have loop2 : ∀ (N : Nat) (j : Int) (tz : uN) (fz : uF) (hj0 : 0 ≤ j) (hj1 : j ≤ 3) (hI : TWI x n 1 pp 3 110 (3 * t 100 22) t f j tz fz) (H : Heap) (locs : List Loc) (ls : Array Slot), (3 - j).toNat < N → uY g 117 (cX g tz fz) s H locs → lv_has ls 2 [(1, .int (iV (j))), (0, .ref (g.1 + 100))] → W p l e R s m args below meth c H locs 0 0 Q (F0 m 2 ls []) := by
    intro N
    induction N with
    | zero => intro j tz fz hj0 hj1 hI H locs ls hmu Y hl; exact absurd hmu (Nat.not_lt_zero _)
    | succ N ih2 =>
      intro j tz fz hj0 hj1 hI H locs ls hmu Y hl
      have HT1 : TM x n tz fz := HT.of (by rw [hI.1 100 14 (by unfold rdj; omega)]) hI.2.2.1 (fun i => hI.2.1 108 i (by omega))
      refine r_iload_n X dX8_takesLeg_2 hl 0 rfl ?_
      refine r_iconst X dX8_takesLeg_3 ?_
      refine r_icmp_ge X (tgt := 61) dX8_takesLeg_4 (by decide) ⟨by omega, by omega⟩ ⟨by omega, by omega⟩ (fun c4 => ?_) (fun c4 => ?_)
      · refine r_aload_n X dX8_takesLeg_61 hl 1 rfl ?_
        refine r_dup X dX8_takesLeg_62 rfl ?_
        refine g_8_22 (k := 100) X Y rfl wm_759 dX8_takesLeg_63 ?_
        refine r_eq (z' := t 100 22) (hI.1 100 22 (by unfold rdj; omega)) ?_
        refine r_iconst X dX8_takesLeg_66 ?_
        refine r_iadd X dX8_takesLeg_67 ?_
        refine p_8_22 (k := 100) X Y rfl wm_759 dX8_takesLeg_68 (fun H locs Y => ?_)
        obtain ⟨tq1, htq1⟩ : ∃ q, q = up2 tz 100 22 ((t 100 22) + 1) := ⟨_, rfl⟩
        have Y : uY g 117 (cX g tq1 fz) s H locs := by rw [htq1]; exact Y
        refine r_iconst X dX8_takesLeg_71 ?_
        exact ret _ _ _ _ _ _ _ dX8_takesLeg_72 Y (by first | exact Or.inl rfl | exact Or.inr rfl | omega) ⟨_, (TWI_end hI (by omega)), Or.inr ⟨rfl, htq1⟩⟩
      · refine r_aload_n X dX8_takesLeg_7 hl 1 rfl ?_
        refine r_iload_n X dX8_takesLeg_8 hl 0 rfl ?_
        refine r_iconst X dX8_takesLeg_9 ?_
        refine r_icmp_ne X (tgt := 17) dX8_takesLeg_10 (by decide) ⟨by omega, by omega⟩ ⟨by omega, by omega⟩ (fun c10 => ?_) (fun c10 => ?_)
        · refine r_iconst X dX8_takesLeg_17 ?_
          refine r_iload_n X dX8_takesLeg_18 hl 0 rfl ?_
          refine r_iconst X dX8_takesLeg_19 ?_
          refine r_icmp_ne X (tgt := 28) dX8_takesLeg_20 (by decide) ⟨by omega, by omega⟩ ⟨by omega, by omega⟩ (fun c20 => ?_) (fun c20 => ?_)
          · refine r_bipush X 99 dX8_takesLeg_28 (by decide) ?_
            refine vR_i X Y [.int (iV (0)), .int (iV (99))] [] (ct_X8_takesNumber l g tz fz x n 0 99 (1 * 4 + j) HT1 (by rw [(lTl j hj0 (by omega)).1]; exact if_neg (by omega)) (by rw [(lTl j hj0 (by omega)).2]; exact if_neg (by omega))) mk_X8_takesNumber mi_X8_takesNumber wm_881 (by decide) (rv_8 Y rfl) rfl hl (Nat.le_of_ble_eq_true rfl) rfl dX8_takesLeg_30 (Nat.zero_le _) (Nat.zero_le _) (fun zq1 tq1 fq1 H locs hq1 Y => ?_)
            have hzr : zq1 = 0 ∨ zq1 = 1 := by rcases hq1.2.2 with h9 | h9; exact Or.inr h9.2.1; exact Or.inl h9.2.1
            refine r_if_ne X (tgt := 38) dX8_takesLeg_33 (by decide) ⟨by omega, by omega⟩ (fun c33 => ?_) (fun c33 => ?_)
            · refine r_aload_n X dX8_takesLeg_38 hl 1 rfl ?_
              refine g_8_23 (k := 100) X Y rfl wm_760 dX8_takesLeg_39 ?_
              refine r_iconst X dX8_takesLeg_42 ?_
              refine r_aload_n X dX8_takesLeg_43 hl 1 rfl ?_
              refine g_8_22 (k := 100) X Y rfl wm_759 dX8_takesLeg_44 ?_
              refine r_eq (z' := t 100 22) (by rw [hq1.2.1 100 22 (by unfold rdj; omega), hI.1 100 22 (by unfold rdj; omega)]) ?_
              refine r_imul X dX8_takesLeg_47 ?_
              refine r_iload_n X dX8_takesLeg_48 hl 0 rfl ?_
              refine r_iadd X dX8_takesLeg_49 ?_
              refine r_aload_n X dX8_takesLeg_50 hl 1 rfl ?_
              refine g_8_17 (k := 100) X Y rfl wm_754 dX8_takesLeg_51 ?_
              refine p_ist (k := 110) X Y rfl (by omega) (by have q : ((al 110 : Nat) : Int) = 21 := rfl; omega) dX8_takesLeg_54 (fun H locs Y => ?_)
              obtain ⟨fq2, hfq2⟩ : ∃ q, q = upA fq1 110 ((3 * (t 100 22)) + j) (tq1 100 17) := ⟨_, rfl⟩
              have Y : uY g 117 (cX g tq1 fq2) s H locs := by rw [hfq2]; exact Y
              refine r_iinc X dX8_takesLeg_55 hl 0 rfl [(1, .int (iV (j + 1))), (0, .ref (g.1 + 100))] (by decide) rfl (fun ls hl => ?_)
              refine r_goto X 2 dX8_takesLeg_58 (by decide) ?_
              exact ih2 (j + 1) tq1 fq2 (by omega) (by omega) (TWI_step hx hI hj0 (by omega) hq1 c33 hfq2) _ _ _ (by omega) Y (lv_sub hl [0, 1] rfl)
            · refine r_iconst X dX8_takesLeg_36 ?_
              exact ret _ _ _ _ _ _ _ dX8_takesLeg_37 Y (by first | exact Or.inl rfl | exact Or.inr rfl | omega) ⟨_, (TWI_bad hI hj0 (by omega) hq1 (by omega)), Or.inl ⟨rfl, rfl⟩⟩
          · refine r_bipush X 9 dX8_takesLeg_23 (by decide) ?_
            refine r_goto X 30 dX8_takesLeg_25 (by decide) ?_
            refine vR_i X Y [.int (iV (0)), .int (iV (9))] [] (ct_X8_takesNumber l g tz fz x n 0 9 (1 * 4 + j) HT1 (by rw [(lTl j hj0 (by omega)).1]; exact if_neg (by omega)) (by rw [(lTl j hj0 (by omega)).2]; exact if_pos (by omega))) mk_X8_takesNumber mi_X8_takesNumber wm_881 (by decide) (rv_8 Y rfl) rfl hl (Nat.le_of_ble_eq_true rfl) rfl dX8_takesLeg_30 (Nat.zero_le _) (Nat.zero_le _) (fun zq1 tq1 fq1 H locs hq1 Y => ?_)
            have hzr : zq1 = 0 ∨ zq1 = 1 := by rcases hq1.2.2 with h9 | h9; exact Or.inr h9.2.1; exact Or.inl h9.2.1
            refine r_if_ne X (tgt := 38) dX8_takesLeg_33 (by decide) ⟨by omega, by omega⟩ (fun c33 => ?_) (fun c33 => ?_)
            · refine r_aload_n X dX8_takesLeg_38 hl 1 rfl ?_
              refine g_8_23 (k := 100) X Y rfl wm_760 dX8_takesLeg_39 ?_
              refine r_iconst X dX8_takesLeg_42 ?_
              refine r_aload_n X dX8_takesLeg_43 hl 1 rfl ?_
              refine g_8_22 (k := 100) X Y rfl wm_759 dX8_takesLeg_44 ?_
              refine r_eq (z' := t 100 22) (by rw [hq1.2.1 100 22 (by unfold rdj; omega), hI.1 100 22 (by unfold rdj; omega)]) ?_
              refine r_imul X dX8_takesLeg_47 ?_
              refine r_iload_n X dX8_takesLeg_48 hl 0 rfl ?_
              refine r_iadd X dX8_takesLeg_49 ?_
              refine r_aload_n X dX8_takesLeg_50 hl 1 rfl ?_
              refine g_8_17 (k := 100) X Y rfl wm_754 dX8_takesLeg_51 ?_
              refine p_ist (k := 110) X Y rfl (by omega) (by have q : ((al 110 : Nat) : Int) = 21 := rfl; omega) dX8_takesLeg_54 (fun H locs Y => ?_)
              obtain ⟨fq2, hfq2⟩ : ∃ q, q = upA fq1 110 ((3 * (t 100 22)) + j) (tq1 100 17) := ⟨_, rfl⟩
              have Y : uY g 117 (cX g tq1 fq2) s H locs := by rw [hfq2]; exact Y
              refine r_iinc X dX8_takesLeg_55 hl 0 rfl [(1, .int (iV (j + 1))), (0, .ref (g.1 + 100))] (by decide) rfl (fun ls hl => ?_)
              refine r_goto X 2 dX8_takesLeg_58 (by decide) ?_
              exact ih2 (j + 1) tq1 fq2 (by omega) (by omega) (TWI_step hx hI hj0 (by omega) hq1 c33 hfq2) _ _ _ (by omega) Y (lv_sub hl [0, 1] rfl)
            · refine r_iconst X dX8_takesLeg_36 ?_
              exact ret _ _ _ _ _ _ _ dX8_takesLeg_37 Y (by first | exact Or.inl rfl | exact Or.inr rfl | omega) ⟨_, (TWI_bad hI hj0 (by omega) hq1 (by omega)), Or.inl ⟨rfl, rfl⟩⟩
        · refine r_iconst X dX8_takesLeg_13 ?_
          refine r_goto X 18 dX8_takesLeg_14 (by decide) ?_
          refine r_iload_n X dX8_takesLeg_18 hl 0 rfl ?_
          refine r_iconst X dX8_takesLeg_19 ?_
          refine r_icmp_ne X (tgt := 28) dX8_takesLeg_20 (by decide) ⟨by omega, by omega⟩ ⟨by omega, by omega⟩ (fun c20 => ?_) (fun c20 => ?_)
          · refine r_bipush X 99 dX8_takesLeg_28 (by decide) ?_
            refine vR_i X Y [.int (iV (1)), .int (iV (99))] [] (ct_X8_takesNumber l g tz fz x n 1 99 (1 * 4 + j) HT1 (by rw [(lTl j hj0 (by omega)).1]; exact if_pos (by omega)) (by rw [(lTl j hj0 (by omega)).2]; exact if_neg (by omega))) mk_X8_takesNumber mi_X8_takesNumber wm_881 (by decide) (rv_8 Y rfl) rfl hl (Nat.le_of_ble_eq_true rfl) rfl dX8_takesLeg_30 (Nat.zero_le _) (Nat.zero_le _) (fun zq1 tq1 fq1 H locs hq1 Y => ?_)
            have hzr : zq1 = 0 ∨ zq1 = 1 := by rcases hq1.2.2 with h9 | h9; exact Or.inr h9.2.1; exact Or.inl h9.2.1
            refine r_if_ne X (tgt := 38) dX8_takesLeg_33 (by decide) ⟨by omega, by omega⟩ (fun c33 => ?_) (fun c33 => ?_)
            · refine r_aload_n X dX8_takesLeg_38 hl 1 rfl ?_
              refine g_8_23 (k := 100) X Y rfl wm_760 dX8_takesLeg_39 ?_
              refine r_iconst X dX8_takesLeg_42 ?_
              refine r_aload_n X dX8_takesLeg_43 hl 1 rfl ?_
              refine g_8_22 (k := 100) X Y rfl wm_759 dX8_takesLeg_44 ?_
              refine r_eq (z' := t 100 22) (by rw [hq1.2.1 100 22 (by unfold rdj; omega), hI.1 100 22 (by unfold rdj; omega)]) ?_
              refine r_imul X dX8_takesLeg_47 ?_
              refine r_iload_n X dX8_takesLeg_48 hl 0 rfl ?_
              refine r_iadd X dX8_takesLeg_49 ?_
              refine r_aload_n X dX8_takesLeg_50 hl 1 rfl ?_
              refine g_8_17 (k := 100) X Y rfl wm_754 dX8_takesLeg_51 ?_
              refine p_ist (k := 110) X Y rfl (by omega) (by have q : ((al 110 : Nat) : Int) = 21 := rfl; omega) dX8_takesLeg_54 (fun H locs Y => ?_)
              obtain ⟨fq2, hfq2⟩ : ∃ q, q = upA fq1 110 ((3 * (t 100 22)) + j) (tq1 100 17) := ⟨_, rfl⟩
              have Y : uY g 117 (cX g tq1 fq2) s H locs := by rw [hfq2]; exact Y
              refine r_iinc X dX8_takesLeg_55 hl 0 rfl [(1, .int (iV (j + 1))), (0, .ref (g.1 + 100))] (by decide) rfl (fun ls hl => ?_)
              refine r_goto X 2 dX8_takesLeg_58 (by decide) ?_
              exact ih2 (j + 1) tq1 fq2 (by omega) (by omega) (TWI_step hx hI hj0 (by omega) hq1 c33 hfq2) _ _ _ (by omega) Y (lv_sub hl [0, 1] rfl)
            · refine r_iconst X dX8_takesLeg_36 ?_
              exact ret _ _ _ _ _ _ _ dX8_takesLeg_37 Y (by first | exact Or.inl rfl | exact Or.inr rfl | omega) ⟨_, (TWI_bad hI hj0 (by omega) hq1 (by omega)), Or.inl ⟨rfl, rfl⟩⟩
          · refine r_bipush X 9 dX8_takesLeg_23 (by decide) ?_
            refine r_goto X 30 dX8_takesLeg_25 (by decide) ?_
            refine vR_i X Y [.int (iV (1)), .int (iV (9))] [] (ct_X8_takesNumber l g tz fz x n 1 9 (1 * 4 + j) HT1 (by rw [(lTl j hj0 (by omega)).1]; exact if_pos (by omega)) (by rw [(lTl j hj0 (by omega)).2]; exact if_pos (by omega))) mk_X8_takesNumber mi_X8_takesNumber wm_881 (by decide) (rv_8 Y rfl) rfl hl (Nat.le_of_ble_eq_true rfl) rfl dX8_takesLeg_30 (Nat.zero_le _) (Nat.zero_le _) (fun zq1 tq1 fq1 H locs hq1 Y => ?_)
            have hzr : zq1 = 0 ∨ zq1 = 1 := by rcases hq1.2.2 with h9 | h9; exact Or.inr h9.2.1; exact Or.inl h9.2.1
            refine r_if_ne X (tgt := 38) dX8_takesLeg_33 (by decide) ⟨by omega, by omega⟩ (fun c33 => ?_) (fun c33 => ?_)
            · refine r_aload_n X dX8_takesLeg_38 hl 1 rfl ?_
              refine g_8_23 (k := 100) X Y rfl wm_760 dX8_takesLeg_39 ?_
              refine r_iconst X dX8_takesLeg_42 ?_
              refine r_aload_n X dX8_takesLeg_43 hl 1 rfl ?_
              refine g_8_22 (k := 100) X Y rfl wm_759 dX8_takesLeg_44 ?_
              refine r_eq (z' := t 100 22) (by rw [hq1.2.1 100 22 (by unfold rdj; omega), hI.1 100 22 (by unfold rdj; omega)]) ?_
              refine r_imul X dX8_takesLeg_47 ?_
              refine r_iload_n X dX8_takesLeg_48 hl 0 rfl ?_
              refine r_iadd X dX8_takesLeg_49 ?_
              refine r_aload_n X dX8_takesLeg_50 hl 1 rfl ?_
              refine g_8_17 (k := 100) X Y rfl wm_754 dX8_takesLeg_51 ?_
              refine p_ist (k := 110) X Y rfl (by omega) (by have q : ((al 110 : Nat) : Int) = 21 := rfl; omega) dX8_takesLeg_54 (fun H locs Y => ?_)
              obtain ⟨fq2, hfq2⟩ : ∃ q, q = upA fq1 110 ((3 * (t 100 22)) + j) (tq1 100 17) := ⟨_, rfl⟩
              have Y : uY g 117 (cX g tq1 fq2) s H locs := by rw [hfq2]; exact Y
              refine r_iinc X dX8_takesLeg_55 hl 0 rfl [(1, .int (iV (j + 1))), (0, .ref (g.1 + 100))] (by decide) rfl (fun ls hl => ?_)
              refine r_goto X 2 dX8_takesLeg_58 (by decide) ?_
              exact ih2 (j + 1) tq1 fq2 (by omega) (by omega) (TWI_step hx hI hj0 (by omega) hq1 c33 hfq2) _ _ _ (by omega) Y (lv_sub hl [0, 1] rfl)
            · refine r_iconst X dX8_takesLeg_36 ?_
              exact ret _ _ _ _ _ _ _ dX8_takesLeg_37 Y (by first | exact Or.inl rfl | exact Or.inr rfl | omega) ⟨_, (TWI_bad hI hj0 (by omega) hq1 (by omega)), Or.inl ⟨rfl, rfl⟩⟩
  exact loop2 (((3 - (0:Int)).toNat) + 1) 0 t f (by omega) (by omega) (TWI_init hat hp) _ _ _ (Nat.lt_succ_self _) Y (lv_sub hl [0, 1] rfl)
set_option maxHeartbeats 4000000 in
set_option maxRecDepth 100000 in
theorem ct_X8_takesLender (l : Launch) (g : uG) (t : uN) (f : uF) (x : Int → Int) (n : Int) (pp : Int) (HT : TM x n t f) (hp : t 100 15 = pp + 1) (hr0 : 0 ≤ t 100 24) (hr1 : t 100 24 < 5) : cR_i l yX8_takesLender cX8_takesLender 2 (some .boolean) 4 g [.ref (g.1 + 100)] t f (LQ8 x n 2 pp 2 111 24 (2 * t 100 24) t f) := by
  refine eR_z (by decide +kernel) (Nat.le_of_ble_eq_true rfl) ?_
  intro p e R s m args below meth c Q ls H locs X Y hl ret
  have X : uX p 4 R s m args c cX8_takesLender 2 RX8 := X
  have hl : lv_has ls 2 [(0, .ref (g.1 + 100))] := hl
  have hx := HT.1
  have hn := hx.1
  have h14 := HT.2.1
  have h8 := HT.2.2.1
  have hat := HT.2.2.2
  refine r_iconst X dX8_takesLender_0 ?_
  refine r_istore_n X dX8_takesLender_1 hl [(1, .int (iV (0))), (0, .ref (g.1 + 100))] (by decide) rfl (fun ls hl => ?_)
  have loop2 : ∀ (N : Nat) (j : Int) (tz : uN) (fz : uF) (hj0 : 0 ≤ j) (hj1 : j ≤ 2) (hI : TWI x n 2 pp 2 111 (2 * t 100 24) t f j tz fz) (H : Heap) (locs : List Loc) (ls : Array Slot), (2 - j).toNat < N → uY g 117 (cX g tz fz) s H locs → lv_has ls 2 [(1, .int (iV (j))), (0, .ref (g.1 + 100))] → W p l e R s m args below meth c H locs 0 0 Q (F0 m 2 ls []) := by
    intro N
    induction N with
    | zero => intro j tz fz hj0 hj1 hI H locs ls hmu Y hl; exact absurd hmu (Nat.not_lt_zero _)
    | succ N ih2 =>
      intro j tz fz hj0 hj1 hI H locs ls hmu Y hl
      have HT1 : TM x n tz fz := HT.of (by rw [hI.1 100 14 (by unfold rdj; omega)]) hI.2.2.1 (fun i => hI.2.1 108 i (by omega))
      refine r_iload_n X dX8_takesLender_2 hl 0 rfl ?_
      refine r_iconst X dX8_takesLender_3 ?_
      refine r_icmp_ge X (tgt := 53) dX8_takesLender_4 (by decide) ⟨by omega, by omega⟩ ⟨by omega, by omega⟩ (fun c4 => ?_) (fun c4 => ?_)
      · refine r_aload_n X dX8_takesLender_53 hl 1 rfl ?_
        refine r_dup X dX8_takesLender_54 rfl ?_
        refine g_8_24 (k := 100) X Y rfl wm_761 dX8_takesLender_55 ?_
        refine r_eq (z' := t 100 24) (hI.1 100 24 (by unfold rdj; omega)) ?_
        refine r_iconst X dX8_takesLender_58 ?_
        refine r_iadd X dX8_takesLender_59 ?_
        refine p_8_24 (k := 100) X Y rfl wm_761 dX8_takesLender_60 (fun H locs Y => ?_)
        obtain ⟨tq1, htq1⟩ : ∃ q, q = up2 tz 100 24 ((t 100 24) + 1) := ⟨_, rfl⟩
        have Y : uY g 117 (cX g tq1 fz) s H locs := by rw [htq1]; exact Y
        refine r_iconst X dX8_takesLender_63 ?_
        exact ret _ _ _ _ _ _ _ dX8_takesLender_64 Y (by first | exact Or.inl rfl | exact Or.inr rfl | omega) ⟨_, (TWI_end hI (by omega)), Or.inr ⟨rfl, htq1⟩⟩
      · refine r_aload_n X dX8_takesLender_7 hl 1 rfl ?_
        refine r_iconst X dX8_takesLender_8 ?_
        refine r_iload_n X dX8_takesLender_9 hl 0 rfl ?_
        refine r_if_ne X (tgt := 19) dX8_takesLender_10 (by decide) ⟨by omega, by omega⟩ (fun c10 => ?_) (fun c10 => ?_)
        · refine r_sipush X 200 dX8_takesLender_19 (by decide) ?_
          refine vR_i X Y [.int (iV (0)), .int (iV (200))] [] (ct_X8_takesNumber l g tz fz x n 0 200 (2 * 4 + j) HT1 (lTm j hj0 (by omega)).1 (by rw [(lTm j hj0 (by omega)).2]; exact if_neg (by omega))) mk_X8_takesNumber mi_X8_takesNumber wm_881 (by decide) (rv_8 Y rfl) rfl hl (Nat.le_of_ble_eq_true rfl) rfl dX8_takesLender_22 (Nat.zero_le _) (Nat.zero_le _) (fun zq1 tq1 fq1 H locs hq1 Y => ?_)
          have hzr : zq1 = 0 ∨ zq1 = 1 := by rcases hq1.2.2 with h9 | h9; exact Or.inr h9.2.1; exact Or.inl h9.2.1
          refine r_if_ne X (tgt := 30) dX8_takesLender_25 (by decide) ⟨by omega, by omega⟩ (fun c25 => ?_) (fun c25 => ?_)
          · refine r_aload_n X dX8_takesLender_30 hl 1 rfl ?_
            refine g_8_25 (k := 100) X Y rfl wm_762 dX8_takesLender_31 ?_
            refine r_iconst X dX8_takesLender_34 ?_
            refine r_aload_n X dX8_takesLender_35 hl 1 rfl ?_
            refine g_8_24 (k := 100) X Y rfl wm_761 dX8_takesLender_36 ?_
            refine r_eq (z' := t 100 24) (by rw [hq1.2.1 100 24 (by unfold rdj; omega), hI.1 100 24 (by unfold rdj; omega)]) ?_
            refine r_imul X dX8_takesLender_39 ?_
            refine r_iload_n X dX8_takesLender_40 hl 0 rfl ?_
            refine r_iadd X dX8_takesLender_41 ?_
            refine r_aload_n X dX8_takesLender_42 hl 1 rfl ?_
            refine g_8_17 (k := 100) X Y rfl wm_754 dX8_takesLender_43 ?_
            refine p_ist (k := 111) X Y rfl (by omega) (by have q : ((al 111 : Nat) : Int) = 10 := rfl; omega) dX8_takesLender_46 (fun H locs Y => ?_)
            obtain ⟨fq2, hfq2⟩ : ∃ q, q = upA fq1 111 ((2 * (t 100 24)) + j) (tq1 100 17) := ⟨_, rfl⟩
            have Y : uY g 117 (cX g tq1 fq2) s H locs := by rw [hfq2]; exact Y
            refine r_iinc X dX8_takesLender_47 hl 0 rfl [(1, .int (iV (j + 1))), (0, .ref (g.1 + 100))] (by decide) rfl (fun ls hl => ?_)
            refine r_goto X 2 dX8_takesLender_50 (by decide) ?_
            exact ih2 (j + 1) tq1 fq2 (by omega) (by omega) (TWI_step hx hI hj0 (by omega) hq1 c25 hfq2) _ _ _ (by omega) Y (lv_sub hl [0, 1] rfl)
          · refine r_iconst X dX8_takesLender_28 ?_
            exact ret _ _ _ _ _ _ _ dX8_takesLender_29 Y (by first | exact Or.inl rfl | exact Or.inr rfl | omega) ⟨_, (TWI_bad hI hj0 (by omega) hq1 (by omega)), Or.inl ⟨rfl, rfl⟩⟩
        · refine r_sipush X 999 dX8_takesLender_13 (by decide) ?_
          refine r_goto X 22 dX8_takesLender_16 (by decide) ?_
          refine vR_i X Y [.int (iV (0)), .int (iV (999))] [] (ct_X8_takesNumber l g tz fz x n 0 999 (2 * 4 + j) HT1 (lTm j hj0 (by omega)).1 (by rw [(lTm j hj0 (by omega)).2]; exact if_pos (by omega))) mk_X8_takesNumber mi_X8_takesNumber wm_881 (by decide) (rv_8 Y rfl) rfl hl (Nat.le_of_ble_eq_true rfl) rfl dX8_takesLender_22 (Nat.zero_le _) (Nat.zero_le _) (fun zq1 tq1 fq1 H locs hq1 Y => ?_)
          have hzr : zq1 = 0 ∨ zq1 = 1 := by rcases hq1.2.2 with h9 | h9; exact Or.inr h9.2.1; exact Or.inl h9.2.1
          refine r_if_ne X (tgt := 30) dX8_takesLender_25 (by decide) ⟨by omega, by omega⟩ (fun c25 => ?_) (fun c25 => ?_)
          · refine r_aload_n X dX8_takesLender_30 hl 1 rfl ?_
            refine g_8_25 (k := 100) X Y rfl wm_762 dX8_takesLender_31 ?_
            refine r_iconst X dX8_takesLender_34 ?_
            refine r_aload_n X dX8_takesLender_35 hl 1 rfl ?_
            refine g_8_24 (k := 100) X Y rfl wm_761 dX8_takesLender_36 ?_
            refine r_eq (z' := t 100 24) (by rw [hq1.2.1 100 24 (by unfold rdj; omega), hI.1 100 24 (by unfold rdj; omega)]) ?_
            refine r_imul X dX8_takesLender_39 ?_
            refine r_iload_n X dX8_takesLender_40 hl 0 rfl ?_
            refine r_iadd X dX8_takesLender_41 ?_
            refine r_aload_n X dX8_takesLender_42 hl 1 rfl ?_
            refine g_8_17 (k := 100) X Y rfl wm_754 dX8_takesLender_43 ?_
            refine p_ist (k := 111) X Y rfl (by omega) (by have q : ((al 111 : Nat) : Int) = 10 := rfl; omega) dX8_takesLender_46 (fun H locs Y => ?_)
            obtain ⟨fq2, hfq2⟩ : ∃ q, q = upA fq1 111 ((2 * (t 100 24)) + j) (tq1 100 17) := ⟨_, rfl⟩
            have Y : uY g 117 (cX g tq1 fq2) s H locs := by rw [hfq2]; exact Y
            refine r_iinc X dX8_takesLender_47 hl 0 rfl [(1, .int (iV (j + 1))), (0, .ref (g.1 + 100))] (by decide) rfl (fun ls hl => ?_)
            refine r_goto X 2 dX8_takesLender_50 (by decide) ?_
            exact ih2 (j + 1) tq1 fq2 (by omega) (by omega) (TWI_step hx hI hj0 (by omega) hq1 c25 hfq2) _ _ _ (by omega) Y (lv_sub hl [0, 1] rfl)
          · refine r_iconst X dX8_takesLender_28 ?_
            exact ret _ _ _ _ _ _ _ dX8_takesLender_29 Y (by first | exact Or.inl rfl | exact Or.inr rfl | omega) ⟨_, (TWI_bad hI hj0 (by omega) hq1 (by omega)), Or.inl ⟨rfl, rfl⟩⟩
  exact loop2 (((2 - (0:Int)).toNat) + 1) 0 t f (by omega) (by omega) (TWI_init hat hp) _ _ _ (Nat.lt_succ_self _) Y (lv_sub hl [0, 1] rfl)

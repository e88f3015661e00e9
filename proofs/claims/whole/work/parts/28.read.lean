/-! the reader by contract -/
set_option maxHeartbeats 4000000 in
set_option maxRecDepth 100000 in
theorem ct_X3_letter (l : Launch) (g : uG) (t : uN) (f : uF) (x : Int → Int) (n : Int) (h : TX t f x n)  : cF_i l yX3_letter cX3_letter 1 (some .int) 3 g [.ref (g.1 + 3)] t f (x (t 3 2)) (t) (f) := by
  refine eF_i (by decide +kernel) (Nat.le_of_ble_eq_true rfl) ?_
  intro p e R s m args below meth c Q ls H locs X Y hl ret
  have X : uX p 3 R s m args c cX3_letter 1 RX3 := X
  have hl : lv_has ls 1 [(0, .ref (g.1 + 3))] := hl
  have hx := h.1
  have hn := h.1.1
  have h1 := h.2.1
  have hp := h.2.2.2
  refine r_aload_n X dX3_letter_0 hl 0 rfl ?_
  refine g_3_0 (k := 3) X Y rfl wm_135 dX3_letter_1 ?_
  refine r_aload_n X dX3_letter_4 hl 0 rfl ?_
  refine g_3_2 (k := 3) X Y rfl wm_137 dX3_letter_5 ?_
  refine r_iconst X dX3_letter_8 ?_
  refine vF_i X Y [.int (iV (t 3 2)), .int (iV (0))] [] (ct_X5_get l g t f 1 (t 3 2) 0 rfl h.tok ⟨by omega, by omega⟩ ⟨by omega, by omega⟩) mk_X5_get mi_X5_get wm_348 (by decide) (rv_5 Y rfl) rfl hl (Nat.le_of_ble_eq_true rfl) rfl dX3_letter_9 (Nat.zero_le _) (Nat.zero_le _) (fun H locs Y => ?_)
  exact ret _ _ _ _ _ _ _ dX3_letter_12 Y ⟨h.2.2.1 _, rfl, rfl⟩
set_option maxHeartbeats 4000000 in
set_option maxRecDepth 100000 in
theorem ct_X3_refuse (l : Launch) (g : uG) (t : uN) (f : uF) (k0 p0 : Int)  : cF_v l yX3_refuse cX3_refuse 3 1 g [.ref (g.1 + 3), .int (iV (k0)), .int (iV (p0))] t f (up2 (up2 t 3 3 k0) 3 4 p0) (f) := by
  refine eF_v (by decide +kernel) (Nat.le_of_ble_eq_true rfl) ?_
  intro p e R s m args below meth c Q ls H locs X Y hl ret
  have X : uX p 1 R s m args c cX3_refuse 3 RX3 := X
  have hl : lv_has ls 3 [(0, .ref (g.1 + 3)), (1, .int (iV (k0))), (2, .int (iV (p0)))] := hl
  refine r_aload_n X dX3_refuse_0 hl 0 rfl ?_
  refine r_iload_n X dX3_refuse_1 hl 1 rfl ?_
  refine p_3_3 (k := 3) X Y rfl wm_138 dX3_refuse_2 (fun H locs Y => ?_)
  obtain ⟨tq1, htq1⟩ : ∃ q, q = up2 t 3 3 (k0) := ⟨_, rfl⟩
  have Y : uY g 117 (cX g tq1 f) s H locs := by rw [htq1]; exact Y
  refine r_aload_n X dX3_refuse_5 hl 0 rfl ?_
  refine r_iload_n X dX3_refuse_6 hl 2 rfl ?_
  refine p_3_4 (k := 3) X Y rfl wm_139 dX3_refuse_7 (fun H locs Y => ?_)
  obtain ⟨tq2, htq2⟩ : ∃ q, q = up2 tq1 3 4 (p0) := ⟨_, rfl⟩
  have Y : uY g 117 (cX g tq2 f) s H locs := by rw [htq2]; exact Y
  exact ret _ _ _ _ _ _ dX3_refuse_10 Y (by subst htq1 htq2; exact ⟨rfl, rfl⟩)
set_option maxHeartbeats 4000000 in
set_option maxRecDepth 100000 in
theorem ct_X3_placeOfFault (l : Launch) (g : uG) (t : uN) (f : uF)   : cF_i l yX3_placeOfFault cX3_placeOfFault 1 (some .int) 1 g [.ref (g.1 + 3)] t f (t 3 4) (t) (f) := by
  refine eF_i (by decide +kernel) (Nat.le_of_ble_eq_true rfl) ?_
  intro p e R s m args below meth c Q ls H locs X Y hl ret
  have X : uX p 1 R s m args c cX3_placeOfFault 1 RX3 := X
  have hl : lv_has ls 1 [(0, .ref (g.1 + 3))] := hl
  refine r_aload_n X dX3_placeOfFault_0 hl 0 rfl ?_
  refine g_3_4 (k := 3) X Y rfl wm_139 dX3_placeOfFault_1 ?_
  exact ret _ _ _ _ _ _ _ dX3_placeOfFault_4 Y ⟨rfl, rfl, rfl⟩
set_option maxHeartbeats 4000000 in
set_option maxRecDepth 100000 in
theorem ct_X3_whatWasRead (l : Launch) (g : uG) (t : uN) (f : uF)   : cF_q l yX3_whatWasRead cX3_whatWasRead 1 "BottomryLoans$Voyage" 1 g [.ref (g.1 + 3)] t f (some (g.1 + 4)) (t) (f) := by
  refine eF_q (by decide +kernel) (Nat.le_of_ble_eq_true rfl) ?_
  intro p e R s m args below meth c Q ls H locs X Y hl ret
  have X : uX p 1 R s m args c cX3_whatWasRead 1 RX3 := X
  have hl : lv_has ls 1 [(0, .ref (g.1 + 3))] := hl
  refine r_aload_n X dX3_whatWasRead_0 hl 0 rfl ?_
  refine g_3_1 (k := 3) X Y rfl wm_136 dX3_whatWasRead_1 ?_
  exact ret _ _ _ _ _ _ _ dX3_whatWasRead_4 Y ⟨rfl, rfl, rfl⟩
set_option maxHeartbeats 4000000 in
set_option maxRecDepth 100000 in
theorem ct_X3_skipBlanks (l : Launch) (g : uG) (t : uN) (f : uF) (x : Int → Int) (n : Int) (h : TX t f x n)  : cF_v l yX3_skipBlanks cX3_skipBlanks 2 4 g [.ref (g.1 + 3)] t f (up2 t 3 2 (sk x (t 3 2))) (f) := by
  refine eF_v (by decide +kernel) (Nat.le_of_ble_eq_true rfl) ?_
  intro p e R s m args below meth c Q ls H locs X Y hl ret
  have X : uX p 4 R s m args c cX3_skipBlanks 2 RX3 := X
  have hl : lv_has ls 2 [(0, .ref (g.1 + 3))] := hl
  have hx := h.1
  have hn := h.1.1
  have h1 := h.2.1
  have hp := h.2.2.2
  refine r_iconst X dX3_skipBlanks_0 ?_
  refine r_istore_n X dX3_skipBlanks_1 hl [(1, .int (iV (0))), (0, .ref (g.1 + 3))] (by decide) rfl (fun ls hl => ?_)
  have loop2 : ∀ (N : Nat) (i : Int) (tz : uN) (hi0 : 0 ≤ i) (hi1 : i ≤ 220) (h_tz : TX tz f x n) (he : skN x (220 - i).toNat (tz 3 2) = sk x (t 3 2)) (ht : tz = up2 t 3 2 (tz 3 2)) (H : Heap) (locs : List Loc) (ls : Array Slot), (220 - i).toNat < N → uY g 117 (cX g tz f) s H locs → lv_has ls 2 [(1, .int (iV (i))), (0, .ref (g.1 + 3))] → W p l e R s m args below meth c H locs 0 0 Q (F0 m 2 ls []) := by
    intro N
    induction N with
    | zero => intro i tz hi0 hi1 h_tz he ht H locs ls hmu Y hl; exact absurd hmu (Nat.not_lt_zero _)
    | succ N ih =>
      intro i tz hi0 hi1 h_tz he ht H locs ls hmu Y hl
      have hz2 := h_tz.2.2.2
      refine r_iload_n X dX3_skipBlanks_2 hl 0 rfl ?_
      refine r_sipush X 220 dX3_skipBlanks_3 (by decide) ?_
      refine r_icmp_ge X (tgt := 34) dX3_skipBlanks_6 (by decide) ⟨by omega, by omega⟩ ⟨by omega, by omega⟩ (fun c6 => ?_) (fun c6 => ?_)
      · exact ret _ _ _ _ _ _ dX3_skipBlanks_34 Y ⟨by rw [← he]; (first | (rw [show (220 - i).toNat = 0 by omega]; exact ht) | (rw [show (220 - i).toNat = (220 - (i + 1)).toNat + 1 by omega, skN, if_neg (by omega)]; exact ht)), rfl⟩
      · refine r_aload_n X dX3_skipBlanks_9 hl 1 rfl ?_
        refine vF_i X Y [] [] (ct_X3_letter l g tz f x n h_tz) mk_X3_letter mi_X3_letter wm_344 (by decide) (rv_3 Y rfl) rfl hl (Nat.le_of_ble_eq_true rfl) rfl dX3_skipBlanks_10 (Nat.zero_le _) (Nat.zero_le _) (fun H locs Y => ?_)
        have ql10 := h_tz.1.2.1 (tz 3 2)
        refine r_bipush X 32 dX3_skipBlanks_13 (by decide) ?_
        refine r_icmp_ne X (tgt := 34) dX3_skipBlanks_15 (by decide) ⟨by omega, by omega⟩ ⟨by omega, by omega⟩ (fun c15 => ?_) (fun c15 => ?_)
        · exact ret _ _ _ _ _ _ dX3_skipBlanks_34 Y ⟨by rw [← he]; (first | (rw [show (220 - i).toNat = 0 by omega]; exact ht) | (rw [show (220 - i).toNat = (220 - (i + 1)).toNat + 1 by omega, skN, if_neg (by omega)]; exact ht)), rfl⟩
        · have hlt := txt_lt hx hz2.1 (p := tz 3 2) (by omega)
          refine r_aload_n X dX3_skipBlanks_18 hl 1 rfl ?_
          refine r_dup X dX3_skipBlanks_19 rfl ?_
          refine g_3_2 (k := 3) X Y rfl wm_137 dX3_skipBlanks_20 ?_
          refine r_iconst X dX3_skipBlanks_23 ?_
          refine r_iadd X dX3_skipBlanks_24 ?_
          refine p_3_2 (k := 3) X Y rfl wm_137 dX3_skipBlanks_25 (fun H locs Y => ?_)
          obtain ⟨tq1, htq1⟩ : ∃ q, q = up2 tz 3 2 ((tz 3 2) + 1) := ⟨_, rfl⟩
          have Y : uY g 117 (cX g tq1 f) s H locs := by rw [htq1]; exact Y
          refine r_iinc X dX3_skipBlanks_28 hl 0 rfl [(1, .int (iV (i + 1))), (0, .ref (g.1 + 3))] (by decide) rfl (fun ls hl => ?_)
          refine r_goto X 2 dX3_skipBlanks_31 (by decide) ?_
          exact ih (i + 1) tq1 (by omega) (by omega) (h_tz.of (by rw [htq1, up2_ne _ _ (by omega)]) (by rw [htq1, up2_s]; omega) (fun _ => rfl)) (by rw [← he, show (220 - i).toNat = (220 - (i + 1)).toNat + 1 by omega, skN, if_pos c15, htq1, up2_s]) (by rw [htq1, up2_s]; exact up2_of ht _) _ _ _ (by omega) Y (lv_sub hl [0, 1] rfl)
  exact loop2 (((220 - (0 : Int)).toNat) + 1) 0 t (by omega) (by omega) h rfl (up2_id t 3 2).symm _ _ _ (Nat.lt_succ_self _) Y (lv_sub hl [0, 1] rfl)
set_option maxHeartbeats 4000000 in
set_option maxRecDepth 100000 in
theorem ct_X3_wordOf (l : Launch) (g : uG) (t : uN) (f : uF) (c0 : Int) (hc : 0 ≤ c0 ∧ c0 ≤ 255) : cF_i l yX3_wordOf cX3_wordOf 1 (some .int) 1 g [.int (iV (c0))] t f (wordZ c0) (t) (f) := by
  refine eF_i (by decide +kernel) (Nat.le_of_ble_eq_true rfl) ?_
  intro p e R s m args below meth c Q ls H locs X Y hl ret
  have X : uX p 1 R s m args c cX3_wordOf 1 RX3 := X
  have hl : lv_has ls 1 [(0, .int (iV (c0)))] := hl
  refine r_iload_n X dX3_wordOf_0 hl 0 rfl ?_
  rcases (show c0 = 108 ∨ c0 = 109 ∨ c0 = 115 ∨ (¬ c0 = 108 ∧ ¬ c0 = 109 ∧ ¬ c0 = 115) by omega) with hsw | hsw | hsw | hsw
  · refine r_lookup3 X 38 dX3_wordOf_1 ⟨by omega, by omega⟩ 37 (by repeat (first | rw [if_pos (by omega)] | rw [if_neg (by omega)])) (by decide) ?_
    refine r_iconst X dX3_wordOf_38 ?_
    exact ret _ _ _ _ _ _ _ dX3_wordOf_39 Y ⟨by unfold wordZ; repeat (first | rw [if_pos (by omega)] | rw [if_neg (by omega)]), rfl, rfl⟩
  · refine r_lookup3 X 40 dX3_wordOf_1 ⟨by omega, by omega⟩ 39 (by repeat (first | rw [if_pos (by omega)] | rw [if_neg (by omega)])) (by decide) ?_
    refine r_iconst X dX3_wordOf_40 ?_
    exact ret _ _ _ _ _ _ _ dX3_wordOf_41 Y ⟨by unfold wordZ; repeat (first | rw [if_pos (by omega)] | rw [if_neg (by omega)]), rfl, rfl⟩
  · refine r_lookup3 X 36 dX3_wordOf_1 ⟨by omega, by omega⟩ 35 (by repeat (first | rw [if_pos (by omega)] | rw [if_neg (by omega)])) (by decide) ?_
    refine r_iconst X dX3_wordOf_36 ?_
    exact ret _ _ _ _ _ _ _ dX3_wordOf_37 Y ⟨by unfold wordZ; repeat (first | rw [if_pos (by omega)] | rw [if_neg (by omega)]), rfl, rfl⟩
  · refine r_lookup3 X 42 dX3_wordOf_1 ⟨by omega, by omega⟩ 41 (by repeat (first | rw [if_pos (by omega)] | rw [if_neg (by omega)])) (by decide) ?_
    refine r_iconst X dX3_wordOf_42 ?_
    exact ret _ _ _ _ _ _ _ dX3_wordOf_43 Y ⟨by unfold wordZ; repeat (first | rw [if_pos (by omega)] | rw [if_neg (by omega)]), rfl, rfl⟩
set_option maxHeartbeats 4000000 in
set_option maxRecDepth 100000 in
theorem ct_X3_clausesOf_0 (l : Launch) (g : uG) (t : uN) (f : uF) (w : Int) (hw : w = 0) : cF_q l yX3_clausesOf cX3_clausesOf 2 "BottomryLoans$Table" 1 g [.ref (g.1 + 3), .int (iV (w))] t f (some (g.1 + 5)) (t) (f) := by
  refine eF_q (by decide +kernel) (Nat.le_of_ble_eq_true rfl) ?_
  intro p e R s m args below meth c Q ls H locs X Y hl ret
  have X : uX p 1 R s m args c cX3_clausesOf 2 RX3 := X
  have hl : lv_has ls 2 [(0, .ref (g.1 + 3)), (1, .int (iV (w)))] := hl
  refine r_iload_n X dX3_clausesOf_0 hl 1 rfl ?_
  refine r_if_ne X (tgt := 12) dX3_clausesOf_1 (by decide) ⟨by omega, by omega⟩ (fun c1 => ?_) (fun c1 => ?_)
  · exact absurd c1 (by omega)
  · refine r_aload_n X dX3_clausesOf_4 hl 0 rfl ?_
    refine g_3_1 (k := 3) X Y rfl wm_136 dX3_clausesOf_5 ?_
    refine g_6_0 (k := 4) X Y rfl wm_120 dX3_clausesOf_8 ?_
    exact ret _ _ _ _ _ _ _ dX3_clausesOf_11 Y ⟨rfl, rfl, rfl⟩
set_option maxHeartbeats 4000000 in
set_option maxRecDepth 100000 in
theorem ct_X3_clausesOf_1 (l : Launch) (g : uG) (t : uN) (f : uF) (w : Int) (hw : w = 1) : cF_q l yX3_clausesOf cX3_clausesOf 2 "BottomryLoans$Table" 1 g [.ref (g.1 + 3), .int (iV (w))] t f (some (g.1 + 7)) (t) (f) := by
  refine eF_q (by decide +kernel) (Nat.le_of_ble_eq_true rfl) ?_
  intro p e R s m args below meth c Q ls H locs X Y hl ret
  have X : uX p 1 R s m args c cX3_clausesOf 2 RX3 := X
  have hl : lv_has ls 2 [(0, .ref (g.1 + 3)), (1, .int (iV (w)))] := hl
  refine r_iload_n X dX3_clausesOf_0 hl 1 rfl ?_
  refine r_if_ne X (tgt := 12) dX3_clausesOf_1 (by decide) ⟨by omega, by omega⟩ (fun c1 => ?_) (fun c1 => ?_)
  · refine r_iload_n X dX3_clausesOf_12 hl 1 rfl ?_
    refine r_iconst X dX3_clausesOf_13 ?_
    refine r_icmp_ne X (tgt := 27) dX3_clausesOf_14 (by decide) ⟨by omega, by omega⟩ ⟨by omega, by omega⟩ (fun c14 => ?_) (fun c14 => ?_)
    · exact absurd c14 (by omega)
    · refine r_aload_n X dX3_clausesOf_17 hl 0 rfl ?_
      refine g_3_1 (k := 3) X Y rfl wm_136 dX3_clausesOf_18 ?_
      refine g_6_1 (k := 4) X Y rfl wm_124 dX3_clausesOf_21 ?_
      refine r_goto X 34 dX3_clausesOf_24 (by decide) ?_
      exact ret _ _ _ _ _ _ _ dX3_clausesOf_34 Y ⟨rfl, rfl, rfl⟩
  · exact absurd c1 (by omega)
set_option maxHeartbeats 4000000 in
set_option maxRecDepth 100000 in
theorem ct_X3_clausesOf_2 (l : Launch) (g : uG) (t : uN) (f : uF) (w : Int) (hw : w = 2) : cF_q l yX3_clausesOf cX3_clausesOf 2 "BottomryLoans$Table" 1 g [.ref (g.1 + 3), .int (iV (w))] t f (some (g.1 + 9)) (t) (f) := by
  refine eF_q (by decide +kernel) (Nat.le_of_ble_eq_true rfl) ?_
  intro p e R s m args below meth c Q ls H locs X Y hl ret
  have X : uX p 1 R s m args c cX3_clausesOf 2 RX3 := X
  have hl : lv_has ls 2 [(0, .ref (g.1 + 3)), (1, .int (iV (w)))] := hl
  refine r_iload_n X dX3_clausesOf_0 hl 1 rfl ?_
  refine r_if_ne X (tgt := 12) dX3_clausesOf_1 (by decide) ⟨by omega, by omega⟩ (fun c1 => ?_) (fun c1 => ?_)
  · refine r_iload_n X dX3_clausesOf_12 hl 1 rfl ?_
    refine r_iconst X dX3_clausesOf_13 ?_
    refine r_icmp_ne X (tgt := 27) dX3_clausesOf_14 (by decide) ⟨by omega, by omega⟩ ⟨by omega, by omega⟩ (fun c14 => ?_) (fun c14 => ?_)
    · refine r_aload_n X dX3_clausesOf_27 hl 0 rfl ?_
      refine g_3_1 (k := 3) X Y rfl wm_136 dX3_clausesOf_28 ?_
      refine g_6_2 (k := 4) X Y rfl wm_127 dX3_clausesOf_31 ?_
      exact ret _ _ _ _ _ _ _ dX3_clausesOf_34 Y ⟨rfl, rfl, rfl⟩
    · exact absurd c14 (by omega)
  · exact absurd c1 (by omega)
set_option maxHeartbeats 4000000 in
set_option maxRecDepth 100000 in
theorem ct_X3_isWithin (l : Launch) (g : uG) (t : uN) (f : uF) (b v : Int) (hb : 0 ≤ b ∧ b ≤ 11) (hv : inI v) : cF_i l yX3_isWithin cX3_isWithin 2 (some .boolean) 1 g [.int (iV (b)), .int (iV (v))] t f (if leastT b.toNat ≤ v ∧ v ≤ greatT b.toNat then 1 else 0) (t) (f) := by
  refine eF_z (by decide +kernel) (Nat.le_of_ble_eq_true rfl) ?_
  intro p e R s m args below meth c Q ls H locs X Y hl ret
  have X : uX p 1 R s m args c cX3_isWithin 2 RX3 := X
  have hl : lv_has ls 2 [(0, .int (iV (b))), (1, .int (iV (v)))] := hl
  obtain ⟨⟨tl, hzl, htl⟩, tg, hzg, htg⟩ := Y.2.2.2.2.2.1
  have hl1 := leastT_rng b.toNat
  have hg1 := greatT_rng b.toNat
  refine r_iload_n X dX3_isWithin_0 hl 0 rfl ?_
  refine r_if_lt X (tgt := 20) dX3_isWithin_1 (by decide) ⟨by omega, by omega⟩ (fun c1 => ?_) (fun c1 => ?_)
  · refine r_iconst X dX3_isWithin_20 ?_
    exact ret _ _ _ _ _ _ _ dX3_isWithin_21 Y (by first | exact Or.inl rfl | exact Or.inr rfl | omega) ⟨by first | (exfalso; omega) | rw [if_pos (by omega)] | rw [if_neg (by omega)], rfl, rfl⟩
  · refine r_iload_n X dX3_isWithin_4 hl 0 rfl ?_
    refine u_gets X Y hzl wm_384 dX3_isWithin_5 ?_
    refine u_tlen X Y htl dX3_isWithin_8 ?_
    refine r_icmp_ge X (tgt := 20) dX3_isWithin_9 (by decide) ⟨by omega, by omega⟩ ⟨by omega, by omega⟩ (fun c9 => ?_) (fun c9 => ?_)
    · refine r_iconst X dX3_isWithin_20 ?_
      exact ret _ _ _ _ _ _ _ dX3_isWithin_21 Y (by first | exact Or.inl rfl | exact Or.inr rfl | omega) ⟨by first | (exfalso; omega) | rw [if_pos (by omega)] | rw [if_neg (by omega)], rfl, rfl⟩
    · refine r_iload_n X dX3_isWithin_12 hl 0 rfl ?_
      refine u_gets X Y hzg wm_386 dX3_isWithin_13 ?_
      refine u_tlen X Y htg dX3_isWithin_16 ?_
      refine r_icmp_lt X (tgt := 22) dX3_isWithin_17 (by decide) ⟨by omega, by omega⟩ ⟨by omega, by omega⟩ (fun c17 => ?_) (fun c17 => ?_)
      · refine r_iload_n X dX3_isWithin_22 hl 1 rfl ?_
        refine u_gets X Y hzl wm_384 dX3_isWithin_23 ?_
        refine r_iload_n X dX3_isWithin_26 hl 0 rfl ?_
        refine u_ti X Y htl (by omega) (by omega) dX3_isWithin_27 ?_
        refine r_icmp_lt X (tgt := 44) dX3_isWithin_28 (by decide) ⟨by omega, by omega⟩ ⟨by omega, by omega⟩ (fun c28 => ?_) (fun c28 => ?_)
        · refine r_iconst X dX3_isWithin_44 ?_
          exact ret _ _ _ _ _ _ _ dX3_isWithin_45 Y (by first | exact Or.inl rfl | exact Or.inr rfl | omega) ⟨by first | (exfalso; omega) | rw [if_pos (by omega)] | rw [if_neg (by omega)], rfl, rfl⟩
        · refine r_iload_n X dX3_isWithin_31 hl 1 rfl ?_
          refine u_gets X Y hzg wm_386 dX3_isWithin_32 ?_
          refine r_iload_n X dX3_isWithin_35 hl 0 rfl ?_
          refine u_ti X Y htg (by omega) (by omega) dX3_isWithin_36 ?_
          refine r_icmp_gt X (tgt := 44) dX3_isWithin_37 (by decide) ⟨by omega, by omega⟩ ⟨by omega, by omega⟩ (fun c37 => ?_) (fun c37 => ?_)
          · refine r_iconst X dX3_isWithin_44 ?_
            exact ret _ _ _ _ _ _ _ dX3_isWithin_45 Y (by first | exact Or.inl rfl | exact Or.inr rfl | omega) ⟨by first | (exfalso; omega) | rw [if_pos (by omega)] | rw [if_neg (by omega)], rfl, rfl⟩
          · refine r_iconst X dX3_isWithin_40 ?_
            refine r_goto X 45 dX3_isWithin_41 (by decide) ?_
            exact ret _ _ _ _ _ _ _ dX3_isWithin_45 Y (by first | exact Or.inl rfl | exact Or.inr rfl | omega) ⟨by first | (exfalso; omega) | rw [if_pos (by omega)] | rw [if_neg (by omega)], rfl, rfl⟩
      · refine r_iconst X dX3_isWithin_20 ?_
        exact ret _ _ _ _ _ _ _ dX3_isWithin_21 Y (by first | exact Or.inl rfl | exact Or.inr rfl | omega) ⟨by first | (exfalso; omega) | rw [if_pos (by omega)] | rw [if_neg (by omega)], rfl, rfl⟩
set_option maxHeartbeats 4000000 in
set_option maxRecDepth 100000 in
theorem ct_X3_readEnd (l : Launch) (g : uG) (t : uN) (f : uF) (x : Int → Int) (n : Int) (h : TX t f x n)  : cF_v l yX3_readEnd cX3_readEnd 1 4 g [.ref (g.1 + 3)] t f (if x (t 3 2) = 59 then up2 t 3 2 (t 3 2 + 1) else up2 (up2 t 3 3 1) 3 4 (t 3 2)) (f) := by
  refine eF_v (by decide +kernel) (Nat.le_of_ble_eq_true rfl) ?_
  intro p e R s m args below meth c Q ls H locs X Y hl ret
  have X : uX p 4 R s m args c cX3_readEnd 1 RX3 := X
  have hl : lv_has ls 1 [(0, .ref (g.1 + 3))] := hl
  have hx := h.1
  have hn := h.1.1
  have h1 := h.2.1
  have hp := h.2.2.2
  refine r_aload_n X dX3_readEnd_0 hl 0 rfl ?_
  refine vF_i X Y [] [] (ct_X3_letter l g t f x n h) mk_X3_letter mi_X3_letter wm_344 (by decide) (rv_3 Y rfl) rfl hl (Nat.le_of_ble_eq_true rfl) rfl dX3_readEnd_1 (Nat.zero_le _) (Nat.zero_le _) (fun H locs Y => ?_)
  have ql1 := h.1.2.1 (t 3 2)
  refine r_bipush X 59 dX3_readEnd_4 (by decide) ?_
  refine r_icmp_ne X (tgt := 22) dX3_readEnd_6 (by decide) ⟨by omega, by omega⟩ ⟨by omega, by omega⟩ (fun c6 => ?_) (fun c6 => ?_)
  · refine r_aload_n X dX3_readEnd_22 hl 0 rfl ?_
    refine r_iconst X dX3_readEnd_23 ?_
    refine r_aload_n X dX3_readEnd_24 hl 0 rfl ?_
    refine g_3_2 (k := 3) X Y rfl wm_137 dX3_readEnd_25 ?_
    refine vF_v X Y [.int (iV (1)), .int (iV (t 3 2))] [] (ct_X3_refuse l g t f 1 (t 3 2)) mk_X3_refuse mi_X3_refuse wm_360 (by decide) (rv_3 Y rfl) rfl hl (Nat.le_of_ble_eq_true rfl) rfl dX3_readEnd_28 (Nat.zero_le _) (Nat.zero_le _) (fun H locs Y => ?_)
    obtain ⟨tq1, htq1⟩ : ∃ q, q = up2 (up2 t 3 3 1) 3 4 (t 3 2) := ⟨_, rfl⟩
    have Y : uY g 117 (cX g tq1 f) s H locs := by rw [htq1]; exact Y
    exact ret _ _ _ _ _ _ dX3_readEnd_31 Y ⟨by first | (rw [if_pos (by omega)]; exact htq1) | (rw [if_neg (by omega)]; exact htq1), rfl⟩
  · refine r_aload_n X dX3_readEnd_9 hl 0 rfl ?_
    refine r_dup X dX3_readEnd_10 rfl ?_
    refine g_3_2 (k := 3) X Y rfl wm_137 dX3_readEnd_11 ?_
    refine r_iconst X dX3_readEnd_14 ?_
    refine r_iadd X dX3_readEnd_15 ?_
    refine p_3_2 (k := 3) X Y rfl wm_137 dX3_readEnd_16 (fun H locs Y => ?_)
    obtain ⟨tq1, htq1⟩ : ∃ q, q = up2 t 3 2 ((t 3 2) + 1) := ⟨_, rfl⟩
    have Y : uY g 117 (cX g tq1 f) s H locs := by rw [htq1]; exact Y
    refine r_goto X 31 dX3_readEnd_19 (by decide) ?_
    exact ret _ _ _ _ _ _ dX3_readEnd_31 Y ⟨by first | (rw [if_pos (by omega)]; exact htq1) | (rw [if_neg (by omega)]; exact htq1), rfl⟩
set_option maxHeartbeats 4000000 in
set_option maxRecDepth 100000 in
theorem ct_X3_readNumber (l : Launch) (g : uG) (t : uN) (f : uF) (b : Int) (x : Int → Int) (n : Int) (h : TX t f x n) (hb : 0 ≤ b ∧ b ≤ 11) : cF_i l yX3_readNumber cX3_readNumber 5 (some .int) 4 g [.ref (g.1 + 3), .int (iV (b))] t f (dV x (t 3 2)) (rnT t x b) (f) := by
  refine eF_i (by decide +kernel) (Nat.le_of_ble_eq_true rfl) ?_
  intro p e R s m args below meth c Q ls H locs X Y hl ret
  have X : uX p 4 R s m args c cX3_readNumber 5 RX3 := X
  have hl : lv_has ls 5 [(0, .ref (g.1 + 3)), (1, .int (iV (b)))] := hl
  have hx := h.1
  have hn := h.1.1
  have h1 := h.2.1
  have hp := h.2.2.2
  have hdr := dE_rng hx hp.1 hp.2
  refine r_aload_n X dX3_readNumber_0 hl 0 rfl ?_
  refine g_3_2 (k := 3) X Y rfl wm_137 dX3_readNumber_1 ?_
  refine r_istore_n X dX3_readNumber_4 hl [(2, .int (iV (t 3 2))), (0, .ref (g.1 + 3)), (1, .int (iV (b)))] (by decide) rfl (fun ls hl => ?_)
  refine r_iconst X dX3_readNumber_5 ?_
  refine r_istore_n X dX3_readNumber_6 hl [(3, .int (iV (0))), (2, .int (iV (t 3 2))), (0, .ref (g.1 + 3)), (1, .int (iV (b)))] (by decide) rfl (fun ls hl => ?_)
  refine r_iconst X dX3_readNumber_7 ?_
  refine r_istore X dX3_readNumber_8 hl [(4, .int (iV (0))), (3, .int (iV (0))), (2, .int (iV (t 3 2))), (0, .ref (g.1 + 3)), (1, .int (iV (b)))] (by decide) rfl (fun ls hl => ?_)
  have loop10 : ∀ (N : Nat) (i : Int) (v : Int) (tz : uN) (hi0 : 0 ≤ i) (hi1 : i ≤ 220) (h_tz : TX tz f x n) (hv0 : 0 ≤ v) (hv1 : v ≤ 9999) (he : dg x (220 - i).toNat (tz 3 2) v = dg x 220 (t 3 2) 0) (ht : tz = up2 t 3 2 (tz 3 2)) (hge : t 3 2 ≤ tz 3 2) (H : Heap) (locs : List Loc) (ls : Array Slot), (220 - i).toNat < N → uY g 117 (cX g tz f) s H locs → lv_has ls 5 [(2, .int (iV (t 3 2))), (3, .int (iV (v))), (4, .int (iV (i))), (0, .ref (g.1 + 3)), (1, .int (iV (b)))] → W p l e R s m args below meth c H locs 0 0 Q (F0 m 10 ls []) := by
    intro N
    induction N with
    | zero => intro i v tz hi0 hi1 h_tz hv0 hv1 he ht hge H locs ls hmu Y hl; exact absurd hmu (Nat.not_lt_zero _)
    | succ N ih =>
      intro i v tz hi0 hi1 h_tz hv0 hv1 he ht hge H locs ls hmu Y hl
      have hz2 := h_tz.2.2.2
      have hlx := hx.2.1 (tz 3 2)
      refine r_iload X dX3_readNumber_10 hl 2 rfl ?_
      refine r_sipush X 220 dX3_readNumber_12 (by decide) ?_
      refine r_icmp_ge X (tgt := 71) dX3_readNumber_15 (by decide) ⟨by omega, by omega⟩ ⟨by omega, by omega⟩ (fun c15 => ?_) (fun c15 => ?_)
      · have hd : dg x 220 (t 3 2) 0 = (tz 3 2, v) := by rw [← he]; first | (rw [show (220 - i).toNat = 0 by omega]; rfl) | (rw [show (220 - i).toNat = (220 - (i + 1)).toNat + 1 by omega, dg, if_neg (by omega)])
        have hdE : dE x (t 3 2) = tz 3 2 := by unfold dE; rw [hd]
        have hdV : dV x (t 3 2) = v := by unfold dV; rw [hd]
        refine r_aload_n X dX3_readNumber_71 hl 3 rfl ?_
        refine g_3_2 (k := 3) X Y rfl wm_137 dX3_readNumber_72 ?_
        refine r_iload_n X dX3_readNumber_75 hl 0 rfl ?_
        refine r_isub X dX3_readNumber_76 ?_
        refine r_istore X dX3_readNumber_77 hl [(4, .int (iV ((tz 3 2) - (t 3 2)))), (2, .int (iV (t 3 2))), (3, .int (iV (v))), (0, .ref (g.1 + 3)), (1, .int (iV (b)))] (by decide) rfl (fun ls hl => ?_)
        refine r_iload X dX3_readNumber_79 hl 0 rfl ?_
        refine r_if_ne X (tgt := 93) dX3_readNumber_81 (by decide) ⟨by omega, by omega⟩ (fun c81 => ?_) (fun c81 => ?_)
        · refine r_iload X dX3_readNumber_93 hl 0 rfl ?_
          refine r_iconst X dX3_readNumber_95 ?_
          refine r_icmp_gt X (tgt := 107) dX3_readNumber_96 (by decide) ⟨by omega, by omega⟩ ⟨by omega, by omega⟩ (fun c96 => ?_) (fun c96 => ?_)
          · refine r_aload_n X dX3_readNumber_107 hl 3 rfl ?_
            refine r_iconst X dX3_readNumber_108 ?_
            refine r_iload_n X dX3_readNumber_109 hl 1 rfl ?_
            refine vF_v X Y [.int (iV (2)), .int (iV (t 3 2))] [] (ct_X3_refuse l g tz f 2 (t 3 2)) mk_X3_refuse mi_X3_refuse wm_360 (by decide) (rv_3 Y rfl) rfl hl (Nat.le_of_ble_eq_true rfl) rfl dX3_readNumber_110 (Nat.zero_le _) (Nat.zero_le _) (fun H locs Y => ?_)
            obtain ⟨tq1, htq1⟩ : ∃ q, q = up2 (up2 tz 3 3 2) 3 4 (t 3 2) := ⟨_, rfl⟩
            have Y : uY g 117 (cX g tq1 f) s H locs := by rw [htq1]; exact Y
            refine r_iload_n X dX3_readNumber_113 hl 2 rfl ?_
            exact ret _ _ _ _ _ _ _ dX3_readNumber_114 Y ⟨hdV.symm, by unfold rnT; rw [hdE, hdV, if_neg (by omega), if_neg (by omega)]; rw [htq1, ← ht], rfl⟩
          · refine r_iload_n X dX3_readNumber_99 hl 4 rfl ?_
            refine r_iload_n X dX3_readNumber_100 hl 2 rfl ?_
            refine sF_i X Y [.int (iV (b)), .int (iV (v))] [] (ct_X3_isWithin l g tz f b v ⟨by omega, by omega⟩ ⟨by omega, by omega⟩) mk_X3_isWithin mi_X3_isWithin wm_381 (by decide) rfl hl (Nat.le_of_ble_eq_true rfl) rfl dX3_readNumber_101 (Nat.zero_le _) (Nat.zero_le _) (fun H locs Y => ?_)
            refine r_if_ne X (tgt := 113) dX3_readNumber_104 (by decide) ⟨by split <;> omega, by split <;> omega⟩ (fun c104 => ?_) (fun c104 => ?_)
            · have hw1 : leastT b.toNat ≤ v ∧ v ≤ greatT b.toNat := Classical.byContradiction (fun q => c104 (if_neg q))
              refine r_iload_n X dX3_readNumber_113 hl 2 rfl ?_
              exact ret _ _ _ _ _ _ _ dX3_readNumber_114 Y ⟨hdV.symm, by unfold rnT; rw [hdE, hdV, if_neg (by omega), if_pos (by omega)]; exact ht, rfl⟩
            · have hw1 : ¬ (leastT b.toNat ≤ v ∧ v ≤ greatT b.toNat) := fun q => by rw [if_pos q] at c104; omega
              refine r_aload_n X dX3_readNumber_107 hl 3 rfl ?_
              refine r_iconst X dX3_readNumber_108 ?_
              refine r_iload_n X dX3_readNumber_109 hl 1 rfl ?_
              refine vF_v X Y [.int (iV (2)), .int (iV (t 3 2))] [] (ct_X3_refuse l g tz f 2 (t 3 2)) mk_X3_refuse mi_X3_refuse wm_360 (by decide) (rv_3 Y rfl) rfl hl (Nat.le_of_ble_eq_true rfl) rfl dX3_readNumber_110 (Nat.zero_le _) (Nat.zero_le _) (fun H locs Y => ?_)
              obtain ⟨tq1, htq1⟩ : ∃ q, q = up2 (up2 tz 3 3 2) 3 4 (t 3 2) := ⟨_, rfl⟩
              have Y : uY g 117 (cX g tq1 f) s H locs := by rw [htq1]; exact Y
              refine r_iload_n X dX3_readNumber_113 hl 2 rfl ?_
              exact ret _ _ _ _ _ _ _ dX3_readNumber_114 Y ⟨hdV.symm, by unfold rnT; rw [hdE, hdV, if_neg (by omega), if_neg (by omega)]; rw [htq1, ← ht], rfl⟩
        · refine r_aload_n X dX3_readNumber_84 hl 3 rfl ?_
          refine r_iconst X dX3_readNumber_85 ?_
          refine r_iload_n X dX3_readNumber_86 hl 1 rfl ?_
          refine vF_v X Y [.int (iV (1)), .int (iV (t 3 2))] [] (ct_X3_refuse l g tz f 1 (t 3 2)) mk_X3_refuse mi_X3_refuse wm_360 (by decide) (rv_3 Y rfl) rfl hl (Nat.le_of_ble_eq_true rfl) rfl dX3_readNumber_87 (Nat.zero_le _) (Nat.zero_le _) (fun H locs Y => ?_)
          obtain ⟨tq1, htq1⟩ : ∃ q, q = up2 (up2 tz 3 3 1) 3 4 (t 3 2) := ⟨_, rfl⟩
          have Y : uY g 117 (cX g tq1 f) s H locs := by rw [htq1]; exact Y
          refine r_goto X 113 dX3_readNumber_90 (by decide) ?_
          refine r_iload_n X dX3_readNumber_113 hl 2 rfl ?_
          exact ret _ _ _ _ _ _ _ dX3_readNumber_114 Y ⟨hdV.symm, by unfold rnT; rw [hdE, hdV, if_pos (by omega)]; rw [htq1, ← ht], rfl⟩
      · refine r_aload_n X dX3_readNumber_18 hl 3 rfl ?_
        refine vF_i X Y [] [] (ct_X3_letter l g tz f x n h_tz) mk_X3_letter mi_X3_letter wm_344 (by decide) (rv_3 Y rfl) rfl hl (Nat.le_of_ble_eq_true rfl) rfl dX3_readNumber_19 (Nat.zero_le _) (Nat.zero_le _) (fun H locs Y => ?_)
        have ql19 := h_tz.1.2.1 (tz 3 2)
        refine r_bipush X 48 dX3_readNumber_22 (by decide) ?_
        refine r_icmp_lt X (tgt := 71) dX3_readNumber_24 (by decide) ⟨by omega, by omega⟩ ⟨by omega, by omega⟩ (fun c24 => ?_) (fun c24 => ?_)
        · have hd : dg x 220 (t 3 2) 0 = (tz 3 2, v) := by rw [← he]; first | (rw [show (220 - i).toNat = 0 by omega]; rfl) | (rw [show (220 - i).toNat = (220 - (i + 1)).toNat + 1 by omega, dg, if_neg (by omega)])
          have hdE : dE x (t 3 2) = tz 3 2 := by unfold dE; rw [hd]
          have hdV : dV x (t 3 2) = v := by unfold dV; rw [hd]
          refine r_aload_n X dX3_readNumber_71 hl 3 rfl ?_
          refine g_3_2 (k := 3) X Y rfl wm_137 dX3_readNumber_72 ?_
          refine r_iload_n X dX3_readNumber_75 hl 0 rfl ?_
          refine r_isub X dX3_readNumber_76 ?_
          refine r_istore X dX3_readNumber_77 hl [(4, .int (iV ((tz 3 2) - (t 3 2)))), (2, .int (iV (t 3 2))), (3, .int (iV (v))), (0, .ref (g.1 + 3)), (1, .int (iV (b)))] (by decide) rfl (fun ls hl => ?_)
          refine r_iload X dX3_readNumber_79 hl 0 rfl ?_
          refine r_if_ne X (tgt := 93) dX3_readNumber_81 (by decide) ⟨by omega, by omega⟩ (fun c81 => ?_) (fun c81 => ?_)
          · refine r_iload X dX3_readNumber_93 hl 0 rfl ?_
            refine r_iconst X dX3_readNumber_95 ?_
            refine r_icmp_gt X (tgt := 107) dX3_readNumber_96 (by decide) ⟨by omega, by omega⟩ ⟨by omega, by omega⟩ (fun c96 => ?_) (fun c96 => ?_)
            · refine r_aload_n X dX3_readNumber_107 hl 3 rfl ?_
              refine r_iconst X dX3_readNumber_108 ?_
              refine r_iload_n X dX3_readNumber_109 hl 1 rfl ?_
              refine vF_v X Y [.int (iV (2)), .int (iV (t 3 2))] [] (ct_X3_refuse l g tz f 2 (t 3 2)) mk_X3_refuse mi_X3_refuse wm_360 (by decide) (rv_3 Y rfl) rfl hl (Nat.le_of_ble_eq_true rfl) rfl dX3_readNumber_110 (Nat.zero_le _) (Nat.zero_le _) (fun H locs Y => ?_)
              obtain ⟨tq1, htq1⟩ : ∃ q, q = up2 (up2 tz 3 3 2) 3 4 (t 3 2) := ⟨_, rfl⟩
              have Y : uY g 117 (cX g tq1 f) s H locs := by rw [htq1]; exact Y
              refine r_iload_n X dX3_readNumber_113 hl 2 rfl ?_
              exact ret _ _ _ _ _ _ _ dX3_readNumber_114 Y ⟨hdV.symm, by unfold rnT; rw [hdE, hdV, if_neg (by omega), if_neg (by omega)]; rw [htq1, ← ht], rfl⟩
            · refine r_iload_n X dX3_readNumber_99 hl 4 rfl ?_
              refine r_iload_n X dX3_readNumber_100 hl 2 rfl ?_
              refine sF_i X Y [.int (iV (b)), .int (iV (v))] [] (ct_X3_isWithin l g tz f b v ⟨by omega, by omega⟩ ⟨by omega, by omega⟩) mk_X3_isWithin mi_X3_isWithin wm_381 (by decide) rfl hl (Nat.le_of_ble_eq_true rfl) rfl dX3_readNumber_101 (Nat.zero_le _) (Nat.zero_le _) (fun H locs Y => ?_)
              refine r_if_ne X (tgt := 113) dX3_readNumber_104 (by decide) ⟨by split <;> omega, by split <;> omega⟩ (fun c104 => ?_) (fun c104 => ?_)
              · have hw1 : leastT b.toNat ≤ v ∧ v ≤ greatT b.toNat := Classical.byContradiction (fun q => c104 (if_neg q))
                refine r_iload_n X dX3_readNumber_113 hl 2 rfl ?_
                exact ret _ _ _ _ _ _ _ dX3_readNumber_114 Y ⟨hdV.symm, by unfold rnT; rw [hdE, hdV, if_neg (by omega), if_pos (by omega)]; exact ht, rfl⟩
              · have hw1 : ¬ (leastT b.toNat ≤ v ∧ v ≤ greatT b.toNat) := fun q => by rw [if_pos q] at c104; omega
                refine r_aload_n X dX3_readNumber_107 hl 3 rfl ?_
                refine r_iconst X dX3_readNumber_108 ?_
                refine r_iload_n X dX3_readNumber_109 hl 1 rfl ?_
                refine vF_v X Y [.int (iV (2)), .int (iV (t 3 2))] [] (ct_X3_refuse l g tz f 2 (t 3 2)) mk_X3_refuse mi_X3_refuse wm_360 (by decide) (rv_3 Y rfl) rfl hl (Nat.le_of_ble_eq_true rfl) rfl dX3_readNumber_110 (Nat.zero_le _) (Nat.zero_le _) (fun H locs Y => ?_)
                obtain ⟨tq1, htq1⟩ : ∃ q, q = up2 (up2 tz 3 3 2) 3 4 (t 3 2) := ⟨_, rfl⟩
                have Y : uY g 117 (cX g tq1 f) s H locs := by rw [htq1]; exact Y
                refine r_iload_n X dX3_readNumber_113 hl 2 rfl ?_
                exact ret _ _ _ _ _ _ _ dX3_readNumber_114 Y ⟨hdV.symm, by unfold rnT; rw [hdE, hdV, if_neg (by omega), if_neg (by omega)]; rw [htq1, ← ht], rfl⟩
          · refine r_aload_n X dX3_readNumber_84 hl 3 rfl ?_
            refine r_iconst X dX3_readNumber_85 ?_
            refine r_iload_n X dX3_readNumber_86 hl 1 rfl ?_
            refine vF_v X Y [.int (iV (1)), .int (iV (t 3 2))] [] (ct_X3_refuse l g tz f 1 (t 3 2)) mk_X3_refuse mi_X3_refuse wm_360 (by decide) (rv_3 Y rfl) rfl hl (Nat.le_of_ble_eq_true rfl) rfl dX3_readNumber_87 (Nat.zero_le _) (Nat.zero_le _) (fun H locs Y => ?_)
            obtain ⟨tq1, htq1⟩ : ∃ q, q = up2 (up2 tz 3 3 1) 3 4 (t 3 2) := ⟨_, rfl⟩
            have Y : uY g 117 (cX g tq1 f) s H locs := by rw [htq1]; exact Y
            refine r_goto X 113 dX3_readNumber_90 (by decide) ?_
            refine r_iload_n X dX3_readNumber_113 hl 2 rfl ?_
            exact ret _ _ _ _ _ _ _ dX3_readNumber_114 Y ⟨hdV.symm, by unfold rnT; rw [hdE, hdV, if_pos (by omega)]; rw [htq1, ← ht], rfl⟩
        · refine r_aload_n X dX3_readNumber_27 hl 3 rfl ?_
          refine vF_i X Y [] [] (ct_X3_letter l g tz f x n h_tz) mk_X3_letter mi_X3_letter wm_344 (by decide) (rv_3 Y rfl) rfl hl (Nat.le_of_ble_eq_true rfl) rfl dX3_readNumber_28 (Nat.zero_le _) (Nat.zero_le _) (fun H locs Y => ?_)
          have ql28 := h_tz.1.2.1 (tz 3 2)
          refine r_bipush X 57 dX3_readNumber_31 (by decide) ?_
          refine r_icmp_gt X (tgt := 71) dX3_readNumber_33 (by decide) ⟨by omega, by omega⟩ ⟨by omega, by omega⟩ (fun c33 => ?_) (fun c33 => ?_)
          · have hd : dg x 220 (t 3 2) 0 = (tz 3 2, v) := by rw [← he]; first | (rw [show (220 - i).toNat = 0 by omega]; rfl) | (rw [show (220 - i).toNat = (220 - (i + 1)).toNat + 1 by omega, dg, if_neg (by omega)])
            have hdE : dE x (t 3 2) = tz 3 2 := by unfold dE; rw [hd]
            have hdV : dV x (t 3 2) = v := by unfold dV; rw [hd]
            refine r_aload_n X dX3_readNumber_71 hl 3 rfl ?_
            refine g_3_2 (k := 3) X Y rfl wm_137 dX3_readNumber_72 ?_
            refine r_iload_n X dX3_readNumber_75 hl 0 rfl ?_
            refine r_isub X dX3_readNumber_76 ?_
            refine r_istore X dX3_readNumber_77 hl [(4, .int (iV ((tz 3 2) - (t 3 2)))), (2, .int (iV (t 3 2))), (3, .int (iV (v))), (0, .ref (g.1 + 3)), (1, .int (iV (b)))] (by decide) rfl (fun ls hl => ?_)
            refine r_iload X dX3_readNumber_79 hl 0 rfl ?_
            refine r_if_ne X (tgt := 93) dX3_readNumber_81 (by decide) ⟨by omega, by omega⟩ (fun c81 => ?_) (fun c81 => ?_)
            · refine r_iload X dX3_readNumber_93 hl 0 rfl ?_
              refine r_iconst X dX3_readNumber_95 ?_
              refine r_icmp_gt X (tgt := 107) dX3_readNumber_96 (by decide) ⟨by omega, by omega⟩ ⟨by omega, by omega⟩ (fun c96 => ?_) (fun c96 => ?_)
              · refine r_aload_n X dX3_readNumber_107 hl 3 rfl ?_
                refine r_iconst X dX3_readNumber_108 ?_
                refine r_iload_n X dX3_readNumber_109 hl 1 rfl ?_
                refine vF_v X Y [.int (iV (2)), .int (iV (t 3 2))] [] (ct_X3_refuse l g tz f 2 (t 3 2)) mk_X3_refuse mi_X3_refuse wm_360 (by decide) (rv_3 Y rfl) rfl hl (Nat.le_of_ble_eq_true rfl) rfl dX3_readNumber_110 (Nat.zero_le _) (Nat.zero_le _) (fun H locs Y => ?_)
                obtain ⟨tq1, htq1⟩ : ∃ q, q = up2 (up2 tz 3 3 2) 3 4 (t 3 2) := ⟨_, rfl⟩
                have Y : uY g 117 (cX g tq1 f) s H locs := by rw [htq1]; exact Y
                refine r_iload_n X dX3_readNumber_113 hl 2 rfl ?_
                exact ret _ _ _ _ _ _ _ dX3_readNumber_114 Y ⟨hdV.symm, by unfold rnT; rw [hdE, hdV, if_neg (by omega), if_neg (by omega)]; rw [htq1, ← ht], rfl⟩
              · refine r_iload_n X dX3_readNumber_99 hl 4 rfl ?_
                refine r_iload_n X dX3_readNumber_100 hl 2 rfl ?_
                refine sF_i X Y [.int (iV (b)), .int (iV (v))] [] (ct_X3_isWithin l g tz f b v ⟨by omega, by omega⟩ ⟨by omega, by omega⟩) mk_X3_isWithin mi_X3_isWithin wm_381 (by decide) rfl hl (Nat.le_of_ble_eq_true rfl) rfl dX3_readNumber_101 (Nat.zero_le _) (Nat.zero_le _) (fun H locs Y => ?_)
                refine r_if_ne X (tgt := 113) dX3_readNumber_104 (by decide) ⟨by split <;> omega, by split <;> omega⟩ (fun c104 => ?_) (fun c104 => ?_)
                · have hw1 : leastT b.toNat ≤ v ∧ v ≤ greatT b.toNat := Classical.byContradiction (fun q => c104 (if_neg q))
                  refine r_iload_n X dX3_readNumber_113 hl 2 rfl ?_
                  exact ret _ _ _ _ _ _ _ dX3_readNumber_114 Y ⟨hdV.symm, by unfold rnT; rw [hdE, hdV, if_neg (by omega), if_pos (by omega)]; exact ht, rfl⟩
                · have hw1 : ¬ (leastT b.toNat ≤ v ∧ v ≤ greatT b.toNat) := fun q => by rw [if_pos q] at c104; omega
                  refine r_aload_n X dX3_readNumber_107 hl 3 rfl ?_
                  refine r_iconst X dX3_readNumber_108 ?_
                  refine r_iload_n X dX3_readNumber_109 hl 1 rfl ?_
                  refine vF_v X Y [.int (iV (2)), .int (iV (t 3 2))] [] (ct_X3_refuse l g tz f 2 (t 3 2)) mk_X3_refuse mi_X3_refuse wm_360 (by decide) (rv_3 Y rfl) rfl hl (Nat.le_of_ble_eq_true rfl) rfl dX3_readNumber_110 (Nat.zero_le _) (Nat.zero_le _) (fun H locs Y => ?_)
                  obtain ⟨tq1, htq1⟩ : ∃ q, q = up2 (up2 tz 3 3 2) 3 4 (t 3 2) := ⟨_, rfl⟩
                  have Y : uY g 117 (cX g tq1 f) s H locs := by rw [htq1]; exact Y
                  refine r_iload_n X dX3_readNumber_113 hl 2 rfl ?_
                  exact ret _ _ _ _ _ _ _ dX3_readNumber_114 Y ⟨hdV.symm, by unfold rnT; rw [hdE, hdV, if_neg (by omega), if_neg (by omega)]; rw [htq1, ← ht], rfl⟩
            · refine r_aload_n X dX3_readNumber_84 hl 3 rfl ?_
              refine r_iconst X dX3_readNumber_85 ?_
              refine r_iload_n X dX3_readNumber_86 hl 1 rfl ?_
              refine vF_v X Y [.int (iV (1)), .int (iV (t 3 2))] [] (ct_X3_refuse l g tz f 1 (t 3 2)) mk_X3_refuse mi_X3_refuse wm_360 (by decide) (rv_3 Y rfl) rfl hl (Nat.le_of_ble_eq_true rfl) rfl dX3_readNumber_87 (Nat.zero_le _) (Nat.zero_le _) (fun H locs Y => ?_)
              obtain ⟨tq1, htq1⟩ : ∃ q, q = up2 (up2 tz 3 3 1) 3 4 (t 3 2) := ⟨_, rfl⟩
              have Y : uY g 117 (cX g tq1 f) s H locs := by rw [htq1]; exact Y
              refine r_goto X 113 dX3_readNumber_90 (by decide) ?_
              refine r_iload_n X dX3_readNumber_113 hl 2 rfl ?_
              exact ret _ _ _ _ _ _ _ dX3_readNumber_114 Y ⟨hdV.symm, by unfold rnT; rw [hdE, hdV, if_pos (by omega)]; rw [htq1, ← ht], rfl⟩
          · have hlt := txt_lt hx hz2.1 (p := tz 3 2) (by omega)
            refine r_iload_n X dX3_readNumber_36 hl 1 rfl ?_
            refine r_sipush X 999 dX3_readNumber_37 (by decide) ?_
            refine r_min X hl (by decide) (Nat.zero_le _) (Nat.zero_le _) wm_378 (Nat.le_of_ble_eq_true rfl) dX3_readNumber_40 ⟨by omega, by omega⟩ ⟨by omega, by omega⟩ ?_
            refine r_bipush X 10 dX3_readNumber_43 (by decide) ?_
            refine r_imul X dX3_readNumber_45 ?_
            refine r_aload_n X dX3_readNumber_46 hl 3 rfl ?_
            refine vF_i X Y [] [.int (iV ((min v 999) * 10))] (ct_X3_letter l g tz f x n h_tz) mk_X3_letter mi_X3_letter wm_344 (by decide) (rv_3 Y rfl) rfl hl (Nat.le_of_ble_eq_true rfl) rfl dX3_readNumber_47 (Nat.zero_le _) (Nat.zero_le _) (fun H locs Y => ?_)
            have ql47 := h_tz.1.2.1 (tz 3 2)
            refine r_iadd X dX3_readNumber_50 ?_
            refine r_bipush X 48 dX3_readNumber_51 (by decide) ?_
            refine r_isub X dX3_readNumber_53 ?_
            refine r_istore_n X dX3_readNumber_54 hl [(3, .int (iV ((((min v 999) * 10) + (x (tz 3 2))) - 48))), (2, .int (iV (t 3 2))), (4, .int (iV (i))), (0, .ref (g.1 + 3)), (1, .int (iV (b)))] (by decide) rfl (fun ls hl => ?_)
            refine r_aload_n X dX3_readNumber_55 hl 3 rfl ?_
            refine r_dup X dX3_readNumber_56 rfl ?_
            refine g_3_2 (k := 3) X Y rfl wm_137 dX3_readNumber_57 ?_
            refine r_iconst X dX3_readNumber_60 ?_
            refine r_iadd X dX3_readNumber_61 ?_
            refine p_3_2 (k := 3) X Y rfl wm_137 dX3_readNumber_62 (fun H locs Y => ?_)
            obtain ⟨tq1, htq1⟩ : ∃ q, q = up2 tz 3 2 ((tz 3 2) + 1) := ⟨_, rfl⟩
            have Y : uY g 117 (cX g tq1 f) s H locs := by rw [htq1]; exact Y
            refine r_iinc X dX3_readNumber_65 hl 2 rfl [(4, .int (iV (i + 1))), (3, .int (iV ((((min v 999) * 10) + (x (tz 3 2))) - 48))), (2, .int (iV (t 3 2))), (0, .ref (g.1 + 3)), (1, .int (iV (b)))] (by decide) rfl (fun ls hl => ?_)
            refine r_goto X 10 dX3_readNumber_68 (by decide) ?_
            exact ih (i + 1) ((((min v 999) * 10) + (x (tz 3 2))) - 48) tq1 (by omega) (by omega) (h_tz.of (by rw [htq1, up2_ne _ _ (by omega)]) (by rw [htq1, up2_s]; omega) (fun _ => rfl)) (by omega) (by omega) (by rw [← he, show (220 - i).toNat = (220 - (i + 1)).toNat + 1 by omega, dg, if_pos (by omega), htq1, up2_s]) (by rw [htq1, up2_s]; exact up2_of ht _) (by rw [htq1, up2_s]; omega) _ _ _ (by omega) Y (lv_sub hl [2, 1, 0, 3, 4] rfl)
  exact loop10 (((220 - (0 : Int)).toNat) + 1) 0 0 t (by omega) (by omega) h (by omega) (by omega) rfl (up2_id t 3 2).symm (by omega) _ _ _ (Nat.lt_succ_self _) Y (lv_sub hl [2, 1, 0, 3, 4] rfl)
set_option maxHeartbeats 4000000 in
set_option maxRecDepth 100000 in
theorem ct_X3_readClause (l : Launch) (g : uG) (t : uN) (f : uF) (x : Int → Int) (n : Int) (h : TX t f x n) (ho : tOK t 5 ∧ tOK t 7 ∧ tOK t 9) (h33 : t 3 3 = 0) : cR_v l yX3_readClause cX3_readClause 5 5 g [.ref (g.1 + 3)] t f (CLQ x n t f) := by
  refine eR_v (by decide +kernel) (Nat.le_of_ble_eq_true rfl) ?_
  intro p e R s m args below meth c Q ls H locs X Y hl ret
  have X : uX p 5 R s m args c cX3_readClause 5 RX3 := X
  have hl : lv_has ls 5 [(0, .ref (g.1 + 3))] := hl
  have hx := h.1
  have hn := h.1.1
  have h1 := h.2.1
  have hp := h.2.2.2
  have hlx := hx.2.1 (t 3 2)
  have h5 : 0 ≤ t 5 3 ∧ t 5 3 ≤ 1 := ho.1
  have h7 : 0 ≤ t 7 3 ∧ t 7 3 ≤ 7 := ho.2.1
  have h9 : 0 ≤ t 9 3 ∧ t 9 3 ≤ 5 := ho.2.2
  refine r_aload_n X dX3_readClause_0 hl 0 rfl ?_
  refine vF_i X Y [] [] (ct_X3_letter l g t f x n h) mk_X3_letter mi_X3_letter wm_344 (by decide) (rv_3 Y rfl) rfl hl (Nat.le_of_ble_eq_true rfl) rfl dX3_readClause_1 (Nat.zero_le _) (Nat.zero_le _) (fun H locs Y => ?_)
  have ql1 := h.1.2.1 (t 3 2)
  refine sF_i X Y [.int (iV (x (t 3 2)))] [] (ct_X3_wordOf l g t f (x (t 3 2)) (by omega)) mk_X3_wordOf mi_X3_wordOf wm_357 (by decide) rfl hl (Nat.le_of_ble_eq_true rfl) rfl dX3_readClause_4 (Nat.zero_le _) (Nat.zero_le _) (fun H locs Y => ?_)
  obtain ⟨w, hw⟩ : ∃ w, wordZ (x (t 3 2)) = w := ⟨_, rfl⟩
  refine r_eq (z' := w) hw ?_
  have hwr : w = -1 ∨ w = 0 ∨ w = 1 ∨ w = 2 := by rw [← hw]; exact wordZ_rng _
  refine r_istore_n X dX3_readClause_7 hl [(1, .int (iV (w))), (0, .ref (g.1 + 3))] (by decide) rfl (fun ls hl => ?_)
  refine r_iload_n X dX3_readClause_8 hl 0 rfl ?_
  refine r_iconst X dX3_readClause_9 ?_
  refine r_icmp_eq X (tgt := 30) dX3_readClause_10 (by decide) ⟨by omega, by omega⟩ ⟨by omega, by omega⟩ (fun c10 => ?_) (fun c10 => ?_)
  · refine r_aload_n X dX3_readClause_30 hl 1 rfl ?_
    refine r_iconst X dX3_readClause_31 ?_
    refine r_aload_n X dX3_readClause_32 hl 1 rfl ?_
    refine g_3_2 (k := 3) X Y rfl wm_137 dX3_readClause_33 ?_
    refine vF_v X Y [.int (iV (1)), .int (iV (t 3 2))] [] (ct_X3_refuse l g t f 1 (t 3 2)) mk_X3_refuse mi_X3_refuse wm_360 (by decide) (rv_3 Y rfl) rfl hl (Nat.le_of_ble_eq_true rfl) rfl dX3_readClause_36 (Nat.zero_le _) (Nat.zero_le _) (fun H locs Y => ?_)
    obtain ⟨tq1, htq1⟩ : ∃ q, q = up2 (up2 t 3 3 1) 3 4 (t 3 2) := ⟨_, rfl⟩
    have Y : uY g 117 (cX g tq1 f) s H locs := by rw [htq1]; exact Y
    exact ret _ _ _ _ _ _ dX3_readClause_39 Y (CLQ_bad hp ho (by rw [hw]; unfold badW; omega) htq1)
  · refine r_iload_n X dX3_readClause_13 hl 0 rfl ?_
    refine r_if_eq X (tgt := 40) dX3_readClause_14 (by decide) ⟨by omega, by omega⟩ (fun c14 => ?_) (fun c14 => ?_)
    · have hbd : ¬ badW t w := by unfold badW; omega
      have hlt : t 3 2 < n := txt_lt hx hp.1 (wordZ_no (by rw [hw]; omega))
      rcases (show w = 0 ∨ w = 1 ∨ w = 2 by omega) with hw0 | hw0 | hw0
      · have ek : 5 = tbC w := by rw [hw0]; rfl
        have ewd : ((4 : Nat) : Int) = wdt w := by rw [hw0]; rfl
        have etw : tw 5 = 4 := rfl
        refine r_aload_n X dX3_readClause_40 hl 1 rfl ?_
        refine r_iload_n X dX3_readClause_41 hl 0 rfl ?_
        refine vF_q X Y [.int (iV (w))] [] (ct_X3_clausesOf_0 l g t f w (by omega)) mk_X3_clausesOf mi_X3_clausesOf wm_364 (by decide) (rv_3 Y rfl) rfl hl (Nat.le_of_ble_eq_true rfl) rfl dX3_readClause_42 (Nat.zero_le _) (Nat.zero_le _) (fun H locs Y => ?_)
        refine r_astore_n X dX3_readClause_45 hl [(2, .ref (g.1 + 5)), (1, .int (iV (w))), (0, .ref (g.1 + 3))] (by decide) rfl (fun ls hl => ?_)
        refine r_aload_n X dX3_readClause_46 hl 0 rfl ?_
        refine vF_i X Y [] [] (ct_X5_isFull l g t f 5 rfl ho.1) mk_X5_isFull mi_X5_isFull wm_368 (by decide) (rv_5 Y rfl) rfl hl (Nat.le_of_ble_eq_true rfl) rfl dX3_readClause_47 (Nat.zero_le _) (Nat.zero_le _) (fun H locs Y => ?_)
        have qb47 := tfull_b t 5
        have qm47 : tm 5 = 1 := rfl
        refine r_if_eq X (tgt := 63) dX3_readClause_50 (by decide) ⟨by omega, by omega⟩ (fun c50 => ?_) (fun c50 => ?_)
        · refine r_aload_n X dX3_readClause_63 hl 2 rfl ?_
          refine r_dup X dX3_readClause_64 rfl ?_
          refine g_3_2 (k := 3) X Y rfl wm_137 dX3_readClause_65 ?_
          refine r_iconst X dX3_readClause_68 ?_
          refine r_iadd X dX3_readClause_69 ?_
          refine p_3_2 (k := 3) X Y rfl wm_137 dX3_readClause_70 (fun H locs Y => ?_)
          obtain ⟨tq1, htq1⟩ : ∃ q, q = up2 t 3 2 ((t 3 2) + 1) := ⟨_, rfl⟩
          have Y : uY g 117 (cX g tq1 f) s H locs := by rw [htq1]; exact Y
          have ho_tq1 : tOK tq1 5 ∧ tOK tq1 7 ∧ tOK tq1 9 := by rw [htq1]; exact ⟨tOK_k (by decide) ho.1, tOK_k (by decide) ho.2.1, tOK_k (by decide) ho.2.2⟩
          refine r_aload_n X dX3_readClause_73 hl 0 rfl ?_
          refine vF_i X Y [] [] (ct_X5_open l g tq1 f 5 rfl ho_tq1.1) mk_X5_open mi_X5_open wm_369 (by decide) (rv_5 Y rfl) rfl hl (Nat.le_of_ble_eq_true rfl) rfl dX3_readClause_74 (Nat.zero_le _) (Nat.zero_le _) (fun H locs Y => ?_)
          obtain ⟨tq2, htq2⟩ : ∃ q, q = topenT tq1 5 := ⟨_, rfl⟩
          have Y : uY g 117 (cX g tq2 f) s H locs := by rw [htq2]; exact Y
          refine r_eq (z' := t 5 3) (opn_r (by decide) (show t 5 3 < tm 5 by omega) htq1) ?_
          refine r_istore_n X dX3_readClause_77 hl [(3, .int (iV (t 5 3))), (2, .ref (g.1 + 5)), (1, .int (iV (w))), (0, .ref (g.1 + 3))] (by decide) rfl (fun ls hl => ?_)
          refine r_iconst X dX3_readClause_78 ?_
          refine r_istore X dX3_readClause_79 hl [(4, .int (iV (0))), (3, .int (iV (t 5 3))), (2, .ref (g.1 + 5)), (1, .int (iV (w))), (0, .ref (g.1 + 3))] (by decide) rfl (fun ls hl => ?_)
          have loop81 : ∀ (N : Nat) (j : Int) (tz : uN) (fz : uF) (hj0 : 0 ≤ j) (hj1 : j ≤ 4) (h_tz : TX tz fz x n) (hoz : tOK tz 5 ∧ tOK tz 7 ∧ tOK tz 9) (hI : CLI x w 5 4 t f tz fz j) (H : Heap) (locs : List Loc) (ls : Array Slot), (4 - j).toNat < N → uY g 117 (cX g tz fz) s H locs → lv_has ls 5 [(4, .int (iV (j))), (0, .ref (g.1 + 3)), (1, .int (iV (w))), (2, .ref (g.1 + 5)), (3, .int (iV (t 5 3)))] → W p l e R s m args below meth c H locs 0 0 Q (F0 m 81 ls []) := by
            intro N
            induction N with
            | zero => intro j tz fz hj0 hj1 h_tz hoz hI H locs ls hmu Y hl; exact absurd hmu (Nat.not_lt_zero _)
            | succ N ih =>
              intro j tz fz hj0 hj1 h_tz hoz hI H locs ls hmu Y hl
              have hzx := h_tz.2.2.2
              have hk3 := CLI_rng hI
              have htk : tz 5 3 = t 5 3 + 1 := (hI.2.1 5 (by decide)).trans (if_pos rfl)
              refine r_iload X dX3_readClause_81 hl 0 rfl ?_
              refine r_aload_n X dX3_readClause_83 hl 3 rfl ?_
              refine vF_i X Y [] [.int (iV (j))] (ct_X5_width l g tz fz 5 rfl) mk_X5_width mi_X5_width wm_370 (by decide) (rv_5 Y rfl) rfl hl (Nat.le_of_ble_eq_true rfl) rfl dX3_readClause_84 (Nat.zero_le _) (Nat.zero_le _) (fun H locs Y => ?_)
              refine r_icmp_ge X (tgt := 124) dX3_readClause_87 (by decide) ⟨by omega, by omega⟩ ⟨by omega, by omega⟩ (fun c87 => ?_) (fun c87 => ?_)
              · refine r_aload_n X dX3_readClause_124 hl 1 rfl ?_
                refine g_3_3 (k := 3) X Y rfl wm_138 dX3_readClause_125 ?_
                refine r_if_ne X (tgt := 139) dX3_readClause_128 (by decide) ⟨by omega, by omega⟩ (fun c128 => ?_) (fun c128 => ?_)
                · exact ret _ _ _ _ _ _ dX3_readClause_139 Y (CLQ_num hw ek ewd hbd (by omega) hzx hoz hI c128)
                · refine r_aload_n X dX3_readClause_131 hl 1 rfl ?_
                  refine vF_v X Y [] [] (ct_X3_skipBlanks l g tz fz x n h_tz) mk_X3_skipBlanks mi_X3_skipBlanks wm_340 (by decide) (rv_3 Y rfl) rfl hl (Nat.le_of_ble_eq_true rfl) rfl dX3_readClause_132 (Nat.zero_le _) (Nat.zero_le _) (fun H locs Y => ?_)
                  obtain ⟨tq3, htq3⟩ : ∃ q, q = up2 tz 3 2 (sk x (tz 3 2)) := ⟨_, rfl⟩
                  have Y : uY g 117 (cX g tq3 fz) s H locs := by rw [htq3]; exact Y
                  have h_tq3 : TX tq3 fz x n := h_tz.of (by rw [htq3, up2_ne _ _ (by omega)]) (by rw [htq3, up2_s]; have := sk_rng hx hzx.1 hzx.2; omega) (fun _ => rfl)
                  have ho_tq3 : tOK tq3 5 ∧ tOK tq3 7 ∧ tOK tq3 9 := by rw [htq3]; exact ⟨tOK_k (by decide) hoz.1, tOK_k (by decide) hoz.2.1, tOK_k (by decide) hoz.2.2⟩
                  refine r_aload_n X dX3_readClause_135 hl 1 rfl ?_
                  refine vF_v X Y [] [] (ct_X3_readEnd l g tq3 fz x n h_tq3) mk_X3_readEnd mi_X3_readEnd wm_389 (by decide) (rv_3 Y rfl) rfl hl (Nat.le_of_ble_eq_true rfl) rfl dX3_readClause_136 (Nat.zero_le _) (Nat.zero_le _) (fun H locs Y => ?_)
                  obtain ⟨tq4, htq4⟩ : ∃ q, q = if x (tq3 3 2) = 59 then up2 tq3 3 2 (tq3 3 2 + 1) else up2 (up2 tq3 3 3 1) 3 4 (tq3 3 2) := ⟨_, rfl⟩
                  have Y : uY g 117 (cX g tq4 fz) s H locs := by rw [htq4]; exact Y
                  exact ret _ _ _ _ _ _ dX3_readClause_139 Y (CLQ_end hw ek ewd hbd (by omega) hoz hI (by omega) (by omega) htq3 ⟨h_tq3.2.2.2.1, h_tq3.2.2.2.2, fun q => txt_lt hx h_tq3.2.2.2.1 (by omega)⟩ htq4)
              · refine r_aload_n X dX3_readClause_90 hl 1 rfl ?_
                refine g_3_3 (k := 3) X Y rfl wm_138 dX3_readClause_91 ?_
                refine r_if_ne X (tgt := 124) dX3_readClause_94 (by decide) ⟨by omega, by omega⟩ (fun c94 => ?_) (fun c94 => ?_)
                · refine r_aload_n X dX3_readClause_124 hl 1 rfl ?_
                  refine g_3_3 (k := 3) X Y rfl wm_138 dX3_readClause_125 ?_
                  refine r_if_ne X (tgt := 139) dX3_readClause_128 (by decide) ⟨by omega, by omega⟩ (fun c128 => ?_) (fun c128 => ?_)
                  · exact ret _ _ _ _ _ _ dX3_readClause_139 Y (CLQ_num hw ek ewd hbd (by omega) hzx hoz hI c128)
                  · exact absurd c128 c94
                · refine r_aload_n X dX3_readClause_97 hl 1 rfl ?_
                  refine vF_v X Y [] [] (ct_X3_skipBlanks l g tz fz x n h_tz) mk_X3_skipBlanks mi_X3_skipBlanks wm_340 (by decide) (rv_3 Y rfl) rfl hl (Nat.le_of_ble_eq_true rfl) rfl dX3_readClause_98 (Nat.zero_le _) (Nat.zero_le _) (fun H locs Y => ?_)
                  obtain ⟨tq3, htq3⟩ : ∃ q, q = up2 tz 3 2 (sk x (tz 3 2)) := ⟨_, rfl⟩
                  have Y : uY g 117 (cX g tq3 fz) s H locs := by rw [htq3]; exact Y
                  have h_tq3 : TX tq3 fz x n := h_tz.of (by rw [htq3, up2_ne _ _ (by omega)]) (by rw [htq3, up2_s]; have := sk_rng hx hzx.1 hzx.2; omega) (fun _ => rfl)
                  have ho_tq3 : tOK tq3 5 ∧ tOK tq3 7 ∧ tOK tq3 9 := by rw [htq3]; exact ⟨tOK_k (by decide) hoz.1, tOK_k (by decide) hoz.2.1, tOK_k (by decide) hoz.2.2⟩
                  refine r_aload_n X dX3_readClause_101 hl 3 rfl ?_
                  refine r_iload_n X dX3_readClause_102 hl 4 rfl ?_
                  refine r_iload X dX3_readClause_103 hl 0 rfl ?_
                  refine r_aload_n X dX3_readClause_105 hl 1 rfl ?_
                  refine r_iload_n X dX3_readClause_106 hl 2 rfl ?_
                  refine r_iconst X dX3_readClause_107 ?_
                  refine r_imul X dX3_readClause_108 ?_
                  refine r_iload X dX3_readClause_109 hl 0 rfl ?_
                  refine r_iadd X dX3_readClause_111 ?_
                  refine vF_i X Y [.int (iV ((w * 4) + j))] [.int (iV (j)), .int (iV (t 5 3)), .ref (g.1 + 5)] (ct_X3_readNumber l g tq3 fz ((w * 4) + j) x n h_tq3 ⟨by omega, by omega⟩) mk_X3_readNumber mi_X3_readNumber wm_374 (by decide) (rv_3 Y rfl) rfl hl (Nat.le_of_ble_eq_true rfl) rfl dX3_readClause_112 (Nat.zero_le _) (Nat.zero_le _) (fun H locs Y => ?_)
                  obtain ⟨tq4, htq4⟩ : ∃ q, q = rnT tq3 x ((w * 4) + j) := ⟨_, rfl⟩
                  have Y : uY g 117 (cX g tq4 fz) s H locs := by rw [htq4]; exact Y
                  have h_tq4 : TX tq4 fz x n := h_tq3.of (by rw [htq4]; exact rnT_off (by decide)) (by rw [htq4, rnT_2]; have := dE_rng hx h_tq3.2.2.2.1 h_tq3.2.2.2.2; have := h_tq3.2.2.2; omega) (fun _ => rfl)
                  have ho_tq4 : tOK tq4 5 ∧ tOK tq4 7 ∧ tOK tq4 9 := by rw [htq4]; exact ⟨tOK_rn (by decide) ho_tq3.1, tOK_rn (by decide) ho_tq3.2.1, tOK_rn (by decide) ho_tq3.2.2⟩
                  have hkb : tq4 5 3 = t 5 3 + 1 := by rw [htq4, rnT_off (by decide), htq3, up2_k _ _ _ _ (by decide), htk]
                  refine vF_v X Y [.int (iV (t 5 3)), .int (iV (j)), .int (iV (dV x (tq3 3 2)))] [] (ct_X5_set l g tq4 fz 5 (t 5 3) j (dV x (tq3 3 2)) rfl ho_tq4.1 ⟨by omega, by omega⟩ ⟨by omega, by omega⟩) mk_X5_set mi_X5_set wm_388 (by decide) (rv_5 Y rfl) rfl hl (Nat.le_of_ble_eq_true rfl) rfl dX3_readClause_115 (Nat.zero_le _) (Nat.zero_le _) (fun H locs Y => ?_)
                  obtain ⟨fq5, hfq5⟩ : ∃ q, q = tset tq4 fz 5 (t 5 3) j (dV x (tq3 3 2)) := ⟨_, rfl⟩
                  have Y : uY g 117 (cX g tq4 fq5) s H locs := by rw [hfq5]; exact Y
                  have hfu : fq5 = upA fz (5 + 1) (t 5 3 * ((4 : Nat) : Int) + j) (dV x (tq3 3 2)) := by rw [hfq5]; unfold tset; rw [if_pos ⟨by omega, by omega, by omega, by omega⟩]; rfl
                  have hI_tq4 : CLI x w 5 4 t f tq4 fq5 (j + 1) := CLI_step (n := 0) (by decide) hI (by omega) hj0 (by omega) htq3 htq4 rfl hfu
                  have hx_tq4 : TX tq4 fq5 x n := h_tq4.of rfl h_tq4.2.2.2 (fun i => by rw [hfu]; exact upA_k _ _ _ _ (by decide))
                  refine r_iinc X dX3_readClause_118 hl 0 rfl [(4, .int (iV (j + 1))), (0, .ref (g.1 + 3)), (1, .int (iV (w))), (2, .ref (g.1 + 5)), (3, .int (iV (t 5 3)))] (by decide) rfl (fun ls hl => ?_)
                  refine r_goto X 81 dX3_readClause_121 (by decide) ?_
                  exact ih (j + 1) tq4 fq5 (by omega) (by omega) hx_tq4 ho_tq4 hI_tq4 _ _ _ (by omega) Y (lv_sub hl [0, 1, 2, 3, 4] rfl)
          exact loop81 (((4 - (0 : Int)).toNat) + 1) 0 tq2 f (by omega) (by omega) (CLI_tx h hlt (by decide) (show t 5 3 < tm 5 by omega) htq1 htq2) (CLI_ok ho htq1 htq2) (CLI_init (w := w) (wd := 4) (by decide) h33 (show t 5 3 < tm 5 by omega) htq1 htq2) _ _ _ (Nat.lt_succ_self _) Y (lv_sub hl [0, 4, 3, 2, 1] rfl)
        · refine r_aload_n X dX3_readClause_53 hl 2 rfl ?_
          refine r_iconst X dX3_readClause_54 ?_
          refine r_aload_n X dX3_readClause_55 hl 2 rfl ?_
          refine g_3_2 (k := 3) X Y rfl wm_137 dX3_readClause_56 ?_
          refine vF_v X Y [.int (iV (3)), .int (iV (t 3 2))] [] (ct_X3_refuse l g t f 3 (t 3 2)) mk_X3_refuse mi_X3_refuse wm_360 (by decide) (rv_3 Y rfl) rfl hl (Nat.le_of_ble_eq_true rfl) rfl dX3_readClause_59 (Nat.zero_le _) (Nat.zero_le _) (fun H locs Y => ?_)
          obtain ⟨tq1, htq1⟩ : ∃ q, q = up2 (up2 t 3 3 3) 3 4 (t 3 2) := ⟨_, rfl⟩
          have Y : uY g 117 (cX g tq1 f) s H locs := by rw [htq1]; exact Y
          exact ret _ _ _ _ _ _ dX3_readClause_62 Y (CLQ_full hp ho (by rw [hw]; exact hbd) (by rw [hw, ← ek]; omega) htq1)
      · have ek : 7 = tbC w := by rw [hw0]; rfl
        have ewd : ((3 : Nat) : Int) = wdt w := by rw [hw0]; rfl
        have etw : tw 7 = 3 := rfl
        refine r_aload_n X dX3_readClause_40 hl 1 rfl ?_
        refine r_iload_n X dX3_readClause_41 hl 0 rfl ?_
        refine vF_q X Y [.int (iV (w))] [] (ct_X3_clausesOf_1 l g t f w (by omega)) mk_X3_clausesOf mi_X3_clausesOf wm_364 (by decide) (rv_3 Y rfl) rfl hl (Nat.le_of_ble_eq_true rfl) rfl dX3_readClause_42 (Nat.zero_le _) (Nat.zero_le _) (fun H locs Y => ?_)
        refine r_astore_n X dX3_readClause_45 hl [(2, .ref (g.1 + 7)), (1, .int (iV (w))), (0, .ref (g.1 + 3))] (by decide) rfl (fun ls hl => ?_)
        refine r_aload_n X dX3_readClause_46 hl 0 rfl ?_
        refine vF_i X Y [] [] (ct_X5_isFull l g t f 7 rfl ho.2.1) mk_X5_isFull mi_X5_isFull wm_368 (by decide) (rv_5 Y rfl) rfl hl (Nat.le_of_ble_eq_true rfl) rfl dX3_readClause_47 (Nat.zero_le _) (Nat.zero_le _) (fun H locs Y => ?_)
        have qb47 := tfull_b t 7
        have qm47 : tm 7 = 7 := rfl
        refine r_if_eq X (tgt := 63) dX3_readClause_50 (by decide) ⟨by omega, by omega⟩ (fun c50 => ?_) (fun c50 => ?_)
        · refine r_aload_n X dX3_readClause_63 hl 2 rfl ?_
          refine r_dup X dX3_readClause_64 rfl ?_
          refine g_3_2 (k := 3) X Y rfl wm_137 dX3_readClause_65 ?_
          refine r_iconst X dX3_readClause_68 ?_
          refine r_iadd X dX3_readClause_69 ?_
          refine p_3_2 (k := 3) X Y rfl wm_137 dX3_readClause_70 (fun H locs Y => ?_)
          obtain ⟨tq1, htq1⟩ : ∃ q, q = up2 t 3 2 ((t 3 2) + 1) := ⟨_, rfl⟩
          have Y : uY g 117 (cX g tq1 f) s H locs := by rw [htq1]; exact Y
          have ho_tq1 : tOK tq1 5 ∧ tOK tq1 7 ∧ tOK tq1 9 := by rw [htq1]; exact ⟨tOK_k (by decide) ho.1, tOK_k (by decide) ho.2.1, tOK_k (by decide) ho.2.2⟩
          refine r_aload_n X dX3_readClause_73 hl 0 rfl ?_
          refine vF_i X Y [] [] (ct_X5_open l g tq1 f 7 rfl ho_tq1.2.1) mk_X5_open mi_X5_open wm_369 (by decide) (rv_5 Y rfl) rfl hl (Nat.le_of_ble_eq_true rfl) rfl dX3_readClause_74 (Nat.zero_le _) (Nat.zero_le _) (fun H locs Y => ?_)
          obtain ⟨tq2, htq2⟩ : ∃ q, q = topenT tq1 7 := ⟨_, rfl⟩
          have Y : uY g 117 (cX g tq2 f) s H locs := by rw [htq2]; exact Y
          refine r_eq (z' := t 7 3) (opn_r (by decide) (show t 7 3 < tm 7 by omega) htq1) ?_
          refine r_istore_n X dX3_readClause_77 hl [(3, .int (iV (t 7 3))), (2, .ref (g.1 + 7)), (1, .int (iV (w))), (0, .ref (g.1 + 3))] (by decide) rfl (fun ls hl => ?_)
          refine r_iconst X dX3_readClause_78 ?_
          refine r_istore X dX3_readClause_79 hl [(4, .int (iV (0))), (3, .int (iV (t 7 3))), (2, .ref (g.1 + 7)), (1, .int (iV (w))), (0, .ref (g.1 + 3))] (by decide) rfl (fun ls hl => ?_)
          have loop81 : ∀ (N : Nat) (j : Int) (tz : uN) (fz : uF) (hj0 : 0 ≤ j) (hj1 : j ≤ 3) (h_tz : TX tz fz x n) (hoz : tOK tz 5 ∧ tOK tz 7 ∧ tOK tz 9) (hI : CLI x w 7 3 t f tz fz j) (H : Heap) (locs : List Loc) (ls : Array Slot), (3 - j).toNat < N → uY g 117 (cX g tz fz) s H locs → lv_has ls 5 [(4, .int (iV (j))), (0, .ref (g.1 + 3)), (1, .int (iV (w))), (2, .ref (g.1 + 7)), (3, .int (iV (t 7 3)))] → W p l e R s m args below meth c H locs 0 0 Q (F0 m 81 ls []) := by
            intro N
            induction N with
            | zero => intro j tz fz hj0 hj1 h_tz hoz hI H locs ls hmu Y hl; exact absurd hmu (Nat.not_lt_zero _)
            | succ N ih =>
              intro j tz fz hj0 hj1 h_tz hoz hI H locs ls hmu Y hl
              have hzx := h_tz.2.2.2
              have hk3 := CLI_rng hI
              have htk : tz 7 3 = t 7 3 + 1 := (hI.2.1 7 (by decide)).trans (if_pos rfl)
              refine r_iload X dX3_readClause_81 hl 0 rfl ?_
              refine r_aload_n X dX3_readClause_83 hl 3 rfl ?_
              refine vF_i X Y [] [.int (iV (j))] (ct_X5_width l g tz fz 7 rfl) mk_X5_width mi_X5_width wm_370 (by decide) (rv_5 Y rfl) rfl hl (Nat.le_of_ble_eq_true rfl) rfl dX3_readClause_84 (Nat.zero_le _) (Nat.zero_le _) (fun H locs Y => ?_)
              refine r_icmp_ge X (tgt := 124) dX3_readClause_87 (by decide) ⟨by omega, by omega⟩ ⟨by omega, by omega⟩ (fun c87 => ?_) (fun c87 => ?_)
              · refine r_aload_n X dX3_readClause_124 hl 1 rfl ?_
                refine g_3_3 (k := 3) X Y rfl wm_138 dX3_readClause_125 ?_
                refine r_if_ne X (tgt := 139) dX3_readClause_128 (by decide) ⟨by omega, by omega⟩ (fun c128 => ?_) (fun c128 => ?_)
                · exact ret _ _ _ _ _ _ dX3_readClause_139 Y (CLQ_num hw ek ewd hbd (by omega) hzx hoz hI c128)
                · refine r_aload_n X dX3_readClause_131 hl 1 rfl ?_
                  refine vF_v X Y [] [] (ct_X3_skipBlanks l g tz fz x n h_tz) mk_X3_skipBlanks mi_X3_skipBlanks wm_340 (by decide) (rv_3 Y rfl) rfl hl (Nat.le_of_ble_eq_true rfl) rfl dX3_readClause_132 (Nat.zero_le _) (Nat.zero_le _) (fun H locs Y => ?_)
                  obtain ⟨tq3, htq3⟩ : ∃ q, q = up2 tz 3 2 (sk x (tz 3 2)) := ⟨_, rfl⟩
                  have Y : uY g 117 (cX g tq3 fz) s H locs := by rw [htq3]; exact Y
                  have h_tq3 : TX tq3 fz x n := h_tz.of (by rw [htq3, up2_ne _ _ (by omega)]) (by rw [htq3, up2_s]; have := sk_rng hx hzx.1 hzx.2; omega) (fun _ => rfl)
                  have ho_tq3 : tOK tq3 5 ∧ tOK tq3 7 ∧ tOK tq3 9 := by rw [htq3]; exact ⟨tOK_k (by decide) hoz.1, tOK_k (by decide) hoz.2.1, tOK_k (by decide) hoz.2.2⟩
                  refine r_aload_n X dX3_readClause_135 hl 1 rfl ?_
                  refine vF_v X Y [] [] (ct_X3_readEnd l g tq3 fz x n h_tq3) mk_X3_readEnd mi_X3_readEnd wm_389 (by decide) (rv_3 Y rfl) rfl hl (Nat.le_of_ble_eq_true rfl) rfl dX3_readClause_136 (Nat.zero_le _) (Nat.zero_le _) (fun H locs Y => ?_)
                  obtain ⟨tq4, htq4⟩ : ∃ q, q = if x (tq3 3 2) = 59 then up2 tq3 3 2 (tq3 3 2 + 1) else up2 (up2 tq3 3 3 1) 3 4 (tq3 3 2) := ⟨_, rfl⟩
                  have Y : uY g 117 (cX g tq4 fz) s H locs := by rw [htq4]; exact Y
                  exact ret _ _ _ _ _ _ dX3_readClause_139 Y (CLQ_end hw ek ewd hbd (by omega) hoz hI (by omega) (by omega) htq3 ⟨h_tq3.2.2.2.1, h_tq3.2.2.2.2, fun q => txt_lt hx h_tq3.2.2.2.1 (by omega)⟩ htq4)
              · refine r_aload_n X dX3_readClause_90 hl 1 rfl ?_
                refine g_3_3 (k := 3) X Y rfl wm_138 dX3_readClause_91 ?_
                refine r_if_ne X (tgt := 124) dX3_readClause_94 (by decide) ⟨by omega, by omega⟩ (fun c94 => ?_) (fun c94 => ?_)
                · refine r_aload_n X dX3_readClause_124 hl 1 rfl ?_
                  refine g_3_3 (k := 3) X Y rfl wm_138 dX3_readClause_125 ?_
                  refine r_if_ne X (tgt := 139) dX3_readClause_128 (by decide) ⟨by omega, by omega⟩ (fun c128 => ?_) (fun c128 => ?_)
                  · exact ret _ _ _ _ _ _ dX3_readClause_139 Y (CLQ_num hw ek ewd hbd (by omega) hzx hoz hI c128)
                  · exact absurd c128 c94
                · refine r_aload_n X dX3_readClause_97 hl 1 rfl ?_
                  refine vF_v X Y [] [] (ct_X3_skipBlanks l g tz fz x n h_tz) mk_X3_skipBlanks mi_X3_skipBlanks wm_340 (by decide) (rv_3 Y rfl) rfl hl (Nat.le_of_ble_eq_true rfl) rfl dX3_readClause_98 (Nat.zero_le _) (Nat.zero_le _) (fun H locs Y => ?_)
                  obtain ⟨tq3, htq3⟩ : ∃ q, q = up2 tz 3 2 (sk x (tz 3 2)) := ⟨_, rfl⟩
                  have Y : uY g 117 (cX g tq3 fz) s H locs := by rw [htq3]; exact Y
                  have h_tq3 : TX tq3 fz x n := h_tz.of (by rw [htq3, up2_ne _ _ (by omega)]) (by rw [htq3, up2_s]; have := sk_rng hx hzx.1 hzx.2; omega) (fun _ => rfl)
                  have ho_tq3 : tOK tq3 5 ∧ tOK tq3 7 ∧ tOK tq3 9 := by rw [htq3]; exact ⟨tOK_k (by decide) hoz.1, tOK_k (by decide) hoz.2.1, tOK_k (by decide) hoz.2.2⟩
                  refine r_aload_n X dX3_readClause_101 hl 3 rfl ?_
                  refine r_iload_n X dX3_readClause_102 hl 4 rfl ?_
                  refine r_iload X dX3_readClause_103 hl 0 rfl ?_
                  refine r_aload_n X dX3_readClause_105 hl 1 rfl ?_
                  refine r_iload_n X dX3_readClause_106 hl 2 rfl ?_
                  refine r_iconst X dX3_readClause_107 ?_
                  refine r_imul X dX3_readClause_108 ?_
                  refine r_iload X dX3_readClause_109 hl 0 rfl ?_
                  refine r_iadd X dX3_readClause_111 ?_
                  refine vF_i X Y [.int (iV ((w * 4) + j))] [.int (iV (j)), .int (iV (t 7 3)), .ref (g.1 + 7)] (ct_X3_readNumber l g tq3 fz ((w * 4) + j) x n h_tq3 ⟨by omega, by omega⟩) mk_X3_readNumber mi_X3_readNumber wm_374 (by decide) (rv_3 Y rfl) rfl hl (Nat.le_of_ble_eq_true rfl) rfl dX3_readClause_112 (Nat.zero_le _) (Nat.zero_le _) (fun H locs Y => ?_)
                  obtain ⟨tq4, htq4⟩ : ∃ q, q = rnT tq3 x ((w * 4) + j) := ⟨_, rfl⟩
                  have Y : uY g 117 (cX g tq4 fz) s H locs := by rw [htq4]; exact Y
                  have h_tq4 : TX tq4 fz x n := h_tq3.of (by rw [htq4]; exact rnT_off (by decide)) (by rw [htq4, rnT_2]; have := dE_rng hx h_tq3.2.2.2.1 h_tq3.2.2.2.2; have := h_tq3.2.2.2; omega) (fun _ => rfl)
                  have ho_tq4 : tOK tq4 5 ∧ tOK tq4 7 ∧ tOK tq4 9 := by rw [htq4]; exact ⟨tOK_rn (by decide) ho_tq3.1, tOK_rn (by decide) ho_tq3.2.1, tOK_rn (by decide) ho_tq3.2.2⟩
                  have hkb : tq4 7 3 = t 7 3 + 1 := by rw [htq4, rnT_off (by decide), htq3, up2_k _ _ _ _ (by decide), htk]
                  refine vF_v X Y [.int (iV (t 7 3)), .int (iV (j)), .int (iV (dV x (tq3 3 2)))] [] (ct_X5_set l g tq4 fz 7 (t 7 3) j (dV x (tq3 3 2)) rfl ho_tq4.2.1 ⟨by omega, by omega⟩ ⟨by omega, by omega⟩) mk_X5_set mi_X5_set wm_388 (by decide) (rv_5 Y rfl) rfl hl (Nat.le_of_ble_eq_true rfl) rfl dX3_readClause_115 (Nat.zero_le _) (Nat.zero_le _) (fun H locs Y => ?_)
                  obtain ⟨fq5, hfq5⟩ : ∃ q, q = tset tq4 fz 7 (t 7 3) j (dV x (tq3 3 2)) := ⟨_, rfl⟩
                  have Y : uY g 117 (cX g tq4 fq5) s H locs := by rw [hfq5]; exact Y
                  have hfu : fq5 = upA fz (7 + 1) (t 7 3 * ((3 : Nat) : Int) + j) (dV x (tq3 3 2)) := by rw [hfq5]; unfold tset; rw [if_pos ⟨by omega, by omega, by omega, by omega⟩]; rfl
                  have hI_tq4 : CLI x w 7 3 t f tq4 fq5 (j + 1) := CLI_step (n := 0) (by decide) hI (by omega) hj0 (by omega) htq3 htq4 rfl hfu
                  have hx_tq4 : TX tq4 fq5 x n := h_tq4.of rfl h_tq4.2.2.2 (fun i => by rw [hfu]; exact upA_k _ _ _ _ (by decide))
                  refine r_iinc X dX3_readClause_118 hl 0 rfl [(4, .int (iV (j + 1))), (0, .ref (g.1 + 3)), (1, .int (iV (w))), (2, .ref (g.1 + 7)), (3, .int (iV (t 7 3)))] (by decide) rfl (fun ls hl => ?_)
                  refine r_goto X 81 dX3_readClause_121 (by decide) ?_
                  exact ih (j + 1) tq4 fq5 (by omega) (by omega) hx_tq4 ho_tq4 hI_tq4 _ _ _ (by omega) Y (lv_sub hl [0, 1, 2, 3, 4] rfl)
          exact loop81 (((3 - (0 : Int)).toNat) + 1) 0 tq2 f (by omega) (by omega) (CLI_tx h hlt (by decide) (show t 7 3 < tm 7 by omega) htq1 htq2) (CLI_ok ho htq1 htq2) (CLI_init (w := w) (wd := 3) (by decide) h33 (show t 7 3 < tm 7 by omega) htq1 htq2) _ _ _ (Nat.lt_succ_self _) Y (lv_sub hl [0, 4, 3, 2, 1] rfl)
        · refine r_aload_n X dX3_readClause_53 hl 2 rfl ?_
          refine r_iconst X dX3_readClause_54 ?_
          refine r_aload_n X dX3_readClause_55 hl 2 rfl ?_
          refine g_3_2 (k := 3) X Y rfl wm_137 dX3_readClause_56 ?_
          refine vF_v X Y [.int (iV (3)), .int (iV (t 3 2))] [] (ct_X3_refuse l g t f 3 (t 3 2)) mk_X3_refuse mi_X3_refuse wm_360 (by decide) (rv_3 Y rfl) rfl hl (Nat.le_of_ble_eq_true rfl) rfl dX3_readClause_59 (Nat.zero_le _) (Nat.zero_le _) (fun H locs Y => ?_)
          obtain ⟨tq1, htq1⟩ : ∃ q, q = up2 (up2 t 3 3 3) 3 4 (t 3 2) := ⟨_, rfl⟩
          have Y : uY g 117 (cX g tq1 f) s H locs := by rw [htq1]; exact Y
          exact ret _ _ _ _ _ _ dX3_readClause_62 Y (CLQ_full hp ho (by rw [hw]; exact hbd) (by rw [hw, ← ek]; omega) htq1)
      · have ek : 9 = tbC w := by rw [hw0]; rfl
        have ewd : ((2 : Nat) : Int) = wdt w := by rw [hw0]; rfl
        have etw : tw 9 = 2 := rfl
        refine r_aload_n X dX3_readClause_40 hl 1 rfl ?_
        refine r_iload_n X dX3_readClause_41 hl 0 rfl ?_
        refine vF_q X Y [.int (iV (w))] [] (ct_X3_clausesOf_2 l g t f w (by omega)) mk_X3_clausesOf mi_X3_clausesOf wm_364 (by decide) (rv_3 Y rfl) rfl hl (Nat.le_of_ble_eq_true rfl) rfl dX3_readClause_42 (Nat.zero_le _) (Nat.zero_le _) (fun H locs Y => ?_)
        refine r_astore_n X dX3_readClause_45 hl [(2, .ref (g.1 + 9)), (1, .int (iV (w))), (0, .ref (g.1 + 3))] (by decide) rfl (fun ls hl => ?_)
        refine r_aload_n X dX3_readClause_46 hl 0 rfl ?_
        refine vF_i X Y [] [] (ct_X5_isFull l g t f 9 rfl ho.2.2) mk_X5_isFull mi_X5_isFull wm_368 (by decide) (rv_5 Y rfl) rfl hl (Nat.le_of_ble_eq_true rfl) rfl dX3_readClause_47 (Nat.zero_le _) (Nat.zero_le _) (fun H locs Y => ?_)
        have qb47 := tfull_b t 9
        have qm47 : tm 9 = 5 := rfl
        refine r_if_eq X (tgt := 63) dX3_readClause_50 (by decide) ⟨by omega, by omega⟩ (fun c50 => ?_) (fun c50 => ?_)
        · refine r_aload_n X dX3_readClause_63 hl 2 rfl ?_
          refine r_dup X dX3_readClause_64 rfl ?_
          refine g_3_2 (k := 3) X Y rfl wm_137 dX3_readClause_65 ?_
          refine r_iconst X dX3_readClause_68 ?_
          refine r_iadd X dX3_readClause_69 ?_
          refine p_3_2 (k := 3) X Y rfl wm_137 dX3_readClause_70 (fun H locs Y => ?_)
          obtain ⟨tq1, htq1⟩ : ∃ q, q = up2 t 3 2 ((t 3 2) + 1) := ⟨_, rfl⟩
          have Y : uY g 117 (cX g tq1 f) s H locs := by rw [htq1]; exact Y
          have ho_tq1 : tOK tq1 5 ∧ tOK tq1 7 ∧ tOK tq1 9 := by rw [htq1]; exact ⟨tOK_k (by decide) ho.1, tOK_k (by decide) ho.2.1, tOK_k (by decide) ho.2.2⟩
          refine r_aload_n X dX3_readClause_73 hl 0 rfl ?_
          refine vF_i X Y [] [] (ct_X5_open l g tq1 f 9 rfl ho_tq1.2.2) mk_X5_open mi_X5_open wm_369 (by decide) (rv_5 Y rfl) rfl hl (Nat.le_of_ble_eq_true rfl) rfl dX3_readClause_74 (Nat.zero_le _) (Nat.zero_le _) (fun H locs Y => ?_)
          obtain ⟨tq2, htq2⟩ : ∃ q, q = topenT tq1 9 := ⟨_, rfl⟩
          have Y : uY g 117 (cX g tq2 f) s H locs := by rw [htq2]; exact Y
          refine r_eq (z' := t 9 3) (opn_r (by decide) (show t 9 3 < tm 9 by omega) htq1) ?_
          refine r_istore_n X dX3_readClause_77 hl [(3, .int (iV (t 9 3))), (2, .ref (g.1 + 9)), (1, .int (iV (w))), (0, .ref (g.1 + 3))] (by decide) rfl (fun ls hl => ?_)
          refine r_iconst X dX3_readClause_78 ?_
          refine r_istore X dX3_readClause_79 hl [(4, .int (iV (0))), (3, .int (iV (t 9 3))), (2, .ref (g.1 + 9)), (1, .int (iV (w))), (0, .ref (g.1 + 3))] (by decide) rfl (fun ls hl => ?_)
          have loop81 : ∀ (N : Nat) (j : Int) (tz : uN) (fz : uF) (hj0 : 0 ≤ j) (hj1 : j ≤ 2) (h_tz : TX tz fz x n) (hoz : tOK tz 5 ∧ tOK tz 7 ∧ tOK tz 9) (hI : CLI x w 9 2 t f tz fz j) (H : Heap) (locs : List Loc) (ls : Array Slot), (2 - j).toNat < N → uY g 117 (cX g tz fz) s H locs → lv_has ls 5 [(4, .int (iV (j))), (0, .ref (g.1 + 3)), (1, .int (iV (w))), (2, .ref (g.1 + 9)), (3, .int (iV (t 9 3)))] → W p l e R s m args below meth c H locs 0 0 Q (F0 m 81 ls []) := by
            intro N
            induction N with
            | zero => intro j tz fz hj0 hj1 h_tz hoz hI H locs ls hmu Y hl; exact absurd hmu (Nat.not_lt_zero _)
            | succ N ih =>
              intro j tz fz hj0 hj1 h_tz hoz hI H locs ls hmu Y hl
              have hzx := h_tz.2.2.2
              have hk3 := CLI_rng hI
              have htk : tz 9 3 = t 9 3 + 1 := (hI.2.1 9 (by decide)).trans (if_pos rfl)
              refine r_iload X dX3_readClause_81 hl 0 rfl ?_
              refine r_aload_n X dX3_readClause_83 hl 3 rfl ?_
              refine vF_i X Y [] [.int (iV (j))] (ct_X5_width l g tz fz 9 rfl) mk_X5_width mi_X5_width wm_370 (by decide) (rv_5 Y rfl) rfl hl (Nat.le_of_ble_eq_true rfl) rfl dX3_readClause_84 (Nat.zero_le _) (Nat.zero_le _) (fun H locs Y => ?_)
              refine r_icmp_ge X (tgt := 124) dX3_readClause_87 (by decide) ⟨by omega, by omega⟩ ⟨by omega, by omega⟩ (fun c87 => ?_) (fun c87 => ?_)
              · refine r_aload_n X dX3_readClause_124 hl 1 rfl ?_
                refine g_3_3 (k := 3) X Y rfl wm_138 dX3_readClause_125 ?_
                refine r_if_ne X (tgt := 139) dX3_readClause_128 (by decide) ⟨by omega, by omega⟩ (fun c128 => ?_) (fun c128 => ?_)
                · exact ret _ _ _ _ _ _ dX3_readClause_139 Y (CLQ_num hw ek ewd hbd (by omega) hzx hoz hI c128)
                · refine r_aload_n X dX3_readClause_131 hl 1 rfl ?_
                  refine vF_v X Y [] [] (ct_X3_skipBlanks l g tz fz x n h_tz) mk_X3_skipBlanks mi_X3_skipBlanks wm_340 (by decide) (rv_3 Y rfl) rfl hl (Nat.le_of_ble_eq_true rfl) rfl dX3_readClause_132 (Nat.zero_le _) (Nat.zero_le _) (fun H locs Y => ?_)
                  obtain ⟨tq3, htq3⟩ : ∃ q, q = up2 tz 3 2 (sk x (tz 3 2)) := ⟨_, rfl⟩
                  have Y : uY g 117 (cX g tq3 fz) s H locs := by rw [htq3]; exact Y
                  have h_tq3 : TX tq3 fz x n := h_tz.of (by rw [htq3, up2_ne _ _ (by omega)]) (by rw [htq3, up2_s]; have := sk_rng hx hzx.1 hzx.2; omega) (fun _ => rfl)
                  have ho_tq3 : tOK tq3 5 ∧ tOK tq3 7 ∧ tOK tq3 9 := by rw [htq3]; exact ⟨tOK_k (by decide) hoz.1, tOK_k (by decide) hoz.2.1, tOK_k (by decide) hoz.2.2⟩
                  refine r_aload_n X dX3_readClause_135 hl 1 rfl ?_
                  refine vF_v X Y [] [] (ct_X3_readEnd l g tq3 fz x n h_tq3) mk_X3_readEnd mi_X3_readEnd wm_389 (by decide) (rv_3 Y rfl) rfl hl (Nat.le_of_ble_eq_true rfl) rfl dX3_readClause_136 (Nat.zero_le _) (Nat.zero_le _) (fun H locs Y => ?_)
                  obtain ⟨tq4, htq4⟩ : ∃ q, q = if x (tq3 3 2) = 59 then up2 tq3 3 2 (tq3 3 2 + 1) else up2 (up2 tq3 3 3 1) 3 4 (tq3 3 2) := ⟨_, rfl⟩
                  have Y : uY g 117 (cX g tq4 fz) s H locs := by rw [htq4]; exact Y
                  exact ret _ _ _ _ _ _ dX3_readClause_139 Y (CLQ_end hw ek ewd hbd (by omega) hoz hI (by omega) (by omega) htq3 ⟨h_tq3.2.2.2.1, h_tq3.2.2.2.2, fun q => txt_lt hx h_tq3.2.2.2.1 (by omega)⟩ htq4)
              · refine r_aload_n X dX3_readClause_90 hl 1 rfl ?_
                refine g_3_3 (k := 3) X Y rfl wm_138 dX3_readClause_91 ?_
                refine r_if_ne X (tgt := 124) dX3_readClause_94 (by decide) ⟨by omega, by omega⟩ (fun c94 => ?_) (fun c94 => ?_)
                · refine r_aload_n X dX3_readClause_124 hl 1 rfl ?_
                  refine g_3_3 (k := 3) X Y rfl wm_138 dX3_readClause_125 ?_
                  refine r_if_ne X (tgt := 139) dX3_readClause_128 (by decide) ⟨by omega, by omega⟩ (fun c128 => ?_) (fun c128 => ?_)
                  · exact ret _ _ _ _ _ _ dX3_readClause_139 Y (CLQ_num hw ek ewd hbd (by omega) hzx hoz hI c128)
                  · exact absurd c128 c94
                · refine r_aload_n X dX3_readClause_97 hl 1 rfl ?_
                  refine vF_v X Y [] [] (ct_X3_skipBlanks l g tz fz x n h_tz) mk_X3_skipBlanks mi_X3_skipBlanks wm_340 (by decide) (rv_3 Y rfl) rfl hl (Nat.le_of_ble_eq_true rfl) rfl dX3_readClause_98 (Nat.zero_le _) (Nat.zero_le _) (fun H locs Y => ?_)
                  obtain ⟨tq3, htq3⟩ : ∃ q, q = up2 tz 3 2 (sk x (tz 3 2)) := ⟨_, rfl⟩
                  have Y : uY g 117 (cX g tq3 fz) s H locs := by rw [htq3]; exact Y
                  have h_tq3 : TX tq3 fz x n := h_tz.of (by rw [htq3, up2_ne _ _ (by omega)]) (by rw [htq3, up2_s]; have := sk_rng hx hzx.1 hzx.2; omega) (fun _ => rfl)
                  have ho_tq3 : tOK tq3 5 ∧ tOK tq3 7 ∧ tOK tq3 9 := by rw [htq3]; exact ⟨tOK_k (by decide) hoz.1, tOK_k (by decide) hoz.2.1, tOK_k (by decide) hoz.2.2⟩
                  refine r_aload_n X dX3_readClause_101 hl 3 rfl ?_
                  refine r_iload_n X dX3_readClause_102 hl 4 rfl ?_
                  refine r_iload X dX3_readClause_103 hl 0 rfl ?_
                  refine r_aload_n X dX3_readClause_105 hl 1 rfl ?_
                  refine r_iload_n X dX3_readClause_106 hl 2 rfl ?_
                  refine r_iconst X dX3_readClause_107 ?_
                  refine r_imul X dX3_readClause_108 ?_
                  refine r_iload X dX3_readClause_109 hl 0 rfl ?_
                  refine r_iadd X dX3_readClause_111 ?_
                  refine vF_i X Y [.int (iV ((w * 4) + j))] [.int (iV (j)), .int (iV (t 9 3)), .ref (g.1 + 9)] (ct_X3_readNumber l g tq3 fz ((w * 4) + j) x n h_tq3 ⟨by omega, by omega⟩) mk_X3_readNumber mi_X3_readNumber wm_374 (by decide) (rv_3 Y rfl) rfl hl (Nat.le_of_ble_eq_true rfl) rfl dX3_readClause_112 (Nat.zero_le _) (Nat.zero_le _) (fun H locs Y => ?_)
                  obtain ⟨tq4, htq4⟩ : ∃ q, q = rnT tq3 x ((w * 4) + j) := ⟨_, rfl⟩
                  have Y : uY g 117 (cX g tq4 fz) s H locs := by rw [htq4]; exact Y
                  have h_tq4 : TX tq4 fz x n := h_tq3.of (by rw [htq4]; exact rnT_off (by decide)) (by rw [htq4, rnT_2]; have := dE_rng hx h_tq3.2.2.2.1 h_tq3.2.2.2.2; have := h_tq3.2.2.2; omega) (fun _ => rfl)
                  have ho_tq4 : tOK tq4 5 ∧ tOK tq4 7 ∧ tOK tq4 9 := by rw [htq4]; exact ⟨tOK_rn (by decide) ho_tq3.1, tOK_rn (by decide) ho_tq3.2.1, tOK_rn (by decide) ho_tq3.2.2⟩
                  have hkb : tq4 9 3 = t 9 3 + 1 := by rw [htq4, rnT_off (by decide), htq3, up2_k _ _ _ _ (by decide), htk]
                  refine vF_v X Y [.int (iV (t 9 3)), .int (iV (j)), .int (iV (dV x (tq3 3 2)))] [] (ct_X5_set l g tq4 fz 9 (t 9 3) j (dV x (tq3 3 2)) rfl ho_tq4.2.2 ⟨by omega, by omega⟩ ⟨by omega, by omega⟩) mk_X5_set mi_X5_set wm_388 (by decide) (rv_5 Y rfl) rfl hl (Nat.le_of_ble_eq_true rfl) rfl dX3_readClause_115 (Nat.zero_le _) (Nat.zero_le _) (fun H locs Y => ?_)
                  obtain ⟨fq5, hfq5⟩ : ∃ q, q = tset tq4 fz 9 (t 9 3) j (dV x (tq3 3 2)) := ⟨_, rfl⟩
                  have Y : uY g 117 (cX g tq4 fq5) s H locs := by rw [hfq5]; exact Y
                  have hfu : fq5 = upA fz (9 + 1) (t 9 3 * ((2 : Nat) : Int) + j) (dV x (tq3 3 2)) := by rw [hfq5]; unfold tset; rw [if_pos ⟨by omega, by omega, by omega, by omega⟩]; rfl
                  have hI_tq4 : CLI x w 9 2 t f tq4 fq5 (j + 1) := CLI_step (n := 0) (by decide) hI (by omega) hj0 (by omega) htq3 htq4 rfl hfu
                  have hx_tq4 : TX tq4 fq5 x n := h_tq4.of rfl h_tq4.2.2.2 (fun i => by rw [hfu]; exact upA_k _ _ _ _ (by decide))
                  refine r_iinc X dX3_readClause_118 hl 0 rfl [(4, .int (iV (j + 1))), (0, .ref (g.1 + 3)), (1, .int (iV (w))), (2, .ref (g.1 + 9)), (3, .int (iV (t 9 3)))] (by decide) rfl (fun ls hl => ?_)
                  refine r_goto X 81 dX3_readClause_121 (by decide) ?_
                  exact ih (j + 1) tq4 fq5 (by omega) (by omega) hx_tq4 ho_tq4 hI_tq4 _ _ _ (by omega) Y (lv_sub hl [0, 1, 2, 3, 4] rfl)
          exact loop81 (((2 - (0 : Int)).toNat) + 1) 0 tq2 f (by omega) (by omega) (CLI_tx h hlt (by decide) (show t 9 3 < tm 9 by omega) htq1 htq2) (CLI_ok ho htq1 htq2) (CLI_init (w := w) (wd := 2) (by decide) h33 (show t 9 3 < tm 9 by omega) htq1 htq2) _ _ _ (Nat.lt_succ_self _) Y (lv_sub hl [0, 4, 3, 2, 1] rfl)
        · refine r_aload_n X dX3_readClause_53 hl 2 rfl ?_
          refine r_iconst X dX3_readClause_54 ?_
          refine r_aload_n X dX3_readClause_55 hl 2 rfl ?_
          refine g_3_2 (k := 3) X Y rfl wm_137 dX3_readClause_56 ?_
          refine vF_v X Y [.int (iV (3)), .int (iV (t 3 2))] [] (ct_X3_refuse l g t f 3 (t 3 2)) mk_X3_refuse mi_X3_refuse wm_360 (by decide) (rv_3 Y rfl) rfl hl (Nat.le_of_ble_eq_true rfl) rfl dX3_readClause_59 (Nat.zero_le _) (Nat.zero_le _) (fun H locs Y => ?_)
          obtain ⟨tq1, htq1⟩ : ∃ q, q = up2 (up2 t 3 3 3) 3 4 (t 3 2) := ⟨_, rfl⟩
          have Y : uY g 117 (cX g tq1 f) s H locs := by rw [htq1]; exact Y
          exact ret _ _ _ _ _ _ dX3_readClause_62 Y (CLQ_full hp ho (by rw [hw]; exact hbd) (by rw [hw, ← ek]; omega) htq1)
    · refine r_aload_n X dX3_readClause_17 hl 1 rfl ?_
      refine g_3_1 (k := 3) X Y rfl wm_136 dX3_readClause_18 ?_
      refine g_6_0 (k := 4) X Y rfl wm_120 dX3_readClause_21 ?_
      refine vF_i X Y [] [] (ct_X5_rows l g t f 5 rfl) mk_X5_rows mi_X5_rows wm_352 (by decide) (rv_5 Y rfl) rfl hl (Nat.le_of_ble_eq_true rfl) rfl dX3_readClause_24 (Nat.zero_le _) (Nat.zero_le _) (fun H locs Y => ?_)
      refine r_if_ne X (tgt := 40) dX3_readClause_27 (by decide) ⟨by omega, by omega⟩ (fun c27 => ?_) (fun c27 => ?_)
      · have hbd : ¬ badW t w := by unfold badW; omega
        have hlt : t 3 2 < n := txt_lt hx hp.1 (wordZ_no (by rw [hw]; omega))
        rcases (show w = 0 ∨ w = 1 ∨ w = 2 by omega) with hw0 | hw0 | hw0
        · have ek : 5 = tbC w := by rw [hw0]; rfl
          have ewd : ((4 : Nat) : Int) = wdt w := by rw [hw0]; rfl
          have etw : tw 5 = 4 := rfl
          refine r_aload_n X dX3_readClause_40 hl 1 rfl ?_
          refine r_iload_n X dX3_readClause_41 hl 0 rfl ?_
          refine vF_q X Y [.int (iV (w))] [] (ct_X3_clausesOf_0 l g t f w (by omega)) mk_X3_clausesOf mi_X3_clausesOf wm_364 (by decide) (rv_3 Y rfl) rfl hl (Nat.le_of_ble_eq_true rfl) rfl dX3_readClause_42 (Nat.zero_le _) (Nat.zero_le _) (fun H locs Y => ?_)
          refine r_astore_n X dX3_readClause_45 hl [(2, .ref (g.1 + 5)), (1, .int (iV (w))), (0, .ref (g.1 + 3))] (by decide) rfl (fun ls hl => ?_)
          refine r_aload_n X dX3_readClause_46 hl 0 rfl ?_
          refine vF_i X Y [] [] (ct_X5_isFull l g t f 5 rfl ho.1) mk_X5_isFull mi_X5_isFull wm_368 (by decide) (rv_5 Y rfl) rfl hl (Nat.le_of_ble_eq_true rfl) rfl dX3_readClause_47 (Nat.zero_le _) (Nat.zero_le _) (fun H locs Y => ?_)
          have qb47 := tfull_b t 5
          have qm47 : tm 5 = 1 := rfl
          refine r_if_eq X (tgt := 63) dX3_readClause_50 (by decide) ⟨by omega, by omega⟩ (fun c50 => ?_) (fun c50 => ?_)
          · refine r_aload_n X dX3_readClause_63 hl 2 rfl ?_
            refine r_dup X dX3_readClause_64 rfl ?_
            refine g_3_2 (k := 3) X Y rfl wm_137 dX3_readClause_65 ?_
            refine r_iconst X dX3_readClause_68 ?_
            refine r_iadd X dX3_readClause_69 ?_
            refine p_3_2 (k := 3) X Y rfl wm_137 dX3_readClause_70 (fun H locs Y => ?_)
            obtain ⟨tq1, htq1⟩ : ∃ q, q = up2 t 3 2 ((t 3 2) + 1) := ⟨_, rfl⟩
            have Y : uY g 117 (cX g tq1 f) s H locs := by rw [htq1]; exact Y
            have ho_tq1 : tOK tq1 5 ∧ tOK tq1 7 ∧ tOK tq1 9 := by rw [htq1]; exact ⟨tOK_k (by decide) ho.1, tOK_k (by decide) ho.2.1, tOK_k (by decide) ho.2.2⟩
            refine r_aload_n X dX3_readClause_73 hl 0 rfl ?_
            refine vF_i X Y [] [] (ct_X5_open l g tq1 f 5 rfl ho_tq1.1) mk_X5_open mi_X5_open wm_369 (by decide) (rv_5 Y rfl) rfl hl (Nat.le_of_ble_eq_true rfl) rfl dX3_readClause_74 (Nat.zero_le _) (Nat.zero_le _) (fun H locs Y => ?_)
            obtain ⟨tq2, htq2⟩ : ∃ q, q = topenT tq1 5 := ⟨_, rfl⟩
            have Y : uY g 117 (cX g tq2 f) s H locs := by rw [htq2]; exact Y
            refine r_eq (z' := t 5 3) (opn_r (by decide) (show t 5 3 < tm 5 by omega) htq1) ?_
            refine r_istore_n X dX3_readClause_77 hl [(3, .int (iV (t 5 3))), (2, .ref (g.1 + 5)), (1, .int (iV (w))), (0, .ref (g.1 + 3))] (by decide) rfl (fun ls hl => ?_)
            refine r_iconst X dX3_readClause_78 ?_
            refine r_istore X dX3_readClause_79 hl [(4, .int (iV (0))), (3, .int (iV (t 5 3))), (2, .ref (g.1 + 5)), (1, .int (iV (w))), (0, .ref (g.1 + 3))] (by decide) rfl (fun ls hl => ?_)
            have loop81 : ∀ (N : Nat) (j : Int) (tz : uN) (fz : uF) (hj0 : 0 ≤ j) (hj1 : j ≤ 4) (h_tz : TX tz fz x n) (hoz : tOK tz 5 ∧ tOK tz 7 ∧ tOK tz 9) (hI : CLI x w 5 4 t f tz fz j) (H : Heap) (locs : List Loc) (ls : Array Slot), (4 - j).toNat < N → uY g 117 (cX g tz fz) s H locs → lv_has ls 5 [(4, .int (iV (j))), (0, .ref (g.1 + 3)), (1, .int (iV (w))), (2, .ref (g.1 + 5)), (3, .int (iV (t 5 3)))] → W p l e R s m args below meth c H locs 0 0 Q (F0 m 81 ls []) := by
              intro N
              induction N with
              | zero => intro j tz fz hj0 hj1 h_tz hoz hI H locs ls hmu Y hl; exact absurd hmu (Nat.not_lt_zero _)
              | succ N ih =>
                intro j tz fz hj0 hj1 h_tz hoz hI H locs ls hmu Y hl
                have hzx := h_tz.2.2.2
                have hk3 := CLI_rng hI
                have htk : tz 5 3 = t 5 3 + 1 := (hI.2.1 5 (by decide)).trans (if_pos rfl)
                refine r_iload X dX3_readClause_81 hl 0 rfl ?_
                refine r_aload_n X dX3_readClause_83 hl 3 rfl ?_
                refine vF_i X Y [] [.int (iV (j))] (ct_X5_width l g tz fz 5 rfl) mk_X5_width mi_X5_width wm_370 (by decide) (rv_5 Y rfl) rfl hl (Nat.le_of_ble_eq_true rfl) rfl dX3_readClause_84 (Nat.zero_le _) (Nat.zero_le _) (fun H locs Y => ?_)
                refine r_icmp_ge X (tgt := 124) dX3_readClause_87 (by decide) ⟨by omega, by omega⟩ ⟨by omega, by omega⟩ (fun c87 => ?_) (fun c87 => ?_)
                · refine r_aload_n X dX3_readClause_124 hl 1 rfl ?_
                  refine g_3_3 (k := 3) X Y rfl wm_138 dX3_readClause_125 ?_
                  refine r_if_ne X (tgt := 139) dX3_readClause_128 (by decide) ⟨by omega, by omega⟩ (fun c128 => ?_) (fun c128 => ?_)
                  · exact ret _ _ _ _ _ _ dX3_readClause_139 Y (CLQ_num hw ek ewd hbd (by omega) hzx hoz hI c128)
                  · refine r_aload_n X dX3_readClause_131 hl 1 rfl ?_
                    refine vF_v X Y [] [] (ct_X3_skipBlanks l g tz fz x n h_tz) mk_X3_skipBlanks mi_X3_skipBlanks wm_340 (by decide) (rv_3 Y rfl) rfl hl (Nat.le_of_ble_eq_true rfl) rfl dX3_readClause_132 (Nat.zero_le _) (Nat.zero_le _) (fun H locs Y => ?_)
                    obtain ⟨tq3, htq3⟩ : ∃ q, q = up2 tz 3 2 (sk x (tz 3 2)) := ⟨_, rfl⟩
                    have Y : uY g 117 (cX g tq3 fz) s H locs := by rw [htq3]; exact Y
                    have h_tq3 : TX tq3 fz x n := h_tz.of (by rw [htq3, up2_ne _ _ (by omega)]) (by rw [htq3, up2_s]; have := sk_rng hx hzx.1 hzx.2; omega) (fun _ => rfl)
                    have ho_tq3 : tOK tq3 5 ∧ tOK tq3 7 ∧ tOK tq3 9 := by rw [htq3]; exact ⟨tOK_k (by decide) hoz.1, tOK_k (by decide) hoz.2.1, tOK_k (by decide) hoz.2.2⟩
                    refine r_aload_n X dX3_readClause_135 hl 1 rfl ?_
                    refine vF_v X Y [] [] (ct_X3_readEnd l g tq3 fz x n h_tq3) mk_X3_readEnd mi_X3_readEnd wm_389 (by decide) (rv_3 Y rfl) rfl hl (Nat.le_of_ble_eq_true rfl) rfl dX3_readClause_136 (Nat.zero_le _) (Nat.zero_le _) (fun H locs Y => ?_)
                    obtain ⟨tq4, htq4⟩ : ∃ q, q = if x (tq3 3 2) = 59 then up2 tq3 3 2 (tq3 3 2 + 1) else up2 (up2 tq3 3 3 1) 3 4 (tq3 3 2) := ⟨_, rfl⟩
                    have Y : uY g 117 (cX g tq4 fz) s H locs := by rw [htq4]; exact Y
                    exact ret _ _ _ _ _ _ dX3_readClause_139 Y (CLQ_end hw ek ewd hbd (by omega) hoz hI (by omega) (by omega) htq3 ⟨h_tq3.2.2.2.1, h_tq3.2.2.2.2, fun q => txt_lt hx h_tq3.2.2.2.1 (by omega)⟩ htq4)
                · refine r_aload_n X dX3_readClause_90 hl 1 rfl ?_
                  refine g_3_3 (k := 3) X Y rfl wm_138 dX3_readClause_91 ?_
                  refine r_if_ne X (tgt := 124) dX3_readClause_94 (by decide) ⟨by omega, by omega⟩ (fun c94 => ?_) (fun c94 => ?_)
                  · refine r_aload_n X dX3_readClause_124 hl 1 rfl ?_
                    refine g_3_3 (k := 3) X Y rfl wm_138 dX3_readClause_125 ?_
                    refine r_if_ne X (tgt := 139) dX3_readClause_128 (by decide) ⟨by omega, by omega⟩ (fun c128 => ?_) (fun c128 => ?_)
                    · exact ret _ _ _ _ _ _ dX3_readClause_139 Y (CLQ_num hw ek ewd hbd (by omega) hzx hoz hI c128)
                    · exact absurd c128 c94
                  · refine r_aload_n X dX3_readClause_97 hl 1 rfl ?_
                    refine vF_v X Y [] [] (ct_X3_skipBlanks l g tz fz x n h_tz) mk_X3_skipBlanks mi_X3_skipBlanks wm_340 (by decide) (rv_3 Y rfl) rfl hl (Nat.le_of_ble_eq_true rfl) rfl dX3_readClause_98 (Nat.zero_le _) (Nat.zero_le _) (fun H locs Y => ?_)
                    obtain ⟨tq3, htq3⟩ : ∃ q, q = up2 tz 3 2 (sk x (tz 3 2)) := ⟨_, rfl⟩
                    have Y : uY g 117 (cX g tq3 fz) s H locs := by rw [htq3]; exact Y
                    have h_tq3 : TX tq3 fz x n := h_tz.of (by rw [htq3, up2_ne _ _ (by omega)]) (by rw [htq3, up2_s]; have := sk_rng hx hzx.1 hzx.2; omega) (fun _ => rfl)
                    have ho_tq3 : tOK tq3 5 ∧ tOK tq3 7 ∧ tOK tq3 9 := by rw [htq3]; exact ⟨tOK_k (by decide) hoz.1, tOK_k (by decide) hoz.2.1, tOK_k (by decide) hoz.2.2⟩
                    refine r_aload_n X dX3_readClause_101 hl 3 rfl ?_
                    refine r_iload_n X dX3_readClause_102 hl 4 rfl ?_
                    refine r_iload X dX3_readClause_103 hl 0 rfl ?_
                    refine r_aload_n X dX3_readClause_105 hl 1 rfl ?_
                    refine r_iload_n X dX3_readClause_106 hl 2 rfl ?_
                    refine r_iconst X dX3_readClause_107 ?_
                    refine r_imul X dX3_readClause_108 ?_
                    refine r_iload X dX3_readClause_109 hl 0 rfl ?_
                    refine r_iadd X dX3_readClause_111 ?_
                    refine vF_i X Y [.int (iV ((w * 4) + j))] [.int (iV (j)), .int (iV (t 5 3)), .ref (g.1 + 5)] (ct_X3_readNumber l g tq3 fz ((w * 4) + j) x n h_tq3 ⟨by omega, by omega⟩) mk_X3_readNumber mi_X3_readNumber wm_374 (by decide) (rv_3 Y rfl) rfl hl (Nat.le_of_ble_eq_true rfl) rfl dX3_readClause_112 (Nat.zero_le _) (Nat.zero_le _) (fun H locs Y => ?_)
                    obtain ⟨tq4, htq4⟩ : ∃ q, q = rnT tq3 x ((w * 4) + j) := ⟨_, rfl⟩
                    have Y : uY g 117 (cX g tq4 fz) s H locs := by rw [htq4]; exact Y
                    have h_tq4 : TX tq4 fz x n := h_tq3.of (by rw [htq4]; exact rnT_off (by decide)) (by rw [htq4, rnT_2]; have := dE_rng hx h_tq3.2.2.2.1 h_tq3.2.2.2.2; have := h_tq3.2.2.2; omega) (fun _ => rfl)
                    have ho_tq4 : tOK tq4 5 ∧ tOK tq4 7 ∧ tOK tq4 9 := by rw [htq4]; exact ⟨tOK_rn (by decide) ho_tq3.1, tOK_rn (by decide) ho_tq3.2.1, tOK_rn (by decide) ho_tq3.2.2⟩
                    have hkb : tq4 5 3 = t 5 3 + 1 := by rw [htq4, rnT_off (by decide), htq3, up2_k _ _ _ _ (by decide), htk]
                    refine vF_v X Y [.int (iV (t 5 3)), .int (iV (j)), .int (iV (dV x (tq3 3 2)))] [] (ct_X5_set l g tq4 fz 5 (t 5 3) j (dV x (tq3 3 2)) rfl ho_tq4.1 ⟨by omega, by omega⟩ ⟨by omega, by omega⟩) mk_X5_set mi_X5_set wm_388 (by decide) (rv_5 Y rfl) rfl hl (Nat.le_of_ble_eq_true rfl) rfl dX3_readClause_115 (Nat.zero_le _) (Nat.zero_le _) (fun H locs Y => ?_)
                    obtain ⟨fq5, hfq5⟩ : ∃ q, q = tset tq4 fz 5 (t 5 3) j (dV x (tq3 3 2)) := ⟨_, rfl⟩
                    have Y : uY g 117 (cX g tq4 fq5) s H locs := by rw [hfq5]; exact Y
                    have hfu : fq5 = upA fz (5 + 1) (t 5 3 * ((4 : Nat) : Int) + j) (dV x (tq3 3 2)) := by rw [hfq5]; unfold tset; rw [if_pos ⟨by omega, by omega, by omega, by omega⟩]; rfl
                    have hI_tq4 : CLI x w 5 4 t f tq4 fq5 (j + 1) := CLI_step (n := 0) (by decide) hI (by omega) hj0 (by omega) htq3 htq4 rfl hfu
                    have hx_tq4 : TX tq4 fq5 x n := h_tq4.of rfl h_tq4.2.2.2 (fun i => by rw [hfu]; exact upA_k _ _ _ _ (by decide))
                    refine r_iinc X dX3_readClause_118 hl 0 rfl [(4, .int (iV (j + 1))), (0, .ref (g.1 + 3)), (1, .int (iV (w))), (2, .ref (g.1 + 5)), (3, .int (iV (t 5 3)))] (by decide) rfl (fun ls hl => ?_)
                    refine r_goto X 81 dX3_readClause_121 (by decide) ?_
                    exact ih (j + 1) tq4 fq5 (by omega) (by omega) hx_tq4 ho_tq4 hI_tq4 _ _ _ (by omega) Y (lv_sub hl [0, 1, 2, 3, 4] rfl)
            exact loop81 (((4 - (0 : Int)).toNat) + 1) 0 tq2 f (by omega) (by omega) (CLI_tx h hlt (by decide) (show t 5 3 < tm 5 by omega) htq1 htq2) (CLI_ok ho htq1 htq2) (CLI_init (w := w) (wd := 4) (by decide) h33 (show t 5 3 < tm 5 by omega) htq1 htq2) _ _ _ (Nat.lt_succ_self _) Y (lv_sub hl [0, 4, 3, 2, 1] rfl)
          · refine r_aload_n X dX3_readClause_53 hl 2 rfl ?_
            refine r_iconst X dX3_readClause_54 ?_
            refine r_aload_n X dX3_readClause_55 hl 2 rfl ?_
            refine g_3_2 (k := 3) X Y rfl wm_137 dX3_readClause_56 ?_
            refine vF_v X Y [.int (iV (3)), .int (iV (t 3 2))] [] (ct_X3_refuse l g t f 3 (t 3 2)) mk_X3_refuse mi_X3_refuse wm_360 (by decide) (rv_3 Y rfl) rfl hl (Nat.le_of_ble_eq_true rfl) rfl dX3_readClause_59 (Nat.zero_le _) (Nat.zero_le _) (fun H locs Y => ?_)
            obtain ⟨tq1, htq1⟩ : ∃ q, q = up2 (up2 t 3 3 3) 3 4 (t 3 2) := ⟨_, rfl⟩
            have Y : uY g 117 (cX g tq1 f) s H locs := by rw [htq1]; exact Y
            exact ret _ _ _ _ _ _ dX3_readClause_62 Y (CLQ_full hp ho (by rw [hw]; exact hbd) (by rw [hw, ← ek]; omega) htq1)
        · have ek : 7 = tbC w := by rw [hw0]; rfl
          have ewd : ((3 : Nat) : Int) = wdt w := by rw [hw0]; rfl
          have etw : tw 7 = 3 := rfl
          refine r_aload_n X dX3_readClause_40 hl 1 rfl ?_
          refine r_iload_n X dX3_readClause_41 hl 0 rfl ?_
          refine vF_q X Y [.int (iV (w))] [] (ct_X3_clausesOf_1 l g t f w (by omega)) mk_X3_clausesOf mi_X3_clausesOf wm_364 (by decide) (rv_3 Y rfl) rfl hl (Nat.le_of_ble_eq_true rfl) rfl dX3_readClause_42 (Nat.zero_le _) (Nat.zero_le _) (fun H locs Y => ?_)
          refine r_astore_n X dX3_readClause_45 hl [(2, .ref (g.1 + 7)), (1, .int (iV (w))), (0, .ref (g.1 + 3))] (by decide) rfl (fun ls hl => ?_)
          refine r_aload_n X dX3_readClause_46 hl 0 rfl ?_
          refine vF_i X Y [] [] (ct_X5_isFull l g t f 7 rfl ho.2.1) mk_X5_isFull mi_X5_isFull wm_368 (by decide) (rv_5 Y rfl) rfl hl (Nat.le_of_ble_eq_true rfl) rfl dX3_readClause_47 (Nat.zero_le _) (Nat.zero_le _) (fun H locs Y => ?_)
          have qb47 := tfull_b t 7
          have qm47 : tm 7 = 7 := rfl
          refine r_if_eq X (tgt := 63) dX3_readClause_50 (by decide) ⟨by omega, by omega⟩ (fun c50 => ?_) (fun c50 => ?_)
          · refine r_aload_n X dX3_readClause_63 hl 2 rfl ?_
            refine r_dup X dX3_readClause_64 rfl ?_
            refine g_3_2 (k := 3) X Y rfl wm_137 dX3_readClause_65 ?_
            refine r_iconst X dX3_readClause_68 ?_
            refine r_iadd X dX3_readClause_69 ?_
            refine p_3_2 (k := 3) X Y rfl wm_137 dX3_readClause_70 (fun H locs Y => ?_)
            obtain ⟨tq1, htq1⟩ : ∃ q, q = up2 t 3 2 ((t 3 2) + 1) := ⟨_, rfl⟩
            have Y : uY g 117 (cX g tq1 f) s H locs := by rw [htq1]; exact Y
            have ho_tq1 : tOK tq1 5 ∧ tOK tq1 7 ∧ tOK tq1 9 := by rw [htq1]; exact ⟨tOK_k (by decide) ho.1, tOK_k (by decide) ho.2.1, tOK_k (by decide) ho.2.2⟩
            refine r_aload_n X dX3_readClause_73 hl 0 rfl ?_
            refine vF_i X Y [] [] (ct_X5_open l g tq1 f 7 rfl ho_tq1.2.1) mk_X5_open mi_X5_open wm_369 (by decide) (rv_5 Y rfl) rfl hl (Nat.le_of_ble_eq_true rfl) rfl dX3_readClause_74 (Nat.zero_le _) (Nat.zero_le _) (fun H locs Y => ?_)
            obtain ⟨tq2, htq2⟩ : ∃ q, q = topenT tq1 7 := ⟨_, rfl⟩
            have Y : uY g 117 (cX g tq2 f) s H locs := by rw [htq2]; exact Y
            refine r_eq (z' := t 7 3) (opn_r (by decide) (show t 7 3 < tm 7 by omega) htq1) ?_
            refine r_istore_n X dX3_readClause_77 hl [(3, .int (iV (t 7 3))), (2, .ref (g.1 + 7)), (1, .int (iV (w))), (0, .ref (g.1 + 3))] (by decide) rfl (fun ls hl => ?_)
            refine r_iconst X dX3_readClause_78 ?_
            refine r_istore X dX3_readClause_79 hl [(4, .int (iV (0))), (3, .int (iV (t 7 3))), (2, .ref (g.1 + 7)), (1, .int (iV (w))), (0, .ref (g.1 + 3))] (by decide) rfl (fun ls hl => ?_)
            have loop81 : ∀ (N : Nat) (j : Int) (tz : uN) (fz : uF) (hj0 : 0 ≤ j) (hj1 : j ≤ 3) (h_tz : TX tz fz x n) (hoz : tOK tz 5 ∧ tOK tz 7 ∧ tOK tz 9) (hI : CLI x w 7 3 t f tz fz j) (H : Heap) (locs : List Loc) (ls : Array Slot), (3 - j).toNat < N → uY g 117 (cX g tz fz) s H locs → lv_has ls 5 [(4, .int (iV (j))), (0, .ref (g.1 + 3)), (1, .int (iV (w))), (2, .ref (g.1 + 7)), (3, .int (iV (t 7 3)))] → W p l e R s m args below meth c H locs 0 0 Q (F0 m 81 ls []) := by
              intro N
              induction N with
              | zero => intro j tz fz hj0 hj1 h_tz hoz hI H locs ls hmu Y hl; exact absurd hmu (Nat.not_lt_zero _)
              | succ N ih =>
                intro j tz fz hj0 hj1 h_tz hoz hI H locs ls hmu Y hl
                have hzx := h_tz.2.2.2
                have hk3 := CLI_rng hI
                have htk : tz 7 3 = t 7 3 + 1 := (hI.2.1 7 (by decide)).trans (if_pos rfl)
                refine r_iload X dX3_readClause_81 hl 0 rfl ?_
                refine r_aload_n X dX3_readClause_83 hl 3 rfl ?_
                refine vF_i X Y [] [.int (iV (j))] (ct_X5_width l g tz fz 7 rfl) mk_X5_width mi_X5_width wm_370 (by decide) (rv_5 Y rfl) rfl hl (Nat.le_of_ble_eq_true rfl) rfl dX3_readClause_84 (Nat.zero_le _) (Nat.zero_le _) (fun H locs Y => ?_)
                refine r_icmp_ge X (tgt := 124) dX3_readClause_87 (by decide) ⟨by omega, by omega⟩ ⟨by omega, by omega⟩ (fun c87 => ?_) (fun c87 => ?_)
                · refine r_aload_n X dX3_readClause_124 hl 1 rfl ?_
                  refine g_3_3 (k := 3) X Y rfl wm_138 dX3_readClause_125 ?_
                  refine r_if_ne X (tgt := 139) dX3_readClause_128 (by decide) ⟨by omega, by omega⟩ (fun c128 => ?_) (fun c128 => ?_)
                  · exact ret _ _ _ _ _ _ dX3_readClause_139 Y (CLQ_num hw ek ewd hbd (by omega) hzx hoz hI c128)
                  · refine r_aload_n X dX3_readClause_131 hl 1 rfl ?_
                    refine vF_v X Y [] [] (ct_X3_skipBlanks l g tz fz x n h_tz) mk_X3_skipBlanks mi_X3_skipBlanks wm_340 (by decide) (rv_3 Y rfl) rfl hl (Nat.le_of_ble_eq_true rfl) rfl dX3_readClause_132 (Nat.zero_le _) (Nat.zero_le _) (fun H locs Y => ?_)
                    obtain ⟨tq3, htq3⟩ : ∃ q, q = up2 tz 3 2 (sk x (tz 3 2)) := ⟨_, rfl⟩
                    have Y : uY g 117 (cX g tq3 fz) s H locs := by rw [htq3]; exact Y
                    have h_tq3 : TX tq3 fz x n := h_tz.of (by rw [htq3, up2_ne _ _ (by omega)]) (by rw [htq3, up2_s]; have := sk_rng hx hzx.1 hzx.2; omega) (fun _ => rfl)
                    have ho_tq3 : tOK tq3 5 ∧ tOK tq3 7 ∧ tOK tq3 9 := by rw [htq3]; exact ⟨tOK_k (by decide) hoz.1, tOK_k (by decide) hoz.2.1, tOK_k (by decide) hoz.2.2⟩
                    refine r_aload_n X dX3_readClause_135 hl 1 rfl ?_
                    refine vF_v X Y [] [] (ct_X3_readEnd l g tq3 fz x n h_tq3) mk_X3_readEnd mi_X3_readEnd wm_389 (by decide) (rv_3 Y rfl) rfl hl (Nat.le_of_ble_eq_true rfl) rfl dX3_readClause_136 (Nat.zero_le _) (Nat.zero_le _) (fun H locs Y => ?_)
                    obtain ⟨tq4, htq4⟩ : ∃ q, q = if x (tq3 3 2) = 59 then up2 tq3 3 2 (tq3 3 2 + 1) else up2 (up2 tq3 3 3 1) 3 4 (tq3 3 2) := ⟨_, rfl⟩
                    have Y : uY g 117 (cX g tq4 fz) s H locs := by rw [htq4]; exact Y
                    exact ret _ _ _ _ _ _ dX3_readClause_139 Y (CLQ_end hw ek ewd hbd (by omega) hoz hI (by omega) (by omega) htq3 ⟨h_tq3.2.2.2.1, h_tq3.2.2.2.2, fun q => txt_lt hx h_tq3.2.2.2.1 (by omega)⟩ htq4)
                · refine r_aload_n X dX3_readClause_90 hl 1 rfl ?_
                  refine g_3_3 (k := 3) X Y rfl wm_138 dX3_readClause_91 ?_
                  refine r_if_ne X (tgt := 124) dX3_readClause_94 (by decide) ⟨by omega, by omega⟩ (fun c94 => ?_) (fun c94 => ?_)
                  · refine r_aload_n X dX3_readClause_124 hl 1 rfl ?_
                    refine g_3_3 (k := 3) X Y rfl wm_138 dX3_readClause_125 ?_
                    refine r_if_ne X (tgt := 139) dX3_readClause_128 (by decide) ⟨by omega, by omega⟩ (fun c128 => ?_) (fun c128 => ?_)
                    · exact ret _ _ _ _ _ _ dX3_readClause_139 Y (CLQ_num hw ek ewd hbd (by omega) hzx hoz hI c128)
                    · exact absurd c128 c94
                  · refine r_aload_n X dX3_readClause_97 hl 1 rfl ?_
                    refine vF_v X Y [] [] (ct_X3_skipBlanks l g tz fz x n h_tz) mk_X3_skipBlanks mi_X3_skipBlanks wm_340 (by decide) (rv_3 Y rfl) rfl hl (Nat.le_of_ble_eq_true rfl) rfl dX3_readClause_98 (Nat.zero_le _) (Nat.zero_le _) (fun H locs Y => ?_)
                    obtain ⟨tq3, htq3⟩ : ∃ q, q = up2 tz 3 2 (sk x (tz 3 2)) := ⟨_, rfl⟩
                    have Y : uY g 117 (cX g tq3 fz) s H locs := by rw [htq3]; exact Y
                    have h_tq3 : TX tq3 fz x n := h_tz.of (by rw [htq3, up2_ne _ _ (by omega)]) (by rw [htq3, up2_s]; have := sk_rng hx hzx.1 hzx.2; omega) (fun _ => rfl)
                    have ho_tq3 : tOK tq3 5 ∧ tOK tq3 7 ∧ tOK tq3 9 := by rw [htq3]; exact ⟨tOK_k (by decide) hoz.1, tOK_k (by decide) hoz.2.1, tOK_k (by decide) hoz.2.2⟩
                    refine r_aload_n X dX3_readClause_101 hl 3 rfl ?_
                    refine r_iload_n X dX3_readClause_102 hl 4 rfl ?_
                    refine r_iload X dX3_readClause_103 hl 0 rfl ?_
                    refine r_aload_n X dX3_readClause_105 hl 1 rfl ?_
                    refine r_iload_n X dX3_readClause_106 hl 2 rfl ?_
                    refine r_iconst X dX3_readClause_107 ?_
                    refine r_imul X dX3_readClause_108 ?_
                    refine r_iload X dX3_readClause_109 hl 0 rfl ?_
                    refine r_iadd X dX3_readClause_111 ?_
                    refine vF_i X Y [.int (iV ((w * 4) + j))] [.int (iV (j)), .int (iV (t 7 3)), .ref (g.1 + 7)] (ct_X3_readNumber l g tq3 fz ((w * 4) + j) x n h_tq3 ⟨by omega, by omega⟩) mk_X3_readNumber mi_X3_readNumber wm_374 (by decide) (rv_3 Y rfl) rfl hl (Nat.le_of_ble_eq_true rfl) rfl dX3_readClause_112 (Nat.zero_le _) (Nat.zero_le _) (fun H locs Y => ?_)
                    obtain ⟨tq4, htq4⟩ : ∃ q, q = rnT tq3 x ((w * 4) + j) := ⟨_, rfl⟩
                    have Y : uY g 117 (cX g tq4 fz) s H locs := by rw [htq4]; exact Y
                    have h_tq4 : TX tq4 fz x n := h_tq3.of (by rw [htq4]; exact rnT_off (by decide)) (by rw [htq4, rnT_2]; have := dE_rng hx h_tq3.2.2.2.1 h_tq3.2.2.2.2; have := h_tq3.2.2.2; omega) (fun _ => rfl)
                    have ho_tq4 : tOK tq4 5 ∧ tOK tq4 7 ∧ tOK tq4 9 := by rw [htq4]; exact ⟨tOK_rn (by decide) ho_tq3.1, tOK_rn (by decide) ho_tq3.2.1, tOK_rn (by decide) ho_tq3.2.2⟩
                    have hkb : tq4 7 3 = t 7 3 + 1 := by rw [htq4, rnT_off (by decide), htq3, up2_k _ _ _ _ (by decide), htk]
                    refine vF_v X Y [.int (iV (t 7 3)), .int (iV (j)), .int (iV (dV x (tq3 3 2)))] [] (ct_X5_set l g tq4 fz 7 (t 7 3) j (dV x (tq3 3 2)) rfl ho_tq4.2.1 ⟨by omega, by omega⟩ ⟨by omega, by omega⟩) mk_X5_set mi_X5_set wm_388 (by decide) (rv_5 Y rfl) rfl hl (Nat.le_of_ble_eq_true rfl) rfl dX3_readClause_115 (Nat.zero_le _) (Nat.zero_le _) (fun H locs Y => ?_)
                    obtain ⟨fq5, hfq5⟩ : ∃ q, q = tset tq4 fz 7 (t 7 3) j (dV x (tq3 3 2)) := ⟨_, rfl⟩
                    have Y : uY g 117 (cX g tq4 fq5) s H locs := by rw [hfq5]; exact Y
                    have hfu : fq5 = upA fz (7 + 1) (t 7 3 * ((3 : Nat) : Int) + j) (dV x (tq3 3 2)) := by rw [hfq5]; unfold tset; rw [if_pos ⟨by omega, by omega, by omega, by omega⟩]; rfl
                    have hI_tq4 : CLI x w 7 3 t f tq4 fq5 (j + 1) := CLI_step (n := 0) (by decide) hI (by omega) hj0 (by omega) htq3 htq4 rfl hfu
                    have hx_tq4 : TX tq4 fq5 x n := h_tq4.of rfl h_tq4.2.2.2 (fun i => by rw [hfu]; exact upA_k _ _ _ _ (by decide))
                    refine r_iinc X dX3_readClause_118 hl 0 rfl [(4, .int (iV (j + 1))), (0, .ref (g.1 + 3)), (1, .int (iV (w))), (2, .ref (g.1 + 7)), (3, .int (iV (t 7 3)))] (by decide) rfl (fun ls hl => ?_)
                    refine r_goto X 81 dX3_readClause_121 (by decide) ?_
                    exact ih (j + 1) tq4 fq5 (by omega) (by omega) hx_tq4 ho_tq4 hI_tq4 _ _ _ (by omega) Y (lv_sub hl [0, 1, 2, 3, 4] rfl)
            exact loop81 (((3 - (0 : Int)).toNat) + 1) 0 tq2 f (by omega) (by omega) (CLI_tx h hlt (by decide) (show t 7 3 < tm 7 by omega) htq1 htq2) (CLI_ok ho htq1 htq2) (CLI_init (w := w) (wd := 3) (by decide) h33 (show t 7 3 < tm 7 by omega) htq1 htq2) _ _ _ (Nat.lt_succ_self _) Y (lv_sub hl [0, 4, 3, 2, 1] rfl)
          · refine r_aload_n X dX3_readClause_53 hl 2 rfl ?_
            refine r_iconst X dX3_readClause_54 ?_
            refine r_aload_n X dX3_readClause_55 hl 2 rfl ?_
            refine g_3_2 (k := 3) X Y rfl wm_137 dX3_readClause_56 ?_
            refine vF_v X Y [.int (iV (3)), .int (iV (t 3 2))] [] (ct_X3_refuse l g t f 3 (t 3 2)) mk_X3_refuse mi_X3_refuse wm_360 (by decide) (rv_3 Y rfl) rfl hl (Nat.le_of_ble_eq_true rfl) rfl dX3_readClause_59 (Nat.zero_le _) (Nat.zero_le _) (fun H locs Y => ?_)
            obtain ⟨tq1, htq1⟩ : ∃ q, q = up2 (up2 t 3 3 3) 3 4 (t 3 2) := ⟨_, rfl⟩
            have Y : uY g 117 (cX g tq1 f) s H locs := by rw [htq1]; exact Y
            exact ret _ _ _ _ _ _ dX3_readClause_62 Y (CLQ_full hp ho (by rw [hw]; exact hbd) (by rw [hw, ← ek]; omega) htq1)
        · have ek : 9 = tbC w := by rw [hw0]; rfl
          have ewd : ((2 : Nat) : Int) = wdt w := by rw [hw0]; rfl
          have etw : tw 9 = 2 := rfl
          refine r_aload_n X dX3_readClause_40 hl 1 rfl ?_
          refine r_iload_n X dX3_readClause_41 hl 0 rfl ?_
          refine vF_q X Y [.int (iV (w))] [] (ct_X3_clausesOf_2 l g t f w (by omega)) mk_X3_clausesOf mi_X3_clausesOf wm_364 (by decide) (rv_3 Y rfl) rfl hl (Nat.le_of_ble_eq_true rfl) rfl dX3_readClause_42 (Nat.zero_le _) (Nat.zero_le _) (fun H locs Y => ?_)
          refine r_astore_n X dX3_readClause_45 hl [(2, .ref (g.1 + 9)), (1, .int (iV (w))), (0, .ref (g.1 + 3))] (by decide) rfl (fun ls hl => ?_)
          refine r_aload_n X dX3_readClause_46 hl 0 rfl ?_
          refine vF_i X Y [] [] (ct_X5_isFull l g t f 9 rfl ho.2.2) mk_X5_isFull mi_X5_isFull wm_368 (by decide) (rv_5 Y rfl) rfl hl (Nat.le_of_ble_eq_true rfl) rfl dX3_readClause_47 (Nat.zero_le _) (Nat.zero_le _) (fun H locs Y => ?_)
          have qb47 := tfull_b t 9
          have qm47 : tm 9 = 5 := rfl
          refine r_if_eq X (tgt := 63) dX3_readClause_50 (by decide) ⟨by omega, by omega⟩ (fun c50 => ?_) (fun c50 => ?_)
          · refine r_aload_n X dX3_readClause_63 hl 2 rfl ?_
            refine r_dup X dX3_readClause_64 rfl ?_
            refine g_3_2 (k := 3) X Y rfl wm_137 dX3_readClause_65 ?_
            refine r_iconst X dX3_readClause_68 ?_
            refine r_iadd X dX3_readClause_69 ?_
            refine p_3_2 (k := 3) X Y rfl wm_137 dX3_readClause_70 (fun H locs Y => ?_)
            obtain ⟨tq1, htq1⟩ : ∃ q, q = up2 t 3 2 ((t 3 2) + 1) := ⟨_, rfl⟩
            have Y : uY g 117 (cX g tq1 f) s H locs := by rw [htq1]; exact Y
            have ho_tq1 : tOK tq1 5 ∧ tOK tq1 7 ∧ tOK tq1 9 := by rw [htq1]; exact ⟨tOK_k (by decide) ho.1, tOK_k (by decide) ho.2.1, tOK_k (by decide) ho.2.2⟩
            refine r_aload_n X dX3_readClause_73 hl 0 rfl ?_
            refine vF_i X Y [] [] (ct_X5_open l g tq1 f 9 rfl ho_tq1.2.2) mk_X5_open mi_X5_open wm_369 (by decide) (rv_5 Y rfl) rfl hl (Nat.le_of_ble_eq_true rfl) rfl dX3_readClause_74 (Nat.zero_le _) (Nat.zero_le _) (fun H locs Y => ?_)
            obtain ⟨tq2, htq2⟩ : ∃ q, q = topenT tq1 9 := ⟨_, rfl⟩
            have Y : uY g 117 (cX g tq2 f) s H locs := by rw [htq2]; exact Y
            refine r_eq (z' := t 9 3) (opn_r (by decide) (show t 9 3 < tm 9 by omega) htq1) ?_
            refine r_istore_n X dX3_readClause_77 hl [(3, .int (iV (t 9 3))), (2, .ref (g.1 + 9)), (1, .int (iV (w))), (0, .ref (g.1 + 3))] (by decide) rfl (fun ls hl => ?_)
            refine r_iconst X dX3_readClause_78 ?_
            refine r_istore X dX3_readClause_79 hl [(4, .int (iV (0))), (3, .int (iV (t 9 3))), (2, .ref (g.1 + 9)), (1, .int (iV (w))), (0, .ref (g.1 + 3))] (by decide) rfl (fun ls hl => ?_)
            have loop81 : ∀ (N : Nat) (j : Int) (tz : uN) (fz : uF) (hj0 : 0 ≤ j) (hj1 : j ≤ 2) (h_tz : TX tz fz x n) (hoz : tOK tz 5 ∧ tOK tz 7 ∧ tOK tz 9) (hI : CLI x w 9 2 t f tz fz j) (H : Heap) (locs : List Loc) (ls : Array Slot), (2 - j).toNat < N → uY g 117 (cX g tz fz) s H locs → lv_has ls 5 [(4, .int (iV (j))), (0, .ref (g.1 + 3)), (1, .int (iV (w))), (2, .ref (g.1 + 9)), (3, .int (iV (t 9 3)))] → W p l e R s m args below meth c H locs 0 0 Q (F0 m 81 ls []) := by
              intro N
              induction N with
              | zero => intro j tz fz hj0 hj1 h_tz hoz hI H locs ls hmu Y hl; exact absurd hmu (Nat.not_lt_zero _)
              | succ N ih =>
                intro j tz fz hj0 hj1 h_tz hoz hI H locs ls hmu Y hl
                have hzx := h_tz.2.2.2
                have hk3 := CLI_rng hI
                have htk : tz 9 3 = t 9 3 + 1 := (hI.2.1 9 (by decide)).trans (if_pos rfl)
                refine r_iload X dX3_readClause_81 hl 0 rfl ?_
                refine r_aload_n X dX3_readClause_83 hl 3 rfl ?_
                refine vF_i X Y [] [.int (iV (j))] (ct_X5_width l g tz fz 9 rfl) mk_X5_width mi_X5_width wm_370 (by decide) (rv_5 Y rfl) rfl hl (Nat.le_of_ble_eq_true rfl) rfl dX3_readClause_84 (Nat.zero_le _) (Nat.zero_le _) (fun H locs Y => ?_)
                refine r_icmp_ge X (tgt := 124) dX3_readClause_87 (by decide) ⟨by omega, by omega⟩ ⟨by omega, by omega⟩ (fun c87 => ?_) (fun c87 => ?_)
                · refine r_aload_n X dX3_readClause_124 hl 1 rfl ?_
                  refine g_3_3 (k := 3) X Y rfl wm_138 dX3_readClause_125 ?_
                  refine r_if_ne X (tgt := 139) dX3_readClause_128 (by decide) ⟨by omega, by omega⟩ (fun c128 => ?_) (fun c128 => ?_)
                  · exact ret _ _ _ _ _ _ dX3_readClause_139 Y (CLQ_num hw ek ewd hbd (by omega) hzx hoz hI c128)
                  · refine r_aload_n X dX3_readClause_131 hl 1 rfl ?_
                    refine vF_v X Y [] [] (ct_X3_skipBlanks l g tz fz x n h_tz) mk_X3_skipBlanks mi_X3_skipBlanks wm_340 (by decide) (rv_3 Y rfl) rfl hl (Nat.le_of_ble_eq_true rfl) rfl dX3_readClause_132 (Nat.zero_le _) (Nat.zero_le _) (fun H locs Y => ?_)
                    obtain ⟨tq3, htq3⟩ : ∃ q, q = up2 tz 3 2 (sk x (tz 3 2)) := ⟨_, rfl⟩
                    have Y : uY g 117 (cX g tq3 fz) s H locs := by rw [htq3]; exact Y
                    have h_tq3 : TX tq3 fz x n := h_tz.of (by rw [htq3, up2_ne _ _ (by omega)]) (by rw [htq3, up2_s]; have := sk_rng hx hzx.1 hzx.2; omega) (fun _ => rfl)
                    have ho_tq3 : tOK tq3 5 ∧ tOK tq3 7 ∧ tOK tq3 9 := by rw [htq3]; exact ⟨tOK_k (by decide) hoz.1, tOK_k (by decide) hoz.2.1, tOK_k (by decide) hoz.2.2⟩
                    refine r_aload_n X dX3_readClause_135 hl 1 rfl ?_
                    refine vF_v X Y [] [] (ct_X3_readEnd l g tq3 fz x n h_tq3) mk_X3_readEnd mi_X3_readEnd wm_389 (by decide) (rv_3 Y rfl) rfl hl (Nat.le_of_ble_eq_true rfl) rfl dX3_readClause_136 (Nat.zero_le _) (Nat.zero_le _) (fun H locs Y => ?_)
                    obtain ⟨tq4, htq4⟩ : ∃ q, q = if x (tq3 3 2) = 59 then up2 tq3 3 2 (tq3 3 2 + 1) else up2 (up2 tq3 3 3 1) 3 4 (tq3 3 2) := ⟨_, rfl⟩
                    have Y : uY g 117 (cX g tq4 fz) s H locs := by rw [htq4]; exact Y
                    exact ret _ _ _ _ _ _ dX3_readClause_139 Y (CLQ_end hw ek ewd hbd (by omega) hoz hI (by omega) (by omega) htq3 ⟨h_tq3.2.2.2.1, h_tq3.2.2.2.2, fun q => txt_lt hx h_tq3.2.2.2.1 (by omega)⟩ htq4)
                · refine r_aload_n X dX3_readClause_90 hl 1 rfl ?_
                  refine g_3_3 (k := 3) X Y rfl wm_138 dX3_readClause_91 ?_
                  refine r_if_ne X (tgt := 124) dX3_readClause_94 (by decide) ⟨by omega, by omega⟩ (fun c94 => ?_) (fun c94 => ?_)
                  · refine r_aload_n X dX3_readClause_124 hl 1 rfl ?_
                    refine g_3_3 (k := 3) X Y rfl wm_138 dX3_readClause_125 ?_
                    refine r_if_ne X (tgt := 139) dX3_readClause_128 (by decide) ⟨by omega, by omega⟩ (fun c128 => ?_) (fun c128 => ?_)
                    · exact ret _ _ _ _ _ _ dX3_readClause_139 Y (CLQ_num hw ek ewd hbd (by omega) hzx hoz hI c128)
                    · exact absurd c128 c94
                  · refine r_aload_n X dX3_readClause_97 hl 1 rfl ?_
                    refine vF_v X Y [] [] (ct_X3_skipBlanks l g tz fz x n h_tz) mk_X3_skipBlanks mi_X3_skipBlanks wm_340 (by decide) (rv_3 Y rfl) rfl hl (Nat.le_of_ble_eq_true rfl) rfl dX3_readClause_98 (Nat.zero_le _) (Nat.zero_le _) (fun H locs Y => ?_)
                    obtain ⟨tq3, htq3⟩ : ∃ q, q = up2 tz 3 2 (sk x (tz 3 2)) := ⟨_, rfl⟩
                    have Y : uY g 117 (cX g tq3 fz) s H locs := by rw [htq3]; exact Y
                    have h_tq3 : TX tq3 fz x n := h_tz.of (by rw [htq3, up2_ne _ _ (by omega)]) (by rw [htq3, up2_s]; have := sk_rng hx hzx.1 hzx.2; omega) (fun _ => rfl)
                    have ho_tq3 : tOK tq3 5 ∧ tOK tq3 7 ∧ tOK tq3 9 := by rw [htq3]; exact ⟨tOK_k (by decide) hoz.1, tOK_k (by decide) hoz.2.1, tOK_k (by decide) hoz.2.2⟩
                    refine r_aload_n X dX3_readClause_101 hl 3 rfl ?_
                    refine r_iload_n X dX3_readClause_102 hl 4 rfl ?_
                    refine r_iload X dX3_readClause_103 hl 0 rfl ?_
                    refine r_aload_n X dX3_readClause_105 hl 1 rfl ?_
                    refine r_iload_n X dX3_readClause_106 hl 2 rfl ?_
                    refine r_iconst X dX3_readClause_107 ?_
                    refine r_imul X dX3_readClause_108 ?_
                    refine r_iload X dX3_readClause_109 hl 0 rfl ?_
                    refine r_iadd X dX3_readClause_111 ?_
                    refine vF_i X Y [.int (iV ((w * 4) + j))] [.int (iV (j)), .int (iV (t 9 3)), .ref (g.1 + 9)] (ct_X3_readNumber l g tq3 fz ((w * 4) + j) x n h_tq3 ⟨by omega, by omega⟩) mk_X3_readNumber mi_X3_readNumber wm_374 (by decide) (rv_3 Y rfl) rfl hl (Nat.le_of_ble_eq_true rfl) rfl dX3_readClause_112 (Nat.zero_le _) (Nat.zero_le _) (fun H locs Y => ?_)
                    obtain ⟨tq4, htq4⟩ : ∃ q, q = rnT tq3 x ((w * 4) + j) := ⟨_, rfl⟩
                    have Y : uY g 117 (cX g tq4 fz) s H locs := by rw [htq4]; exact Y
                    have h_tq4 : TX tq4 fz x n := h_tq3.of (by rw [htq4]; exact rnT_off (by decide)) (by rw [htq4, rnT_2]; have := dE_rng hx h_tq3.2.2.2.1 h_tq3.2.2.2.2; have := h_tq3.2.2.2; omega) (fun _ => rfl)
                    have ho_tq4 : tOK tq4 5 ∧ tOK tq4 7 ∧ tOK tq4 9 := by rw [htq4]; exact ⟨tOK_rn (by decide) ho_tq3.1, tOK_rn (by decide) ho_tq3.2.1, tOK_rn (by decide) ho_tq3.2.2⟩
                    have hkb : tq4 9 3 = t 9 3 + 1 := by rw [htq4, rnT_off (by decide), htq3, up2_k _ _ _ _ (by decide), htk]
                    refine vF_v X Y [.int (iV (t 9 3)), .int (iV (j)), .int (iV (dV x (tq3 3 2)))] [] (ct_X5_set l g tq4 fz 9 (t 9 3) j (dV x (tq3 3 2)) rfl ho_tq4.2.2 ⟨by omega, by omega⟩ ⟨by omega, by omega⟩) mk_X5_set mi_X5_set wm_388 (by decide) (rv_5 Y rfl) rfl hl (Nat.le_of_ble_eq_true rfl) rfl dX3_readClause_115 (Nat.zero_le _) (Nat.zero_le _) (fun H locs Y => ?_)
                    obtain ⟨fq5, hfq5⟩ : ∃ q, q = tset tq4 fz 9 (t 9 3) j (dV x (tq3 3 2)) := ⟨_, rfl⟩
                    have Y : uY g 117 (cX g tq4 fq5) s H locs := by rw [hfq5]; exact Y
                    have hfu : fq5 = upA fz (9 + 1) (t 9 3 * ((2 : Nat) : Int) + j) (dV x (tq3 3 2)) := by rw [hfq5]; unfold tset; rw [if_pos ⟨by omega, by omega, by omega, by omega⟩]; rfl
                    have hI_tq4 : CLI x w 9 2 t f tq4 fq5 (j + 1) := CLI_step (n := 0) (by decide) hI (by omega) hj0 (by omega) htq3 htq4 rfl hfu
                    have hx_tq4 : TX tq4 fq5 x n := h_tq4.of rfl h_tq4.2.2.2 (fun i => by rw [hfu]; exact upA_k _ _ _ _ (by decide))
                    refine r_iinc X dX3_readClause_118 hl 0 rfl [(4, .int (iV (j + 1))), (0, .ref (g.1 + 3)), (1, .int (iV (w))), (2, .ref (g.1 + 9)), (3, .int (iV (t 9 3)))] (by decide) rfl (fun ls hl => ?_)
                    refine r_goto X 81 dX3_readClause_121 (by decide) ?_
                    exact ih (j + 1) tq4 fq5 (by omega) (by omega) hx_tq4 ho_tq4 hI_tq4 _ _ _ (by omega) Y (lv_sub hl [0, 1, 2, 3, 4] rfl)
            exact loop81 (((2 - (0 : Int)).toNat) + 1) 0 tq2 f (by omega) (by omega) (CLI_tx h hlt (by decide) (show t 9 3 < tm 9 by omega) htq1 htq2) (CLI_ok ho htq1 htq2) (CLI_init (w := w) (wd := 2) (by decide) h33 (show t 9 3 < tm 9 by omega) htq1 htq2) _ _ _ (Nat.lt_succ_self _) Y (lv_sub hl [0, 4, 3, 2, 1] rfl)
          · refine r_aload_n X dX3_readClause_53 hl 2 rfl ?_
            refine r_iconst X dX3_readClause_54 ?_
            refine r_aload_n X dX3_readClause_55 hl 2 rfl ?_
            refine g_3_2 (k := 3) X Y rfl wm_137 dX3_readClause_56 ?_
            refine vF_v X Y [.int (iV (3)), .int (iV (t 3 2))] [] (ct_X3_refuse l g t f 3 (t 3 2)) mk_X3_refuse mi_X3_refuse wm_360 (by decide) (rv_3 Y rfl) rfl hl (Nat.le_of_ble_eq_true rfl) rfl dX3_readClause_59 (Nat.zero_le _) (Nat.zero_le _) (fun H locs Y => ?_)
            obtain ⟨tq1, htq1⟩ : ∃ q, q = up2 (up2 t 3 3 3) 3 4 (t 3 2) := ⟨_, rfl⟩
            have Y : uY g 117 (cX g tq1 f) s H locs := by rw [htq1]; exact Y
            exact ret _ _ _ _ _ _ dX3_readClause_62 Y (CLQ_full hp ho (by rw [hw]; exact hbd) (by rw [hw, ← ek]; omega) htq1)
      · refine r_aload_n X dX3_readClause_30 hl 1 rfl ?_
        refine r_iconst X dX3_readClause_31 ?_
        refine r_aload_n X dX3_readClause_32 hl 1 rfl ?_
        refine g_3_2 (k := 3) X Y rfl wm_137 dX3_readClause_33 ?_
        refine vF_v X Y [.int (iV (1)), .int (iV (t 3 2))] [] (ct_X3_refuse l g t f 1 (t 3 2)) mk_X3_refuse mi_X3_refuse wm_360 (by decide) (rv_3 Y rfl) rfl hl (Nat.le_of_ble_eq_true rfl) rfl dX3_readClause_36 (Nat.zero_le _) (Nat.zero_le _) (fun H locs Y => ?_)
        obtain ⟨tq1, htq1⟩ : ∃ q, q = up2 (up2 t 3 3 1) 3 4 (t 3 2) := ⟨_, rfl⟩
        have Y : uY g 117 (cX g tq1 f) s H locs := by rw [htq1]; exact Y
        exact ret _ _ _ _ _ _ dX3_readClause_39 Y (CLQ_bad hp ho (by rw [hw]; unfold badW; omega) htq1)
set_option maxHeartbeats 4000000 in
set_option maxRecDepth 100000 in
theorem ct_X3_readText (l : Launch) (g : uG) (t : uN) (f : uF) (x : Int → Int) (n : Int) (hx : txt x n) (hn : t 1 3 = n) (hg : ∀ p, tget t f 1 p 0 = x p) : cR_i l yX3_readText cX3_readText 2 (some .int) 6 g [.ref (g.1 + 3)] t f (RTQ x n t f) := by
  refine eR_i (by decide +kernel) (Nat.le_of_ble_eq_true rfl) ?_
  intro p e R s m args below meth c Q ls H locs X Y hl ret
  have X : uX p 6 R s m args c cX3_readText 2 RX3 := X
  have hl : lv_has ls 2 [(0, .ref (g.1 + 3))] := hl
  have h11 : tOK t 1 := show 0 ≤ t 1 3 ∧ t 1 3 ≤ 220 by have := hx.1; omega
  refine r_aload_n X dX3_readText_0 hl 0 rfl ?_
  refine r_iconst X dX3_readText_1 ?_
  refine p_3_2 (k := 3) X Y rfl wm_137 dX3_readText_2 (fun H locs Y => ?_)
  obtain ⟨tq1, htq1⟩ : ∃ q, q = up2 t 3 2 (0) := ⟨_, rfl⟩
  have Y : uY g 117 (cX g tq1 f) s H locs := by rw [htq1]; exact Y
  refine r_aload_n X dX3_readText_5 hl 0 rfl ?_
  refine r_iconst X dX3_readText_6 ?_
  refine p_3_3 (k := 3) X Y rfl wm_138 dX3_readText_7 (fun H locs Y => ?_)
  obtain ⟨tq2, htq2⟩ : ∃ q, q = up2 tq1 3 3 (0) := ⟨_, rfl⟩
  have Y : uY g 117 (cX g tq2 f) s H locs := by rw [htq2]; exact Y
  refine r_aload_n X dX3_readText_10 hl 0 rfl ?_
  refine r_iconst X dX3_readText_11 ?_
  refine p_3_4 (k := 3) X Y rfl wm_139 dX3_readText_12 (fun H locs Y => ?_)
  obtain ⟨tq3, htq3⟩ : ∃ q, q = up2 tq2 3 4 ((-1)) := ⟨_, rfl⟩
  have Y : uY g 117 (cX g tq3 f) s H locs := by rw [htq3]; exact Y
  refine r_aload_n X dX3_readText_15 hl 0 rfl ?_
  refine g_3_1 (k := 3) X Y rfl wm_136 dX3_readText_16 ?_
  refine vF_v X Y [] [] (ct_X6_clear l g tq3 f) mk_X6_clear mi_X6_clear wm_332 (by decide) (rv_6 Y rfl) rfl hl (Nat.le_of_ble_eq_true rfl) rfl dX3_readText_19 (Nat.zero_le _) (Nat.zero_le _) (fun H locs Y => ?_)
  obtain ⟨tq4, htq4⟩ : ∃ q, q = up2 (up2 (up2 tq3 5 3 0) 7 3 0) 9 3 0 := ⟨_, rfl⟩
  have Y : uY g 117 (cX g tq4 f) s H locs := by rw [htq4]; exact Y
  have h4x : TX tq4 f x n := ⟨hx, by subst htq4 htq3 htq2 htq1; simp [up2, hn], fun p => by rw [← hg p]; exact tget_same (show tq4 1 3 = t 1 3 by subst htq4 htq3 htq2 htq1; simp [up2]) (fun _ => rfl) p 0, by subst htq4 htq3 htq2 htq1; have := hx.1; simp [up2]; omega⟩
  refine r_aload_n X dX3_readText_22 hl 0 rfl ?_
  refine vF_v X Y [] [] (ct_X3_skipBlanks l g tq4 f x n h4x) mk_X3_skipBlanks mi_X3_skipBlanks wm_340 (by decide) (rv_3 Y rfl) rfl hl (Nat.le_of_ble_eq_true rfl) rfl dX3_readText_23 (Nat.zero_le _) (Nat.zero_le _) (fun H locs Y => ?_)
  obtain ⟨tq5, htq5⟩ : ∃ q, q = up2 tq4 3 2 (sk x (tq4 3 2)) := ⟨_, rfl⟩
  have Y : uY g 117 (cX g tq5 f) s H locs := by rw [htq5]; exact Y
  refine r_iconst X dX3_readText_26 ?_
  refine r_istore_n X dX3_readText_27 hl [(1, .int (iV (0))), (0, .ref (g.1 + 3))] (by decide) rfl (fun ls hl => ?_)
  have loop28 : ∀ (N : Nat) (i : Int) (tz : uN) (fz : uF) (hI : RTI x n (paS x n 220 (sk x 0) (fun _ => 0) (fun _ _ => 0)) t f i tz fz) (H : Heap) (locs : List Loc) (ls : Array Slot), (220 - i).toNat < N → uY g 117 (cX g tz fz) s H locs → lv_has ls 2 [(1, .int (iV (i))), (0, .ref (g.1 + 3))] → W p l e R s m args below meth c H locs 0 0 Q (F0 m 28 ls []) := by
    intro N
    induction N with
    | zero => intro i tz fz hI H locs ls hmu Y hl; exact absurd hmu (Nat.not_lt_zero _)
    | succ N ih =>
      intro i tz fz hI H locs ls hmu Y hl
      have hi := hI.1
      have h_tz := hI.2.1
      have hoz := hI.2.2.1
      have e1n := h_tz.2.1
      have hnx := hx.1
      have hp := h_tz.2.2.2
      have hk3 := RTI_rng hI
      refine r_iload_n X dX3_readText_28 hl 0 rfl ?_
      refine r_sipush X 220 dX3_readText_29 (by decide) ?_
      refine r_icmp_ge X (tgt := 70) dX3_readText_32 (by decide) ⟨by omega, by omega⟩ ⟨by omega, by omega⟩ (fun c32 => ?_) (fun c32 => ?_)
      · refine r_aload_n X dX3_readText_70 hl 1 rfl ?_
        refine g_3_3 (k := 3) X Y rfl wm_138 dX3_readText_71 ?_
        exact ret _ _ _ _ _ _ _ dX3_readText_74 Y (RT_end hI (by omega))
      · refine r_aload_n X dX3_readText_35 hl 1 rfl ?_
        refine g_3_2 (k := 3) X Y rfl wm_137 dX3_readText_36 ?_
        refine r_aload_n X dX3_readText_39 hl 1 rfl ?_
        refine g_3_0 (k := 3) X Y rfl wm_135 dX3_readText_40 ?_
        refine vF_i X Y [] [.int (iV (tz 3 2))] (ct_X5_rows l g tz fz 1 rfl) mk_X5_rows mi_X5_rows wm_352 (by decide) (rv_5 Y rfl) rfl hl (Nat.le_of_ble_eq_true rfl) rfl dX3_readText_43 (Nat.zero_le _) (Nat.zero_le _) (fun H locs Y => ?_)
        refine r_icmp_ge X (tgt := 70) dX3_readText_46 (by decide) ⟨by omega, by omega⟩ ⟨by omega, by omega⟩ (fun c46 => ?_) (fun c46 => ?_)
        · refine r_aload_n X dX3_readText_70 hl 1 rfl ?_
          refine g_3_3 (k := 3) X Y rfl wm_138 dX3_readText_71 ?_
          exact ret _ _ _ _ _ _ _ dX3_readText_74 Y (RT_end hI (by omega))
        · refine r_aload_n X dX3_readText_49 hl 1 rfl ?_
          refine g_3_3 (k := 3) X Y rfl wm_138 dX3_readText_50 ?_
          refine r_if_ne X (tgt := 70) dX3_readText_53 (by decide) ⟨by omega, by omega⟩ (fun c53 => ?_) (fun c53 => ?_)
          · refine r_aload_n X dX3_readText_70 hl 1 rfl ?_
            refine g_3_3 (k := 3) X Y rfl wm_138 dX3_readText_71 ?_
            exact ret _ _ _ _ _ _ _ dX3_readText_74 Y (RT_end hI (by omega))
          · refine r_aload_n X dX3_readText_56 hl 1 rfl ?_
            refine vR_v X Y [] [] (ct_X3_readClause l g tz fz x n h_tz hoz (by omega)) mk_X3_readClause mi_X3_readClause wm_353 (by decide) (rv_3 Y rfl) rfl hl (Nat.le_of_ble_eq_true rfl) rfl dX3_readText_57 (Nat.zero_le _) (Nat.zero_le _) (fun tq6 fq6 H locs hq6 Y => ?_)
            have h_tq6 : TX tq6 fq6 x n := h_tz.of (hq6.1.1 1 3 (by omega) (by omega)) hq6.2.1 (fun k => hq6.1.2 2 k (by omega) (by omega) (by omega))
            refine r_aload_n X dX3_readText_60 hl 1 rfl ?_
            refine vF_v X Y [] [] (ct_X3_skipBlanks l g tq6 fq6 x n h_tq6) mk_X3_skipBlanks mi_X3_skipBlanks wm_340 (by decide) (rv_3 Y rfl) rfl hl (Nat.le_of_ble_eq_true rfl) rfl dX3_readText_61 (Nat.zero_le _) (Nat.zero_le _) (fun H locs Y => ?_)
            obtain ⟨tq7, htq7⟩ : ∃ q, q = up2 tq6 3 2 (sk x (tq6 3 2)) := ⟨_, rfl⟩
            have Y : uY g 117 (cX g tq7 fq6) s H locs := by rw [htq7]; exact Y
            refine r_iinc X dX3_readText_64 hl 0 rfl [(1, .int (iV (i + 1))), (0, .ref (g.1 + 3))] (by decide) rfl (fun ls hl => ?_)
            refine r_goto X 28 dX3_readText_67 (by decide) ?_
            exact ih (i + 1) tq7 fq6 (RT_step hI (by omega) (by omega) (by omega) hq6 htq7) _ _ _ (by omega) Y (lv_sub hl [0, 1] rfl)
  exact loop28 (((220 - (0 : Int)).toNat) + 1) 0 tq5 f (RT_init hx hn hg htq1 htq2 htq3 htq4 htq5) _ _ _ (Nat.lt_succ_self _) Y (lv_sub hl [0, 1] rfl)
set_option maxHeartbeats 4000000 in
set_option maxRecDepth 100000 in
theorem ct_X7_voyage (l : Launch) (g : uG) (t : uN) (f : uF) (x : Int → Int) (n : Int) (hx : txt x n) (hn : t 1 3 = n) (hg : ∀ p, tget t f 1 p 0 = x p) (h12 : tOK t 12) (h14 : tOK t 14) (h16 : tOK t 16) : cR_i l yX7_voyage cX7_voyage 2 (some .int) 7 g [.ref (g.1 + 0)] t f (VQ x n t f) := by
  refine eR_i (by decide +kernel) (Nat.le_of_ble_eq_true rfl) ?_
  intro p e R s m args below meth c Q ls H locs X Y hl ret
  have X : uX p 7 R s m args c cX7_voyage 2 RX7 := X
  have hl : lv_has ls 2 [(0, .ref (g.1 + 0))] := hl
  refine r_aload_n X dX7_voyage_0 hl 0 rfl ?_
  refine g_7_1 (k := 0) X Y rfl wm_257 dX7_voyage_1 ?_
  refine vR_i X Y [] [] (ct_X3_readText l g t f x n hx hn hg) mk_X3_readText mi_X3_readText wm_328 (by decide) (rv_3 Y rfl) rfl hl (Nat.le_of_ble_eq_true rfl) rfl dX7_voyage_4 (Nat.zero_le _) (Nat.zero_le _) (fun zq1 tq1 fq1 H locs hq1 Y => ?_)
  have hk3 := hq1.rng
  have h5q := hq1.2.1.1
  have h7q := hq1.2.1.2.1
  have h9q := hq1.2.1.2.2
  have h12q : tOK tq1 12 := by unfold tOK; rw [hq1.1.1 12 3 (by decide) (by decide)]; exact h12
  have h14q : tOK tq1 14 := by unfold tOK; rw [hq1.1.1 14 3 (by decide) (by decide)]; exact h14
  have h16q : tOK tq1 16 := by unfold tOK; rw [hq1.1.1 16 3 (by decide) (by decide)]; exact h16
  refine r_istore_n X dX7_voyage_7 hl [(1, .int (iV (zq1))), (0, .ref (g.1 + 0))] (by decide) rfl (fun ls hl => ?_)
  refine r_aload_n X dX7_voyage_8 hl 1 rfl ?_
  refine r_aload_n X dX7_voyage_9 hl 1 rfl ?_
  refine g_7_1 (k := 0) X Y rfl wm_257 dX7_voyage_10 ?_
  refine vF_i X Y [] [.ref (g.1 + 0)] (ct_X3_placeOfFault l g tq1 fq1) mk_X3_placeOfFault mi_X3_placeOfFault wm_393 (by decide) (rv_3 Y rfl) rfl hl (Nat.le_of_ble_eq_true rfl) rfl dX7_voyage_13 (Nat.zero_le _) (Nat.zero_le _) (fun H locs Y => ?_)
  refine p_7_10 (k := 0) X Y rfl wm_266 dX7_voyage_16 (fun H locs Y => ?_)
  obtain ⟨tq2, htq2⟩ : ∃ q, q = up2 tq1 0 10 (tq1 3 4) := ⟨_, rfl⟩
  have Y : uY g 117 (cX g tq2 fq1) s H locs := by rw [htq2]; exact Y
  refine r_aload_n X dX7_voyage_19 hl 1 rfl ?_
  refine g_7_0 (k := 0) X Y rfl wm_256 dX7_voyage_20 ?_
  refine vF_v X Y [] [] (ct_X5_clear l g tq2 fq1 1 rfl) mk_X5_clear mi_X5_clear wm_397 (by decide) (rv_5 Y rfl) rfl hl (Nat.le_of_ble_eq_true rfl) rfl dX7_voyage_23 (Nat.zero_le _) (Nat.zero_le _) (fun H locs Y => ?_)
  obtain ⟨tq3, htq3⟩ : ∃ q, q = up2 tq2 1 3 0 := ⟨_, rfl⟩
  have Y : uY g 117 (cX g tq3 fq1) s H locs := by rw [htq3]; exact Y
  refine r_iload_n X dX7_voyage_26 hl 0 rfl ?_
  refine r_if_eq X (tgt := 35) dX7_voyage_27 (by decide) ⟨by omega, by omega⟩ (fun c27 => ?_) (fun c27 => ?_)
  · refine r_aload_n X dX7_voyage_35 hl 1 rfl ?_
    refine g_7_2 (k := 0) X Y rfl wm_258 dX7_voyage_36 ?_
    refine r_aload_n X dX7_voyage_39 hl 1 rfl ?_
    refine g_7_1 (k := 0) X Y rfl wm_257 dX7_voyage_40 ?_
    refine vF_q X Y [] [.ref (g.1 + 11)] (ct_X3_whatWasRead l g tq3 fq1) mk_X3_whatWasRead mi_X3_whatWasRead wm_398 (by decide) (rv_3 Y rfl) rfl hl (Nat.le_of_ble_eq_true rfl) rfl dX7_voyage_43 (Nat.zero_le _) (Nat.zero_le _) (fun H locs Y => ?_)
    have h5s : 0 ≤ tq3 5 3 ∧ tq3 5 3 ≤ 1 := by rw [htq3, up2_k _ _ _ _ (by decide), htq2, up2_k _ _ _ _ (by decide)]; exact h5q
    refine vF_v X Y [.ref (g.1 + 4)] [] (ct_X6_become l g tq3 fq1 (by rw [htq3]; exact tOK_k (by decide) (by rw [htq2]; exact tOK_k (by decide) h5q)) (by rw [htq3]; exact tOK_k (by decide) (by rw [htq2]; exact tOK_k (by decide) h7q)) (by rw [htq3]; exact tOK_k (by decide) (by rw [htq2]; exact tOK_k (by decide) h9q)) (by rw [htq3]; exact tOK_k (by decide) (by rw [htq2]; exact tOK_k (by decide) h12q)) (by rw [htq3]; exact tOK_k (by decide) (by rw [htq2]; exact tOK_k (by decide) h14q)) (by rw [htq3]; exact tOK_k (by decide) (by rw [htq2]; exact tOK_k (by decide) h16q))) mk_X6_become mi_X6_become wm_402 (by decide) (rv_6 Y rfl) rfl hl (Nat.le_of_ble_eq_true rfl) rfl dX7_voyage_46 (Nat.zero_le _) (Nat.zero_le _) (fun H locs Y => ?_)
    obtain ⟨tq4, htq4⟩ : ∃ q, q = (fun t => up2 t 16 3 (t 9 3)) ((fun t => up2 t 14 3 (t 7 3)) (up2 tq3 12 3 (tq3 5 3))) := ⟨_, rfl⟩
    obtain ⟨fq5, hfq5⟩ : ∃ q, q = cpA (cpA (cpA fq1 6 13 4) 8 15 21) 10 17 10 := ⟨_, rfl⟩
    have Y : uY g 117 (cX g tq4 fq5) s H locs := by rw [htq4, hfq5]; exact Y
    refine r_aload_n X dX7_voyage_49 hl 1 rfl ?_
    refine g_7_3 (k := 0) X Y rfl wm_259 dX7_voyage_50 ?_
    refine r_aload_n X dX7_voyage_53 hl 1 rfl ?_
    refine g_7_2 (k := 0) X Y rfl wm_258 dX7_voyage_54 ?_
    have h12s : tOK tq4 12 := by rw [htq4]; show 0 ≤ _ ∧ _ ≤ (1 : Int); exact h5s
    refine vF_v X Y [.ref (g.1 + 11)] [] (ct_X4_begin l g tq4 fq5 h12s) mk_X4_begin mi_X4_begin wm_414 (by decide) (rv_4 Y rfl) rfl hl (Nat.le_of_ble_eq_true rfl) rfl dX7_voyage_57 (Nat.zero_le _) (Nat.zero_le _) (fun H locs Y => ?_)
    obtain ⟨tq6, htq6⟩ : ∃ q, q = (fun t => up2 (up2 (up2 t 18 2 (tget t fq5 12 0 3)) 18 3 0) 18 4 0) ((fun t => up2 t 18 1 (tget t fq5 12 0 2)) (up2 tq4 19 3 0)) := ⟨_, rfl⟩
    have Y : uY g 117 (cX g tq6 fq5) s H locs := by rw [htq6]; exact Y
    refine r_aload_n X dX7_voyage_60 hl 1 rfl ?_
    refine g_7_8 (k := 0) X Y rfl wm_264 dX7_voyage_61 ?_
    refine vF_v X Y [] [] (ct_X5_clear l g tq6 fq5 96 rfl) mk_X5_clear mi_X5_clear wm_397 (by decide) (rv_5 Y rfl) rfl hl (Nat.le_of_ble_eq_true rfl) rfl dX7_voyage_64 (Nat.zero_le _) (Nat.zero_le _) (fun H locs Y => ?_)
    obtain ⟨tq7, htq7⟩ : ∃ q, q = up2 tq6 96 3 0 := ⟨_, rfl⟩
    have Y : uY g 117 (cX g tq7 fq5) s H locs := by rw [htq7]; exact Y
    refine r_aload_n X dX7_voyage_67 hl 1 rfl ?_
    refine g_7_9 (k := 0) X Y rfl wm_265 dX7_voyage_68 ?_
    refine vF_v X Y [] [] (ct_X5_clear l g tq7 fq5 98 rfl) mk_X5_clear mi_X5_clear wm_397 (by decide) (rv_5 Y rfl) rfl hl (Nat.le_of_ble_eq_true rfl) rfl dX7_voyage_71 (Nat.zero_le _) (Nat.zero_le _) (fun H locs Y => ?_)
    obtain ⟨tq8, htq8⟩ : ∃ q, q = up2 tq7 98 3 0 := ⟨_, rfl⟩
    have Y : uY g 117 (cX g tq8 fq5) s H locs := by rw [htq8]; exact Y
    refine r_aload_n X dX7_voyage_74 hl 1 rfl ?_
    refine g_7_5 (k := 0) X Y rfl wm_261 dX7_voyage_75 ?_
    refine r_iconst X dX7_voyage_78 ?_
    refine p_0_2 (k := 83) X Y rfl wm_217 (by first | exact Or.inl rfl | exact Or.inr rfl | omega) dX7_voyage_79 (fun H locs Y => ?_)
    obtain ⟨tq9, htq9⟩ : ∃ q, q = up2 tq8 83 2 (0) := ⟨_, rfl⟩
    have Y : uY g 117 (cX g tq9 fq5) s H locs := by rw [htq9]; exact Y
    refine r_aload_n X dX7_voyage_82 hl 1 rfl ?_
    refine g_7_6 (k := 0) X Y rfl wm_262 dX7_voyage_83 ?_
    refine r_iconst X dX7_voyage_86 ?_
    refine p_0_2 (k := 87) X Y rfl wm_217 (by first | exact Or.inl rfl | exact Or.inr rfl | omega) dX7_voyage_87 (fun H locs Y => ?_)
    obtain ⟨tq10, htq10⟩ : ∃ q, q = up2 tq9 87 2 (0) := ⟨_, rfl⟩
    have Y : uY g 117 (cX g tq10 fq5) s H locs := by rw [htq10]; exact Y
    refine r_aload_n X dX7_voyage_90 hl 1 rfl ?_
    refine g_7_4 (k := 0) X Y rfl wm_260 dX7_voyage_91 ?_
    refine vF_v X Y [] [] (ct_X1_clear l g tq10 fq5) mk_X1_clear mi_X1_clear wm_420 (by decide) (rv_1 Y rfl) rfl hl (Nat.le_of_ble_eq_true rfl) rfl dX7_voyage_94 (Nat.zero_le _) (Nat.zero_le _) (fun H locs Y => ?_)
    obtain ⟨tq11, htq11⟩ : ∃ q, q = up2 tq10 21 2 0 := ⟨_, rfl⟩
    have Y : uY g 117 (cX g tq11 fq5) s H locs := by rw [htq11]; exact Y
    refine r_aload_n X dX7_voyage_97 hl 1 rfl ?_
    refine g_7_7 (k := 0) X Y rfl wm_263 dX7_voyage_98 ?_
    refine vF_v X Y [] [] (ct_X2_forget l g tq11 fq5) mk_X2_forget mi_X2_forget wm_424 (by decide) (rv_2 Y rfl) rfl hl (Nat.le_of_ble_eq_true rfl) rfl dX7_voyage_101 (Nat.zero_le _) (Nat.zero_le _) (fun H locs Y => ?_)
    obtain ⟨tq12, htq12⟩ : ∃ q, q = up2 tq11 91 6 0 := ⟨_, rfl⟩
    have Y : uY g 117 (cX g tq12 fq5) s H locs := by rw [htq12]; exact Y
    refine r_aload_n X dX7_voyage_104 hl 1 rfl ?_
    refine g_7_2 (k := 0) X Y rfl wm_258 dX7_voyage_105 ?_
    refine g_6_1 (k := 11) X Y rfl wm_122 dX7_voyage_108 ?_
    refine vF_i X Y [] [] (ct_X5_rows l g tq12 fq5 14 rfl) mk_X5_rows mi_X5_rows wm_320 (by decide) (rv_5 Y rfl) rfl hl (Nat.le_of_ble_eq_true rfl) rfl dX7_voyage_111 (Nat.zero_le _) (Nat.zero_le _) (fun H locs Y => ?_)
    exact ret _ _ _ _ _ _ _ dX7_voyage_114 Y (by have hr := hq1; subst htq2 htq3 htq4 hfq5 htq6 htq7 htq8 htq9 htq10 htq11 htq12; exact ⟨_, _, _, hr, Or.inr ⟨by omega, rfl, rfl, rfl⟩⟩)
  · refine r_bipush X (-10) dX7_voyage_30 (by decide) ?_
    refine r_iload_n X dX7_voyage_32 hl 0 rfl ?_
    refine r_isub X dX7_voyage_33 ?_
    exact ret _ _ _ _ _ _ _ dX7_voyage_34 Y ⟨_, _, _, hq1, Or.inl ⟨by omega, rfl, by rw [htq3, htq2]; rfl, rfl⟩⟩

/-! the model's acts by contract -/
set_option maxHeartbeats 4000000 in
set_option maxRecDepth 100000 in
theorem ct_X8_minds (l : Launch) (g : uG) (t : uN) (f : uF)  (h0 : 0 ≤ t 100 2) (h1 : t 100 2 ≤ 20) : cF_v l yX8_minds cX8_minds 2 2 g [.ref (g.1 + 100)] t f (minT t) (minF t f) := by
  refine eF_v (by decide +kernel) (Nat.le_of_ble_eq_true rfl) ?_
  intro p e R s m args below meth c Q ls H locs X Y hl ret
  have X : uX p 2 R s m args c cX8_minds 2 RX8 := X
  have hl : lv_has ls 2 [(0, .ref (g.1 + 100))] := hl
  refine r_aload_n X dX8_minds_0 hl 0 rfl ?_
  refine g_8_2 (k := 100) X Y rfl wm_739 dX8_minds_1 ?_
  refine r_bipush X 20 dX8_minds_4 (by decide) ?_
  refine r_icmp_ne X (tgt := 57) dX8_minds_6 (by decide) ⟨by omega, by omega⟩ ⟨by omega, by omega⟩ (fun c6 => ?_) (fun c6 => ?_)
  · refine r_aload_n X dX8_minds_57 hl 0 rfl ?_
    refine r_iconst X dX8_minds_58 ?_
    refine r_sipush X 168 dX8_minds_59 (by decide) ?_
    refine r_bipush X 42 dX8_minds_62 (by decide) ?_
    refine r_aload_n X dX8_minds_64 hl 0 rfl ?_
    refine g_8_2 (k := 100) X Y rfl wm_739 dX8_minds_65 ?_
    refine r_eq (z' := t 100 2) (by rfl) ?_
    refine r_imul X dX8_minds_68 ?_
    refine r_iadd X dX8_minds_69 ?_
    refine vF_v X Y [.int (iV (0)), .int (iV (168 + (42 * (t 100 2))))] [] (ct_X8_copy l g t f 0 (168 + (42 * (t 100 2))) (by omega) (by omega) (by omega) (by omega) (by omega)) mk_X8_copy mi_X8_copy wm_973 (by decide) (rv_8 Y rfl) rfl hl (Nat.le_of_ble_eq_true rfl) rfl dX8_minds_70 (Nat.zero_le _) (Nat.zero_le _) (fun H locs Y => ?_)
    obtain ⟨fq1, hfq1⟩ : ∃ q, q = cpW f 0 (168 + (42 * (t 100 2))) := ⟨_, rfl⟩
    have Y : uY g 117 (cX g t fq1) s H locs := by rw [hfq1]; exact Y
    refine r_aload_n X dX8_minds_73 hl 0 rfl ?_
    refine r_dup X dX8_minds_74 rfl ?_
    refine g_8_2 (k := 100) X Y rfl wm_739 dX8_minds_75 ?_
    refine r_iconst X dX8_minds_78 ?_
    refine r_iadd X dX8_minds_79 ?_
    refine p_8_2 (k := 100) X Y rfl wm_739 dX8_minds_80 (fun H locs Y => ?_)
    obtain ⟨tq2, htq2⟩ : ∃ q, q = up2 t 100 2 ((t 100 2) + 1) := ⟨_, rfl⟩
    have Y : uY g 117 (cX g tq2 fq1) s H locs := by rw [htq2]; exact Y
    exact ret _ _ _ _ _ _ dX8_minds_83 Y ⟨by rw [htq2]; unfold minT; rw [show min 20 (t 100 2 + 1) = t 100 2 + 1 by omega], by rw [hfq1]; unfold minF; rw [if_neg (by omega)]⟩
  · refine r_iconst X dX8_minds_9 ?_
    refine r_istore_n X dX8_minds_10 hl [(1, .int (iV (0))), (0, .ref (g.1 + 100))] (by decide) rfl (fun ls hl => ?_)
    have loop11 : ∀ (N : Nat) (k : Int) (fz : uF) (hk0 : 0 ≤ k) (hk1 : k ≤ 798) (hI : shI f k fz) (H : Heap) (locs : List Loc) (ls : Array Slot), (798 - k).toNat < N → uY g 117 (cX g t fz) s H locs → lv_has ls 2 [(1, .int (iV (k))), (0, .ref (g.1 + 100))] → W p l e R s m args below meth c H locs 0 0 Q (F0 m 11 ls []) := by
      intro N
      induction N with
      | zero => intro k fz hk0 hk1 hI H locs ls hmu Y hl; exact absurd hmu (Nat.not_lt_zero _)
      | succ N ih =>
        intro k fz hk0 hk1 hI H locs ls hmu Y hl
        refine r_iload_n X dX8_minds_11 hl 0 rfl ?_
        refine r_sipush X 798 dX8_minds_12 (by decide) ?_
        refine r_icmp_ge X (tgt := 47) dX8_minds_15 (by decide) ⟨by omega, by omega⟩ ⟨by omega, by omega⟩ (fun c15 => ?_) (fun c15 => ?_)
        · have hI2 : fz = shW f := (by rw [show k = 798 by omega] at hI; exact hI.done)
          refine r_aload_n X dX8_minds_47 hl 1 rfl ?_
          refine r_dup X dX8_minds_48 rfl ?_
          refine g_8_2 (k := 100) X Y rfl wm_739 dX8_minds_49 ?_
          refine r_iconst X dX8_minds_52 ?_
          refine r_isub X dX8_minds_53 ?_
          refine r_eq (z' := 19) (by omega) ?_
          refine p_8_2 (k := 100) X Y rfl wm_739 dX8_minds_54 (fun H locs Y => ?_)
          obtain ⟨tq1, htq1⟩ : ∃ q, q = up2 t 100 2 (19) := ⟨_, rfl⟩
          have Y : uY g 117 (cX g tq1 fz) s H locs := by rw [htq1]; exact Y
          refine r_aload_n X dX8_minds_57 hl 1 rfl ?_
          refine r_iconst X dX8_minds_58 ?_
          refine r_sipush X 168 dX8_minds_59 (by decide) ?_
          refine r_bipush X 42 dX8_minds_62 (by decide) ?_
          refine r_aload_n X dX8_minds_64 hl 1 rfl ?_
          refine g_8_2 (k := 100) X Y rfl wm_739 dX8_minds_65 ?_
          refine r_eq (z' := 19) (by rw [htq1, up2_s]) ?_
          refine r_imul X dX8_minds_68 ?_
          refine r_iadd X dX8_minds_69 ?_
          refine vF_v X Y [.int (iV (0)), .int (iV (168 + (42 * 19)))] [] (ct_X8_copy l g tq1 fz 0 (168 + (42 * 19)) (by omega) (by omega) (by omega) (by omega) (by omega)) mk_X8_copy mi_X8_copy wm_973 (by decide) (rv_8 Y rfl) rfl hl (Nat.le_of_ble_eq_true rfl) rfl dX8_minds_70 (Nat.zero_le _) (Nat.zero_le _) (fun H locs Y => ?_)
          obtain ⟨fq2, hfq2⟩ : ∃ q, q = cpW fz 0 (168 + (42 * 19)) := ⟨_, rfl⟩
          have Y : uY g 117 (cX g tq1 fq2) s H locs := by rw [hfq2]; exact Y
          refine r_aload_n X dX8_minds_73 hl 1 rfl ?_
          refine r_dup X dX8_minds_74 rfl ?_
          refine g_8_2 (k := 100) X Y rfl wm_739 dX8_minds_75 ?_
          refine r_iconst X dX8_minds_78 ?_
          refine r_iadd X dX8_minds_79 ?_
          refine p_8_2 (k := 100) X Y rfl wm_739 dX8_minds_80 (fun H locs Y => ?_)
          obtain ⟨tq3, htq3⟩ : ∃ q, q = up2 tq1 100 2 ((tq1 100 2) + 1) := ⟨_, rfl⟩
          have Y : uY g 117 (cX g tq3 fq2) s H locs := by rw [htq3]; exact Y
          exact ret _ _ _ _ _ _ dX8_minds_83 Y ⟨by rw [htq3, htq1, up2_s, up2_up]; unfold minT; rw [show min 20 (t 100 2 + 1) = 19 + 1 by omega], by rw [hfq2, hI2]; unfold minF; rw [if_pos (by omega)]; rfl⟩
        · refine r_aload_n X dX8_minds_18 hl 1 rfl ?_
          refine g_8_0 (k := 100) X Y rfl wm_737 dX8_minds_19 ?_
          refine r_sipush X 168 dX8_minds_22 (by decide) ?_
          refine r_iload_n X dX8_minds_25 hl 0 rfl ?_
          refine r_iadd X dX8_minds_26 ?_
          refine r_aload_n X dX8_minds_27 hl 1 rfl ?_
          refine g_8_0 (k := 100) X Y rfl wm_737 dX8_minds_28 ?_
          refine r_sipush X 168 dX8_minds_31 (by decide) ?_
          refine r_iload_n X dX8_minds_34 hl 0 rfl ?_
          refine r_iadd X dX8_minds_35 ?_
          refine r_bipush X 42 dX8_minds_36 (by decide) ?_
          refine r_iadd X dX8_minds_38 ?_
          refine g_ild (k := 101) X Y rfl (by omega) (by have q : ((al 101 : Nat) : Int) = 1008 := rfl; omega) dX8_minds_39 ?_
          refine p_ist (k := 101) X Y rfl (by omega) (by have q : ((al 101 : Nat) : Int) = 1008 := rfl; omega) dX8_minds_40 (fun H locs Y => ?_)
          obtain ⟨fq1, hfq1⟩ : ∃ q, q = upA fz 101 (168 + k) (fz 101 ((168 + k) + 42)) := ⟨_, rfl⟩
          have Y : uY g 117 (cX g t fq1) s H locs := by rw [hfq1]; exact Y
          refine r_iinc X dX8_minds_41 hl 0 rfl [(1, .int (iV (k + 1))), (0, .ref (g.1 + 100))] (by decide) rfl (fun ls hl => ?_)
          refine r_goto X 11 dX8_minds_44 (by decide) ?_
          exact ih (k + 1) fq1 (by omega) (by omega) (hI.step hk0 hfq1 rfl) _ _ _ (by omega) Y (lv_sub hl [0, 1] rfl)
    exact loop11 (((798 - (0:Int)).toNat) + 1) 0 f (by omega) (by omega) ⟨fun _ _ _ => rfl, fun i => by rw [if_neg (by omega)]⟩ _ _ _ (Nat.lt_succ_self _) Y (lv_sub hl [0, 1] rfl)
set_option maxHeartbeats 4000000 in
set_option maxRecDepth 100000 in
theorem ct_X8_takesLoan (l : Launch) (g : uG) (t : uN) (f : uF) (h m0 v fr : Int) (hh : h = 0 ∨ h = 42) (hn0 : 0 ≤ f 101 (h + 4)) (hn1 : f 101 (h + 4) ≤ 8) (hfr : fr = 0 ∨ fr = 1) : cF_v l yX8_takesLoan cX8_takesLoan 6 1 g [.ref (g.1 + 100), .int (iV (h)), .int (iV (m0)), .int (iV (v)), .int (iV (fr))] t f (t) (takL f h m0 v fr) := by
  refine eF_v (by decide +kernel) (Nat.le_of_ble_eq_true rfl) ?_
  intro p e R s m args below meth c Q ls H locs X Y hl ret
  have X : uX p 1 R s m args c cX8_takesLoan 6 RX8 := X
  have hl : lv_has ls 6 [(0, .ref (g.1 + 100)), (1, .int (iV (h))), (2, .int (iV (m0))), (3, .int (iV (v))), (4, .int (iV (fr)))] := hl
  refine r_aload_n X dX8_takesLoan_0 hl 0 rfl ?_
  refine g_8_0 (k := 100) X Y rfl wm_737 dX8_takesLoan_1 ?_
  refine r_iload_n X dX8_takesLoan_4 hl 1 rfl ?_
  refine r_iconst X dX8_takesLoan_5 ?_
  refine r_iadd X dX8_takesLoan_6 ?_
  refine g_ild (k := 101) X Y rfl (by omega) (by have q : ((al 101 : Nat) : Int) = 1008 := rfl; omega) dX8_takesLoan_7 ?_
  refine r_istore X dX8_takesLoan_8 hl [(5, .int (iV (f 101 (h + 4)))), (0, .ref (g.1 + 100)), (1, .int (iV (h))), (2, .int (iV (m0))), (3, .int (iV (v))), (4, .int (iV (fr)))] (by decide) rfl (fun ls hl => ?_)
  refine r_aload_n X dX8_takesLoan_10 hl 1 rfl ?_
  refine g_8_0 (k := 100) X Y rfl wm_737 dX8_takesLoan_11 ?_
  refine r_iload_n X dX8_takesLoan_14 hl 2 rfl ?_
  refine r_iconst X dX8_takesLoan_15 ?_
  refine r_iadd X dX8_takesLoan_16 ?_
  refine r_iload X dX8_takesLoan_17 hl 0 rfl ?_
  refine r_iadd X dX8_takesLoan_19 ?_
  refine r_iload_n X dX8_takesLoan_20 hl 3 rfl ?_
  refine p_ist (k := 101) X Y rfl (by omega) (by have q : ((al 101 : Nat) : Int) = 1008 := rfl; omega) dX8_takesLoan_21 (fun H locs Y => ?_)
  obtain ⟨fq1, hfq1⟩ : ∃ q, q = upA f 101 ((h + 5) + (f 101 (h + 4))) m0 := ⟨_, rfl⟩
  have Y : uY g 117 (cX g t fq1) s H locs := by rw [hfq1]; exact Y
  refine r_aload_n X dX8_takesLoan_22 hl 1 rfl ?_
  refine g_8_0 (k := 100) X Y rfl wm_737 dX8_takesLoan_23 ?_
  refine r_iload_n X dX8_takesLoan_26 hl 2 rfl ?_
  refine r_bipush X 14 dX8_takesLoan_27 (by decide) ?_
  refine r_iadd X dX8_takesLoan_29 ?_
  refine r_iload X dX8_takesLoan_30 hl 0 rfl ?_
  refine r_iadd X dX8_takesLoan_32 ?_
  refine r_iload_n X dX8_takesLoan_33 hl 4 rfl ?_
  refine p_ist (k := 101) X Y rfl (by omega) (by have q : ((al 101 : Nat) : Int) = 1008 := rfl; omega) dX8_takesLoan_34 (fun H locs Y => ?_)
  obtain ⟨fq2, hfq2⟩ : ∃ q, q = upA fq1 101 ((h + 14) + (f 101 (h + 4))) v := ⟨_, rfl⟩
  have Y : uY g 117 (cX g t fq2) s H locs := by rw [hfq2]; exact Y
  refine r_aload_n X dX8_takesLoan_35 hl 1 rfl ?_
  refine g_8_0 (k := 100) X Y rfl wm_737 dX8_takesLoan_36 ?_
  refine r_iload_n X dX8_takesLoan_39 hl 2 rfl ?_
  refine r_bipush X 23 dX8_takesLoan_40 (by decide) ?_
  refine r_iadd X dX8_takesLoan_42 ?_
  refine r_iload X dX8_takesLoan_43 hl 0 rfl ?_
  refine r_iadd X dX8_takesLoan_45 ?_
  refine r_iload X dX8_takesLoan_46 hl 5 rfl ?_
  refine r_if_eq X (tgt := 55) dX8_takesLoan_48 (by decide) ⟨by omega, by omega⟩ (fun c48 => ?_) (fun c48 => ?_)
  · refine r_iconst X dX8_takesLoan_55 ?_
    refine r_eq (z' := fr) (by omega) ?_
    refine p_ist (k := 101) X Y rfl (by omega) (by have q : ((al 101 : Nat) : Int) = 1008 := rfl; omega) dX8_takesLoan_56 (fun H locs Y => ?_)
    obtain ⟨fq3, hfq3⟩ : ∃ q, q = upA fq2 101 ((h + 23) + (f 101 (h + 4))) fr := ⟨_, rfl⟩
    have Y : uY g 117 (cX g t fq3) s H locs := by rw [hfq3]; exact Y
    refine r_aload_n X dX8_takesLoan_57 hl 1 rfl ?_
    refine g_8_0 (k := 100) X Y rfl wm_737 dX8_takesLoan_58 ?_
    refine r_iload_n X dX8_takesLoan_61 hl 2 rfl ?_
    refine r_bipush X 32 dX8_takesLoan_62 (by decide) ?_
    refine r_iadd X dX8_takesLoan_64 ?_
    refine r_iload X dX8_takesLoan_65 hl 0 rfl ?_
    refine r_iadd X dX8_takesLoan_67 ?_
    refine r_aload_n X dX8_takesLoan_68 hl 1 rfl ?_
    refine g_8_0 (k := 100) X Y rfl wm_737 dX8_takesLoan_69 ?_
    refine r_iload_n X dX8_takesLoan_72 hl 2 rfl ?_
    refine r_iconst X dX8_takesLoan_73 ?_
    refine r_iadd X dX8_takesLoan_74 ?_
    refine g_ild (k := 101) X Y rfl (by omega) (by have q : ((al 101 : Nat) : Int) = 1008 := rfl; omega) dX8_takesLoan_75 ?_
    refine r_eq (z' := f 101 (h + 0)) (by rw [hfq3, upA_i _ _ _ (by omega), hfq2, upA_i _ _ _ (by omega), hfq1, upA_i _ _ _ (by omega)]) ?_
    refine p_ist (k := 101) X Y rfl (by omega) (by have q : ((al 101 : Nat) : Int) = 1008 := rfl; omega) dX8_takesLoan_76 (fun H locs Y => ?_)
    obtain ⟨fq4, hfq4⟩ : ∃ q, q = upA fq3 101 ((h + 32) + (f 101 (h + 4))) (f 101 (h + 0)) := ⟨_, rfl⟩
    have Y : uY g 117 (cX g t fq4) s H locs := by rw [hfq4]; exact Y
    refine r_aload_n X dX8_takesLoan_77 hl 1 rfl ?_
    refine g_8_0 (k := 100) X Y rfl wm_737 dX8_takesLoan_78 ?_
    refine r_iload_n X dX8_takesLoan_81 hl 2 rfl ?_
    refine r_iconst X dX8_takesLoan_82 ?_
    refine r_iadd X dX8_takesLoan_83 ?_
    refine r_dup2 X dX8_takesLoan_84 rfl rfl ?_
    refine g_ild (k := 101) X Y rfl (by omega) (by have q : ((al 101 : Nat) : Int) = 1008 := rfl; omega) dX8_takesLoan_85 ?_
    refine r_eq (z' := f 101 (h + 4)) (by rw [hfq4, upA_i _ _ _ (by omega), hfq3, upA_i _ _ _ (by omega), hfq2, upA_i _ _ _ (by omega), hfq1, upA_i _ _ _ (by omega)]) ?_
    refine r_iconst X dX8_takesLoan_86 ?_
    refine r_iadd X dX8_takesLoan_87 ?_
    refine p_ist (k := 101) X Y rfl (by omega) (by have q : ((al 101 : Nat) : Int) = 1008 := rfl; omega) dX8_takesLoan_88 (fun H locs Y => ?_)
    obtain ⟨fq5, hfq5⟩ : ∃ q, q = upA fq4 101 (h + 4) ((f 101 (h + 4)) + 1) := ⟨_, rfl⟩
    have Y : uY g 117 (cX g t fq5) s H locs := by rw [hfq5]; exact Y
    refine r_aload_n X dX8_takesLoan_89 hl 1 rfl ?_
    refine g_8_0 (k := 100) X Y rfl wm_737 dX8_takesLoan_90 ?_
    refine r_iload_n X dX8_takesLoan_93 hl 2 rfl ?_
    refine r_iconst X dX8_takesLoan_94 ?_
    refine r_iadd X dX8_takesLoan_95 ?_
    refine r_dup2 X dX8_takesLoan_96 rfl rfl ?_
    refine g_ild (k := 101) X Y rfl (by omega) (by have q : ((al 101 : Nat) : Int) = 1008 := rfl; omega) dX8_takesLoan_97 ?_
    refine r_eq (z' := f 101 (h + 3)) (by rw [hfq5, upA_i _ _ _ (by omega), hfq4, upA_i _ _ _ (by omega), hfq3, upA_i _ _ _ (by omega), hfq2, upA_i _ _ _ (by omega), hfq1, upA_i _ _ _ (by omega)]) ?_
    refine r_iload_n X dX8_takesLoan_98 hl 4 rfl ?_
    refine r_iadd X dX8_takesLoan_99 ?_
    refine p_ist (k := 101) X Y rfl (by omega) (by have q : ((al 101 : Nat) : Int) = 1008 := rfl; omega) dX8_takesLoan_100 (fun H locs Y => ?_)
    obtain ⟨fq6, hfq6⟩ : ∃ q, q = upA fq5 101 (h + 3) ((f 101 (h + 3)) + v) := ⟨_, rfl⟩
    have Y : uY g 117 (cX g t fq6) s H locs := by rw [hfq6]; exact Y
    exact ret _ _ _ _ _ _ dX8_takesLoan_101 Y ⟨rfl, by rw [hfq6, hfq5, hfq4, hfq3, hfq2, hfq1]; rfl⟩
  · refine r_iconst X dX8_takesLoan_51 ?_
    refine r_goto X 56 dX8_takesLoan_52 (by decide) ?_
    refine r_eq (z' := fr) (by omega) ?_
    refine p_ist (k := 101) X Y rfl (by omega) (by have q : ((al 101 : Nat) : Int) = 1008 := rfl; omega) dX8_takesLoan_56 (fun H locs Y => ?_)
    obtain ⟨fq3, hfq3⟩ : ∃ q, q = upA fq2 101 ((h + 23) + (f 101 (h + 4))) fr := ⟨_, rfl⟩
    have Y : uY g 117 (cX g t fq3) s H locs := by rw [hfq3]; exact Y
    refine r_aload_n X dX8_takesLoan_57 hl 1 rfl ?_
    refine g_8_0 (k := 100) X Y rfl wm_737 dX8_takesLoan_58 ?_
    refine r_iload_n X dX8_takesLoan_61 hl 2 rfl ?_
    refine r_bipush X 32 dX8_takesLoan_62 (by decide) ?_
    refine r_iadd X dX8_takesLoan_64 ?_
    refine r_iload X dX8_takesLoan_65 hl 0 rfl ?_
    refine r_iadd X dX8_takesLoan_67 ?_
    refine r_aload_n X dX8_takesLoan_68 hl 1 rfl ?_
    refine g_8_0 (k := 100) X Y rfl wm_737 dX8_takesLoan_69 ?_
    refine r_iload_n X dX8_takesLoan_72 hl 2 rfl ?_
    refine r_iconst X dX8_takesLoan_73 ?_
    refine r_iadd X dX8_takesLoan_74 ?_
    refine g_ild (k := 101) X Y rfl (by omega) (by have q : ((al 101 : Nat) : Int) = 1008 := rfl; omega) dX8_takesLoan_75 ?_
    refine r_eq (z' := f 101 (h + 0)) (by rw [hfq3, upA_i _ _ _ (by omega), hfq2, upA_i _ _ _ (by omega), hfq1, upA_i _ _ _ (by omega)]) ?_
    refine p_ist (k := 101) X Y rfl (by omega) (by have q : ((al 101 : Nat) : Int) = 1008 := rfl; omega) dX8_takesLoan_76 (fun H locs Y => ?_)
    obtain ⟨fq4, hfq4⟩ : ∃ q, q = upA fq3 101 ((h + 32) + (f 101 (h + 4))) (f 101 (h + 0)) := ⟨_, rfl⟩
    have Y : uY g 117 (cX g t fq4) s H locs := by rw [hfq4]; exact Y
    refine r_aload_n X dX8_takesLoan_77 hl 1 rfl ?_
    refine g_8_0 (k := 100) X Y rfl wm_737 dX8_takesLoan_78 ?_
    refine r_iload_n X dX8_takesLoan_81 hl 2 rfl ?_
    refine r_iconst X dX8_takesLoan_82 ?_
    refine r_iadd X dX8_takesLoan_83 ?_
    refine r_dup2 X dX8_takesLoan_84 rfl rfl ?_
    refine g_ild (k := 101) X Y rfl (by omega) (by have q : ((al 101 : Nat) : Int) = 1008 := rfl; omega) dX8_takesLoan_85 ?_
    refine r_eq (z' := f 101 (h + 4)) (by rw [hfq4, upA_i _ _ _ (by omega), hfq3, upA_i _ _ _ (by omega), hfq2, upA_i _ _ _ (by omega), hfq1, upA_i _ _ _ (by omega)]) ?_
    refine r_iconst X dX8_takesLoan_86 ?_
    refine r_iadd X dX8_takesLoan_87 ?_
    refine p_ist (k := 101) X Y rfl (by omega) (by have q : ((al 101 : Nat) : Int) = 1008 := rfl; omega) dX8_takesLoan_88 (fun H locs Y => ?_)
    obtain ⟨fq5, hfq5⟩ : ∃ q, q = upA fq4 101 (h + 4) ((f 101 (h + 4)) + 1) := ⟨_, rfl⟩
    have Y : uY g 117 (cX g t fq5) s H locs := by rw [hfq5]; exact Y
    refine r_aload_n X dX8_takesLoan_89 hl 1 rfl ?_
    refine g_8_0 (k := 100) X Y rfl wm_737 dX8_takesLoan_90 ?_
    refine r_iload_n X dX8_takesLoan_93 hl 2 rfl ?_
    refine r_iconst X dX8_takesLoan_94 ?_
    refine r_iadd X dX8_takesLoan_95 ?_
    refine r_dup2 X dX8_takesLoan_96 rfl rfl ?_
    refine g_ild (k := 101) X Y rfl (by omega) (by have q : ((al 101 : Nat) : Int) = 1008 := rfl; omega) dX8_takesLoan_97 ?_
    refine r_eq (z' := f 101 (h + 3)) (by rw [hfq5, upA_i _ _ _ (by omega), hfq4, upA_i _ _ _ (by omega), hfq3, upA_i _ _ _ (by omega), hfq2, upA_i _ _ _ (by omega), hfq1, upA_i _ _ _ (by omega)]) ?_
    refine r_iload_n X dX8_takesLoan_98 hl 4 rfl ?_
    refine r_iadd X dX8_takesLoan_99 ?_
    refine p_ist (k := 101) X Y rfl (by omega) (by have q : ((al 101 : Nat) : Int) = 1008 := rfl; omega) dX8_takesLoan_100 (fun H locs Y => ?_)
    obtain ⟨fq6, hfq6⟩ : ∃ q, q = upA fq5 101 (h + 3) ((f 101 (h + 3)) + v) := ⟨_, rfl⟩
    have Y : uY g 117 (cX g t fq6) s H locs := by rw [hfq6]; exact Y
    exact ret _ _ _ _ _ _ dX8_takesLoan_101 Y ⟨rfl, by rw [hfq6, hfq5, hfq4, hfq3, hfq2, hfq1]; rfl⟩
set_option maxHeartbeats 4000000 in
set_option maxRecDepth 100000 in
theorem ct_X8_sails (l : Launch) (g : uG) (t : uN) (f : uF) (c0 : Int) (hc : c0 = 0 ∨ c0 = 1) (h2 : 0 ≤ f 101 2 ∧ f 101 2 ≤ 9) : cF_v l yX8_sails cX8_sails 2 1 g [.ref (g.1 + 100), .int (iV (c0))] t f (t) (saiF f c0) := by
  refine eF_v (by decide +kernel) (Nat.le_of_ble_eq_true rfl) ?_
  intro p e R s m args below meth c Q ls H locs X Y hl ret
  have X : uX p 1 R s m args c cX8_sails 2 RX8 := X
  have hl : lv_has ls 2 [(0, .ref (g.1 + 100)), (1, .int (iV (c0)))] := hl
  refine r_iload_n X dX8_sails_0 hl 1 rfl ?_
  refine r_if_eq X (tgt := 40) dX8_sails_1 (by decide) ⟨by omega, by omega⟩ (fun c1 => ?_) (fun c1 => ?_)
  · refine r_aload_n X dX8_sails_40 hl 0 rfl ?_
    refine g_8_0 (k := 100) X Y rfl wm_737 dX8_sails_41 ?_
    refine r_iconst X dX8_sails_44 ?_
    refine r_iconst X dX8_sails_45 ?_
    refine p_ist (k := 101) X Y rfl (by omega) (by have q : ((al 101 : Nat) : Int) = 1008 := rfl; omega) dX8_sails_46 (fun H locs Y => ?_)
    obtain ⟨fq1, hfq1⟩ : ∃ q, q = upA f 101 1 1 := ⟨_, rfl⟩
    have Y : uY g 117 (cX g t fq1) s H locs := by rw [hfq1]; exact Y
    exact ret _ _ _ _ _ _ dX8_sails_47 Y ⟨rfl, by unfold saiF; rw [if_pos (by omega)]; exact hfq1⟩
  · refine r_aload_n X dX8_sails_4 hl 0 rfl ?_
    refine g_8_0 (k := 100) X Y rfl wm_737 dX8_sails_5 ?_
    refine r_iconst X dX8_sails_8 ?_
    refine r_dup2 X dX8_sails_9 rfl rfl ?_
    refine g_ild (k := 101) X Y rfl (by omega) (by have q : ((al 101 : Nat) : Int) = 1008 := rfl; omega) dX8_sails_10 ?_
    refine r_iconst X dX8_sails_11 ?_
    refine r_iadd X dX8_sails_12 ?_
    refine p_ist (k := 101) X Y rfl (by omega) (by have q : ((al 101 : Nat) : Int) = 1008 := rfl; omega) dX8_sails_13 (fun H locs Y => ?_)
    obtain ⟨fq1, hfq1⟩ : ∃ q, q = upA f 101 0 ((f 101 0) + 1) := ⟨_, rfl⟩
    have Y : uY g 117 (cX g t fq1) s H locs := by rw [hfq1]; exact Y
    refine r_aload_n X dX8_sails_14 hl 0 rfl ?_
    refine g_8_0 (k := 100) X Y rfl wm_737 dX8_sails_15 ?_
    refine r_iconst X dX8_sails_18 ?_
    refine r_dup2 X dX8_sails_19 rfl rfl ?_
    refine g_ild (k := 101) X Y rfl (by omega) (by have q : ((al 101 : Nat) : Int) = 1008 := rfl; omega) dX8_sails_20 ?_
    refine r_eq (z' := f 101 2) (by rw [hfq1, upA_i _ _ _ (by omega)]) ?_
    refine r_aload_n X dX8_sails_21 hl 0 rfl ?_
    refine g_8_0 (k := 100) X Y rfl wm_737 dX8_sails_22 ?_
    refine r_iconst X dX8_sails_25 ?_
    refine g_ild (k := 101) X Y rfl (by omega) (by have q : ((al 101 : Nat) : Int) = 1008 := rfl; omega) dX8_sails_26 ?_
    refine r_eq (z' := f 101 2) (by rw [hfq1, upA_i _ _ _ (by omega)]) ?_
    refine r_if_le X (tgt := 34) dX8_sails_27 (by decide) ⟨by omega, by omega⟩ (fun c27 => ?_) (fun c27 => ?_)
    · refine r_iconst X dX8_sails_34 ?_
      refine r_isub X dX8_sails_35 ?_
      refine p_ist (k := 101) X Y rfl (by omega) (by have q : ((al 101 : Nat) : Int) = 1008 := rfl; omega) dX8_sails_36 (fun H locs Y => ?_)
      obtain ⟨fq2, hfq2⟩ : ∃ q, q = upA fq1 101 2 ((f 101 2) - 0) := ⟨_, rfl⟩
      have Y : uY g 117 (cX g t fq2) s H locs := by rw [hfq2]; exact Y
      refine r_goto X 47 dX8_sails_37 (by decide) ?_
      exact ret _ _ _ _ _ _ dX8_sails_47 Y ⟨rfl, by unfold saiF; rw [if_neg (by omega), hfq2, hfq1]; first | (rw [show max 0 (f 101 2 - 1) = f 101 2 - 1 by omega]) | (rw [show max 0 (f 101 2 - 1) = f 101 2 - 0 by omega])⟩
    · refine r_iconst X dX8_sails_30 ?_
      refine r_goto X 35 dX8_sails_31 (by decide) ?_
      refine r_isub X dX8_sails_35 ?_
      refine p_ist (k := 101) X Y rfl (by omega) (by have q : ((al 101 : Nat) : Int) = 1008 := rfl; omega) dX8_sails_36 (fun H locs Y => ?_)
      obtain ⟨fq2, hfq2⟩ : ∃ q, q = upA fq1 101 2 ((f 101 2) - 1) := ⟨_, rfl⟩
      have Y : uY g 117 (cX g t fq2) s H locs := by rw [hfq2]; exact Y
      refine r_goto X 47 dX8_sails_37 (by decide) ?_
      exact ret _ _ _ _ _ _ dX8_sails_47 Y ⟨rfl, by unfold saiF; rw [if_neg (by omega), hfq2, hfq1]; first | (rw [show max 0 (f 101 2 - 1) = f 101 2 - 1 by omega]) | (rw [show max 0 (f 101 2 - 1) = f 101 2 - 0 by omega])⟩
set_option maxHeartbeats 4000000 in
set_option maxRecDepth 100000 in
theorem ct_X8_borrow (l : Launch) (g : uG) (t : uN) (f : uF) (a : uN) (b : uF) (m0 v fr : Int) (L : ML a b t f) (h2 : t 100 2 = a 21 2) (hu : 0 ≤ a 21 2 ∧ a 21 2 ≤ 20) (hm : inI m0) (hv : inI v) (hf : fr = 0 ∨ fr = 1) : cF_i l yX8_borrow cX8_borrow 4 (some .int) 3 g [.ref (g.1 + 100), .int (iV (m0)), .int (iV (v)), .int (iV (fr))] t f (borX a b m0 v) (if borX a b m0 v < 0 then t else minT t) (if borX a b m0 v < 0 then f else takL (minF t f) 0 m0 v fr) := by
  refine eF_i (by decide +kernel) (Nat.le_of_ble_eq_true rfl) ?_
  intro p e R s m args below meth c Q ls H locs X Y hl ret
  have X : uX p 3 R s m args c cX8_borrow 4 RX8 := X
  have hl : lv_has ls 4 [(0, .ref (g.1 + 100)), (1, .int (iV (m0))), (2, .int (iV (v))), (3, .int (iV (fr)))] := hl
  have hb := L.1.b
  obtain ⟨p0, p1, p2, p3, p4⟩ := L.p
  obtain ⟨v3, v4, v5, v6, v10⟩ := L.v
  have hk := L.2.1.2.1
  have hns := L.2.2.1
  have qf := tfull_b a 19
  have qm : tm 19 = 8 := rfl
  have qp := inPortX_b a
  refine r_aload_n X dX8_borrow_0 hl 0 rfl ?_
  refine r_iload_n X dX8_borrow_1 hl 1 rfl ?_
  refine vF_i X Y [.int (iV (m0))] [] (ct_X8_isLender l g t f a b m0 L ⟨by omega, by omega⟩) mk_X8_isLender mi_X8_isLender wm_948 (by decide) (rv_8 Y rfl) rfl hl (Nat.le_of_ble_eq_true rfl) rfl dX8_borrow_2 (Nat.zero_le _) (Nat.zero_le _) (fun H locs Y => ?_)
  have qh2 := thas_b a 16 m0
  refine r_if_ne X (tgt := 11) dX8_borrow_5 (by decide) ⟨by omega, by omega⟩ (fun c5 => ?_) (fun c5 => ?_)
  · refine r_iload_n X dX8_borrow_11 hl 2 rfl ?_
    refine r_i2l X dX8_borrow_12 ⟨by omega, by omega⟩ ?_
    refine r_lconst X 1 dX8_borrow_13 (by decide) ?_
    refine r_ldc2 X 999 wm_981 (by decide) dX8_borrow_14 ?_
    refine sF_i X Y [.long (lV (v)), .long (lV (1)), .long (lV (999))] [] (ct_X8_in l g t f v 1 999 ⟨by omega, by omega⟩ ⟨by omega, by omega⟩ ⟨by omega, by omega⟩) mk_X8_in mi_X8_in wm_852 (by decide) rfl hl (Nat.le_of_ble_eq_true rfl) rfl dX8_borrow_17 (Nat.zero_le _) (Nat.zero_le _) (fun H locs Y => ?_)
    have qi17 := inX_b v 1 999
    refine r_if_ne X (tgt := 26) dX8_borrow_20 (by decide) ⟨by omega, by omega⟩ (fun c20 => ?_) (fun c20 => ?_)
    · refine r_aload_n X dX8_borrow_26 hl 0 rfl ?_
      refine vF_i X Y [] [] (ct_X8_where l g t f a b L) mk_X8_where mi_X8_where wm_907 (by decide) (rv_8 Y rfl) rfl hl (Nat.le_of_ble_eq_true rfl) rfl dX8_borrow_27 (Nat.zero_le _) (Nat.zero_le _) (fun H locs Y => ?_)
      have qw27 := whereX_b hb.1.2.2.2
      refine r_if_ne X (tgt := 42) dX8_borrow_30 (by decide) ⟨by omega, by omega⟩ (fun c30 => ?_) (fun c30 => ?_)
      · refine r_ldc X (-1000000003) wm_972 (by decide) dX8_borrow_42 ?_
        exact ret _ _ _ _ _ _ _ dX8_borrow_44 Y (by have hq : borX a b m0 v = (-1000000003) := (by unfold borX; repeat (first | rw [if_pos (by omega)] | rw [if_neg (by omega)])); exact ⟨hq.symm, by rw [hq, if_pos (by decide)], by rw [hq, if_pos (by decide)]⟩)
      · refine r_aload_n X dX8_borrow_33 hl 0 rfl ?_
        refine r_iload_n X dX8_borrow_34 hl 1 rfl ?_
        refine vF_i X Y [.int (iV (m0))] [] (ct_X8_yetOf l g t f a b m0 L (by omega) (by omega)) mk_X8_yetOf mi_X8_yetOf wm_952 (by decide) (rv_8 Y rfl) rfl hl (Nat.le_of_ble_eq_true rfl) rfl dX8_borrow_35 (Nat.zero_le _) (Nat.zero_le _) (fun H locs Y => ?_)
        have qy35 := yetX_rng L.1 m0
        refine r_iload_n X dX8_borrow_38 hl 2 rfl ?_
        refine r_icmp_ge X (tgt := 45) dX8_borrow_39 (by decide) ⟨by omega, by omega⟩ ⟨by omega, by omega⟩ (fun c39 => ?_) (fun c39 => ?_)
        · refine r_aload_n X dX8_borrow_45 hl 0 rfl ?_
          refine g_8_0 (k := 100) X Y rfl wm_737 dX8_borrow_46 ?_
          refine r_iconst X dX8_borrow_49 ?_
          refine g_ild (k := 101) X Y rfl (by omega) (by have q : ((al 101 : Nat) : Int) = 1008 := rfl; omega) dX8_borrow_50 ?_
          refine r_bipush X 8 dX8_borrow_51 (by decide) ?_
          refine r_icmp_ne X (tgt := 59) dX8_borrow_53 (by decide) ⟨by omega, by omega⟩ ⟨by omega, by omega⟩ (fun c53 => ?_) (fun c53 => ?_)
          · refine r_aload_n X dX8_borrow_59 hl 0 rfl ?_
            refine vF_v X Y [] [] (ct_X8_minds l g t f (by omega) (by omega)) mk_X8_minds mi_X8_minds wm_982 (by decide) (rv_8 Y rfl) rfl hl (Nat.le_of_ble_eq_true rfl) rfl dX8_borrow_60 (Nat.zero_le _) (Nat.zero_le _) (fun H locs Y => ?_)
            obtain ⟨tq1, htq1⟩ : ∃ q, q = minT t := ⟨_, rfl⟩
            obtain ⟨fq2, hfq2⟩ : ∃ q, q = minF t f := ⟨_, rfl⟩
            have Y : uY g 117 (cX g tq1 fq2) s H locs := by rw [htq1, hfq2]; exact Y
            have elo : ∀ i, i < 168 → fq2 101 i = f 101 i := fun i hi => by rw [hfq2]; exact minF_lo (by omega) hi
            have e4 := elo 4 (by omega)
            have e0 := elo 0 (by omega)
            have e2 := elo 2 (by omega)
            have e3 := elo 3 (by omega)
            refine r_aload_n X dX8_borrow_63 hl 0 rfl ?_
            refine r_iconst X dX8_borrow_64 ?_
            refine r_iload_n X dX8_borrow_65 hl 1 rfl ?_
            refine r_iload_n X dX8_borrow_66 hl 2 rfl ?_
            refine r_iload_n X dX8_borrow_67 hl 3 rfl ?_
            refine vF_v X Y [.int (iV (0)), .int (iV (m0)), .int (iV (v)), .int (iV (fr))] [] (ct_X8_takesLoan l g tq1 fq2 0 m0 v fr (Or.inl rfl) (show 0 ≤ fq2 101 4 by omega) (show fq2 101 4 ≤ 8 by omega) hf) mk_X8_takesLoan mi_X8_takesLoan wm_986 (by decide) (rv_8 Y rfl) rfl hl (Nat.le_of_ble_eq_true rfl) rfl dX8_borrow_68 (Nat.zero_le _) (Nat.zero_le _) (fun H locs Y => ?_)
            obtain ⟨fq3, hfq3⟩ : ∃ q, q = takL fq2 0 m0 v fr := ⟨_, rfl⟩
            have Y : uY g 117 (cX g tq1 fq3) s H locs := by rw [hfq3]; exact Y
            refine r_aload_n X dX8_borrow_71 hl 0 rfl ?_
            refine g_8_0 (k := 100) X Y rfl wm_737 dX8_borrow_72 ?_
            refine r_iconst X dX8_borrow_75 ?_
            refine g_ild (k := 101) X Y rfl (by omega) (by have q : ((al 101 : Nat) : Int) = 1008 := rfl; omega) dX8_borrow_76 ?_
            refine r_eq (z' := a 19 3 + 1) (by rw [hfq3, takL_4]; omega) ?_
            refine r_iconst X dX8_borrow_77 ?_
            refine r_isub X dX8_borrow_78 ?_
            exact ret _ _ _ _ _ _ _ dX8_borrow_79 Y (by have hq : borX a b m0 v = a 19 3 := (by unfold borX; repeat (first | rw [if_pos (by omega)] | rw [if_neg (by omega)])); have hn : ¬ borX a b m0 v < 0 := (by omega); exact ⟨by rw [hq]; omega, by rw [if_neg hn]; exact htq1, by rw [if_neg hn, hfq3, hfq2]⟩)
          · refine r_ldc X (-1000000004) wm_856 (by decide) dX8_borrow_56 ?_
            exact ret _ _ _ _ _ _ _ dX8_borrow_58 Y (by have hq : borX a b m0 v = (-1000000004) := (by unfold borX; repeat (first | rw [if_pos (by omega)] | rw [if_neg (by omega)])); exact ⟨hq.symm, by rw [hq, if_pos (by decide)], by rw [hq, if_pos (by decide)]⟩)
        · refine r_ldc X (-1000000003) wm_972 (by decide) dX8_borrow_42 ?_
          exact ret _ _ _ _ _ _ _ dX8_borrow_44 Y (by have hq : borX a b m0 v = (-1000000003) := (by unfold borX; repeat (first | rw [if_pos (by omega)] | rw [if_neg (by omega)])); exact ⟨hq.symm, by rw [hq, if_pos (by decide)], by rw [hq, if_pos (by decide)]⟩)
    · refine r_ldc X (-1000000002) wm_855 (by decide) dX8_borrow_23 ?_
      exact ret _ _ _ _ _ _ _ dX8_borrow_25 Y (by have hq : borX a b m0 v = (-1000000002) := (by unfold borX; repeat (first | rw [if_pos (by omega)] | rw [if_neg (by omega)])); exact ⟨hq.symm, by rw [hq, if_pos (by decide)], by rw [hq, if_pos (by decide)]⟩)
  · refine r_ldc X (-1000000001) wm_939 (by decide) dX8_borrow_8 ?_
    exact ret _ _ _ _ _ _ _ dX8_borrow_10 Y (by have hq : borX a b m0 v = (-1000000001) := (by unfold borX; repeat (first | rw [if_pos (by omega)] | rw [if_neg (by omega)])); exact ⟨hq.symm, by rw [hq, if_pos (by decide)], by rw [hq, if_pos (by decide)]⟩)
set_option maxHeartbeats 4000000 in
set_option maxRecDepth 100000 in
theorem ct_X8_repair (l : Launch) (g : uG) (t : uN) (f : uF) (a : uN) (b : uF) (k : Int) (L : ML a b t f) (h2 : t 100 2 = a 21 2) (hu : 0 ≤ a 21 2 ∧ a 21 2 ≤ 20) (hk : inI k) : cF_i l yX8_repair cX8_repair 2 (some .int) 3 g [.ref (g.1 + 100), .int (iV (k))] t f (repX a b k) (if repX a b k < 0 then t else minT t) (if repX a b k < 0 then f else upA (upA (minF t f) 101 3 (a 18 2 - k * costX a b)) 101 2 (a 18 1 + k)) := by
  refine eF_i (by decide +kernel) (Nat.le_of_ble_eq_true rfl) ?_
  intro p e R s m args below meth c Q ls H locs X Y hl ret
  have X : uX p 3 R s m args c cX8_repair 2 RX8 := X
  have hl : lv_has ls 2 [(0, .ref (g.1 + 100)), (1, .int (iV (k)))] := hl
  have hb := L.1.b
  obtain ⟨p0, p1, p2, p3, p4⟩ := L.p
  obtain ⟨v3, v4, v5, v6, v10⟩ := L.v
  have hk := L.2.1.2.1
  have hns := L.2.2.1
  have qp := inPortX_b a
  have hco : a 18 3 < a 14 3 → f 105 (a 18 3) = costX a b ∧ 0 ≤ costX a b ∧ costX a b ≤ 99 := fun q => ⟨(L.l (by omega) q).1.2.2, (L.1.leg (a 18 3)).2.2⟩
  refine r_iload_n X dX8_repair_0 hl 1 rfl ?_
  refine r_i2l X dX8_repair_1 ⟨by omega, by omega⟩ ?_
  refine r_lconst X 1 dX8_repair_2 (by decide) ?_
  refine r_ldc2 X 9 wm_994 (by decide) dX8_repair_3 ?_
  refine sF_i X Y [.long (lV (k)), .long (lV (1)), .long (lV (9))] [] (ct_X8_in l g t f k 1 9 ⟨by omega, by omega⟩ ⟨by omega, by omega⟩ ⟨by omega, by omega⟩) mk_X8_in mi_X8_in wm_852 (by decide) rfl hl (Nat.le_of_ble_eq_true rfl) rfl dX8_repair_6 (Nat.zero_le _) (Nat.zero_le _) (fun H locs Y => ?_)
  have qi6 := inX_b k 1 9
  refine r_if_ne X (tgt := 15) dX8_repair_9 (by decide) ⟨by omega, by omega⟩ (fun c9 => ?_) (fun c9 => ?_)
  · refine r_aload_n X dX8_repair_15 hl 0 rfl ?_
    refine vF_i X Y [] [] (ct_X8_where l g t f a b L) mk_X8_where mi_X8_where wm_907 (by decide) (rv_8 Y rfl) rfl hl (Nat.le_of_ble_eq_true rfl) rfl dX8_repair_16 (Nat.zero_le _) (Nat.zero_le _) (fun H locs Y => ?_)
    have qw16 := whereX_b hb.1.2.2.2
    refine r_if_ne X (tgt := 57) dX8_repair_19 (by decide) ⟨by omega, by omega⟩ (fun c19 => ?_) (fun c19 => ?_)
    · refine r_ldc X (-1000000003) wm_972 (by decide) dX8_repair_57 ?_
      exact ret _ _ _ _ _ _ _ dX8_repair_59 Y (by have hq : repX a b k = (-1000000003) := (by unfold repX; repeat (first | rw [if_pos (by omega)] | rw [if_neg (by omega)])); exact ⟨hq.symm, by rw [hq, if_pos (by decide)], by rw [hq, if_pos (by decide)]⟩)
    · refine r_aload_n X dX8_repair_22 hl 0 rfl ?_
      refine g_8_0 (k := 100) X Y rfl wm_737 dX8_repair_23 ?_
      refine r_iconst X dX8_repair_26 ?_
      refine g_ild (k := 101) X Y rfl (by omega) (by have q : ((al 101 : Nat) : Int) = 1008 := rfl; omega) dX8_repair_27 ?_
      refine r_iload_n X dX8_repair_28 hl 1 rfl ?_
      refine r_iadd X dX8_repair_29 ?_
      refine r_bipush X 9 dX8_repair_30 (by decide) ?_
      refine r_icmp_gt X (tgt := 57) dX8_repair_32 (by decide) ⟨by omega, by omega⟩ ⟨by omega, by omega⟩ (fun c32 => ?_) (fun c32 => ?_)
      · refine r_ldc X (-1000000003) wm_972 (by decide) dX8_repair_57 ?_
        exact ret _ _ _ _ _ _ _ dX8_repair_59 Y (by have hq : repX a b k = (-1000000003) := (by unfold repX; repeat (first | rw [if_pos (by omega)] | rw [if_neg (by omega)])); exact ⟨hq.symm, by rw [hq, if_pos (by decide)], by rw [hq, if_pos (by decide)]⟩)
      · obtain ⟨hc1, hc2, hc3⟩ := hco (by omega)
        have m0 : 0 ≤ k * costX a b := Int.mul_nonneg (by omega) (by omega)
        have m1 : k * costX a b ≤ 9 * 99 := Int.mul_le_mul (by omega) (by omega) (by omega) (by omega)
        refine r_aload_n X dX8_repair_35 hl 0 rfl ?_
        refine g_8_0 (k := 100) X Y rfl wm_737 dX8_repair_36 ?_
        refine r_iconst X dX8_repair_39 ?_
        refine g_ild (k := 101) X Y rfl (by omega) (by have q : ((al 101 : Nat) : Int) = 1008 := rfl; omega) dX8_repair_40 ?_
        refine r_iload_n X dX8_repair_41 hl 1 rfl ?_
        refine r_aload_n X dX8_repair_42 hl 0 rfl ?_
        refine g_8_9 (k := 100) X Y rfl wm_746 dX8_repair_43 ?_
        refine r_aload_n X dX8_repair_46 hl 0 rfl ?_
        refine g_8_0 (k := 100) X Y rfl wm_737 dX8_repair_47 ?_
        refine r_iconst X dX8_repair_50 ?_
        refine g_ild (k := 101) X Y rfl (by omega) (by have q : ((al 101 : Nat) : Int) = 1008 := rfl; omega) dX8_repair_51 ?_
        refine g_ild (k := 105) X Y rfl (by omega) (by have q : ((al 105 : Nat) : Int) = 7 := rfl; omega) dX8_repair_52 ?_
        refine r_eq (z' := costX a b) (by rw [p0]; exact hc1) ?_
        refine r_imul X dX8_repair_53 ?_
        refine r_icmp_ge X (tgt := 60) dX8_repair_54 (by decide) ⟨by omega, by omega⟩ ⟨by omega, by omega⟩ (fun c54 => ?_) (fun c54 => ?_)
        · refine r_aload_n X dX8_repair_60 hl 0 rfl ?_
          refine vF_v X Y [] [] (ct_X8_minds l g t f (by omega) (by omega)) mk_X8_minds mi_X8_minds wm_982 (by decide) (rv_8 Y rfl) rfl hl (Nat.le_of_ble_eq_true rfl) rfl dX8_repair_61 (Nat.zero_le _) (Nat.zero_le _) (fun H locs Y => ?_)
          obtain ⟨tq1, htq1⟩ : ∃ q, q = minT t := ⟨_, rfl⟩
          obtain ⟨fq2, hfq2⟩ : ∃ q, q = minF t f := ⟨_, rfl⟩
          have Y : uY g 117 (cX g tq1 fq2) s H locs := by rw [htq1, hfq2]; exact Y
          have elo : ∀ i, i < 168 → fq2 101 i = f 101 i := fun i hi => by rw [hfq2]; exact minF_lo (by omega) hi
          have e4 := elo 4 (by omega)
          have e0 := elo 0 (by omega)
          have e2 := elo 2 (by omega)
          have e3 := elo 3 (by omega)
          have e105 : ∀ i, fq2 105 i = f 105 i := fun i => by rw [hfq2]; exact minF_k (by decide) i
          refine r_aload_n X dX8_repair_64 hl 0 rfl ?_
          refine g_8_0 (k := 100) X Y rfl wm_737 dX8_repair_65 ?_
          refine r_iconst X dX8_repair_68 ?_
          refine r_dup2 X dX8_repair_69 rfl rfl ?_
          refine g_ild (k := 101) X Y rfl (by omega) (by have q : ((al 101 : Nat) : Int) = 1008 := rfl; omega) dX8_repair_70 ?_
          refine r_eq (z' := a 18 2) (by omega) ?_
          refine r_iload_n X dX8_repair_71 hl 1 rfl ?_
          refine r_aload_n X dX8_repair_72 hl 0 rfl ?_
          refine g_8_9 (k := 100) X Y rfl wm_746 dX8_repair_73 ?_
          refine r_aload_n X dX8_repair_76 hl 0 rfl ?_
          refine g_8_0 (k := 100) X Y rfl wm_737 dX8_repair_77 ?_
          refine r_iconst X dX8_repair_80 ?_
          refine g_ild (k := 101) X Y rfl (by omega) (by have q : ((al 101 : Nat) : Int) = 1008 := rfl; omega) dX8_repair_81 ?_
          refine g_ild (k := 105) X Y rfl (by omega) (by have q : ((al 105 : Nat) : Int) = 7 := rfl; omega) dX8_repair_82 ?_
          refine r_eq (z' := costX a b) (by rw [e105, elo 0 (by omega), p0]; exact hc1) ?_
          refine r_imul X dX8_repair_83 ?_
          refine r_isub X dX8_repair_84 ?_
          refine p_ist (k := 101) X Y rfl (by omega) (by have q : ((al 101 : Nat) : Int) = 1008 := rfl; omega) dX8_repair_85 (fun H locs Y => ?_)
          obtain ⟨fq3, hfq3⟩ : ∃ q, q = upA fq2 101 3 ((a 18 2) - (k * (costX a b))) := ⟨_, rfl⟩
          have Y : uY g 117 (cX g tq1 fq3) s H locs := by rw [hfq3]; exact Y
          refine r_aload_n X dX8_repair_86 hl 0 rfl ?_
          refine g_8_0 (k := 100) X Y rfl wm_737 dX8_repair_87 ?_
          refine r_iconst X dX8_repair_90 ?_
          refine r_dup2 X dX8_repair_91 rfl rfl ?_
          refine g_ild (k := 101) X Y rfl (by omega) (by have q : ((al 101 : Nat) : Int) = 1008 := rfl; omega) dX8_repair_92 ?_
          refine r_eq (z' := a 18 1) (by rw [hfq3, upA_i _ _ _ (by omega)]; omega) ?_
          refine r_iload_n X dX8_repair_93 hl 1 rfl ?_
          refine r_iadd X dX8_repair_94 ?_
          refine p_ist (k := 101) X Y rfl (by omega) (by have q : ((al 101 : Nat) : Int) = 1008 := rfl; omega) dX8_repair_95 (fun H locs Y => ?_)
          obtain ⟨fq4, hfq4⟩ : ∃ q, q = upA fq3 101 2 ((a 18 1) + k) := ⟨_, rfl⟩
          have Y : uY g 117 (cX g tq1 fq4) s H locs := by rw [hfq4]; exact Y
          refine r_aload_n X dX8_repair_96 hl 0 rfl ?_
          refine g_8_0 (k := 100) X Y rfl wm_737 dX8_repair_97 ?_
          refine r_iconst X dX8_repair_100 ?_
          refine g_ild (k := 101) X Y rfl (by omega) (by have q : ((al 101 : Nat) : Int) = 1008 := rfl; omega) dX8_repair_101 ?_
          refine r_eq (z' := a 18 1 + k) (by rw [hfq4, upA_s]) ?_
          exact ret _ _ _ _ _ _ _ dX8_repair_102 Y (by have hq : repX a b k = (a 18 1 + k) := (by unfold repX; repeat (first | rw [if_pos (by omega)] | rw [if_neg (by omega)])); have hn : ¬ repX a b k < 0 := (by omega); exact ⟨by first | exact hq.symm | (rw [hq]; omega), by rw [if_neg hn, htq1], by rw [if_neg hn, hfq4, hfq3, hfq2]⟩)
        · refine r_ldc X (-1000000003) wm_972 (by decide) dX8_repair_57 ?_
          exact ret _ _ _ _ _ _ _ dX8_repair_59 Y (by have hq : repX a b k = (-1000000003) := (by unfold repX; repeat (first | rw [if_pos (by omega)] | rw [if_neg (by omega)])); exact ⟨hq.symm, by rw [hq, if_pos (by decide)], by rw [hq, if_pos (by decide)]⟩)
  · refine r_ldc X (-1000000002) wm_855 (by decide) dX8_repair_12 ?_
    exact ret _ _ _ _ _ _ _ dX8_repair_14 Y (by have hq : repX a b k = (-1000000002) := (by unfold repX; repeat (first | rw [if_pos (by omega)] | rw [if_neg (by omega)])); exact ⟨hq.symm, by rw [hq, if_pos (by decide)], by rw [hq, if_pos (by decide)]⟩)
set_option maxHeartbeats 4000000 in
set_option maxRecDepth 100000 in
theorem ct_X8_sail (l : Launch) (g : uG) (t : uN) (f : uF) (a : uN) (b : uF) (c0 : Int) (L : ML a b t f) (h2 : t 100 2 = a 21 2) (hu : 0 ≤ a 21 2 ∧ a 21 2 ≤ 20) (hc : c0 = 0 ∨ c0 = 1) : cF_i l yX8_sail cX8_sail 2 (some .int) 3 g [.ref (g.1 + 100), .int (iV (c0))] t f (saiX a c0) (if saiX a c0 < 0 then t else minT t) (if saiX a c0 < 0 then f else saiF (minF t f) c0) := by
  refine eF_i (by decide +kernel) (Nat.le_of_ble_eq_true rfl) ?_
  intro p e R s m args below meth c Q ls H locs X Y hl ret
  have X : uX p 3 R s m args c cX8_sail 2 RX8 := X
  have hl : lv_has ls 2 [(0, .ref (g.1 + 100)), (1, .int (iV (c0)))] := hl
  have hb := L.1.b
  obtain ⟨p0, p1, p2, p3, p4⟩ := L.p
  obtain ⟨v3, v4, v5, v6, v10⟩ := L.v
  have hk := L.2.1.2.1
  have hns := L.2.2.1
  have qp := inPortX_b a
  refine r_aload_n X dX8_sail_0 hl 0 rfl ?_
  refine vF_i X Y [] [] (ct_X8_where l g t f a b L) mk_X8_where mi_X8_where wm_907 (by decide) (rv_8 Y rfl) rfl hl (Nat.le_of_ble_eq_true rfl) rfl dX8_sail_1 (Nat.zero_le _) (Nat.zero_le _) (fun H locs Y => ?_)
  have qw1 := whereX_b hb.1.2.2.2
  refine r_if_eq X (tgt := 10) dX8_sail_4 (by decide) ⟨by omega, by omega⟩ (fun c4 => ?_) (fun c4 => ?_)
  · refine r_aload_n X dX8_sail_10 hl 0 rfl ?_
    refine vF_v X Y [] [] (ct_X8_minds l g t f (by omega) (by omega)) mk_X8_minds mi_X8_minds wm_982 (by decide) (rv_8 Y rfl) rfl hl (Nat.le_of_ble_eq_true rfl) rfl dX8_sail_11 (Nat.zero_le _) (Nat.zero_le _) (fun H locs Y => ?_)
    obtain ⟨tq1, htq1⟩ : ∃ q, q = minT t := ⟨_, rfl⟩
    obtain ⟨fq2, hfq2⟩ : ∃ q, q = minF t f := ⟨_, rfl⟩
    have Y : uY g 117 (cX g tq1 fq2) s H locs := by rw [htq1, hfq2]; exact Y
    have elo : ∀ i, i < 168 → fq2 101 i = f 101 i := fun i hi => by rw [hfq2]; exact minF_lo (by omega) hi
    have e4 := elo 4 (by omega)
    have e0 := elo 0 (by omega)
    have e2 := elo 2 (by omega)
    have e3 := elo 3 (by omega)
    refine r_aload_n X dX8_sail_14 hl 0 rfl ?_
    refine r_iload_n X dX8_sail_15 hl 1 rfl ?_
    refine vF_v X Y [.int (iV (c0))] [] (ct_X8_sails l g tq1 fq2 c0 hc (show 0 ≤ fq2 101 2 ∧ fq2 101 2 ≤ 9 by omega)) mk_X8_sails mi_X8_sails wm_999 (by decide) (rv_8 Y rfl) rfl hl (Nat.le_of_ble_eq_true rfl) rfl dX8_sail_16 (Nat.zero_le _) (Nat.zero_le _) (fun H locs Y => ?_)
    obtain ⟨fq3, hfq3⟩ : ∃ q, q = saiF fq2 c0 := ⟨_, rfl⟩
    have Y : uY g 117 (cX g tq1 fq3) s H locs := by rw [hfq3]; exact Y
    refine r_aload_n X dX8_sail_19 hl 0 rfl ?_
    refine g_8_0 (k := 100) X Y rfl wm_737 dX8_sail_20 ?_
    refine r_iconst X dX8_sail_23 ?_
    refine g_ild (k := 101) X Y rfl (by omega) (by have q : ((al 101 : Nat) : Int) = 1008 := rfl; omega) dX8_sail_24 ?_
    refine r_eq (z' := if c0 = 0 then a 18 3 else a 18 3 + 1) (by rw [hfq3, saiF_0 _ hc]; split <;> omega) ?_
    exact ret _ _ _ _ _ _ _ dX8_sail_25 Y (by have hq : saiX a c0 = (if c0 = 0 then a 18 3 else a 18 3 + 1) := (by unfold saiX; repeat (first | rw [if_pos (by omega)] | rw [if_neg (by omega)])); have hn : ¬ saiX a c0 < 0 := (by omega); exact ⟨by first | exact hq.symm | (rw [hq]; omega), by rw [if_neg hn, htq1], by rw [if_neg hn, hfq3, hfq2]⟩)
  · refine r_ldc X (-1000000003) wm_972 (by decide) dX8_sail_7 ?_
    exact ret _ _ _ _ _ _ _ dX8_sail_9 Y (by have hq : saiX a c0 = (-1000000003) := (by unfold saiX; repeat (first | rw [if_pos (by omega)] | rw [if_neg (by omega)])); exact ⟨hq.symm, by rw [hq, if_pos (by decide)], by rw [hq, if_pos (by decide)]⟩)
set_option maxHeartbeats 4000000 in
set_option maxRecDepth 100000 in
theorem ct_X8_undo (l : Launch) (g : uG) (t : uN) (f : uF) (a : uN) (b : uF) (L : ML a b t f) (h2 : t 100 2 = a 21 2) (hu : 0 ≤ a 21 2 ∧ a 21 2 ≤ 20) : cF_i l yX8_undo cX8_undo 2 (some .int) 2 g [.ref (g.1 + 100)] t f (undX a) (if undX a < 0 then t else up2 t 100 2 (t 100 2 - 1)) (if undX a < 0 then f else undF t f) := by
  refine eF_i (by decide +kernel) (Nat.le_of_ble_eq_true rfl) ?_
  intro p e R s m args below meth c Q ls H locs X Y hl ret
  have X : uX p 2 R s m args c cX8_undo 2 RX8 := X
  have hl : lv_has ls 2 [(0, .ref (g.1 + 100))] := hl
  have hb := L.1.b
  obtain ⟨p0, p1, p2, p3, p4⟩ := L.p
  obtain ⟨v3, v4, v5, v6, v10⟩ := L.v
  have hk := L.2.1.2.1
  have hns := L.2.2.1
  refine r_aload_n X dX8_undo_0 hl 0 rfl ?_
  refine g_8_2 (k := 100) X Y rfl wm_739 dX8_undo_1 ?_
  refine r_if_ne X (tgt := 10) dX8_undo_4 (by decide) ⟨by omega, by omega⟩ (fun c4 => ?_) (fun c4 => ?_)
  · refine r_aload_n X dX8_undo_10 hl 0 rfl ?_
    refine g_8_0 (k := 100) X Y rfl wm_737 dX8_undo_11 ?_
    refine r_bipush X 41 dX8_undo_14 (by decide) ?_
    refine g_ild (k := 101) X Y rfl (by omega) (by have q : ((al 101 : Nat) : Int) = 1008 := rfl; omega) dX8_undo_16 ?_
    refine r_istore_n X dX8_undo_17 hl [(1, .int (iV (f 101 41))), (0, .ref (g.1 + 100))] (by decide) rfl (fun ls hl => ?_)
    refine r_aload_n X dX8_undo_18 hl 1 rfl ?_
    refine r_dup X dX8_undo_19 rfl ?_
    refine g_8_2 (k := 100) X Y rfl wm_739 dX8_undo_20 ?_
    refine r_iconst X dX8_undo_23 ?_
    refine r_isub X dX8_undo_24 ?_
    refine p_8_2 (k := 100) X Y rfl wm_739 dX8_undo_25 (fun H locs Y => ?_)
    obtain ⟨tq1, htq1⟩ : ∃ q, q = up2 t 100 2 ((t 100 2) - 1) := ⟨_, rfl⟩
    have Y : uY g 117 (cX g tq1 f) s H locs := by rw [htq1]; exact Y
    refine r_aload_n X dX8_undo_28 hl 1 rfl ?_
    refine r_sipush X 168 dX8_undo_29 (by decide) ?_
    refine r_bipush X 42 dX8_undo_32 (by decide) ?_
    refine r_aload_n X dX8_undo_34 hl 1 rfl ?_
    refine g_8_2 (k := 100) X Y rfl wm_739 dX8_undo_35 ?_
    refine r_eq (z' := t 100 2 - 1) (by rw [htq1, up2_s]) ?_
    refine r_imul X dX8_undo_38 ?_
    refine r_iadd X dX8_undo_39 ?_
    refine r_iconst X dX8_undo_40 ?_
    refine vF_v X Y [.int (iV (168 + (42 * (t 100 2 - 1)))), .int (iV (0))] [] (ct_X8_copy l g tq1 f (168 + (42 * (t 100 2 - 1))) 0 (by omega) (by omega) (by omega) (by omega) (by omega)) mk_X8_copy mi_X8_copy wm_973 (by decide) (rv_8 Y rfl) rfl hl (Nat.le_of_ble_eq_true rfl) rfl dX8_undo_41 (Nat.zero_le _) (Nat.zero_le _) (fun H locs Y => ?_)
    obtain ⟨fq2, hfq2⟩ : ∃ q, q = cpW f (168 + (42 * (t 100 2 - 1))) 0 := ⟨_, rfl⟩
    have Y : uY g 117 (cX g tq1 fq2) s H locs := by rw [hfq2]; exact Y
    refine r_aload_n X dX8_undo_44 hl 1 rfl ?_
    refine g_8_0 (k := 100) X Y rfl wm_737 dX8_undo_45 ?_
    refine r_bipush X 41 dX8_undo_48 (by decide) ?_
    refine r_iload_n X dX8_undo_50 hl 0 rfl ?_
    refine p_ist (k := 101) X Y rfl (by omega) (by have q : ((al 101 : Nat) : Int) = 1008 := rfl; omega) dX8_undo_51 (fun H locs Y => ?_)
    obtain ⟨fq3, hfq3⟩ : ∃ q, q = upA fq2 101 41 (f 101 41) := ⟨_, rfl⟩
    have Y : uY g 117 (cX g tq1 fq3) s H locs := by rw [hfq3]; exact Y
    refine r_aload_n X dX8_undo_52 hl 1 rfl ?_
    refine g_8_2 (k := 100) X Y rfl wm_739 dX8_undo_53 ?_
    refine r_eq (z' := a 21 2 - 1) (by rw [htq1, up2_s]; omega) ?_
    exact ret _ _ _ _ _ _ _ dX8_undo_56 Y (by have hq : undX a = (a 21 2 - 1) := (by unfold undX; repeat (first | rw [if_pos (by omega)] | rw [if_neg (by omega)])); have hn : ¬ undX a < 0 := (by omega); exact ⟨by first | exact hq.symm | (rw [hq]; omega), by rw [if_neg hn, htq1], by rw [if_neg hn, hfq3, hfq2]; rfl⟩)
  · refine r_ldc X (-1000000003) wm_972 (by decide) dX8_undo_7 ?_
    exact ret _ _ _ _ _ _ _ dX8_undo_9 Y (by have hq : undX a = (-1000000003) := (by unfold undX; repeat (first | rw [if_pos (by omega)] | rw [if_neg (by omega)])); exact ⟨hq.symm, by rw [hq, if_pos (by decide)], by rw [hq, if_pos (by decide)]⟩)
set_option maxHeartbeats 4000000 in
set_option maxRecDepth 100000 in
theorem ct_X8_keep (l : Launch) (g : uG) (t : uN) (f : uF) (i : Int) (hi : inI i) : cF_i l yX8_keep cX8_keep 2 (some .int) 2 g [.ref (g.1 + 100), .int (iV (i))] t f (if i = 0 ∨ i = 1 then 1 else -1000000001) (if i = 0 ∨ i = 1 then up2 t 100 2 0 else t) (if i = 0 ∨ i = 1 then kepF f i else f) := by
  refine eF_i (by decide +kernel) (Nat.le_of_ble_eq_true rfl) ?_
  intro p e R s m args below meth c Q ls H locs X Y hl ret
  have X : uX p 2 R s m args c cX8_keep 2 RX8 := X
  have hl : lv_has ls 2 [(0, .ref (g.1 + 100)), (1, .int (iV (i)))] := hl
  refine r_iload_n X dX8_keep_0 hl 1 rfl ?_
  refine r_i2l X dX8_keep_1 ⟨by omega, by omega⟩ ?_
  refine r_lconst X 0 dX8_keep_2 (by decide) ?_
  refine r_lconst X 1 dX8_keep_3 (by decide) ?_
  refine sF_i X Y [.long (lV (i)), .long (lV (0)), .long (lV (1))] [] (ct_X8_in l g t f i 0 1 ⟨by omega, by omega⟩ ⟨by omega, by omega⟩ ⟨by omega, by omega⟩) mk_X8_in mi_X8_in wm_852 (by decide) rfl hl (Nat.le_of_ble_eq_true rfl) rfl dX8_keep_4 (Nat.zero_le _) (Nat.zero_le _) (fun H locs Y => ?_)
  have qi4 := inX_b i 0 1
  refine r_if_ne X (tgt := 13) dX8_keep_7 (by decide) ⟨by omega, by omega⟩ (fun c7 => ?_) (fun c7 => ?_)
  · refine r_aload_n X dX8_keep_13 hl 0 rfl ?_
    refine r_iconst X dX8_keep_14 ?_
    refine r_bipush X 84 dX8_keep_15 (by decide) ?_
    refine r_bipush X 42 dX8_keep_17 (by decide) ?_
    refine r_iload_n X dX8_keep_19 hl 1 rfl ?_
    refine r_imul X dX8_keep_20 ?_
    refine r_iadd X dX8_keep_21 ?_
    refine vF_v X Y [.int (iV (0)), .int (iV (84 + (42 * i)))] [] (ct_X8_copy l g t f 0 (84 + (42 * i)) (by omega) (by omega) (by omega) (by omega) (by omega)) mk_X8_copy mi_X8_copy wm_973 (by decide) (rv_8 Y rfl) rfl hl (Nat.le_of_ble_eq_true rfl) rfl dX8_keep_22 (Nat.zero_le _) (Nat.zero_le _) (fun H locs Y => ?_)
    obtain ⟨fq1, hfq1⟩ : ∃ q, q = cpW f 0 (84 + (42 * i)) := ⟨_, rfl⟩
    have Y : uY g 117 (cX g t fq1) s H locs := by rw [hfq1]; exact Y
    refine r_aload_n X dX8_keep_25 hl 0 rfl ?_
    refine g_8_1 (k := 100) X Y rfl wm_738 dX8_keep_26 ?_
    refine r_iload_n X dX8_keep_29 hl 1 rfl ?_
    refine r_iconst X dX8_keep_30 ?_
    refine p_zst (k := 102) X Y rfl (by first | exact Or.inl rfl | exact Or.inr rfl | omega) (by omega) (by have q : ((al 102 : Nat) : Int) = 2 := rfl; omega) dX8_keep_31 (fun H locs Y => ?_)
    obtain ⟨fq2, hfq2⟩ : ∃ q, q = upA fq1 102 i 1 := ⟨_, rfl⟩
    have Y : uY g 117 (cX g t fq2) s H locs := by rw [hfq2]; exact Y
    refine r_aload_n X dX8_keep_32 hl 0 rfl ?_
    refine r_iconst X dX8_keep_33 ?_
    refine p_8_2 (k := 100) X Y rfl wm_739 dX8_keep_34 (fun H locs Y => ?_)
    obtain ⟨tq3, htq3⟩ : ∃ q, q = up2 t 100 2 (0) := ⟨_, rfl⟩
    have Y : uY g 117 (cX g tq3 fq2) s H locs := by rw [htq3]; exact Y
    refine r_iconst X dX8_keep_37 ?_
    exact ret _ _ _ _ _ _ _ dX8_keep_38 Y (by have hq : i = 0 ∨ i = 1 := (by omega); exact ⟨by rw [if_pos hq], by rw [if_pos hq]; exact htq3, by rw [if_pos hq, hfq2, hfq1]; rfl⟩)
  · refine r_ldc X (-1000000001) wm_939 (by decide) dX8_keep_10 ?_
    exact ret _ _ _ _ _ _ _ dX8_keep_12 Y ⟨by rw [if_neg (by omega)], by rw [if_neg (by omega)], by rw [if_neg (by omega)]⟩
set_option maxHeartbeats 4000000 in
set_option maxRecDepth 100000 in
theorem ct_X8_goBack (l : Launch) (g : uG) (t : uN) (f : uF) (a : uN) (b : uF) (i : Int) (hi : inI i) (hk0 : f 102 0 = a 83 2) (hk1 : f 102 1 = a 87 2) (hr0 : a 83 2 = 0 ∨ a 83 2 = 1) (hr1 : a 87 2 = 0 ∨ a 87 2 = 1) : cF_i l yX8_goBack cX8_goBack 2 (some .int) 2 g [.ref (g.1 + 100), .int (iV (i))] t f (gobX a i) (if gobX a i < 0 then t else up2 t 100 2 0) (if gobX a i < 0 then f else cpW f (84 + 42 * i) 0) := by
  refine eF_i (by decide +kernel) (Nat.le_of_ble_eq_true rfl) ?_
  intro p e R s m args below meth c Q ls H locs X Y hl ret
  have X : uX p 2 R s m args c cX8_goBack 2 RX8 := X
  have hl : lv_has ls 2 [(0, .ref (g.1 + 100)), (1, .int (iV (i)))] := hl
  refine r_iload_n X dX8_goBack_0 hl 1 rfl ?_
  refine r_i2l X dX8_goBack_1 ⟨by omega, by omega⟩ ?_
  refine r_lconst X 0 dX8_goBack_2 (by decide) ?_
  refine r_lconst X 1 dX8_goBack_3 (by decide) ?_
  refine sF_i X Y [.long (lV (i)), .long (lV (0)), .long (lV (1))] [] (ct_X8_in l g t f i 0 1 ⟨by omega, by omega⟩ ⟨by omega, by omega⟩ ⟨by omega, by omega⟩) mk_X8_in mi_X8_in wm_852 (by decide) rfl hl (Nat.le_of_ble_eq_true rfl) rfl dX8_goBack_4 (Nat.zero_le _) (Nat.zero_le _) (fun H locs Y => ?_)
  have qi4 := inX_b i 0 1
  refine r_if_ne X (tgt := 13) dX8_goBack_7 (by decide) ⟨by omega, by omega⟩ (fun c7 => ?_) (fun c7 => ?_)
  · rcases (show i = 0 ∨ i = 1 by omega) with hi9 | hi9
    · refine r_aload_n X dX8_goBack_13 hl 0 rfl ?_
      refine g_8_1 (k := 100) X Y rfl wm_738 dX8_goBack_14 ?_
      refine r_iload_n X dX8_goBack_17 hl 1 rfl ?_
      refine g_zld (k := 102) X Y rfl (by omega) (by have q : ((al 102 : Nat) : Int) = 2 := rfl; omega) dX8_goBack_18 ?_
      have hfi : (i = 0 ∧ f 102 i = a 83 2) ∨ (i = 1 ∧ f 102 i = a 87 2) := by rcases (show i = 0 ∨ i = 1 by omega) with q | q <;> subst q; exact Or.inl ⟨rfl, hk0⟩; exact Or.inr ⟨rfl, hk1⟩
      refine r_if_ne X (tgt := 25) dX8_goBack_19 (by decide) ⟨by omega, by omega⟩ (fun c19 => ?_) (fun c19 => ?_)
      · refine r_aload_n X dX8_goBack_25 hl 0 rfl ?_
        refine r_bipush X 84 dX8_goBack_26 (by decide) ?_
        refine r_bipush X 42 dX8_goBack_28 (by decide) ?_
        refine r_iload_n X dX8_goBack_30 hl 1 rfl ?_
        refine r_imul X dX8_goBack_31 ?_
        refine r_iadd X dX8_goBack_32 ?_
        refine r_iconst X dX8_goBack_33 ?_
        refine vF_v X Y [.int (iV (84 + (42 * i))), .int (iV (0))] [] (ct_X8_copy l g t f (84 + (42 * i)) 0 (by omega) (by omega) (by omega) (by omega) (by omega)) mk_X8_copy mi_X8_copy wm_973 (by decide) (rv_8 Y rfl) rfl hl (Nat.le_of_ble_eq_true rfl) rfl dX8_goBack_34 (Nat.zero_le _) (Nat.zero_le _) (fun H locs Y => ?_)
        obtain ⟨fq1, hfq1⟩ : ∃ q, q = cpW f (84 + (42 * i)) 0 := ⟨_, rfl⟩
        have Y : uY g 117 (cX g t fq1) s H locs := by rw [hfq1]; exact Y
        refine r_aload_n X dX8_goBack_37 hl 0 rfl ?_
        refine r_iconst X dX8_goBack_38 ?_
        refine p_8_2 (k := 100) X Y rfl wm_739 dX8_goBack_39 (fun H locs Y => ?_)
        obtain ⟨tq2, htq2⟩ : ∃ q, q = up2 t 100 2 (0) := ⟨_, rfl⟩
        have Y : uY g 117 (cX g tq2 fq1) s H locs := by rw [htq2]; exact Y
        refine r_iconst X dX8_goBack_42 ?_
        exact ret _ _ _ _ _ _ _ dX8_goBack_43 Y (by have hq : gobX a i = 1 := (by unfold gobX; repeat (first | rw [if_pos (by omega)] | rw [if_neg (by omega)])); have hn : ¬ gobX a i < 0 := (by omega); exact ⟨by first | exact hq.symm | (rw [hq]; omega), by rw [if_neg hn, htq2], by rw [if_neg hn, hfq1]⟩)
      · refine r_ldc X (-1000000003) wm_972 (by decide) dX8_goBack_22 ?_
        exact ret _ _ _ _ _ _ _ dX8_goBack_24 Y (by have hq : gobX a i = (-1000000003) := (by unfold gobX; repeat (first | rw [if_pos (by omega)] | rw [if_neg (by omega)])); exact ⟨hq.symm, by rw [hq, if_pos (by decide)], by rw [hq, if_pos (by decide)]⟩)
    · refine r_aload_n X dX8_goBack_13 hl 0 rfl ?_
      refine g_8_1 (k := 100) X Y rfl wm_738 dX8_goBack_14 ?_
      refine r_iload_n X dX8_goBack_17 hl 1 rfl ?_
      refine g_zld (k := 102) X Y rfl (by omega) (by have q : ((al 102 : Nat) : Int) = 2 := rfl; omega) dX8_goBack_18 ?_
      have hfi : (i = 0 ∧ f 102 i = a 83 2) ∨ (i = 1 ∧ f 102 i = a 87 2) := by rcases (show i = 0 ∨ i = 1 by omega) with q | q <;> subst q; exact Or.inl ⟨rfl, hk0⟩; exact Or.inr ⟨rfl, hk1⟩
      refine r_if_ne X (tgt := 25) dX8_goBack_19 (by decide) ⟨by omega, by omega⟩ (fun c19 => ?_) (fun c19 => ?_)
      · refine r_aload_n X dX8_goBack_25 hl 0 rfl ?_
        refine r_bipush X 84 dX8_goBack_26 (by decide) ?_
        refine r_bipush X 42 dX8_goBack_28 (by decide) ?_
        refine r_iload_n X dX8_goBack_30 hl 1 rfl ?_
        refine r_imul X dX8_goBack_31 ?_
        refine r_iadd X dX8_goBack_32 ?_
        refine r_iconst X dX8_goBack_33 ?_
        refine vF_v X Y [.int (iV (84 + (42 * i))), .int (iV (0))] [] (ct_X8_copy l g t f (84 + (42 * i)) 0 (by omega) (by omega) (by omega) (by omega) (by omega)) mk_X8_copy mi_X8_copy wm_973 (by decide) (rv_8 Y rfl) rfl hl (Nat.le_of_ble_eq_true rfl) rfl dX8_goBack_34 (Nat.zero_le _) (Nat.zero_le _) (fun H locs Y => ?_)
        obtain ⟨fq1, hfq1⟩ : ∃ q, q = cpW f (84 + (42 * i)) 0 := ⟨_, rfl⟩
        have Y : uY g 117 (cX g t fq1) s H locs := by rw [hfq1]; exact Y
        refine r_aload_n X dX8_goBack_37 hl 0 rfl ?_
        refine r_iconst X dX8_goBack_38 ?_
        refine p_8_2 (k := 100) X Y rfl wm_739 dX8_goBack_39 (fun H locs Y => ?_)
        obtain ⟨tq2, htq2⟩ : ∃ q, q = up2 t 100 2 (0) := ⟨_, rfl⟩
        have Y : uY g 117 (cX g tq2 fq1) s H locs := by rw [htq2]; exact Y
        refine r_iconst X dX8_goBack_42 ?_
        exact ret _ _ _ _ _ _ _ dX8_goBack_43 Y (by have hq : gobX a i = 1 := (by unfold gobX; repeat (first | rw [if_pos (by omega)] | rw [if_neg (by omega)])); have hn : ¬ gobX a i < 0 := (by omega); exact ⟨by first | exact hq.symm | (rw [hq]; omega), by rw [if_neg hn, htq2], by rw [if_neg hn, hfq1]⟩)
      · refine r_ldc X (-1000000003) wm_972 (by decide) dX8_goBack_22 ?_
        exact ret _ _ _ _ _ _ _ dX8_goBack_24 Y (by have hq : gobX a i = (-1000000003) := (by unfold gobX; repeat (first | rw [if_pos (by omega)] | rw [if_neg (by omega)])); exact ⟨hq.symm, by rw [hq, if_pos (by decide)], by rw [hq, if_pos (by decide)]⟩)
  · refine r_ldc X (-1000000001) wm_939 (by decide) dX8_goBack_10 ?_
    exact ret _ _ _ _ _ _ _ dX8_goBack_12 Y (by have hq : gobX a i = (-1000000001) := (by unfold gobX; repeat (first | rw [if_pos (by omega)] | rw [if_neg (by omega)])); exact ⟨hq.symm, by rw [hq, if_pos (by decide)], by rw [hq, if_pos (by decide)]⟩)
set_option maxHeartbeats 4000000 in
set_option maxRecDepth 100000 in
theorem ct_X8_draw (l : Launch) (g : uG) (t : uN) (f : uF) (n s0 : Int) (hn : 0 < n) (hn2 : n ≤ 1000) (hs : f 101 41 = s0) (h0 : 0 ≤ s0) (h1 : s0 ≤ 2147483647) : cF_i l yX8_draw cX8_draw 2 (some .int) 1 g [.ref (g.1 + 100), .int (iV (n))] t f (((nextS s0).tdiv 65536).tmod n) (t) (upA f 101 41 (nextS s0)) := by
  refine eF_i (by decide +kernel) (Nat.le_of_ble_eq_true rfl) ?_
  intro p e R s m args below meth c Q ls H locs X Y hl ret
  have X : uX p 1 R s m args c cX8_draw 2 RX8 := X
  have hl : lv_has ls 2 [(0, .ref (g.1 + 100)), (1, .int (iV (n)))] := hl
  have hnr := nextS_rng s0
  have hdv : 0 ≤ (nextS s0).tdiv 65536 ∧ (nextS s0).tdiv 65536 ≤ 2147483647 := by rw [Int.tdiv_eq_ediv_of_nonneg hnr.1]; omega
  refine r_aload_n X dX8_draw_0 hl 0 rfl ?_
  refine g_8_0 (k := 100) X Y rfl wm_737 dX8_draw_1 ?_
  refine r_bipush X 41 dX8_draw_4 (by decide) ?_
  refine r_aload_n X dX8_draw_6 hl 0 rfl ?_
  refine g_8_0 (k := 100) X Y rfl wm_737 dX8_draw_7 ?_
  refine r_bipush X 41 dX8_draw_10 (by decide) ?_
  refine g_ild (k := 101) X Y rfl (by omega) (by have q : ((al 101 : Nat) : Int) = 1008 := rfl; omega) dX8_draw_12 ?_
  refine r_eq (z' := s0) hs ?_
  refine r_i2l X dX8_draw_13 ⟨by omega, by omega⟩ ?_
  refine r_ldc2 X 1103515245 wm_1012 (by decide) dX8_draw_14 ?_
  refine r_lmul X dX8_draw_17 ?_
  refine r_ldc2 X 12345 wm_1013 (by decide) dX8_draw_18 ?_
  refine r_ladd X dX8_draw_21 ?_
  refine r_ldc2 X 2147483648 wm_1014 (by decide) dX8_draw_22 ?_
  refine r_lrem X dX8_draw_25 ⟨by omega, by omega⟩ ⟨by omega, by omega⟩ (by omega) ?_
  refine r_eql (z' := nextS s0) (nextS_tmod h0) ?_
  refine r_l2i X dX8_draw_26 ?_
  refine p_ist (k := 101) X Y rfl (by omega) (by have q : ((al 101 : Nat) : Int) = 1008 := rfl; omega) dX8_draw_27 (fun H locs Y => ?_)
  obtain ⟨fq1, hfq1⟩ : ∃ q, q = upA f 101 41 (nextS s0) := ⟨_, rfl⟩
  have Y : uY g 117 (cX g t fq1) s H locs := by rw [hfq1]; exact Y
  refine r_aload_n X dX8_draw_28 hl 0 rfl ?_
  refine g_8_0 (k := 100) X Y rfl wm_737 dX8_draw_29 ?_
  refine r_bipush X 41 dX8_draw_32 (by decide) ?_
  refine g_ild (k := 101) X Y rfl (by omega) (by have q : ((al 101 : Nat) : Int) = 1008 := rfl; omega) dX8_draw_34 ?_
  refine r_eq (z' := nextS s0) (by rw [hfq1, upA_s]) ?_
  refine r_ldc X 65536 wm_1015 (by decide) dX8_draw_35 ?_
  refine r_idiv X dX8_draw_37 ⟨by omega, by omega⟩ ⟨by omega, by omega⟩ (by omega) ?_
  refine r_iload_n X dX8_draw_38 hl 1 rfl ?_
  refine r_irem X dX8_draw_39 ⟨by omega, by omega⟩ ⟨by omega, by omega⟩ (by omega) ?_
  exact ret _ _ _ _ _ _ _ dX8_draw_40 Y ⟨rfl, rfl, hfq1⟩

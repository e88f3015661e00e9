/-! the class's calls by contract -/
set_option maxHeartbeats 4000000 in
set_option maxRecDepth 100000 in
theorem ct_X7_fault (l : Launch) (g : uG) (t : uN) (f : uF)   : cF_i l yX7_fault cX7_fault 1 (some .int) 1 g [.ref (g.1 + 0)] t f (t 0 10) (t) (f) := by
  refine eF_i (by decide +kernel) (Nat.le_of_ble_eq_true rfl) ?_
  intro p e R s m args below meth c Q ls H locs X Y hl ret
  have X : uX p 1 R s m args c cX7_fault 1 RX7 := X
  have hl : lv_has ls 1 [(0, .ref (g.1 + 0))] := hl
  refine r_aload_n X dX7_fault_0 hl 0 rfl ?_
  refine g_7_10 (k := 0) X Y rfl wm_266 dX7_fault_1 ?_
  exact ret _ _ _ _ _ _ _ dX7_fault_4 Y ⟨rfl, rfl, rfl⟩
set_option maxHeartbeats 4000000 in
set_option maxRecDepth 100000 in
theorem ct_X7_told (l : Launch) (g : uG) (t : uN) (f : uF) (w : Int) (h : HI t f) (h1 : tOK t 1) (hw : inI w) : cF_i l yX7_told cX7_told 2 (some .int) 6 g [.ref (g.1 + 0), .int (iV (w))] t f (toldX t f w) (t) (f) := by
  refine eF_i (by decide +kernel) (Nat.le_of_ble_eq_true rfl) ?_
  intro p e R s m args below meth c Q ls H locs X Y hl ret
  have X : uX p 6 R s m args c cX7_told 2 RX7 := X
  have hl : lv_has ls 2 [(0, .ref (g.1 + 0)), (1, .int (iV (w)))] := hl
  have hb := h.b
  refine r_iload_n X dX7_told_0 hl 1 rfl ?_
  rcases (show (w < 0 ∨ 14 < w) ∨ w = 0 ∨ w = 1 ∨ w = 2 ∨ w = 3 ∨ w = 4 ∨ w = 5 ∨ w = 6 ∨ w = 7 ∨ w = 8 ∨ w = 9 ∨ w = 10 ∨ w = 11 ∨ w = 12 ∨ w = 13 ∨ w = 14 by omega) with hsw | hsw | hsw | hsw | hsw | hsw | hsw | hsw | hsw | hsw | hsw | hsw | hsw | hsw | hsw | hsw
  · refine r_tabOut X 244 dX7_told_1 ⟨by omega, by omega⟩ hsw (by decide) ?_
    refine r_ldc X (-1000000002) wm_297 (by decide) dX7_told_244 ?_
    exact ret _ _ _ _ _ _ _ dX7_told_246 Y ⟨by unfold toldX; repeat (first | rw [if_pos (by omega)] | rw [if_neg (by omega)]), rfl, rfl⟩
  · refine r_tabIn X (75) 76 dX7_told_1 ⟨by omega, by omega⟩ (by omega) (by omega) (by rw [hsw]; rfl) (by decide) ?_
    refine r_aload_n X dX7_told_76 hl 0 rfl ?_
    refine g_7_2 (k := 0) X Y rfl wm_258 dX7_told_77 ?_
    refine g_6_0 (k := 11) X Y rfl wm_119 dX7_told_80 ?_
    refine r_iconst X dX7_told_83 ?_
    refine r_iconst X dX7_told_84 ?_
    refine vF_i X Y [.int (iV (0)), .int (iV (0))] [] (ct_X5_get l g t f 12 0 0 rfl h.1.1.1 ⟨by omega, by omega⟩ ⟨by omega, by omega⟩) mk_X5_get mi_X5_get wm_436 (by decide) (rv_5 Y rfl) rfl hl (Nat.le_of_ble_eq_true rfl) rfl dX7_told_85 (Nat.zero_le _) (Nat.zero_le _) (fun H locs Y => ?_)
    exact ret _ _ _ _ _ _ _ dX7_told_88 Y ⟨by unfold toldX; repeat (first | rw [if_pos (by omega)] | rw [if_neg (by omega)]), rfl, rfl⟩
  · refine r_tabIn X (88) 89 dX7_told_1 ⟨by omega, by omega⟩ (by omega) (by omega) (by rw [hsw]; rfl) (by decide) ?_
    refine r_aload_n X dX7_told_89 hl 0 rfl ?_
    refine g_7_2 (k := 0) X Y rfl wm_258 dX7_told_90 ?_
    refine g_6_0 (k := 11) X Y rfl wm_119 dX7_told_93 ?_
    refine r_iconst X dX7_told_96 ?_
    refine r_iconst X dX7_told_97 ?_
    refine vF_i X Y [.int (iV (0)), .int (iV (1))] [] (ct_X5_get l g t f 12 0 1 rfl h.1.1.1 ⟨by omega, by omega⟩ ⟨by omega, by omega⟩) mk_X5_get mi_X5_get wm_436 (by decide) (rv_5 Y rfl) rfl hl (Nat.le_of_ble_eq_true rfl) rfl dX7_told_98 (Nat.zero_le _) (Nat.zero_le _) (fun H locs Y => ?_)
    exact ret _ _ _ _ _ _ _ dX7_told_101 Y ⟨by unfold toldX; repeat (first | rw [if_pos (by omega)] | rw [if_neg (by omega)]), rfl, rfl⟩
  · refine r_tabIn X (101) 102 dX7_told_1 ⟨by omega, by omega⟩ (by omega) (by omega) (by rw [hsw]; rfl) (by decide) ?_
    refine r_aload_n X dX7_told_102 hl 0 rfl ?_
    refine g_7_3 (k := 0) X Y rfl wm_259 dX7_told_103 ?_
    refine g_4_1 (k := 18) X Y rfl wm_164 dX7_told_106 ?_
    exact ret _ _ _ _ _ _ _ dX7_told_109 Y ⟨by unfold toldX; repeat (first | rw [if_pos (by omega)] | rw [if_neg (by omega)]), rfl, rfl⟩
  · refine r_tabIn X (109) 110 dX7_told_1 ⟨by omega, by omega⟩ (by omega) (by omega) (by rw [hsw]; rfl) (by decide) ?_
    refine r_aload_n X dX7_told_110 hl 0 rfl ?_
    refine g_7_3 (k := 0) X Y rfl wm_259 dX7_told_111 ?_
    refine g_4_2 (k := 18) X Y rfl wm_167 dX7_told_114 ?_
    exact ret _ _ _ _ _ _ _ dX7_told_117 Y ⟨by unfold toldX; repeat (first | rw [if_pos (by omega)] | rw [if_neg (by omega)]), rfl, rfl⟩
  · refine r_tabIn X (117) 118 dX7_told_1 ⟨by omega, by omega⟩ (by omega) (by omega) (by rw [hsw]; rfl) (by decide) ?_
    refine r_aload_n X dX7_told_118 hl 0 rfl ?_
    refine g_7_2 (k := 0) X Y rfl wm_258 dX7_told_119 ?_
    refine g_6_1 (k := 11) X Y rfl wm_122 dX7_told_122 ?_
    refine vF_i X Y [] [] (ct_X5_rows l g t f 14 rfl) mk_X5_rows mi_X5_rows wm_320 (by decide) (rv_5 Y rfl) rfl hl (Nat.le_of_ble_eq_true rfl) rfl dX7_told_125 (Nat.zero_le _) (Nat.zero_le _) (fun H locs Y => ?_)
    exact ret _ _ _ _ _ _ _ dX7_told_128 Y ⟨by unfold toldX; repeat (first | rw [if_pos (by omega)] | rw [if_neg (by omega)]), rfl, rfl⟩
  · refine r_tabIn X (128) 129 dX7_told_1 ⟨by omega, by omega⟩ (by omega) (by omega) (by rw [hsw]; rfl) (by decide) ?_
    refine r_aload_n X dX7_told_129 hl 0 rfl ?_
    refine g_7_2 (k := 0) X Y rfl wm_258 dX7_told_130 ?_
    refine g_6_2 (k := 11) X Y rfl wm_126 dX7_told_133 ?_
    refine vF_i X Y [] [] (ct_X5_rows l g t f 16 rfl) mk_X5_rows mi_X5_rows wm_320 (by decide) (rv_5 Y rfl) rfl hl (Nat.le_of_ble_eq_true rfl) rfl dX7_told_136 (Nat.zero_le _) (Nat.zero_le _) (fun H locs Y => ?_)
    exact ret _ _ _ _ _ _ _ dX7_told_139 Y ⟨by unfold toldX; repeat (first | rw [if_pos (by omega)] | rw [if_neg (by omega)]), rfl, rfl⟩
  · refine r_tabIn X (139) 140 dX7_told_1 ⟨by omega, by omega⟩ (by omega) (by omega) (by rw [hsw]; rfl) (by decide) ?_
    refine r_aload_n X dX7_told_140 hl 0 rfl ?_
    refine g_7_3 (k := 0) X Y rfl wm_259 dX7_told_141 ?_
    refine g_4_0 (k := 18) X Y rfl wm_162 dX7_told_144 ?_
    refine vF_i X Y [] [] (ct_X5_rows l g t f 19 rfl) mk_X5_rows mi_X5_rows wm_320 (by decide) (rv_5 Y rfl) rfl hl (Nat.le_of_ble_eq_true rfl) rfl dX7_told_147 (Nat.zero_le _) (Nat.zero_le _) (fun H locs Y => ?_)
    exact ret _ _ _ _ _ _ _ dX7_told_150 Y ⟨by unfold toldX; repeat (first | rw [if_pos (by omega)] | rw [if_neg (by omega)]), rfl, rfl⟩
  · refine r_tabIn X (150) 151 dX7_told_1 ⟨by omega, by omega⟩ (by omega) (by omega) (by rw [hsw]; rfl) (by decide) ?_
    refine r_aload_n X dX7_told_151 hl 0 rfl ?_
    refine g_7_0 (k := 0) X Y rfl wm_256 dX7_told_152 ?_
    refine vF_i X Y [] [] (ct_X5_rows l g t f 1 rfl) mk_X5_rows mi_X5_rows wm_320 (by decide) (rv_5 Y rfl) rfl hl (Nat.le_of_ble_eq_true rfl) rfl dX7_told_155 (Nat.zero_le _) (Nat.zero_le _) (fun H locs Y => ?_)
    exact ret _ _ _ _ _ _ _ dX7_told_158 Y ⟨by unfold toldX; repeat (first | rw [if_pos (by omega)] | rw [if_neg (by omega)]), rfl, rfl⟩
  · refine r_tabIn X (158) 159 dX7_told_1 ⟨by omega, by omega⟩ (by omega) (by omega) (by rw [hsw]; rfl) (by decide) ?_
    refine r_aload_n X dX7_told_159 hl 0 rfl ?_
    refine g_7_3 (k := 0) X Y rfl wm_259 dX7_told_160 ?_
    refine g_4_3 (k := 18) X Y rfl wm_170 dX7_told_163 ?_
    exact ret _ _ _ _ _ _ _ dX7_told_166 Y ⟨by unfold toldX; repeat (first | rw [if_pos (by omega)] | rw [if_neg (by omega)]), rfl, rfl⟩
  · refine r_tabIn X (166) 167 dX7_told_1 ⟨by omega, by omega⟩ (by omega) (by omega) (by rw [hsw]; rfl) (by decide) ?_
    refine r_aload_n X dX7_told_167 hl 0 rfl ?_
    refine vF_i X Y [] [] (ct_X7_whereSheIs l g t f h) mk_X7_whereSheIs mi_X7_whereSheIs wm_437 (by decide) (rv_7 Y rfl) rfl hl (Nat.le_of_ble_eq_true rfl) rfl dX7_told_168 (Nat.zero_le _) (Nat.zero_le _) (fun H locs Y => ?_)
    have qw168 := whereX_b h.b.1.2.2.2
    exact ret _ _ _ _ _ _ _ dX7_told_171 Y ⟨by unfold toldX; repeat (first | rw [if_pos (by omega)] | rw [if_neg (by omega)]), rfl, rfl⟩
  · refine r_tabIn X (171) 172 dX7_told_1 ⟨by omega, by omega⟩ (by omega) (by omega) (by rw [hsw]; rfl) (by decide) ?_
    refine r_aload_n X dX7_told_172 hl 0 rfl ?_
    refine g_7_3 (k := 0) X Y rfl wm_259 dX7_told_173 ?_
    refine r_iconst X dX7_told_176 ?_
    refine r_iconst X dX7_told_177 ?_
    refine vF_i X Y [.int (iV (0)), .int (iV (1))] [] (ct_X4_dueFrom l g t f 18 0 1 rfl h.2 (by omega) (by omega) ⟨by omega, by omega⟩) mk_X4_dueFrom mi_X4_dueFrom wm_445 (by decide) (rv_4 Y rfl) rfl hl (Nat.le_of_ble_eq_true rfl) rfl dX7_told_178 (Nat.zero_le _) (Nat.zero_le _) (fun H locs Y => ?_)
    have hd1 := dueS_rng (k := 18) rfl h.2 0 1 (by omega)
    refine r_aload_n X dX7_told_181 hl 0 rfl ?_
    refine g_7_3 (k := 0) X Y rfl wm_259 dX7_told_182 ?_
    refine r_iconst X dX7_told_185 ?_
    refine r_iconst X dX7_told_186 ?_
    refine vF_i X Y [.int (iV (0)), .int (iV (0))] [.int (iV (dueS t f 18 0 1))] (ct_X4_dueFrom l g t f 18 0 0 rfl h.2 (by omega) (by omega) ⟨by omega, by omega⟩) mk_X4_dueFrom mi_X4_dueFrom wm_445 (by decide) (rv_4 Y rfl) rfl hl (Nat.le_of_ble_eq_true rfl) rfl dX7_told_187 (Nat.zero_le _) (Nat.zero_le _) (fun H locs Y => ?_)
    refine r_iadd X dX7_told_190 ?_
    exact ret _ _ _ _ _ _ _ dX7_told_191 Y ⟨by unfold toldX; repeat (first | rw [if_pos (by omega)] | rw [if_neg (by omega)]), rfl, rfl⟩
  · refine r_tabIn X (191) 192 dX7_told_1 ⟨by omega, by omega⟩ (by omega) (by omega) (by rw [hsw]; rfl) (by decide) ?_
    refine r_aload_n X dX7_told_192 hl 0 rfl ?_
    refine vF_i X Y [] [] (ct_X7_cannotTry l g t f h) mk_X7_cannotTry mi_X7_cannotTry wm_450 (by decide) (rv_7 Y rfl) rfl hl (Nat.le_of_ble_eq_true rfl) rfl dX7_told_193 (Nat.zero_le _) (Nat.zero_le _) (fun H locs Y => ?_)
    have qg193 := goneX_b h.b.1.2.2.2
    refine r_if_eq X (tgt := 203) dX7_told_196 (by decide) ⟨by omega, by omega⟩ (fun c196 => ?_) (fun c196 => ?_)
    · refine r_iconst X dX7_told_203 ?_
      refine r_aload_n X dX7_told_204 hl 0 rfl ?_
      refine vF_i X Y [] [.int (iV (0))] (ct_X7_leftBesidesPurse l g t f h) mk_X7_leftBesidesPurse mi_X7_leftBesidesPurse wm_454 (by decide) (rv_7 Y rfl) rfl hl (Nat.le_of_ble_eq_true rfl) rfl dX7_told_205 (Nat.zero_le _) (Nat.zero_le _) (fun H locs Y => ?_)
      have ql205 := lbpX_rng h
      refine r_aload_n X dX7_told_208 hl 0 rfl ?_
      refine g_7_3 (k := 0) X Y rfl wm_259 dX7_told_209 ?_
      refine g_4_2 (k := 18) X Y rfl wm_167 dX7_told_212 ?_
      refine r_iadd X dX7_told_215 ?_
      refine r_max X hl (by decide) (Nat.zero_le _) (Nat.zero_le _) wm_462 (Nat.le_of_ble_eq_true rfl) dX7_told_216 ⟨by omega, by omega⟩ ⟨by omega, by omega⟩ ?_
      exact ret _ _ _ _ _ _ _ dX7_told_219 Y ⟨by unfold toldX; repeat (first | rw [if_pos (by omega)] | rw [if_neg (by omega)]), rfl, rfl⟩
    · refine r_iconst X dX7_told_199 ?_
      refine r_goto X 219 dX7_told_200 (by decide) ?_
      exact ret _ _ _ _ _ _ _ dX7_told_219 Y ⟨by unfold toldX; repeat (first | rw [if_pos (by omega)] | rw [if_neg (by omega)]), rfl, rfl⟩
  · refine r_tabIn X (219) 220 dX7_told_1 ⟨by omega, by omega⟩ (by omega) (by omega) (by rw [hsw]; rfl) (by decide) ?_
    refine r_aload_n X dX7_told_220 hl 0 rfl ?_
    refine g_7_8 (k := 0) X Y rfl wm_264 dX7_told_221 ?_
    refine vF_i X Y [] [] (ct_X5_rows l g t f 96 rfl) mk_X5_rows mi_X5_rows wm_320 (by decide) (rv_5 Y rfl) rfl hl (Nat.le_of_ble_eq_true rfl) rfl dX7_told_224 (Nat.zero_le _) (Nat.zero_le _) (fun H locs Y => ?_)
    exact ret _ _ _ _ _ _ _ dX7_told_227 Y ⟨by unfold toldX; repeat (first | rw [if_pos (by omega)] | rw [if_neg (by omega)]), rfl, rfl⟩
  · refine r_tabIn X (227) 228 dX7_told_1 ⟨by omega, by omega⟩ (by omega) (by omega) (by rw [hsw]; rfl) (by decide) ?_
    refine r_aload_n X dX7_told_228 hl 0 rfl ?_
    refine g_7_9 (k := 0) X Y rfl wm_265 dX7_told_229 ?_
    refine vF_i X Y [] [] (ct_X5_rows l g t f 98 rfl) mk_X5_rows mi_X5_rows wm_320 (by decide) (rv_5 Y rfl) rfl hl (Nat.le_of_ble_eq_true rfl) rfl dX7_told_232 (Nat.zero_le _) (Nat.zero_le _) (fun H locs Y => ?_)
    exact ret _ _ _ _ _ _ _ dX7_told_235 Y ⟨by unfold toldX; repeat (first | rw [if_pos (by omega)] | rw [if_neg (by omega)]), rfl, rfl⟩
  · refine r_tabIn X (235) 236 dX7_told_1 ⟨by omega, by omega⟩ (by omega) (by omega) (by rw [hsw]; rfl) (by decide) ?_
    refine r_aload_n X dX7_told_236 hl 0 rfl ?_
    refine g_7_4 (k := 0) X Y rfl wm_260 dX7_told_237 ?_
    refine vF_i X Y [] [] (ct_X1_acts l g t f) mk_X1_acts mi_X1_acts wm_463 (by decide) (rv_1 Y rfl) rfl hl (Nat.le_of_ble_eq_true rfl) rfl dX7_told_240 (Nat.zero_le _) (Nat.zero_le _) (fun H locs Y => ?_)
    exact ret _ _ _ _ _ _ _ dX7_told_243 Y ⟨by unfold toldX; repeat (first | rw [if_pos (by omega)] | rw [if_neg (by omega)]), rfl, rfl⟩
set_option maxHeartbeats 4000000 in
set_option maxRecDepth 100000 in
theorem ct_X7_leg (l : Launch) (g : uG) (t : uN) (f : uF) (l0 w : Int) (h : HI t f) (hl0 : inI l0) (hw : inI w) : cF_i l yX7_leg cX7_leg 3 (some .int) 4 g [.ref (g.1 + 0), .int (iV (l0)), .int (iV (w))] t f (legX t f l0 w) (t) (f) := by
  refine eF_i (by decide +kernel) (Nat.le_of_ble_eq_true rfl) ?_
  intro p e R s m args below meth c Q ls H locs X Y hl ret
  have X : uX p 4 R s m args c cX7_leg 3 RX7 := X
  have hl : lv_has ls 3 [(0, .ref (g.1 + 0)), (1, .int (iV (l0))), (2, .int (iV (w)))] := hl
  have hb := h.b
  refine r_aload_n X dX7_leg_0 hl 0 rfl ?_
  refine g_7_2 (k := 0) X Y rfl wm_258 dX7_leg_1 ?_
  refine g_6_1 (k := 11) X Y rfl wm_122 dX7_leg_4 ?_
  refine r_iload_n X dX7_leg_7 hl 1 rfl ?_
  refine vF_i X Y [.int (iV (l0))] [] (ct_X5_has l g t f 14 l0 rfl h.1.1.2.1 ⟨by omega, by omega⟩) mk_X5_has mi_X5_has wm_441 (by decide) (rv_5 Y rfl) rfl hl (Nat.le_of_ble_eq_true rfl) rfl dX7_leg_8 (Nat.zero_le _) (Nat.zero_le _) (fun H locs Y => ?_)
  have qb8 := thas_b t 14 l0
  refine r_if_ne X (tgt := 17) dX7_leg_11 (by decide) ⟨by omega, by omega⟩ (fun c11 => ?_) (fun c11 => ?_)
  · refine r_iload_n X dX7_leg_17 hl 2 rfl ?_
    refine r_if_lt X (tgt := 26) dX7_leg_18 (by decide) ⟨by omega, by omega⟩ (fun c18 => ?_) (fun c18 => ?_)
    · refine r_ldc X (-1000000002) wm_297 (by decide) dX7_leg_26 ?_
      exact ret _ _ _ _ _ _ _ dX7_leg_28 Y ⟨by unfold legX; repeat (first | rw [if_pos (by omega)] | rw [if_neg (by omega)]), rfl, rfl⟩
    · refine r_iload_n X dX7_leg_21 hl 2 rfl ?_
      refine r_iconst X dX7_leg_22 ?_
      refine r_icmp_le X (tgt := 29) dX7_leg_23 (by decide) ⟨by omega, by omega⟩ ⟨by omega, by omega⟩ (fun c23 => ?_) (fun c23 => ?_)
      · refine r_iload_n X dX7_leg_29 hl 2 rfl ?_
        refine r_iconst X dX7_leg_30 ?_
        refine r_icmp_ne X (tgt := 52) dX7_leg_31 (by decide) ⟨by omega, by omega⟩ ⟨by omega, by omega⟩ (fun c31 => ?_) (fun c31 => ?_)
        · refine r_aload_n X dX7_leg_52 hl 0 rfl ?_
          refine g_7_2 (k := 0) X Y rfl wm_258 dX7_leg_53 ?_
          refine g_6_1 (k := 11) X Y rfl wm_122 dX7_leg_56 ?_
          refine r_iload_n X dX7_leg_59 hl 1 rfl ?_
          refine r_iload_n X dX7_leg_60 hl 2 rfl ?_
          refine vF_i X Y [.int (iV (l0)), .int (iV (w))] [] (ct_X5_get l g t f 14 l0 w rfl h.1.1.2.1 ⟨by omega, by omega⟩ ⟨by omega, by omega⟩) mk_X5_get mi_X5_get wm_436 (by decide) (rv_5 Y rfl) rfl hl (Nat.le_of_ble_eq_true rfl) rfl dX7_leg_61 (Nat.zero_le _) (Nat.zero_le _) (fun H locs Y => ?_)
          exact ret _ _ _ _ _ _ _ dX7_leg_64 Y ⟨by unfold legX; repeat (first | rw [if_pos (by omega)] | rw [if_neg (by omega)]), rfl, rfl⟩
        · refine r_aload_n X dX7_leg_34 hl 0 rfl ?_
          refine g_7_2 (k := 0) X Y rfl wm_258 dX7_leg_35 ?_
          refine r_iload_n X dX7_leg_38 hl 1 rfl ?_
          refine r_aload_n X dX7_leg_39 hl 0 rfl ?_
          refine g_7_3 (k := 0) X Y rfl wm_259 dX7_leg_40 ?_
          refine g_4_1 (k := 18) X Y rfl wm_164 dX7_leg_43 ?_
          refine vF_i X Y [.int (iV (l0)), .int (iV (t 18 1))] [] (ct_X6_oddsOf l g t f 11 l0 (t 18 1) rfl h.1 ⟨by omega, by omega⟩ (by omega) (by omega)) mk_X6_oddsOf mi_X6_oddsOf wm_472 (by decide) (rv_6 Y rfl) rfl hl (Nat.le_of_ble_eq_true rfl) rfl dX7_leg_46 (Nat.zero_le _) (Nat.zero_le _) (fun H locs Y => ?_)
          refine r_goto X 64 dX7_leg_49 (by decide) ?_
          exact ret _ _ _ _ _ _ _ dX7_leg_64 Y ⟨by unfold legX; repeat (first | rw [if_pos (by omega)] | rw [if_neg (by omega)]), rfl, rfl⟩
      · refine r_ldc X (-1000000002) wm_297 (by decide) dX7_leg_26 ?_
        exact ret _ _ _ _ _ _ _ dX7_leg_28 Y ⟨by unfold legX; repeat (first | rw [if_pos (by omega)] | rw [if_neg (by omega)]), rfl, rfl⟩
  · refine r_ldc X (-1000000001) wm_471 (by decide) dX7_leg_14 ?_
    exact ret _ _ _ _ _ _ _ dX7_leg_16 Y ⟨by unfold legX; repeat (first | rw [if_pos (by omega)] | rw [if_neg (by omega)]), rfl, rfl⟩
set_option maxHeartbeats 4000000 in
set_option maxRecDepth 100000 in
theorem ct_X7_lender (l : Launch) (g : uG) (t : uN) (f : uF) (m0 w : Int) (h : HI t f) (hm : inI m0) (hw : inI w) : cF_i l yX7_lender cX7_lender 3 (some .int) 5 g [.ref (g.1 + 0), .int (iV (m0)), .int (iV (w))] t f (lenX t f m0 w) (t) (f) := by
  refine eF_i (by decide +kernel) (Nat.le_of_ble_eq_true rfl) ?_
  intro p e R s m args below meth c Q ls H locs X Y hl ret
  have X : uX p 5 R s m args c cX7_lender 3 RX7 := X
  have hl : lv_has ls 3 [(0, .ref (g.1 + 0)), (1, .int (iV (m0))), (2, .int (iV (w)))] := hl
  have hb := h.b
  refine r_aload_n X dX7_lender_0 hl 0 rfl ?_
  refine g_7_2 (k := 0) X Y rfl wm_258 dX7_lender_1 ?_
  refine g_6_2 (k := 11) X Y rfl wm_126 dX7_lender_4 ?_
  refine r_iload_n X dX7_lender_7 hl 1 rfl ?_
  refine vF_i X Y [.int (iV (m0))] [] (ct_X5_has l g t f 16 m0 rfl h.1.1.2.2 ⟨by omega, by omega⟩) mk_X5_has mi_X5_has wm_441 (by decide) (rv_5 Y rfl) rfl hl (Nat.le_of_ble_eq_true rfl) rfl dX7_lender_8 (Nat.zero_le _) (Nat.zero_le _) (fun H locs Y => ?_)
  have qb8 := thas_b t 16 m0
  refine r_if_ne X (tgt := 17) dX7_lender_11 (by decide) ⟨by omega, by omega⟩ (fun c11 => ?_) (fun c11 => ?_)
  · refine r_iload_n X dX7_lender_17 hl 2 rfl ?_
    refine r_if_lt X (tgt := 26) dX7_lender_18 (by decide) ⟨by omega, by omega⟩ (fun c18 => ?_) (fun c18 => ?_)
    · refine r_ldc X (-1000000002) wm_297 (by decide) dX7_lender_26 ?_
      exact ret _ _ _ _ _ _ _ dX7_lender_28 Y ⟨by unfold lenX; repeat (first | rw [if_pos (by omega)] | rw [if_neg (by omega)]), rfl, rfl⟩
    · refine r_iload_n X dX7_lender_21 hl 2 rfl ?_
      refine r_iconst X dX7_lender_22 ?_
      refine r_icmp_le X (tgt := 29) dX7_lender_23 (by decide) ⟨by omega, by omega⟩ ⟨by omega, by omega⟩ (fun c23 => ?_) (fun c23 => ?_)
      · refine r_iload_n X dX7_lender_29 hl 2 rfl ?_
        refine r_iconst X dX7_lender_30 ?_
        refine r_icmp_ne X (tgt := 42) dX7_lender_31 (by decide) ⟨by omega, by omega⟩ ⟨by omega, by omega⟩ (fun c31 => ?_) (fun c31 => ?_)
        · refine r_aload_n X dX7_lender_42 hl 0 rfl ?_
          refine g_7_2 (k := 0) X Y rfl wm_258 dX7_lender_43 ?_
          refine g_6_2 (k := 11) X Y rfl wm_126 dX7_lender_46 ?_
          refine r_iload_n X dX7_lender_49 hl 1 rfl ?_
          refine r_iload_n X dX7_lender_50 hl 2 rfl ?_
          refine vF_i X Y [.int (iV (m0)), .int (iV (w))] [] (ct_X5_get l g t f 16 m0 w rfl h.1.1.2.2 ⟨by omega, by omega⟩ ⟨by omega, by omega⟩) mk_X5_get mi_X5_get wm_436 (by decide) (rv_5 Y rfl) rfl hl (Nat.le_of_ble_eq_true rfl) rfl dX7_lender_51 (Nat.zero_le _) (Nat.zero_le _) (fun H locs Y => ?_)
          exact ret _ _ _ _ _ _ _ dX7_lender_54 Y ⟨by unfold lenX; repeat (first | rw [if_pos (by omega)] | rw [if_neg (by omega)]), rfl, rfl⟩
        · refine r_aload_n X dX7_lender_34 hl 0 rfl ?_
          refine r_iload_n X dX7_lender_35 hl 1 rfl ?_
          refine vF_i X Y [.int (iV (m0))] [] (ct_X7_hasYet l g t f m0 h ⟨by omega, by omega⟩) mk_X7_hasYet mi_X7_hasYet wm_482 (by decide) (rv_7 Y rfl) rfl hl (Nat.le_of_ble_eq_true rfl) rfl dX7_lender_36 (Nat.zero_le _) (Nat.zero_le _) (fun H locs Y => ?_)
          have qy36 := yetX_rng h m0
          refine r_goto X 54 dX7_lender_39 (by decide) ?_
          exact ret _ _ _ _ _ _ _ dX7_lender_54 Y ⟨by unfold lenX; repeat (first | rw [if_pos (by omega)] | rw [if_neg (by omega)]), rfl, rfl⟩
      · refine r_ldc X (-1000000002) wm_297 (by decide) dX7_lender_26 ?_
        exact ret _ _ _ _ _ _ _ dX7_lender_28 Y ⟨by unfold lenX; repeat (first | rw [if_pos (by omega)] | rw [if_neg (by omega)]), rfl, rfl⟩
  · refine r_ldc X (-1000000001) wm_471 (by decide) dX7_lender_14 ?_
    exact ret _ _ _ _ _ _ _ dX7_lender_16 Y ⟨by unfold lenX; repeat (first | rw [if_pos (by omega)] | rw [if_neg (by omega)]), rfl, rfl⟩
set_option maxHeartbeats 4000000 in
set_option maxRecDepth 100000 in
theorem ct_X7_loan (l : Launch) (g : uG) (t : uN) (f : uF) (i w : Int) (h : HI t f) (hi : inI i) (hw : inI w) : cF_i l yX7_loan cX7_loan 3 (some .int) 5 g [.ref (g.1 + 0), .int (iV (i)), .int (iV (w))] t f (loaX t f i w) (t) (f) := by
  refine eF_i (by decide +kernel) (Nat.le_of_ble_eq_true rfl) ?_
  intro p e R s m args below meth c Q ls H locs X Y hl ret
  have X : uX p 5 R s m args c cX7_loan 3 RX7 := X
  have hl : lv_has ls 3 [(0, .ref (g.1 + 0)), (1, .int (iV (i))), (2, .int (iV (w)))] := hl
  have hb := h.b
  refine r_aload_n X dX7_loan_0 hl 0 rfl ?_
  refine g_7_3 (k := 0) X Y rfl wm_259 dX7_loan_1 ?_
  refine g_4_0 (k := 18) X Y rfl wm_162 dX7_loan_4 ?_
  refine r_iload_n X dX7_loan_7 hl 1 rfl ?_
  refine vF_i X Y [.int (iV (i))] [] (ct_X5_has l g t f 19 i rfl h.2.1 ⟨by omega, by omega⟩) mk_X5_has mi_X5_has wm_441 (by decide) (rv_5 Y rfl) rfl hl (Nat.le_of_ble_eq_true rfl) rfl dX7_loan_8 (Nat.zero_le _) (Nat.zero_le _) (fun H locs Y => ?_)
  have qb8 := thas_b t 19 i
  refine r_if_ne X (tgt := 17) dX7_loan_11 (by decide) ⟨by omega, by omega⟩ (fun c11 => ?_) (fun c11 => ?_)
  · refine r_iload_n X dX7_loan_17 hl 2 rfl ?_
    refine r_if_lt X (tgt := 26) dX7_loan_18 (by decide) ⟨by omega, by omega⟩ (fun c18 => ?_) (fun c18 => ?_)
    · refine r_ldc X (-1000000002) wm_297 (by decide) dX7_loan_26 ?_
      exact ret _ _ _ _ _ _ _ dX7_loan_28 Y ⟨by unfold loaX; repeat (first | rw [if_pos (by omega)] | rw [if_neg (by omega)]), rfl, rfl⟩
    · refine r_iload_n X dX7_loan_21 hl 2 rfl ?_
      refine r_iconst X dX7_loan_22 ?_
      refine r_icmp_le X (tgt := 29) dX7_loan_23 (by decide) ⟨by omega, by omega⟩ ⟨by omega, by omega⟩ (fun c23 => ?_) (fun c23 => ?_)
      · refine r_iload_n X dX7_loan_29 hl 2 rfl ?_
        refine r_iconst X dX7_loan_30 ?_
        refine r_icmp_ne X (tgt := 45) dX7_loan_31 (by decide) ⟨by omega, by omega⟩ ⟨by omega, by omega⟩ (fun c31 => ?_) (fun c31 => ?_)
        · refine r_aload_n X dX7_loan_45 hl 0 rfl ?_
          refine g_7_3 (k := 0) X Y rfl wm_259 dX7_loan_46 ?_
          refine g_4_0 (k := 18) X Y rfl wm_162 dX7_loan_49 ?_
          refine r_iload_n X dX7_loan_52 hl 1 rfl ?_
          refine r_iload_n X dX7_loan_53 hl 2 rfl ?_
          refine vF_i X Y [.int (iV (i)), .int (iV (w))] [] (ct_X5_get l g t f 19 i w rfl h.2.1 ⟨by omega, by omega⟩ ⟨by omega, by omega⟩) mk_X5_get mi_X5_get wm_436 (by decide) (rv_5 Y rfl) rfl hl (Nat.le_of_ble_eq_true rfl) rfl dX7_loan_54 (Nat.zero_le _) (Nat.zero_le _) (fun H locs Y => ?_)
          exact ret _ _ _ _ _ _ _ dX7_loan_57 Y ⟨by unfold loaX; repeat (first | rw [if_pos (by omega)] | rw [if_neg (by omega)]), rfl, rfl⟩
        · refine r_aload_n X dX7_loan_34 hl 0 rfl ?_
          refine g_7_3 (k := 0) X Y rfl wm_259 dX7_loan_35 ?_
          refine r_iload_n X dX7_loan_38 hl 1 rfl ?_
          refine vF_i X Y [.int (iV (i))] [] (ct_X4_rankOf l g t f 18 i rfl h.2 (by omega) (show i < t 19 3 by omega)) mk_X4_rankOf mi_X4_rankOf wm_494 (by decide) (rv_4 Y rfl) rfl hl (Nat.le_of_ble_eq_true rfl) rfl dX7_loan_39 (Nat.zero_le _) (Nat.zero_le _) (fun H locs Y => ?_)
          refine r_goto X 57 dX7_loan_42 (by decide) ?_
          exact ret _ _ _ _ _ _ _ dX7_loan_57 Y ⟨by unfold loaX; repeat (first | rw [if_pos (by omega)] | rw [if_neg (by omega)]), rfl, rfl⟩
      · refine r_ldc X (-1000000002) wm_297 (by decide) dX7_loan_26 ?_
        exact ret _ _ _ _ _ _ _ dX7_loan_28 Y ⟨by unfold loaX; repeat (first | rw [if_pos (by omega)] | rw [if_neg (by omega)]), rfl, rfl⟩
  · refine r_ldc X (-1000000001) wm_471 (by decide) dX7_loan_14 ?_
    exact ret _ _ _ _ _ _ _ dX7_loan_16 Y ⟨by unfold loaX; repeat (first | rw [if_pos (by omega)] | rw [if_neg (by omega)]), rfl, rfl⟩
set_option maxHeartbeats 4000000 in
set_option maxRecDepth 100000 in
theorem ct_X7_comesHome (l : Launch) (g : uG) (t : uN) (f : uF)  (h : HI t f) : cF_i l yX7_comesHome cX7_comesHome 1 (some .int) 6 g [.ref (g.1 + 0)] t f (cohX t f) (t) (f) := by
  refine eF_i (by decide +kernel) (Nat.le_of_ble_eq_true rfl) ?_
  intro p e R s m args below meth c Q ls H locs X Y hl ret
  have X : uX p 6 R s m args c cX7_comesHome 1 RX7 := X
  have hl : lv_has ls 1 [(0, .ref (g.1 + 0))] := hl
  have hb := h.b
  refine r_aload_n X dX7_comesHome_0 hl 0 rfl ?_
  refine vF_i X Y [] [] (ct_X7_cannotTry l g t f h) mk_X7_cannotTry mi_X7_cannotTry wm_450 (by decide) (rv_7 Y rfl) rfl hl (Nat.le_of_ble_eq_true rfl) rfl dX7_comesHome_1 (Nat.zero_le _) (Nat.zero_le _) (fun H locs Y => ?_)
  have qg1 := goneX_b h.b.1.2.2.2
  refine r_if_eq X (tgt := 12) dX7_comesHome_4 (by decide) ⟨by omega, by omega⟩ (fun c4 => ?_) (fun c4 => ?_)
  · refine r_aload_n X dX7_comesHome_12 hl 0 rfl ?_
    refine g_7_2 (k := 0) X Y rfl wm_258 dX7_comesHome_13 ?_
    refine r_aload_n X dX7_comesHome_16 hl 0 rfl ?_
    refine g_7_3 (k := 0) X Y rfl wm_259 dX7_comesHome_17 ?_
    refine g_4_3 (k := 18) X Y rfl wm_170 dX7_comesHome_20 ?_
    refine r_aload_n X dX7_comesHome_23 hl 0 rfl ?_
    refine g_7_2 (k := 0) X Y rfl wm_258 dX7_comesHome_24 ?_
    refine g_6_1 (k := 11) X Y rfl wm_122 dX7_comesHome_27 ?_
    refine vF_i X Y [] [.int (iV (t 18 3)), .ref (g.1 + 11)] (ct_X5_rows l g t f 14 rfl) mk_X5_rows mi_X5_rows wm_320 (by decide) (rv_5 Y rfl) rfl hl (Nat.le_of_ble_eq_true rfl) rfl dX7_comesHome_30 (Nat.zero_le _) (Nat.zero_le _) (fun H locs Y => ?_)
    refine r_aload_n X dX7_comesHome_33 hl 0 rfl ?_
    refine g_7_3 (k := 0) X Y rfl wm_259 dX7_comesHome_34 ?_
    refine g_4_1 (k := 18) X Y rfl wm_164 dX7_comesHome_37 ?_
    refine vF_i X Y [.int (iV (t 18 3)), .int (iV (t 14 3)), .int (iV (t 18 1))] [] (ct_X6_chanceThrough l g t f 11 (t 18 3) (t 14 3) (t 18 1) rfl h.1 (by omega) (by omega) ⟨by omega, by omega⟩ ⟨by omega, by omega⟩) mk_X6_chanceThrough mi_X6_chanceThrough wm_576 (by decide) (rv_6 Y rfl) rfl hl (Nat.le_of_ble_eq_true rfl) rfl dX7_comesHome_40 (Nat.zero_le _) (Nat.zero_le _) (fun H locs Y => ?_)
    exact ret _ _ _ _ _ _ _ dX7_comesHome_43 Y ⟨by unfold cohX; unfold homeX; repeat (first | rw [if_pos (by omega)] | rw [if_neg (by omega)]), rfl, rfl⟩
  · refine r_ldc X (-1000000003) wm_510 (by decide) dX7_comesHome_7 ?_
    refine r_goto X 43 dX7_comesHome_9 (by decide) ?_
    exact ret _ _ _ _ _ _ _ dX7_comesHome_43 Y ⟨by unfold cohX; unfold homeX; repeat (first | rw [if_pos (by omega)] | rw [if_neg (by omega)]), rfl, rfl⟩
set_option maxHeartbeats 4000000 in
set_option maxRecDepth 100000 in
theorem ct_X7_rate (l : Launch) (g : uG) (t : uN) (f : uF)  (h : HI t f) : cF_i l yX7_rate cX7_rate 1 (some .int) 7 g [.ref (g.1 + 0)] t f (ratX t f) (t) (f) := by
  refine eF_i (by decide +kernel) (Nat.le_of_ble_eq_true rfl) ?_
  intro p e R s m args below meth c Q ls H locs X Y hl ret
  have X : uX p 7 R s m args c cX7_rate 1 RX7 := X
  have hl : lv_has ls 1 [(0, .ref (g.1 + 0))] := hl
  have hb := h.b
  refine r_aload_n X dX7_rate_0 hl 0 rfl ?_
  refine vF_i X Y [] [] (ct_X7_cannotTry l g t f h) mk_X7_cannotTry mi_X7_cannotTry wm_450 (by decide) (rv_7 Y rfl) rfl hl (Nat.le_of_ble_eq_true rfl) rfl dX7_rate_1 (Nat.zero_le _) (Nat.zero_le _) (fun H locs Y => ?_)
  have qg1 := goneX_b h.b.1.2.2.2
  refine r_if_eq X (tgt := 12) dX7_rate_4 (by decide) ⟨by omega, by omega⟩ (fun c4 => ?_) (fun c4 => ?_)
  · refine r_aload_n X dX7_rate_12 hl 0 rfl ?_
    refine vF_i X Y [] [] (ct_X7_comesHome l g t f h) mk_X7_comesHome mi_X7_comesHome wm_591 (by decide) (rv_7 Y rfl) rfl hl (Nat.le_of_ble_eq_true rfl) rfl dX7_rate_13 (Nat.zero_le _) (Nat.zero_le _) (fun H locs Y => ?_)
    have qh13 : cohX t f = homeX t f := by unfold cohX; rw [if_pos (by omega)]
    have qi13 := homeX_rng h
    refine sF_i X Y [.int (iV (cohX t f))] [] (ct_X7_rateFor l g t f (cohX t f) (by omega) (by omega)) mk_X7_rateFor mi_X7_rateFor wm_592 (by decide) rfl hl (Nat.le_of_ble_eq_true rfl) rfl dX7_rate_16 (Nat.zero_le _) (Nat.zero_le _) (fun H locs Y => ?_)
    exact ret _ _ _ _ _ _ _ dX7_rate_19 Y ⟨by unfold ratX; (first | (rw [if_pos (by omega), ← qh13]) | rw [if_neg (by omega)]), rfl, rfl⟩
  · refine r_ldc X (-1000000003) wm_510 (by decide) dX7_rate_7 ?_
    refine r_goto X 19 dX7_rate_9 (by decide) ?_
    exact ret _ _ _ _ _ _ _ dX7_rate_19 Y ⟨by unfold ratX; (first | (rw [if_pos (by omega), ← qh13]) | rw [if_neg (by omega)]), rfl, rfl⟩
set_option maxHeartbeats 4000000 in
set_option maxRecDepth 100000 in
theorem ct_X7_willing (l : Launch) (g : uG) (t : uN) (f : uF)  (h : HI t f) : cF_i l yX7_willing cX7_willing 4 (some .int) 7 g [.ref (g.1 + 0)] t f (wilX t f) (t) (f) := by
  refine eF_i (by decide +kernel) (Nat.le_of_ble_eq_true rfl) ?_
  intro p e R s m args below meth c Q ls H locs X Y hl ret
  have X : uX p 7 R s m args c cX7_willing 4 RX7 := X
  have hl : lv_has ls 4 [(0, .ref (g.1 + 0))] := hl
  have hb := h.b
  refine r_aload_n X dX7_willing_0 hl 0 rfl ?_
  refine vF_i X Y [] [] (ct_X7_cannotTry l g t f h) mk_X7_cannotTry mi_X7_cannotTry wm_450 (by decide) (rv_7 Y rfl) rfl hl (Nat.le_of_ble_eq_true rfl) rfl dX7_willing_1 (Nat.zero_le _) (Nat.zero_le _) (fun H locs Y => ?_)
  have qg1 := goneX_b h.b.1.2.2.2
  refine r_if_eq X (tgt := 10) dX7_willing_4 (by decide) ⟨by omega, by omega⟩ (fun c4 => ?_) (fun c4 => ?_)
  · refine r_aload_n X dX7_willing_10 hl 0 rfl ?_
    refine vF_i X Y [] [] (ct_X7_comesHome l g t f h) mk_X7_comesHome mi_X7_comesHome wm_591 (by decide) (rv_7 Y rfl) rfl hl (Nat.le_of_ble_eq_true rfl) rfl dX7_willing_11 (Nat.zero_le _) (Nat.zero_le _) (fun H locs Y => ?_)
    have qh11 : cohX t f = homeX t f := by unfold cohX; rw [if_pos (by omega)]
    have qi11 := homeX_rng h
    refine sF_i X Y [.int (iV (cohX t f))] [] (ct_X7_rateFor l g t f (cohX t f) (by omega) (by omega)) mk_X7_rateFor mi_X7_rateFor wm_592 (by decide) rfl hl (Nat.le_of_ble_eq_true rfl) rfl dX7_willing_14 (Nat.zero_le _) (Nat.zero_le _) (fun H locs Y => ?_)
    have qr := rateX_rng (cohX t f) (by omega) (by omega)
    refine r_istore_n X dX7_willing_17 hl [(1, .int (iV (rateX (cohX t f)))), (0, .ref (g.1 + 0))] (by decide) rfl (fun ls hl => ?_)
    refine r_iconst X dX7_willing_18 ?_
    refine r_istore_n X dX7_willing_19 hl [(2, .int (iV (0))), (1, .int (iV (rateX (cohX t f)))), (0, .ref (g.1 + 0))] (by decide) rfl (fun ls hl => ?_)
    refine r_iconst X dX7_willing_20 ?_
    refine r_istore_n X dX7_willing_21 hl [(3, .int (iV (0))), (2, .int (iV (0))), (1, .int (iV (rateX (cohX t f)))), (0, .ref (g.1 + 0))] (by decide) rfl (fun ls hl => ?_)
    have loop22 : ∀ (N : Nat) (b : Int) (i : Int) (hi0 : 0 ≤ i) (hi1 : i ≤ t 16 3) (hb9 : b = bitN (wilC t f) i.toNat) (H : Heap) (locs : List Loc) (ls : Array Slot), (t 16 3 - i).toNat < N → uY g 117 (cX g t f) s H locs → lv_has ls 4 [(2, .int (iV (b))), (3, .int (iV (i))), (0, .ref (g.1 + 0)), (1, .int (iV (rateX (cohX t f))))] → W p l e R s m args below meth c H locs 0 0 Q (F0 m 22 ls []) := by
      intro N
      induction N with
      | zero => intro b i hi0 hi1 hb9 H locs ls hmu Y hl; exact absurd hmu (Nat.not_lt_zero _)
      | succ N ih =>
        intro b i hi0 hi1 hb9 H locs ls hmu Y hl
        have hbr := bitN_r (c := wilC t f) hi0
        rw [← hb9] at hbr
        have hr1 := h.len i
        have hbb : pow2 i ≤ 32 := by rcases (show i = 0 ∨ i = 1 ∨ i = 2 ∨ i = 3 ∨ i = 4 ∨ i = 5 by omega) with q | q | q | q | q | q <;> subst q <;> decide
        refine r_iload_n X dX7_willing_22 hl 1 rfl ?_
        refine r_aload_n X dX7_willing_23 hl 2 rfl ?_
        refine g_7_2 (k := 0) X Y rfl wm_258 dX7_willing_24 ?_
        refine g_6_2 (k := 11) X Y rfl wm_126 dX7_willing_27 ?_
        refine vF_i X Y [] [.int (iV (i))] (ct_X5_rows l g t f 16 rfl) mk_X5_rows mi_X5_rows wm_320 (by decide) (rv_5 Y rfl) rfl hl (Nat.le_of_ble_eq_true rfl) rfl dX7_willing_30 (Nat.zero_le _) (Nat.zero_le _) (fun H locs Y => ?_)
        refine r_icmp_ge X (tgt := 69) dX7_willing_33 (by decide) ⟨by omega, by omega⟩ ⟨by omega, by omega⟩ (fun c33 => ?_) (fun c33 => ?_)
        · refine r_iload_n X dX7_willing_69 hl 0 rfl ?_
          exact ret _ _ _ _ _ _ _ dX7_willing_70 Y ⟨by unfold wilX; rw [if_pos (by omega), hb9, show i = t 16 3 by omega], rfl, rfl⟩
        · refine r_iload_n X dX7_willing_36 hl 3 rfl ?_
          refine r_iconst X dX7_willing_37 ?_
          refine r_icmp_eq X (tgt := 63) dX7_willing_38 (by decide) ⟨by omega, by omega⟩ ⟨by omega, by omega⟩ (fun c38 => ?_) (fun c38 => ?_)
          · refine r_iinc X dX7_willing_63 hl 1 rfl [(3, .int (iV (i + 1))), (2, .int (iV (b))), (0, .ref (g.1 + 0)), (1, .int (iV (rateX (cohX t f))))] (by decide) rfl (fun ls hl => ?_)
            refine r_goto X 22 dX7_willing_66 (by decide) ?_
            exact ih b (i + 1) (by omega) (by omega) (by first | (rw [bitN_1 (c := wilC t f) hi0 (by unfold wilC; rw [← qh11]; exact if_pos ⟨by omega, by omega⟩), ← hb9]) | (rw [bitN_0 (c := wilC t f) hi0 (by unfold wilC; rw [← qh11, if_neg (by omega)]; decide), ← hb9])) _ _ _ (by omega) Y (lv_sub hl [1, 0, 2, 3] rfl)
          · refine r_aload_n X dX7_willing_41 hl 2 rfl ?_
            refine g_7_2 (k := 0) X Y rfl wm_258 dX7_willing_42 ?_
            refine g_6_2 (k := 11) X Y rfl wm_126 dX7_willing_45 ?_
            refine r_iload_n X dX7_willing_48 hl 1 rfl ?_
            refine r_iconst X dX7_willing_49 ?_
            refine vF_i X Y [.int (iV (i)), .int (iV (1))] [] (ct_X5_get l g t f 16 i 1 rfl h.1.1.2.2 ⟨by omega, by omega⟩ ⟨by omega, by omega⟩) mk_X5_get mi_X5_get wm_436 (by decide) (rv_5 Y rfl) rfl hl (Nat.le_of_ble_eq_true rfl) rfl dX7_willing_50 (Nat.zero_le _) (Nat.zero_le _) (fun H locs Y => ?_)
            refine r_iload_n X dX7_willing_53 hl 3 rfl ?_
            refine r_icmp_lt X (tgt := 63) dX7_willing_54 (by decide) ⟨by omega, by omega⟩ ⟨by omega, by omega⟩ (fun c54 => ?_) (fun c54 => ?_)
            · refine r_iinc X dX7_willing_63 hl 1 rfl [(3, .int (iV (i + 1))), (2, .int (iV (b))), (0, .ref (g.1 + 0)), (1, .int (iV (rateX (cohX t f))))] (by decide) rfl (fun ls hl => ?_)
              refine r_goto X 22 dX7_willing_66 (by decide) ?_
              exact ih b (i + 1) (by omega) (by omega) (by first | (rw [bitN_1 (c := wilC t f) hi0 (by unfold wilC; rw [← qh11]; exact if_pos ⟨by omega, by omega⟩), ← hb9]) | (rw [bitN_0 (c := wilC t f) hi0 (by unfold wilC; rw [← qh11, if_neg (by omega)]; decide), ← hb9])) _ _ _ (by omega) Y (lv_sub hl [1, 0, 2, 3] rfl)
            · refine r_iload_n X dX7_willing_57 hl 0 rfl ?_
              refine r_iconst X dX7_willing_58 ?_
              refine r_iload_n X dX7_willing_59 hl 1 rfl ?_
              refine r_shl X dX7_willing_60 (by omega) (by omega) ?_
              refine r_orp X dX7_willing_61 (by omega) (by omega) (by omega) (by omega) ?_
              refine r_istore_n X dX7_willing_62 hl [(2, .int (iV (b + pow2 i))), (3, .int (iV (i))), (0, .ref (g.1 + 0)), (1, .int (iV (rateX (cohX t f))))] (by decide) rfl (fun ls hl => ?_)
              refine r_iinc X dX7_willing_63 hl 1 rfl [(3, .int (iV (i + 1))), (2, .int (iV (b + pow2 i))), (0, .ref (g.1 + 0)), (1, .int (iV (rateX (cohX t f))))] (by decide) rfl (fun ls hl => ?_)
              refine r_goto X 22 dX7_willing_66 (by decide) ?_
              exact ih (b + pow2 i) (i + 1) (by omega) (by omega) (by first | (rw [bitN_1 (c := wilC t f) hi0 (by unfold wilC; rw [← qh11]; exact if_pos ⟨by omega, by omega⟩), ← hb9]) | (rw [bitN_0 (c := wilC t f) hi0 (by unfold wilC; rw [← qh11, if_neg (by omega)]; decide), ← hb9])) _ _ _ (by omega) Y (lv_sub hl [1, 0, 2, 3] rfl)
    exact loop22 (((t 16 3 - 0).toNat) + 1) 0 0 (by omega) (by omega) rfl _ _ _ (Nat.lt_succ_self _) Y (lv_sub hl [1, 0, 3, 2] rfl)
  · refine r_ldc X (-1000000003) wm_510 (by decide) dX7_willing_7 ?_
    exact ret _ _ _ _ _ _ _ dX7_willing_9 Y ⟨by unfold wilX; rw [if_neg (by omega)], rfl, rfl⟩
set_option maxHeartbeats 4000000 in
set_option maxRecDepth 100000 in
theorem ct_X7_paid (l : Launch) (g : uG) (t : uN) (f : uF) (i : Int) (h : HI t f) (hi : inI i) : cF_i l yX7_paid cX7_paid 2 (some .int) 6 g [.ref (g.1 + 0), .int (iV (i))] t f (paiX t f i) (t) (f) := by
  refine eF_i (by decide +kernel) (Nat.le_of_ble_eq_true rfl) ?_
  intro p e R s m args below meth c Q ls H locs X Y hl ret
  have X : uX p 6 R s m args c cX7_paid 2 RX7 := X
  have hl : lv_has ls 2 [(0, .ref (g.1 + 0)), (1, .int (iV (i)))] := hl
  have hb := h.b
  refine r_aload_n X dX7_paid_0 hl 0 rfl ?_
  refine g_7_3 (k := 0) X Y rfl wm_259 dX7_paid_1 ?_
  refine g_4_0 (k := 18) X Y rfl wm_162 dX7_paid_4 ?_
  refine r_iload_n X dX7_paid_7 hl 1 rfl ?_
  refine vF_i X Y [.int (iV (i))] [] (ct_X5_has l g t f 19 i rfl h.2.1 ⟨by omega, by omega⟩) mk_X5_has mi_X5_has wm_441 (by decide) (rv_5 Y rfl) rfl hl (Nat.le_of_ble_eq_true rfl) rfl dX7_paid_8 (Nat.zero_le _) (Nat.zero_le _) (fun H locs Y => ?_)
  have qb8 := thas_b t 19 i
  refine r_if_ne X (tgt := 17) dX7_paid_11 (by decide) ⟨by omega, by omega⟩ (fun c11 => ?_) (fun c11 => ?_)
  · refine r_aload_n X dX7_paid_17 hl 0 rfl ?_
    refine vF_i X Y [] [] (ct_X7_cannotTry l g t f h) mk_X7_cannotTry mi_X7_cannotTry wm_450 (by decide) (rv_7 Y rfl) rfl hl (Nat.le_of_ble_eq_true rfl) rfl dX7_paid_18 (Nat.zero_le _) (Nat.zero_le _) (fun H locs Y => ?_)
    have qg18 := goneX_b h.b.1.2.2.2
    refine r_if_eq X (tgt := 29) dX7_paid_21 (by decide) ⟨by omega, by omega⟩ (fun c21 => ?_) (fun c21 => ?_)
    · refine r_aload_n X dX7_paid_29 hl 0 rfl ?_
      refine r_iload_n X dX7_paid_30 hl 1 rfl ?_
      refine vF_i X Y [.int (iV (i))] [] (ct_X7_paidNow l g t f i h (by omega) (by omega)) mk_X7_paidNow mi_X7_paidNow wm_604 (by decide) (rv_7 Y rfl) rfl hl (Nat.le_of_ble_eq_true rfl) rfl dX7_paid_31 (Nat.zero_le _) (Nat.zero_le _) (fun H locs Y => ?_)
      have qn31 : 0 ≤ paidX t f i ∧ paidX t f i ≤ 2997 := paidS_rng h.2 _ _ _
      exact ret _ _ _ _ _ _ _ dX7_paid_34 Y ⟨by unfold paiX; repeat (first | rw [if_pos (by omega)] | rw [if_neg (by omega)]), rfl, rfl⟩
    · refine r_ldc X (-1000000003) wm_510 (by decide) dX7_paid_24 ?_
      refine r_goto X 34 dX7_paid_26 (by decide) ?_
      exact ret _ _ _ _ _ _ _ dX7_paid_34 Y ⟨by unfold paiX; repeat (first | rw [if_pos (by omega)] | rw [if_neg (by omega)]), rfl, rfl⟩
  · refine r_ldc X (-1000000001) wm_471 (by decide) dX7_paid_14 ?_
    exact ret _ _ _ _ _ _ _ dX7_paid_16 Y ⟨by unfold paiX; repeat (first | rw [if_pos (by omega)] | rw [if_neg (by omega)]), rfl, rfl⟩
set_option maxHeartbeats 4000000 in
set_option maxRecDepth 100000 in
theorem ct_X7_hurt (l : Launch) (g : uG) (t : uN) (f : uF) (m0 v fr : Int) (h : HI t f) (hm : inI m0) (hv : inI v) (hf : fr = 0 ∨ fr = 1) : cF_i l yX7_hurt cX7_hurt 9 (some .int) 7 g [.ref (g.1 + 0), .int (iV (m0)), .int (iV (v)), .int (iV (fr))] t f (hurX t f m0 v fr) (t) (f) := by
  refine eF_i (by decide +kernel) (Nat.le_of_ble_eq_true rfl) ?_
  intro p e R s m args below meth c Q ls H locs X Y hl ret
  have X : uX p 7 R s m args c cX7_hurt 9 RX7 := X
  have hl : lv_has ls 9 [(0, .ref (g.1 + 0)), (1, .int (iV (m0))), (2, .int (iV (v))), (3, .int (iV (fr)))] := hl
  have hb := h.b
  refine r_aload_n X dX7_hurt_0 hl 0 rfl ?_
  refine g_7_2 (k := 0) X Y rfl wm_258 dX7_hurt_1 ?_
  refine g_6_2 (k := 11) X Y rfl wm_126 dX7_hurt_4 ?_
  refine r_iload_n X dX7_hurt_7 hl 1 rfl ?_
  refine vF_i X Y [.int (iV (m0))] [] (ct_X5_has l g t f 16 m0 rfl h.1.1.2.2 ⟨by omega, by omega⟩) mk_X5_has mi_X5_has wm_441 (by decide) (rv_5 Y rfl) rfl hl (Nat.le_of_ble_eq_true rfl) rfl dX7_hurt_8 (Nat.zero_le _) (Nat.zero_le _) (fun H locs Y => ?_)
  have qb8 := thas_b t 16 m0
  refine r_if_ne X (tgt := 17) dX7_hurt_11 (by decide) ⟨by omega, by omega⟩ (fun c11 => ?_) (fun c11 => ?_)
  · refine r_iload_n X dX7_hurt_17 hl 2 rfl ?_
    refine r_iconst X dX7_hurt_18 ?_
    refine r_icmp_lt X (tgt := 29) dX7_hurt_19 (by decide) ⟨by omega, by omega⟩ ⟨by omega, by omega⟩ (fun c19 => ?_) (fun c19 => ?_)
    · refine r_ldc X (-1000000002) wm_297 (by decide) dX7_hurt_29 ?_
      exact ret _ _ _ _ _ _ _ dX7_hurt_31 Y ⟨by unfold hurX; repeat (first | rw [if_pos (by omega)] | rw [if_neg (by omega)]), rfl, rfl⟩
    · refine r_iload_n X dX7_hurt_22 hl 2 rfl ?_
      refine r_sipush X 999 dX7_hurt_23 (by decide) ?_
      refine r_icmp_le X (tgt := 32) dX7_hurt_26 (by decide) ⟨by omega, by omega⟩ ⟨by omega, by omega⟩ (fun c26 => ?_) (fun c26 => ?_)
      · refine r_aload_n X dX7_hurt_32 hl 0 rfl ?_
        refine vF_i X Y [] [] (ct_X7_cannotTry l g t f h) mk_X7_cannotTry mi_X7_cannotTry wm_450 (by decide) (rv_7 Y rfl) rfl hl (Nat.le_of_ble_eq_true rfl) rfl dX7_hurt_33 (Nat.zero_le _) (Nat.zero_le _) (fun H locs Y => ?_)
        have qg33 := goneX_b h.b.1.2.2.2
        refine r_if_eq X (tgt := 42) dX7_hurt_36 (by decide) ⟨by omega, by omega⟩ (fun c36 => ?_) (fun c36 => ?_)
        · refine r_aload_n X dX7_hurt_42 hl 0 rfl ?_
          refine g_7_2 (k := 0) X Y rfl wm_258 dX7_hurt_43 ?_
          refine r_iload_n X dX7_hurt_46 hl 1 rfl ?_
          refine r_iload_n X dX7_hurt_47 hl 2 rfl ?_
          refine vF_i X Y [.int (iV (m0)), .int (iV (v))] [] (ct_X6_dueOf l g t f 11 m0 v rfl h.1 ⟨by omega, by omega⟩ (by omega) (by omega)) mk_X6_dueOf mi_X6_dueOf wm_531 (by decide) (rv_6 Y rfl) rfl hl (Nat.le_of_ble_eq_true rfl) rfl dX7_hurt_48 (Nat.zero_le _) (Nat.zero_le _) (fun H locs Y => ?_)
          have ho := owedX_rng h.1 m0 v (by omega) (by omega)
          refine r_istore X dX7_hurt_51 hl [(4, .int (iV (owedX t f 11 m0 v))), (0, .ref (g.1 + 0)), (1, .int (iV (m0))), (2, .int (iV (v))), (3, .int (iV (fr)))] (by decide) rfl (fun ls hl => ?_)
          refine r_aload_n X dX7_hurt_53 hl 1 rfl ?_
          refine g_7_2 (k := 0) X Y rfl wm_258 dX7_hurt_54 ?_
          refine g_6_0 (k := 11) X Y rfl wm_119 dX7_hurt_57 ?_
          refine r_iconst X dX7_hurt_60 ?_
          refine r_iconst X dX7_hurt_61 ?_
          refine vF_i X Y [.int (iV (0)), .int (iV (1))] [] (ct_X5_get l g t f 12 0 1 rfl h.1.1.1 ⟨by omega, by omega⟩ ⟨by omega, by omega⟩) mk_X5_get mi_X5_get wm_436 (by decide) (rv_5 Y rfl) rfl hl (Nat.le_of_ble_eq_true rfl) rfl dX7_hurt_62 (Nat.zero_le _) (Nat.zero_le _) (fun H locs Y => ?_)
          refine r_iload_n X dX7_hurt_65 hl 4 rfl ?_
          refine r_if_eq X (tgt := 74) dX7_hurt_66 (by decide) ⟨by omega, by omega⟩ (fun c66 => ?_) (fun c66 => ?_)
          · refine r_iconst X dX7_hurt_74 ?_
            refine r_isub X dX7_hurt_75 ?_
            obtain ⟨zf, hzf⟩ : ∃ q, q = hurFr t f m0 v fr := ⟨_, rfl⟩
            refine r_eq (z' := zf) (by rw [hzf]; unfold hurFr; (first | rw [if_pos (by omega)] | rw [if_neg (by omega)])) ?_
            have hzr : -3000 ≤ zf ∧ zf ≤ 999 := by rw [hzf]; unfold hurFr; split <;> omega
            refine r_istore X dX7_hurt_76 hl [(5, .int (iV (zf))), (4, .int (iV (owedX t f 11 m0 v))), (0, .ref (g.1 + 0)), (1, .int (iV (m0))), (2, .int (iV (v))), (3, .int (iV (fr)))] (by decide) rfl (fun ls hl => ?_)
            refine r_aload_n X dX7_hurt_78 hl 2 rfl ?_
            refine r_iload X dX7_hurt_79 hl 0 rfl ?_
            refine vF_i X Y [.int (iV (zf))] [] (ct_X7_shipMoney l g t f zf h (by omega) (by omega)) mk_X7_shipMoney mi_X7_shipMoney wm_458 (by decide) (rv_7 Y rfl) rfl hl (Nat.le_of_ble_eq_true rfl) rfl dX7_hurt_81 (Nat.zero_le _) (Nat.zero_le _) (fun H locs Y => ?_)
            have qs81 := smX_rng h zf (by omega) (by omega)
            refine r_iload_n X dX7_hurt_84 hl 4 rfl ?_
            refine r_iadd X dX7_hurt_85 ?_
            refine r_iload_n X dX7_hurt_86 hl 5 rfl ?_
            refine r_if_eq X (tgt := 94) dX7_hurt_87 (by decide) ⟨by omega, by omega⟩ (fun c87 => ?_) (fun c87 => ?_)
            · refine r_iload X dX7_hurt_94 hl 1 rfl ?_
              refine r_isub X dX7_hurt_96 ?_
              obtain ⟨zs, hzs⟩ : ∃ q, q = hurSh t f m0 v fr := ⟨_, rfl⟩
              refine r_eq (z' := zs) (by first | (exfalso; omega) | (rw [hzs]; unfold hurSh; rw [← hzf]; (first | rw [if_pos (by omega)] | rw [if_neg (by omega)]))) ?_
              have hzr2 : -3000 ≤ zs ∧ zs ≤ 14000 := by rw [hzs]; unfold hurSh; rw [← hzf]; split <;> omega
              refine r_istore X dX7_hurt_97 hl [(6, .int (iV (zs))), (5, .int (iV (zf))), (4, .int (iV (owedX t f 11 m0 v))), (0, .ref (g.1 + 0)), (1, .int (iV (m0))), (2, .int (iV (v))), (3, .int (iV (fr)))] (by decide) rfl (fun ls hl => ?_)
              refine r_iconst X dX7_hurt_99 ?_
              refine r_istore X dX7_hurt_100 hl [(7, .int (iV (0))), (6, .int (iV (zs))), (5, .int (iV (zf))), (4, .int (iV (owedX t f 11 m0 v))), (0, .ref (g.1 + 0)), (1, .int (iV (m0))), (2, .int (iV (v))), (3, .int (iV (fr)))] (by decide) rfl (fun ls hl => ?_)
              refine r_iconst X dX7_hurt_102 ?_
              refine r_istore X dX7_hurt_103 hl [(8, .int (iV (0))), (7, .int (iV (0))), (6, .int (iV (zs))), (5, .int (iV (zf))), (4, .int (iV (owedX t f 11 m0 v))), (0, .ref (g.1 + 0)), (1, .int (iV (m0))), (2, .int (iV (v))), (3, .int (iV (fr)))] (by decide) rfl (fun ls hl => ?_)
              have loop105 : ∀ (N : Nat) (b : Int) (i : Int) (hi0 : 0 ≤ i) (hi1 : i ≤ t 19 3) (hb9 : b = bitN (hurC t f m0 v fr) i.toNat) (H : Heap) (locs : List Loc) (ls : Array Slot), (t 19 3 - i).toNat < N → uY g 117 (cX g t f) s H locs → lv_has ls 9 [(7, .int (iV (b))), (8, .int (iV (i))), (0, .ref (g.1 + 0)), (5, .int (iV (zf))), (6, .int (iV (zs)))] → W p l e R s m args below meth c H locs 0 0 Q (F0 m 105 ls []) := by
                intro N
                induction N with
                | zero => intro b i hi0 hi1 hb9 H locs ls hmu Y hl; exact absurd hmu (Nat.not_lt_zero _)
                | succ N ih =>
                  intro b i hi0 hi1 hb9 H locs ls hmu Y hl
                  have hbr := bitN_r (c := hurC t f m0 v fr) hi0
                  rw [← hb9] at hbr
                  have hbb : pow2 i ≤ 256 := by rcases (show i = 0 ∨ i = 1 ∨ i = 2 ∨ i = 3 ∨ i = 4 ∨ i = 5 ∨ i = 6 ∨ i = 7 ∨ i = 8 by omega) with q | q | q | q | q | q | q | q | q <;> subst q <;> decide
                  refine r_iload X dX7_hurt_105 hl 1 rfl ?_
                  refine r_aload_n X dX7_hurt_107 hl 2 rfl ?_
                  refine g_7_3 (k := 0) X Y rfl wm_259 dX7_hurt_108 ?_
                  refine g_4_0 (k := 18) X Y rfl wm_162 dX7_hurt_111 ?_
                  refine vF_i X Y [] [.int (iV (i))] (ct_X5_rows l g t f 19 rfl) mk_X5_rows mi_X5_rows wm_320 (by decide) (rv_5 Y rfl) rfl hl (Nat.le_of_ble_eq_true rfl) rfl dX7_hurt_114 (Nat.zero_le _) (Nat.zero_le _) (fun H locs Y => ?_)
                  refine r_icmp_ge X (tgt := 157) dX7_hurt_117 (by decide) ⟨by omega, by omega⟩ ⟨by omega, by omega⟩ (fun c117 => ?_) (fun c117 => ?_)
                  · refine r_iload X dX7_hurt_157 hl 0 rfl ?_
                    exact ret _ _ _ _ _ _ _ dX7_hurt_159 Y ⟨by unfold hurX; rw [if_neg (by omega), if_neg (by omega), if_pos (by omega), hb9, show i = t 19 3 by omega], rfl, rfl⟩
                  · refine r_aload_n X dX7_hurt_120 hl 2 rfl ?_
                    refine g_7_3 (k := 0) X Y rfl wm_259 dX7_hurt_121 ?_
                    refine r_iload X dX7_hurt_124 hl 1 rfl ?_
                    refine r_iload X dX7_hurt_126 hl 4 rfl ?_
                    refine r_iload X dX7_hurt_128 hl 3 rfl ?_
                    refine vF_i X Y [.int (iV (i)), .int (iV (zs)), .int (iV (zf))] [] (ct_X4_paidOf l g t f 18 i zs zf rfl h.2 (by omega) (show i < t 19 3 by omega) ⟨by omega, by omega⟩ ⟨by omega, by omega⟩) mk_X4_paidOf mi_X4_paidOf wm_608 (by decide) (rv_4 Y rfl) rfl hl (Nat.le_of_ble_eq_true rfl) rfl dX7_hurt_130 (Nat.zero_le _) (Nat.zero_le _) (fun H locs Y => ?_)
                    have hps := paidS_rng h.2 i zs zf
                    refine r_aload_n X dX7_hurt_133 hl 2 rfl ?_
                    refine r_iload X dX7_hurt_134 hl 1 rfl ?_
                    refine vF_i X Y [.int (iV (i))] [.int (iV (paidS t f 18 i zs zf))] (ct_X7_paidNow l g t f i h (by omega) (by omega)) mk_X7_paidNow mi_X7_paidNow wm_604 (by decide) (rv_7 Y rfl) rfl hl (Nat.le_of_ble_eq_true rfl) rfl dX7_hurt_136 (Nat.zero_le _) (Nat.zero_le _) (fun H locs Y => ?_)
                    have qn136 : 0 ≤ paidX t f i ∧ paidX t f i ≤ 2997 := paidS_rng h.2 _ _ _
                    refine r_icmp_ge X (tgt := 151) dX7_hurt_139 (by decide) ⟨by omega, by omega⟩ ⟨by omega, by omega⟩ (fun c139 => ?_) (fun c139 => ?_)
                    · refine r_iinc X dX7_hurt_151 hl 1 rfl [(8, .int (iV (i + 1))), (7, .int (iV (b))), (0, .ref (g.1 + 0)), (5, .int (iV (zf))), (6, .int (iV (zs)))] (by decide) rfl (fun ls hl => ?_)
                      refine r_goto X 105 dX7_hurt_154 (by decide) ?_
                      exact ih b (i + 1) (by omega) (by omega) (by first | (rw [bitN_1 (c := hurC t f m0 v fr) hi0 (by unfold hurC; rw [← hzs, ← hzf]; exact if_pos (by omega)), ← hb9]) | (rw [bitN_0 (c := hurC t f m0 v fr) hi0 (by unfold hurC; rw [← hzs, ← hzf, if_neg (by omega)]; decide), ← hb9])) _ _ _ (by omega) Y (lv_sub hl [1, 0, 2, 3, 4] rfl)
                    · refine r_iload X dX7_hurt_142 hl 0 rfl ?_
                      refine r_iconst X dX7_hurt_144 ?_
                      refine r_iload X dX7_hurt_145 hl 1 rfl ?_
                      refine r_shl X dX7_hurt_147 (by omega) (by omega) ?_
                      refine r_orp X dX7_hurt_148 (by omega) (by omega) (by omega) (by omega) ?_
                      refine r_istore X dX7_hurt_149 hl [(7, .int (iV (b + pow2 i))), (8, .int (iV (i))), (0, .ref (g.1 + 0)), (5, .int (iV (zf))), (6, .int (iV (zs)))] (by decide) rfl (fun ls hl => ?_)
                      refine r_iinc X dX7_hurt_151 hl 1 rfl [(8, .int (iV (i + 1))), (7, .int (iV (b + pow2 i))), (0, .ref (g.1 + 0)), (5, .int (iV (zf))), (6, .int (iV (zs)))] (by decide) rfl (fun ls hl => ?_)
                      refine r_goto X 105 dX7_hurt_154 (by decide) ?_
                      exact ih (b + pow2 i) (i + 1) (by omega) (by omega) (by first | (rw [bitN_1 (c := hurC t f m0 v fr) hi0 (by unfold hurC; rw [← hzs, ← hzf]; exact if_pos (by omega)), ← hb9]) | (rw [bitN_0 (c := hurC t f m0 v fr) hi0 (by unfold hurC; rw [← hzs, ← hzf, if_neg (by omega)]; decide), ← hb9])) _ _ _ (by omega) Y (lv_sub hl [1, 0, 2, 3, 4] rfl)
              exact loop105 (((t 19 3 - 0).toNat) + 1) 0 0 (by omega) (by omega) rfl _ _ _ (Nat.lt_succ_self _) Y (lv_sub hl [1, 0, 5, 3, 2] rfl)
            · exact absurd c87 (by omega)
          · refine r_iload X dX7_hurt_69 hl 0 rfl ?_
            refine r_goto X 75 dX7_hurt_71 (by decide) ?_
            refine r_isub X dX7_hurt_75 ?_
            obtain ⟨zf, hzf⟩ : ∃ q, q = hurFr t f m0 v fr := ⟨_, rfl⟩
            refine r_eq (z' := zf) (by rw [hzf]; unfold hurFr; (first | rw [if_pos (by omega)] | rw [if_neg (by omega)])) ?_
            have hzr : -3000 ≤ zf ∧ zf ≤ 999 := by rw [hzf]; unfold hurFr; split <;> omega
            refine r_istore X dX7_hurt_76 hl [(5, .int (iV (zf))), (4, .int (iV (owedX t f 11 m0 v))), (0, .ref (g.1 + 0)), (1, .int (iV (m0))), (2, .int (iV (v))), (3, .int (iV (fr)))] (by decide) rfl (fun ls hl => ?_)
            refine r_aload_n X dX7_hurt_78 hl 2 rfl ?_
            refine r_iload X dX7_hurt_79 hl 0 rfl ?_
            refine vF_i X Y [.int (iV (zf))] [] (ct_X7_shipMoney l g t f zf h (by omega) (by omega)) mk_X7_shipMoney mi_X7_shipMoney wm_458 (by decide) (rv_7 Y rfl) rfl hl (Nat.le_of_ble_eq_true rfl) rfl dX7_hurt_81 (Nat.zero_le _) (Nat.zero_le _) (fun H locs Y => ?_)
            have qs81 := smX_rng h zf (by omega) (by omega)
            refine r_iload_n X dX7_hurt_84 hl 4 rfl ?_
            refine r_iadd X dX7_hurt_85 ?_
            refine r_iload_n X dX7_hurt_86 hl 5 rfl ?_
            refine r_if_eq X (tgt := 94) dX7_hurt_87 (by decide) ⟨by omega, by omega⟩ (fun c87 => ?_) (fun c87 => ?_)
            · exact absurd c87 (by omega)
            · refine r_iconst X dX7_hurt_90 ?_
              refine r_goto X 96 dX7_hurt_91 (by decide) ?_
              refine r_isub X dX7_hurt_96 ?_
              obtain ⟨zs, hzs⟩ : ∃ q, q = hurSh t f m0 v fr := ⟨_, rfl⟩
              refine r_eq (z' := zs) (by first | (exfalso; omega) | (rw [hzs]; unfold hurSh; rw [← hzf]; (first | rw [if_pos (by omega)] | rw [if_neg (by omega)]))) ?_
              have hzr2 : -3000 ≤ zs ∧ zs ≤ 14000 := by rw [hzs]; unfold hurSh; rw [← hzf]; split <;> omega
              refine r_istore X dX7_hurt_97 hl [(6, .int (iV (zs))), (5, .int (iV (zf))), (4, .int (iV (owedX t f 11 m0 v))), (0, .ref (g.1 + 0)), (1, .int (iV (m0))), (2, .int (iV (v))), (3, .int (iV (fr)))] (by decide) rfl (fun ls hl => ?_)
              refine r_iconst X dX7_hurt_99 ?_
              refine r_istore X dX7_hurt_100 hl [(7, .int (iV (0))), (6, .int (iV (zs))), (5, .int (iV (zf))), (4, .int (iV (owedX t f 11 m0 v))), (0, .ref (g.1 + 0)), (1, .int (iV (m0))), (2, .int (iV (v))), (3, .int (iV (fr)))] (by decide) rfl (fun ls hl => ?_)
              refine r_iconst X dX7_hurt_102 ?_
              refine r_istore X dX7_hurt_103 hl [(8, .int (iV (0))), (7, .int (iV (0))), (6, .int (iV (zs))), (5, .int (iV (zf))), (4, .int (iV (owedX t f 11 m0 v))), (0, .ref (g.1 + 0)), (1, .int (iV (m0))), (2, .int (iV (v))), (3, .int (iV (fr)))] (by decide) rfl (fun ls hl => ?_)
              have loop105 : ∀ (N : Nat) (b : Int) (i : Int) (hi0 : 0 ≤ i) (hi1 : i ≤ t 19 3) (hb9 : b = bitN (hurC t f m0 v fr) i.toNat) (H : Heap) (locs : List Loc) (ls : Array Slot), (t 19 3 - i).toNat < N → uY g 117 (cX g t f) s H locs → lv_has ls 9 [(7, .int (iV (b))), (8, .int (iV (i))), (0, .ref (g.1 + 0)), (5, .int (iV (zf))), (6, .int (iV (zs)))] → W p l e R s m args below meth c H locs 0 0 Q (F0 m 105 ls []) := by
                intro N
                induction N with
                | zero => intro b i hi0 hi1 hb9 H locs ls hmu Y hl; exact absurd hmu (Nat.not_lt_zero _)
                | succ N ih =>
                  intro b i hi0 hi1 hb9 H locs ls hmu Y hl
                  have hbr := bitN_r (c := hurC t f m0 v fr) hi0
                  rw [← hb9] at hbr
                  have hbb : pow2 i ≤ 256 := by rcases (show i = 0 ∨ i = 1 ∨ i = 2 ∨ i = 3 ∨ i = 4 ∨ i = 5 ∨ i = 6 ∨ i = 7 ∨ i = 8 by omega) with q | q | q | q | q | q | q | q | q <;> subst q <;> decide
                  refine r_iload X dX7_hurt_105 hl 1 rfl ?_
                  refine r_aload_n X dX7_hurt_107 hl 2 rfl ?_
                  refine g_7_3 (k := 0) X Y rfl wm_259 dX7_hurt_108 ?_
                  refine g_4_0 (k := 18) X Y rfl wm_162 dX7_hurt_111 ?_
                  refine vF_i X Y [] [.int (iV (i))] (ct_X5_rows l g t f 19 rfl) mk_X5_rows mi_X5_rows wm_320 (by decide) (rv_5 Y rfl) rfl hl (Nat.le_of_ble_eq_true rfl) rfl dX7_hurt_114 (Nat.zero_le _) (Nat.zero_le _) (fun H locs Y => ?_)
                  refine r_icmp_ge X (tgt := 157) dX7_hurt_117 (by decide) ⟨by omega, by omega⟩ ⟨by omega, by omega⟩ (fun c117 => ?_) (fun c117 => ?_)
                  · refine r_iload X dX7_hurt_157 hl 0 rfl ?_
                    exact ret _ _ _ _ _ _ _ dX7_hurt_159 Y ⟨by unfold hurX; rw [if_neg (by omega), if_neg (by omega), if_pos (by omega), hb9, show i = t 19 3 by omega], rfl, rfl⟩
                  · refine r_aload_n X dX7_hurt_120 hl 2 rfl ?_
                    refine g_7_3 (k := 0) X Y rfl wm_259 dX7_hurt_121 ?_
                    refine r_iload X dX7_hurt_124 hl 1 rfl ?_
                    refine r_iload X dX7_hurt_126 hl 4 rfl ?_
                    refine r_iload X dX7_hurt_128 hl 3 rfl ?_
                    refine vF_i X Y [.int (iV (i)), .int (iV (zs)), .int (iV (zf))] [] (ct_X4_paidOf l g t f 18 i zs zf rfl h.2 (by omega) (show i < t 19 3 by omega) ⟨by omega, by omega⟩ ⟨by omega, by omega⟩) mk_X4_paidOf mi_X4_paidOf wm_608 (by decide) (rv_4 Y rfl) rfl hl (Nat.le_of_ble_eq_true rfl) rfl dX7_hurt_130 (Nat.zero_le _) (Nat.zero_le _) (fun H locs Y => ?_)
                    have hps := paidS_rng h.2 i zs zf
                    refine r_aload_n X dX7_hurt_133 hl 2 rfl ?_
                    refine r_iload X dX7_hurt_134 hl 1 rfl ?_
                    refine vF_i X Y [.int (iV (i))] [.int (iV (paidS t f 18 i zs zf))] (ct_X7_paidNow l g t f i h (by omega) (by omega)) mk_X7_paidNow mi_X7_paidNow wm_604 (by decide) (rv_7 Y rfl) rfl hl (Nat.le_of_ble_eq_true rfl) rfl dX7_hurt_136 (Nat.zero_le _) (Nat.zero_le _) (fun H locs Y => ?_)
                    have qn136 : 0 ≤ paidX t f i ∧ paidX t f i ≤ 2997 := paidS_rng h.2 _ _ _
                    refine r_icmp_ge X (tgt := 151) dX7_hurt_139 (by decide) ⟨by omega, by omega⟩ ⟨by omega, by omega⟩ (fun c139 => ?_) (fun c139 => ?_)
                    · refine r_iinc X dX7_hurt_151 hl 1 rfl [(8, .int (iV (i + 1))), (7, .int (iV (b))), (0, .ref (g.1 + 0)), (5, .int (iV (zf))), (6, .int (iV (zs)))] (by decide) rfl (fun ls hl => ?_)
                      refine r_goto X 105 dX7_hurt_154 (by decide) ?_
                      exact ih b (i + 1) (by omega) (by omega) (by first | (rw [bitN_1 (c := hurC t f m0 v fr) hi0 (by unfold hurC; rw [← hzs, ← hzf]; exact if_pos (by omega)), ← hb9]) | (rw [bitN_0 (c := hurC t f m0 v fr) hi0 (by unfold hurC; rw [← hzs, ← hzf, if_neg (by omega)]; decide), ← hb9])) _ _ _ (by omega) Y (lv_sub hl [1, 0, 2, 3, 4] rfl)
                    · refine r_iload X dX7_hurt_142 hl 0 rfl ?_
                      refine r_iconst X dX7_hurt_144 ?_
                      refine r_iload X dX7_hurt_145 hl 1 rfl ?_
                      refine r_shl X dX7_hurt_147 (by omega) (by omega) ?_
                      refine r_orp X dX7_hurt_148 (by omega) (by omega) (by omega) (by omega) ?_
                      refine r_istore X dX7_hurt_149 hl [(7, .int (iV (b + pow2 i))), (8, .int (iV (i))), (0, .ref (g.1 + 0)), (5, .int (iV (zf))), (6, .int (iV (zs)))] (by decide) rfl (fun ls hl => ?_)
                      refine r_iinc X dX7_hurt_151 hl 1 rfl [(8, .int (iV (i + 1))), (7, .int (iV (b + pow2 i))), (0, .ref (g.1 + 0)), (5, .int (iV (zf))), (6, .int (iV (zs)))] (by decide) rfl (fun ls hl => ?_)
                      refine r_goto X 105 dX7_hurt_154 (by decide) ?_
                      exact ih (b + pow2 i) (i + 1) (by omega) (by omega) (by first | (rw [bitN_1 (c := hurC t f m0 v fr) hi0 (by unfold hurC; rw [← hzs, ← hzf]; exact if_pos (by omega)), ← hb9]) | (rw [bitN_0 (c := hurC t f m0 v fr) hi0 (by unfold hurC; rw [← hzs, ← hzf, if_neg (by omega)]; decide), ← hb9])) _ _ _ (by omega) Y (lv_sub hl [1, 0, 2, 3, 4] rfl)
              exact loop105 (((t 19 3 - 0).toNat) + 1) 0 0 (by omega) (by omega) rfl _ _ _ (Nat.lt_succ_self _) Y (lv_sub hl [1, 0, 5, 3, 2] rfl)
        · refine r_ldc X (-1000000003) wm_510 (by decide) dX7_hurt_39 ?_
          exact ret _ _ _ _ _ _ _ dX7_hurt_41 Y ⟨by unfold hurX; repeat (first | rw [if_pos (by omega)] | rw [if_neg (by omega)]), rfl, rfl⟩
      · refine r_ldc X (-1000000002) wm_297 (by decide) dX7_hurt_29 ?_
        exact ret _ _ _ _ _ _ _ dX7_hurt_31 Y ⟨by unfold hurX; repeat (first | rw [if_pos (by omega)] | rw [if_neg (by omega)]), rfl, rfl⟩
  · refine r_ldc X (-1000000001) wm_471 (by decide) dX7_hurt_14 ?_
    exact ret _ _ _ _ _ _ _ dX7_hurt_16 Y ⟨by unfold hurX; repeat (first | rw [if_pos (by omega)] | rw [if_neg (by omega)]), rfl, rfl⟩
set_option maxHeartbeats 4000000 in
set_option maxRecDepth 100000 in
theorem ct_X7_share (l : Launch) (g : uG) (t : uN) (f : uF) (i v : Int) (h : HI t f) (hi : inI i) (hv : inI v) : cF_i l yX7_share cX7_share 3 (some .int) 5 g [.ref (g.1 + 0), .int (iV (i)), .int (iV (v))] t f (shaX t f i v) (t) (f) := by
  refine eF_i (by decide +kernel) (Nat.le_of_ble_eq_true rfl) ?_
  intro p e R s m args below meth c Q ls H locs X Y hl ret
  have X : uX p 5 R s m args c cX7_share 3 RX7 := X
  have hl : lv_has ls 3 [(0, .ref (g.1 + 0)), (1, .int (iV (i))), (2, .int (iV (v)))] := hl
  have hb := h.b
  refine r_aload_n X dX7_share_0 hl 0 rfl ?_
  refine g_7_3 (k := 0) X Y rfl wm_259 dX7_share_1 ?_
  refine g_4_0 (k := 18) X Y rfl wm_162 dX7_share_4 ?_
  refine r_iload_n X dX7_share_7 hl 1 rfl ?_
  refine vF_i X Y [.int (iV (i))] [] (ct_X5_has l g t f 19 i rfl h.2.1 ⟨by omega, by omega⟩) mk_X5_has mi_X5_has wm_441 (by decide) (rv_5 Y rfl) rfl hl (Nat.le_of_ble_eq_true rfl) rfl dX7_share_8 (Nat.zero_le _) (Nat.zero_le _) (fun H locs Y => ?_)
  have qb8 := thas_b t 19 i
  refine r_if_ne X (tgt := 17) dX7_share_11 (by decide) ⟨by omega, by omega⟩ (fun c11 => ?_) (fun c11 => ?_)
  · refine r_iload_n X dX7_share_17 hl 2 rfl ?_
    refine r_if_lt X (tgt := 28) dX7_share_18 (by decide) ⟨by omega, by omega⟩ (fun c18 => ?_) (fun c18 => ?_)
    · refine r_ldc X (-1000000002) wm_297 (by decide) dX7_share_28 ?_
      exact ret _ _ _ _ _ _ _ dX7_share_30 Y ⟨by unfold shaX; repeat (first | rw [if_pos (by omega)] | rw [if_neg (by omega)]), rfl, rfl⟩
    · refine r_iload_n X dX7_share_21 hl 2 rfl ?_
      refine r_sipush X 999 dX7_share_22 (by decide) ?_
      refine r_icmp_le X (tgt := 31) dX7_share_25 (by decide) ⟨by omega, by omega⟩ ⟨by omega, by omega⟩ (fun c25 => ?_) (fun c25 => ?_)
      · refine r_aload_n X dX7_share_31 hl 0 rfl ?_
        refine g_7_3 (k := 0) X Y rfl wm_259 dX7_share_32 ?_
        refine r_iload_n X dX7_share_35 hl 1 rfl ?_
        refine r_iload_n X dX7_share_36 hl 2 rfl ?_
        refine r_iconst X dX7_share_37 ?_
        refine vF_i X Y [.int (iV (i)), .int (iV (v)), .int (iV (0))] [] (ct_X4_paidOf l g t f 18 i v 0 rfl h.2 (by omega) (show i < t 19 3 by omega) ⟨by omega, by omega⟩ ⟨by omega, by omega⟩) mk_X4_paidOf mi_X4_paidOf wm_608 (by decide) (rv_4 Y rfl) rfl hl (Nat.le_of_ble_eq_true rfl) rfl dX7_share_38 (Nat.zero_le _) (Nat.zero_le _) (fun H locs Y => ?_)
        exact ret _ _ _ _ _ _ _ dX7_share_41 Y ⟨by unfold shaX; repeat (first | rw [if_pos (by omega)] | rw [if_neg (by omega)]), rfl, rfl⟩
      · refine r_ldc X (-1000000002) wm_297 (by decide) dX7_share_28 ?_
        exact ret _ _ _ _ _ _ _ dX7_share_30 Y ⟨by unfold shaX; repeat (first | rw [if_pos (by omega)] | rw [if_neg (by omega)]), rfl, rfl⟩
  · refine r_ldc X (-1000000001) wm_471 (by decide) dX7_share_14 ?_
    exact ret _ _ _ _ _ _ _ dX7_share_16 Y ⟨by unfold shaX; repeat (first | rw [if_pos (by omega)] | rw [if_neg (by omega)]), rfl, rfl⟩
set_option maxHeartbeats 4000000 in
set_option maxRecDepth 100000 in
theorem ct_X7_belief (l : Launch) (g : uG) (t : uN) (f : uF) (a q : Int) (h : HI t f) (ha : inI a) (hq : inI q) : cF_i l yX7_belief cX7_belief 3 (some .int) 6 g [.ref (g.1 + 0), .int (iV (a)), .int (iV (q))] t f (belX t f a q) (t) (f) := by
  refine eF_i (by decide +kernel) (Nat.le_of_ble_eq_true rfl) ?_
  intro p e R s m args below meth c Q ls H locs X Y hl ret
  have X : uX p 6 R s m args c cX7_belief 3 RX7 := X
  have hl : lv_has ls 3 [(0, .ref (g.1 + 0)), (1, .int (iV (a))), (2, .int (iV (q)))] := hl
  have hb := h.b
  refine r_iload_n X dX7_belief_0 hl 1 rfl ?_
  refine r_if_lt X (tgt := 20) dX7_belief_1 (by decide) ⟨by omega, by omega⟩ (fun c1 => ?_) (fun c1 => ?_)
  · refine r_ldc X (-1000000002) wm_297 (by decide) dX7_belief_20 ?_
    exact ret _ _ _ _ _ _ _ dX7_belief_22 Y ⟨by unfold belX; repeat (first | rw [if_pos (by omega)] | rw [if_neg (by omega)]), rfl, rfl⟩
  · refine r_iload_n X dX7_belief_4 hl 1 rfl ?_
    refine r_bipush X 7 dX7_belief_5 (by decide) ?_
    refine r_icmp_gt X (tgt := 20) dX7_belief_7 (by decide) ⟨by omega, by omega⟩ ⟨by omega, by omega⟩ (fun c7 => ?_) (fun c7 => ?_)
    · refine r_ldc X (-1000000002) wm_297 (by decide) dX7_belief_20 ?_
      exact ret _ _ _ _ _ _ _ dX7_belief_22 Y ⟨by unfold belX; repeat (first | rw [if_pos (by omega)] | rw [if_neg (by omega)]), rfl, rfl⟩
    · refine r_iload_n X dX7_belief_10 hl 2 rfl ?_
      refine r_if_lt X (tgt := 20) dX7_belief_11 (by decide) ⟨by omega, by omega⟩ (fun c11 => ?_) (fun c11 => ?_)
      · refine r_ldc X (-1000000002) wm_297 (by decide) dX7_belief_20 ?_
        exact ret _ _ _ _ _ _ _ dX7_belief_22 Y ⟨by unfold belX; repeat (first | rw [if_pos (by omega)] | rw [if_neg (by omega)]), rfl, rfl⟩
      · refine r_iload_n X dX7_belief_14 hl 2 rfl ?_
        refine r_bipush X 9 dX7_belief_15 (by decide) ?_
        refine r_icmp_le X (tgt := 23) dX7_belief_17 (by decide) ⟨by omega, by omega⟩ ⟨by omega, by omega⟩ (fun c17 => ?_) (fun c17 => ?_)
        · refine r_aload_n X dX7_belief_23 hl 0 rfl ?_
          refine g_7_2 (k := 0) X Y rfl wm_258 dX7_belief_24 ?_
          refine r_iconst X dX7_belief_27 ?_
          refine r_aload_n X dX7_belief_28 hl 0 rfl ?_
          refine g_7_3 (k := 0) X Y rfl wm_259 dX7_belief_29 ?_
          refine g_4_3 (k := 18) X Y rfl wm_170 dX7_belief_32 ?_
          refine r_iload_n X dX7_belief_35 hl 1 rfl ?_
          refine r_isub X dX7_belief_36 ?_
          refine r_max X hl (by decide) (Nat.zero_le _) (Nat.zero_le _) wm_462 (Nat.le_of_ble_eq_true rfl) dX7_belief_37 ⟨by omega, by omega⟩ ⟨by omega, by omega⟩ ?_
          refine r_aload_n X dX7_belief_40 hl 0 rfl ?_
          refine g_7_3 (k := 0) X Y rfl wm_259 dX7_belief_41 ?_
          refine g_4_3 (k := 18) X Y rfl wm_170 dX7_belief_44 ?_
          refine r_iload_n X dX7_belief_47 hl 2 rfl ?_
          refine vF_i X Y [.int (iV (max 0 ((t 18 3) - a))), .int (iV (t 18 3)), .int (iV (q))] [] (ct_X6_chanceThrough l g t f 11 (max 0 ((t 18 3) - a)) (t 18 3) q rfl h.1 (by omega) (by omega) ⟨by omega, by omega⟩ ⟨by omega, by omega⟩) mk_X6_chanceThrough mi_X6_chanceThrough wm_576 (by decide) (rv_6 Y rfl) rfl hl (Nat.le_of_ble_eq_true rfl) rfl dX7_belief_48 (Nat.zero_le _) (Nat.zero_le _) (fun H locs Y => ?_)
          exact ret _ _ _ _ _ _ _ dX7_belief_51 Y ⟨by unfold belX; repeat (first | rw [if_pos (by omega)] | rw [if_neg (by omega)]), rfl, rfl⟩
        · refine r_ldc X (-1000000002) wm_297 (by decide) dX7_belief_20 ?_
          exact ret _ _ _ _ _ _ _ dX7_belief_22 Y ⟨by unfold belX; repeat (first | rw [if_pos (by omega)] | rw [if_neg (by omega)]), rfl, rfl⟩
set_option maxHeartbeats 4000000 in
set_option maxRecDepth 100000 in
theorem ct_X7_need (l : Launch) (g : uG) (t : uN) (f : uF) (q w : Int) (h : HI t f) (hq : inI q) (hw : inI w) : cF_i l yX7_need cX7_need 5 (some .int) 6 g [.ref (g.1 + 0), .int (iV (q)), .int (iV (w))] t f (neeX t f q w) (t) (f) := by
  refine eF_i (by decide +kernel) (Nat.le_of_ble_eq_true rfl) ?_
  intro p e R s m args below meth c Q ls H locs X Y hl ret
  have X : uX p 6 R s m args c cX7_need 5 RX7 := X
  have hl : lv_has ls 5 [(0, .ref (g.1 + 0)), (1, .int (iV (q))), (2, .int (iV (w)))] := hl
  have hb := h.b
  refine r_iload_n X dX7_need_0 hl 1 rfl ?_
  refine r_if_lt X (tgt := 19) dX7_need_1 (by decide) ⟨by omega, by omega⟩ (fun c1 => ?_) (fun c1 => ?_)
  · refine r_ldc X (-1000000002) wm_297 (by decide) dX7_need_19 ?_
    exact ret _ _ _ _ _ _ _ dX7_need_21 Y ⟨by unfold neeX; unfold lacX; repeat (first | rw [if_pos (by omega)] | rw [if_neg (by omega)]), rfl, rfl⟩
  · refine r_iload_n X dX7_need_4 hl 1 rfl ?_
    refine r_bipush X 9 dX7_need_5 (by decide) ?_
    refine r_icmp_gt X (tgt := 19) dX7_need_7 (by decide) ⟨by omega, by omega⟩ ⟨by omega, by omega⟩ (fun c7 => ?_) (fun c7 => ?_)
    · refine r_ldc X (-1000000002) wm_297 (by decide) dX7_need_19 ?_
      exact ret _ _ _ _ _ _ _ dX7_need_21 Y ⟨by unfold neeX; unfold lacX; repeat (first | rw [if_pos (by omega)] | rw [if_neg (by omega)]), rfl, rfl⟩
    · refine r_iload_n X dX7_need_10 hl 2 rfl ?_
      refine r_if_lt X (tgt := 19) dX7_need_11 (by decide) ⟨by omega, by omega⟩ (fun c11 => ?_) (fun c11 => ?_)
      · refine r_ldc X (-1000000002) wm_297 (by decide) dX7_need_19 ?_
        exact ret _ _ _ _ _ _ _ dX7_need_21 Y ⟨by unfold neeX; unfold lacX; repeat (first | rw [if_pos (by omega)] | rw [if_neg (by omega)]), rfl, rfl⟩
      · refine r_iload_n X dX7_need_14 hl 2 rfl ?_
        refine r_iconst X dX7_need_15 ?_
        refine r_icmp_le X (tgt := 22) dX7_need_16 (by decide) ⟨by omega, by omega⟩ ⟨by omega, by omega⟩ (fun c16 => ?_) (fun c16 => ?_)
        · refine r_aload_n X dX7_need_22 hl 0 rfl ?_
          refine vF_i X Y [] [] (ct_X7_isInPort l g t f h) mk_X7_isInPort mi_X7_isInPort wm_506 (by decide) (rv_7 Y rfl) rfl hl (Nat.le_of_ble_eq_true rfl) rfl dX7_need_23 (Nat.zero_le _) (Nat.zero_le _) (fun H locs Y => ?_)
          have qp23 := inPortX_b t
          have qw23 := whereX_b h.b.1.2.2.2
          refine r_if_ne X (tgt := 32) dX7_need_26 (by decide) ⟨by omega, by omega⟩ (fun c26 => ?_) (fun c26 => ?_)
          · refine r_iconst X dX7_need_32 ?_
            refine r_iload_n X dX7_need_33 hl 1 rfl ?_
            refine r_aload_n X dX7_need_34 hl 0 rfl ?_
            refine g_7_3 (k := 0) X Y rfl wm_259 dX7_need_35 ?_
            refine g_4_1 (k := 18) X Y rfl wm_164 dX7_need_38 ?_
            refine r_isub X dX7_need_41 ?_
            refine r_max X hl (by decide) (Nat.zero_le _) (Nat.zero_le _) wm_462 (Nat.le_of_ble_eq_true rfl) dX7_need_42 ⟨by omega, by omega⟩ ⟨by omega, by omega⟩ ?_
            refine r_aload_n X dX7_need_45 hl 0 rfl ?_
            refine vF_i X Y [] [.int (iV (max 0 (q - (t 18 1))))] (ct_X7_costHere l g t f h) mk_X7_costHere mi_X7_costHere wm_539 (by decide) (rv_7 Y rfl) rfl hl (Nat.le_of_ble_eq_true rfl) rfl dX7_need_46 (Nat.zero_le _) (Nat.zero_le _) (fun H locs Y => ?_)
            have qc46 : 0 ≤ costX t f ∧ costX t f ≤ 99 := (h.leg (t 18 3)).2.2
            refine r_imul X dX7_need_49 ?_
            have hm0 : 0 ≤ max 0 (q - t 18 1) * costX t f := Int.mul_nonneg (by omega) (by omega)
            have hm1 : max 0 (q - t 18 1) * costX t f ≤ 9 * 99 := Int.mul_le_mul (by omega) (by omega) (by omega) (by omega)
            refine r_istore_n X dX7_need_50 hl [(3, .int (iV ((max 0 (q - (t 18 1))) * (costX t f)))), (0, .ref (g.1 + 0)), (1, .int (iV (q))), (2, .int (iV (w)))] (by decide) rfl (fun ls hl => ?_)
            refine r_iconst X dX7_need_51 ?_
            refine r_iload_n X dX7_need_52 hl 0 rfl ?_
            refine r_aload_n X dX7_need_53 hl 1 rfl ?_
            refine g_7_3 (k := 0) X Y rfl wm_259 dX7_need_54 ?_
            refine g_4_2 (k := 18) X Y rfl wm_167 dX7_need_57 ?_
            refine r_isub X dX7_need_60 ?_
            refine r_max X hl (by decide) (Nat.zero_le _) (Nat.zero_le _) wm_462 (Nat.le_of_ble_eq_true rfl) dX7_need_61 ⟨by omega, by omega⟩ ⟨by omega, by omega⟩ ?_
            refine r_istore X dX7_need_64 hl [(4, .int (iV (max 0 (((max 0 (q - (t 18 1))) * (costX t f)) - (t 18 2))))), (3, .int (iV ((max 0 (q - (t 18 1))) * (costX t f)))), (0, .ref (g.1 + 0)), (1, .int (iV (q))), (2, .int (iV (w)))] (by decide) rfl (fun ls hl => ?_)
            refine r_iload_n X dX7_need_66 hl 4 rfl ?_
            refine r_if_ne X (tgt := 75) dX7_need_67 (by decide) ⟨by omega, by omega⟩ (fun c67 => ?_) (fun c67 => ?_)
            · refine r_aload_n X dX7_need_75 hl 2 rfl ?_
              refine r_iload X dX7_need_76 hl 0 rfl ?_
              refine vF_i X Y [.int (iV (max 0 (((max 0 (q - (t 18 1))) * (costX t f)) - (t 18 2))))] [] (ct_X7_cheapestLender l g t f (max 0 (((max 0 (q - (t 18 1))) * (costX t f)) - (t 18 2))) h ⟨by omega, by omega⟩) mk_X7_cheapestLender mi_X7_cheapestLender wm_669 (by decide) (rv_7 Y rfl) rfl hl (Nat.le_of_ble_eq_true rfl) rfl dX7_need_78 (Nat.zero_le _) (Nat.zero_le _) (fun H locs Y => ?_)
              exact ret _ _ _ _ _ _ _ dX7_need_81 Y ⟨by unfold neeX; unfold lacX; repeat (first | rw [if_pos (by omega)] | rw [if_neg (by omega)]), rfl, rfl⟩
            · refine r_iload X dX7_need_70 hl 0 rfl ?_
              refine r_goto X 81 dX7_need_72 (by decide) ?_
              exact ret _ _ _ _ _ _ _ dX7_need_81 Y ⟨by unfold neeX; unfold lacX; repeat (first | rw [if_pos (by omega)] | rw [if_neg (by omega)]), rfl, rfl⟩
          · refine r_ldc X (-1000000003) wm_510 (by decide) dX7_need_29 ?_
            exact ret _ _ _ _ _ _ _ dX7_need_31 Y ⟨by unfold neeX; unfold lacX; repeat (first | rw [if_pos (by omega)] | rw [if_neg (by omega)]), rfl, rfl⟩
        · refine r_ldc X (-1000000002) wm_297 (by decide) dX7_need_19 ?_
          exact ret _ _ _ _ _ _ _ dX7_need_21 Y ⟨by unfold neeX; unfold lacX; repeat (first | rw [if_pos (by omega)] | rw [if_neg (by omega)]), rfl, rfl⟩
set_option maxHeartbeats 4000000 in
set_option maxRecDepth 100000 in
theorem ct_X7_worth (l : Launch) (g : uG) (t : uN) (f : uF) (w : Int) (h : HI t f) (hT : TI t f) (hw : inI w) : cF_i l yX7_worth cX7_worth 5 (some .int) 7 g [.ref (g.1 + 0), .int (iV (w))] t f (worX t f w) (t) (f) := by
  refine eF_i (by decide +kernel) (Nat.le_of_ble_eq_true rfl) ?_
  intro p e R s m args below meth c Q ls H locs X Y hl ret
  have X : uX p 7 R s m args c cX7_worth 5 RX7 := X
  have hl : lv_has ls 5 [(0, .ref (g.1 + 0)), (1, .int (iV (w)))] := hl
  have hb := h.b
  refine r_iload_n X dX7_worth_0 hl 1 rfl ?_
  refine r_if_lt X (tgt := 9) dX7_worth_1 (by decide) ⟨by omega, by omega⟩ (fun c1 => ?_) (fun c1 => ?_)
  · refine r_ldc X (-1000000002) wm_297 (by decide) dX7_worth_9 ?_
    exact ret _ _ _ _ _ _ _ dX7_worth_11 Y ⟨by unfold worX; (first | rw [if_pos (show w < 0 ∨ 2 < w by omega)] | (rw [if_neg (by omega), if_neg (by omega)]) | (rw [show (t 96 3).toNat = i.toNat by omega, ← ha9, ← hb9]; repeat (first | rw [if_pos (by omega)] | rw [if_neg (by omega)]))), rfl, rfl⟩
  · refine r_iload_n X dX7_worth_4 hl 1 rfl ?_
    refine r_iconst X dX7_worth_5 ?_
    refine r_icmp_le X (tgt := 12) dX7_worth_6 (by decide) ⟨by omega, by omega⟩ ⟨by omega, by omega⟩ (fun c6 => ?_) (fun c6 => ?_)
    · refine r_aload_n X dX7_worth_12 hl 0 rfl ?_
      refine vF_i X Y [] [] (ct_X7_cannotTry l g t f h) mk_X7_cannotTry mi_X7_cannotTry wm_450 (by decide) (rv_7 Y rfl) rfl hl (Nat.le_of_ble_eq_true rfl) rfl dX7_worth_13 (Nat.zero_le _) (Nat.zero_le _) (fun H locs Y => ?_)
      have qg13 := goneX_b h.b.1.2.2.2
      refine r_if_eq X (tgt := 22) dX7_worth_16 (by decide) ⟨by omega, by omega⟩ (fun c16 => ?_) (fun c16 => ?_)
      · refine r_iconst X dX7_worth_22 ?_
        refine r_istore_n X dX7_worth_23 hl [(2, .int (iV (0))), (0, .ref (g.1 + 0)), (1, .int (iV (w)))] (by decide) rfl (fun ls hl => ?_)
        refine r_sipush X 999 dX7_worth_24 (by decide) ?_
        refine r_istore_n X dX7_worth_27 hl [(3, .int (iV (999))), (2, .int (iV (0))), (0, .ref (g.1 + 0)), (1, .int (iV (w)))] (by decide) rfl (fun ls hl => ?_)
        refine r_iconst X dX7_worth_28 ?_
        refine r_istore X dX7_worth_29 hl [(4, .int (iV (0))), (3, .int (iV (999))), (2, .int (iV (0))), (0, .ref (g.1 + 0)), (1, .int (iV (w)))] (by decide) rfl (fun ls hl => ?_)
        have loop31 : ∀ (N : Nat) (a : Int) (b : Int) (i : Int) (hi0 : 0 ≤ i) (hi1 : i ≤ t 96 3) (ha9 : a = leaN t f i.toNat) (hb9 : b = greN t f i.toNat) (H : Heap) (locs : List Loc) (ls : Array Slot), (t 96 3 - i).toNat < N → uY g 117 (cX g t f) s H locs → lv_has ls 5 [(2, .int (iV (a))), (3, .int (iV (b))), (4, .int (iV (i))), (0, .ref (g.1 + 0)), (1, .int (iV (w)))] → W p l e R s m args below meth c H locs 0 0 Q (F0 m 31 ls []) := by
          intro N
          induction N with
          | zero => intro a b i hi0 hi1 ha9 hb9 H locs ls hmu Y hl; exact absurd hmu (Nat.not_lt_zero _)
          | succ N ih =>
            intro a b i hi0 hi1 ha9 hb9 H locs ls hmu Y hl
            have hbr := greN_rng h hT i.toNat
            rw [← hb9] at hbr
            have har := leaN_rng h hT i.toNat
            rw [← ha9] at har
            have h96 : 0 ≤ t 96 3 ∧ t 96 3 ≤ 6 := hT.1
            refine r_iload X dX7_worth_31 hl 2 rfl ?_
            refine r_aload_n X dX7_worth_33 hl 3 rfl ?_
            refine g_7_8 (k := 0) X Y rfl wm_264 dX7_worth_34 ?_
            refine vF_i X Y [] [.int (iV (i))] (ct_X5_rows l g t f 96 rfl) mk_X5_rows mi_X5_rows wm_320 (by decide) (rv_5 Y rfl) rfl hl (Nat.le_of_ble_eq_true rfl) rfl dX7_worth_37 (Nat.zero_le _) (Nat.zero_le _) (fun H locs Y => ?_)
            refine r_icmp_ge X (tgt := 71) dX7_worth_40 (by decide) ⟨by omega, by omega⟩ ⟨by omega, by omega⟩ (fun c40 => ?_) (fun c40 => ?_)
            · refine r_iconst X dX7_worth_71 ?_
              refine r_iload_n X dX7_worth_72 hl 1 rfl ?_
              refine r_iload_n X dX7_worth_73 hl 0 rfl ?_
              refine r_isub X dX7_worth_74 ?_
              refine r_iconst X dX7_worth_75 ?_
              refine r_iadd X dX7_worth_76 ?_
              refine r_max X hl (by decide) (Nat.zero_le _) (Nat.zero_le _) wm_462 (Nat.le_of_ble_eq_true rfl) dX7_worth_77 ⟨by omega, by omega⟩ ⟨by omega, by omega⟩ ?_
              refine r_istore X dX7_worth_80 hl [(4, .int (iV (max 0 ((b - a) + 1)))), (2, .int (iV (a))), (3, .int (iV (b))), (0, .ref (g.1 + 0)), (1, .int (iV (w)))] (by decide) rfl (fun ls hl => ?_)
              refine r_iload_n X dX7_worth_82 hl 4 rfl ?_
              refine r_if_ne X (tgt := 89) dX7_worth_83 (by decide) ⟨by omega, by omega⟩ (fun c83 => ?_) (fun c83 => ?_)
              · refine r_iload X dX7_worth_89 hl 0 rfl ?_
                refine r_if_ne X (tgt := 96) dX7_worth_91 (by decide) ⟨by omega, by omega⟩ (fun c91 => ?_) (fun c91 => ?_)
                · refine r_iload_n X dX7_worth_96 hl 4 rfl ?_
                  refine r_iconst X dX7_worth_97 ?_
                  refine r_icmp_ne X (tgt := 105) dX7_worth_98 (by decide) ⟨by omega, by omega⟩ ⟨by omega, by omega⟩ (fun c98 => ?_) (fun c98 => ?_)
                  · refine r_iload_n X dX7_worth_105 hl 2 rfl ?_
                    exact ret _ _ _ _ _ _ _ dX7_worth_106 Y ⟨by unfold worX; (first | rw [if_pos (show w < 0 ∨ 2 < w by omega)] | (rw [if_neg (by omega), if_neg (by omega)]) | (rw [show (t 96 3).toNat = i.toNat by omega, ← ha9, ← hb9]; repeat (first | rw [if_pos (by omega)] | rw [if_neg (by omega)]))), rfl, rfl⟩
                  · refine r_iload_n X dX7_worth_101 hl 1 rfl ?_
                    refine r_goto X 106 dX7_worth_102 (by decide) ?_
                    exact ret _ _ _ _ _ _ _ dX7_worth_106 Y ⟨by unfold worX; (first | rw [if_pos (show w < 0 ∨ 2 < w by omega)] | (rw [if_neg (by omega), if_neg (by omega)]) | (rw [show (t 96 3).toNat = i.toNat by omega, ← ha9, ← hb9]; repeat (first | rw [if_pos (by omega)] | rw [if_neg (by omega)]))), rfl, rfl⟩
                · refine r_iconst X dX7_worth_94 ?_
                  exact ret _ _ _ _ _ _ _ dX7_worth_95 Y ⟨by unfold worX; (first | rw [if_pos (show w < 0 ∨ 2 < w by omega)] | (rw [if_neg (by omega), if_neg (by omega)]) | (rw [show (t 96 3).toNat = i.toNat by omega, ← ha9, ← hb9]; repeat (first | rw [if_pos (by omega)] | rw [if_neg (by omega)]))), rfl, rfl⟩
              · refine r_iload X dX7_worth_86 hl 0 rfl ?_
                exact ret _ _ _ _ _ _ _ dX7_worth_88 Y ⟨by unfold worX; (first | rw [if_pos (show w < 0 ∨ 2 < w by omega)] | (rw [if_neg (by omega), if_neg (by omega)]) | (rw [show (t 96 3).toNat = i.toNat by omega, ← ha9, ← hb9]; repeat (first | rw [if_pos (by omega)] | rw [if_neg (by omega)]))), rfl, rfl⟩
            · refine r_iload_n X dX7_worth_43 hl 0 rfl ?_
              refine r_aload_n X dX7_worth_44 hl 3 rfl ?_
              refine r_iload X dX7_worth_45 hl 2 rfl ?_
              refine vF_i X Y [.int (iV (i))] [.int (iV (a))] (ct_X7_leastWorthFor l g t f i h hT ⟨by omega, by omega⟩) mk_X7_leastWorthFor mi_X7_leastWorthFor wm_681 (by decide) (rv_7 Y rfl) rfl hl (Nat.le_of_ble_eq_true rfl) rfl dX7_worth_47 (Nat.zero_le _) (Nat.zero_le _) (fun H locs Y => ?_)
              have qe47 := leastX_rng h hT i
              refine r_max X hl (by decide) (Nat.zero_le _) (Nat.zero_le _) wm_462 (Nat.le_of_ble_eq_true rfl) dX7_worth_50 ⟨by omega, by omega⟩ ⟨by omega, by omega⟩ ?_
              refine r_istore_n X dX7_worth_53 hl [(2, .int (iV (max a (leastX t f i)))), (3, .int (iV (b))), (4, .int (iV (i))), (0, .ref (g.1 + 0)), (1, .int (iV (w)))] (by decide) rfl (fun ls hl => ?_)
              refine r_iload_n X dX7_worth_54 hl 1 rfl ?_
              refine r_aload_n X dX7_worth_55 hl 3 rfl ?_
              refine r_iload X dX7_worth_56 hl 2 rfl ?_
              refine vF_i X Y [.int (iV (i))] [.int (iV (b))] (ct_X7_greatestWorthFor l g t f i h hT ⟨by omega, by omega⟩) mk_X7_greatestWorthFor mi_X7_greatestWorthFor wm_697 (by decide) (rv_7 Y rfl) rfl hl (Nat.le_of_ble_eq_true rfl) rfl dX7_worth_58 (Nat.zero_le _) (Nat.zero_le _) (fun H locs Y => ?_)
              have qg58 := greatX_rng h hT i
              refine r_min X hl (by decide) (Nat.zero_le _) (Nat.zero_le _) wm_701 (Nat.le_of_ble_eq_true rfl) dX7_worth_61 ⟨by omega, by omega⟩ ⟨by omega, by omega⟩ ?_
              refine r_istore_n X dX7_worth_64 hl [(3, .int (iV (min b (greatX t f i)))), (2, .int (iV (max a (leastX t f i)))), (4, .int (iV (i))), (0, .ref (g.1 + 0)), (1, .int (iV (w)))] (by decide) rfl (fun ls hl => ?_)
              refine r_iinc X dX7_worth_65 hl 2 rfl [(4, .int (iV (i + 1))), (3, .int (iV (min b (greatX t f i)))), (2, .int (iV (max a (leastX t f i)))), (0, .ref (g.1 + 0)), (1, .int (iV (w)))] (by decide) rfl (fun ls hl => ?_)
              refine r_goto X 31 dX7_worth_68 (by decide) ?_
              exact ih (max a (leastX t f i)) (min b (greatX t f i)) (i + 1) (by omega) (by omega) (by rw [show (i + 1).toNat = i.toNat + 1 by omega, leaN, ← ha9, show ((i.toNat : Nat) : Int) = i by omega]) (by rw [show (i + 1).toNat = i.toNat + 1 by omega, greN, ← hb9, show ((i.toNat : Nat) : Int) = i by omega]) _ _ _ (by omega) Y (lv_sub hl [2, 1, 0, 3, 4] rfl)
        exact loop31 (((t 96 3 - 0).toNat) + 1) 0 999 0 (by omega) (by have := hT.1.1; omega) rfl rfl _ _ _ (Nat.lt_succ_self _) Y (lv_sub hl [2, 1, 0, 3, 4] rfl)
      · refine r_ldc X (-1000000003) wm_510 (by decide) dX7_worth_19 ?_
        exact ret _ _ _ _ _ _ _ dX7_worth_21 Y ⟨by unfold worX; (first | rw [if_pos (show w < 0 ∨ 2 < w by omega)] | (rw [if_neg (by omega), if_neg (by omega)]) | (rw [show (t 96 3).toNat = i.toNat by omega, ← ha9, ← hb9]; repeat (first | rw [if_pos (by omega)] | rw [if_neg (by omega)]))), rfl, rfl⟩
    · refine r_ldc X (-1000000002) wm_297 (by decide) dX7_worth_9 ?_
      exact ret _ _ _ _ _ _ _ dX7_worth_11 Y ⟨by unfold worX; (first | rw [if_pos (show w < 0 ∨ 2 < w by omega)] | (rw [if_neg (by omega), if_neg (by omega)]) | (rw [show (t 96 3).toNat = i.toNat by omega, ← ha9, ← hb9]; repeat (first | rw [if_pos (by omega)] | rw [if_neg (by omega)]))), rfl, rfl⟩
set_option maxHeartbeats 4000000 in
set_option maxRecDepth 100000 in
theorem ct_X7_judge (l : Launch) (g : uG) (t : uN) (f : uF)  (h : HI t f) (hB : BI t f) : cF_i l yX7_judge cX7_judge 2 (some .int) 3 g [.ref (g.1 + 0)] t f (judX t f) (t) (f) := by
  refine eF_i (by decide +kernel) (Nat.le_of_ble_eq_true rfl) ?_
  intro p e R s m args below meth c Q ls H locs X Y hl ret
  have X : uX p 3 R s m args c cX7_judge 2 RX7 := X
  have hl : lv_has ls 2 [(0, .ref (g.1 + 0))] := hl
  have hb := h.b
  refine r_iconst X dX7_judge_0 ?_
  refine r_istore_n X dX7_judge_1 hl [(1, .int (iV (0))), (0, .ref (g.1 + 0))] (by decide) rfl (fun ls hl => ?_)
  have loop2 : ∀ (N : Nat) (i : Int) (hi0 : 0 ≤ i) (hi1 : i ≤ t 98 3) (he : judN (fun n => tget t f 98 n 0) (t 18 2) (t 98 3 - i).toNat i = judX t f) (H : Heap) (locs : List Loc) (ls : Array Slot), (t 98 3 - i).toNat < N → uY g 117 (cX g t f) s H locs → lv_has ls 2 [(1, .int (iV (i))), (0, .ref (g.1 + 0))] → W p l e R s m args below meth c H locs 0 0 Q (F0 m 2 ls []) := by
    intro N
    induction N with
    | zero => intro i hi0 hi1 he H locs ls hmu Y hl; exact absurd hmu (Nat.not_lt_zero _)
    | succ N ih =>
      intro i hi0 hi1 he H locs ls hmu Y hl
      have hr1 := hB.2 i
      have h98 : 0 ≤ t 98 3 ∧ t 98 3 ≤ 15 := hB.1
      refine r_iload_n X dX7_judge_2 hl 0 rfl ?_
      refine r_aload_n X dX7_judge_3 hl 1 rfl ?_
      refine g_7_9 (k := 0) X Y rfl wm_265 dX7_judge_4 ?_
      refine vF_i X Y [] [.int (iV (i))] (ct_X5_rows l g t f 98 rfl) mk_X5_rows mi_X5_rows wm_320 (by decide) (rv_5 Y rfl) rfl hl (Nat.le_of_ble_eq_true rfl) rfl dX7_judge_7 (Nat.zero_le _) (Nat.zero_le _) (fun H locs Y => ?_)
      refine r_icmp_ge X (tgt := 40) dX7_judge_10 (by decide) ⟨by omega, by omega⟩ ⟨by omega, by omega⟩ (fun c10 => ?_) (fun c10 => ?_)
      · refine r_iconst X dX7_judge_40 ?_
        exact ret _ _ _ _ _ _ _ dX7_judge_41 Y ⟨by rw [← he]; (first | (rw [show (t 98 3 - i).toNat = 0 by omega]; rfl) | (rw [show (t 98 3 - i).toNat = (t 98 3 - (i + 1)).toNat + 1 by omega, judN]; show _ = if tget t f 98 i 0 = t 18 2 then _ else _; rw [if_neg (by omega)])), rfl, rfl⟩
      · refine r_aload_n X dX7_judge_13 hl 1 rfl ?_
        refine g_7_9 (k := 0) X Y rfl wm_265 dX7_judge_14 ?_
        refine r_iload_n X dX7_judge_17 hl 0 rfl ?_
        refine r_iconst X dX7_judge_18 ?_
        refine vF_i X Y [.int (iV (i)), .int (iV (0))] [] (ct_X5_get l g t f 98 i 0 rfl hB.1 ⟨by omega, by omega⟩ ⟨by omega, by omega⟩) mk_X5_get mi_X5_get wm_436 (by decide) (rv_5 Y rfl) rfl hl (Nat.le_of_ble_eq_true rfl) rfl dX7_judge_19 (Nat.zero_le _) (Nat.zero_le _) (fun H locs Y => ?_)
        refine r_aload_n X dX7_judge_22 hl 1 rfl ?_
        refine g_7_3 (k := 0) X Y rfl wm_259 dX7_judge_23 ?_
        refine g_4_2 (k := 18) X Y rfl wm_167 dX7_judge_26 ?_
        refine r_icmp_eq X (tgt := 34) dX7_judge_29 (by decide) ⟨by omega, by omega⟩ ⟨by omega, by omega⟩ (fun c29 => ?_) (fun c29 => ?_)
        · refine r_iinc X dX7_judge_34 hl 0 rfl [(1, .int (iV (i + 1))), (0, .ref (g.1 + 0))] (by decide) rfl (fun ls hl => ?_)
          refine r_goto X 2 dX7_judge_37 (by decide) ?_
          exact ih (i + 1) (by omega) (by omega) (by rw [← he, show (t 98 3 - i).toNat = (t 98 3 - (i + 1)).toNat + 1 by omega, judN]; show _ = if tget t f 98 i 0 = t 18 2 then _ else _; rw [if_pos (by omega)]) _ _ _ (by omega) Y (lv_sub hl [0, 1] rfl)
        · refine r_iload_n X dX7_judge_32 hl 0 rfl ?_
          exact ret _ _ _ _ _ _ _ dX7_judge_33 Y ⟨by rw [← he]; (first | (rw [show (t 98 3 - i).toNat = 0 by omega]; rfl) | (rw [show (t 98 3 - i).toNat = (t 98 3 - (i + 1)).toNat + 1 by omega, judN]; show _ = if tget t f 98 i 0 = t 18 2 then _ else _; rw [if_neg (by omega)])), rfl, rfl⟩
  exact loop2 (((t 98 3 - 0).toNat) + 1) 0 (by omega) (by have := hB.1.1; omega) (by rw [show t 98 3 - 0 = t 98 3 by omega]; rfl) _ _ _ (Nat.lt_succ_self _) Y (lv_sub hl [0, 1] rfl)
set_option maxHeartbeats 4000000 in
set_option maxRecDepth 100000 in
theorem ct_X7_feed (l : Launch) (g : uG) (t : uN) (f : uF) (v : Int) (h1 : tOK t 1) (hv : inI v) : cF_i l yX7_feed cX7_feed 2 (some .int) 4 g [.ref (g.1 + 0), .int (iV (v))] t f (feeX t v) (if feeX t v < 0 then t else up2 t 1 3 (t 1 3 + 1)) (if feeX t v < 0 then f else upA f 2 (t 1 3) v) := by
  refine eF_i (by decide +kernel) (Nat.le_of_ble_eq_true rfl) ?_
  intro p e R s m args below meth c Q ls H locs X Y hl ret
  have X : uX p 4 R s m args c cX7_feed 2 RX7 := X
  have hl : lv_has ls 2 [(0, .ref (g.1 + 0)), (1, .int (iV (v)))] := hl
  have hh : 0 ≤ t 1 3 ∧ t 1 3 ≤ 220 := h1
  refine r_iload_n X dX7_feed_0 hl 1 rfl ?_
  refine r_if_lt X (tgt := 11) dX7_feed_1 (by decide) ⟨by omega, by omega⟩ (fun c1 => ?_) (fun c1 => ?_)
  · refine r_ldc X (-1000000002) wm_297 (by decide) dX7_feed_11 ?_
    exact ret _ _ _ _ _ _ _ dX7_feed_13 Y (by have hq : feeX t v = (-1000000002) := (by unfold feeX; repeat (first | rw [if_pos (by omega)] | rw [if_neg (by omega)])); exact ⟨hq.symm, by rw [hq, if_pos (by decide)], by rw [hq, if_pos (by decide)]⟩)
  · refine r_iload_n X dX7_feed_4 hl 1 rfl ?_
    refine r_sipush X 255 dX7_feed_5 (by decide) ?_
    refine r_icmp_le X (tgt := 14) dX7_feed_8 (by decide) ⟨by omega, by omega⟩ ⟨by omega, by omega⟩ (fun c8 => ?_) (fun c8 => ?_)
    · refine r_aload_n X dX7_feed_14 hl 0 rfl ?_
      refine g_7_0 (k := 0) X Y rfl wm_256 dX7_feed_15 ?_
      refine vF_i X Y [] [] (ct_X5_isFull l g t f 1 rfl h1) mk_X5_isFull mi_X5_isFull wm_298 (by decide) (rv_5 Y rfl) rfl hl (Nat.le_of_ble_eq_true rfl) rfl dX7_feed_18 (Nat.zero_le _) (Nat.zero_le _) (fun H locs Y => ?_)
      have qb18 := tfull_b t 1
      have qm18 : tm 1 = 220 := rfl
      refine r_if_eq X (tgt := 27) dX7_feed_21 (by decide) ⟨by omega, by omega⟩ (fun c21 => ?_) (fun c21 => ?_)
      · refine r_aload_n X dX7_feed_27 hl 0 rfl ?_
        refine g_7_0 (k := 0) X Y rfl wm_256 dX7_feed_28 ?_
        refine r_iload_n X dX7_feed_31 hl 1 rfl ?_
        refine vF_v X Y [.int (iV (v))] [] (ct_X5_add l g t f 1 v rfl h1) mk_X5_add mi_X5_add wm_303 (by decide) (rv_5 Y rfl) rfl hl (Nat.le_of_ble_eq_true rfl) rfl dX7_feed_32 (Nat.zero_le _) (Nat.zero_le _) (fun H locs Y => ?_)
        obtain ⟨tq1, htq1⟩ : ∃ q, q = topenT t 1 := ⟨_, rfl⟩
        obtain ⟨fq2, hfq2⟩ : ∃ q, q = tset (topenT t 1) f 1 (topenR t 1) 0 v := ⟨_, rfl⟩
        have Y : uY g 117 (cX g tq1 fq2) s H locs := by rw [htq1, hfq2]; exact Y
        refine r_aload_n X dX7_feed_35 hl 0 rfl ?_
        refine g_7_0 (k := 0) X Y rfl wm_256 dX7_feed_36 ?_
        refine vF_i X Y [] [] (ct_X5_rows l g tq1 fq2 1 rfl) mk_X5_rows mi_X5_rows wm_320 (by decide) (rv_5 Y rfl) rfl hl (Nat.le_of_ble_eq_true rfl) rfl dX7_feed_39 (Nat.zero_le _) (Nat.zero_le _) (fun H locs Y => ?_)
        exact ret _ _ _ _ _ _ _ dX7_feed_42 Y (by have hq : feeX t v = t 1 3 + 1 := (by unfold feeX; repeat (first | rw [if_pos (by omega)] | rw [if_neg (by omega)])); have ho : topenT t 1 = up2 t 1 3 (t 1 3 + 1) := (if_neg (by omega)); have hr : topenR t 1 = t 1 3 := (if_neg (by omega)); have e3 : up2 t 1 3 (t 1 3 + 1) 1 3 = t 1 3 + 1 := (up2_s _ _ _ _); exact ⟨by rw [hq, htq1, ho, e3], by rw [hq, if_neg (by omega), htq1, ho], by rw [hq, if_neg (by omega), hfq2, ho, hr]; unfold tset; rw [e3, if_pos ⟨by omega, by omega, by omega, by decide⟩]; rw [show t 1 3 * tw 1 + 0 = t 1 3 by rw [show tw 1 = 1 from rfl]; omega]⟩)
      · refine r_ldc X (-1000000004) wm_302 (by decide) dX7_feed_24 ?_
        exact ret _ _ _ _ _ _ _ dX7_feed_26 Y (by have hq : feeX t v = (-1000000004) := (by unfold feeX; repeat (first | rw [if_pos (by omega)] | rw [if_neg (by omega)])); exact ⟨hq.symm, by rw [hq, if_pos (by decide)], by rw [hq, if_pos (by decide)]⟩)
    · refine r_ldc X (-1000000002) wm_297 (by decide) dX7_feed_11 ?_
      exact ret _ _ _ _ _ _ _ dX7_feed_13 Y (by have hq : feeX t v = (-1000000002) := (by unfold feeX; repeat (first | rw [if_pos (by omega)] | rw [if_neg (by omega)])); exact ⟨hq.symm, by rw [hq, if_pos (by decide)], by rw [hq, if_pos (by decide)]⟩)
set_option maxHeartbeats 4000000 in
set_option maxRecDepth 100000 in
theorem ct_X7_write (l : Launch) (g : uG) (t : uN) (f : uF) (v : Int) (h98 : tOK t 98) (hv : inI v) : cF_i l yX7_write cX7_write 2 (some .int) 4 g [.ref (g.1 + 0), .int (iV (v))] t f (wriX t v) (if wriX t v < 0 then t else up2 t 98 3 (t 98 3 + 1)) (if wriX t v < 0 then f else upA f 99 (t 98 3) v) := by
  refine eF_i (by decide +kernel) (Nat.le_of_ble_eq_true rfl) ?_
  intro p e R s m args below meth c Q ls H locs X Y hl ret
  have X : uX p 4 R s m args c cX7_write 2 RX7 := X
  have hl : lv_has ls 2 [(0, .ref (g.1 + 0)), (1, .int (iV (v)))] := hl
  have hh : 0 ≤ t 98 3 ∧ t 98 3 ≤ 15 := h98
  refine r_iload_n X dX7_write_0 hl 1 rfl ?_
  refine r_if_lt X (tgt := 11) dX7_write_1 (by decide) ⟨by omega, by omega⟩ (fun c1 => ?_) (fun c1 => ?_)
  · refine r_ldc X (-1000000002) wm_297 (by decide) dX7_write_11 ?_
    exact ret _ _ _ _ _ _ _ dX7_write_13 Y (by have hq : wriX t v = (-1000000002) := (by unfold wriX; repeat (first | rw [if_pos (by omega)] | rw [if_neg (by omega)])); exact ⟨hq.symm, by rw [hq, if_pos (by decide)], by rw [hq, if_pos (by decide)]⟩)
  · refine r_iload_n X dX7_write_4 hl 1 rfl ?_
    refine r_sipush X 9999 dX7_write_5 (by decide) ?_
    refine r_icmp_le X (tgt := 14) dX7_write_8 (by decide) ⟨by omega, by omega⟩ ⟨by omega, by omega⟩ (fun c8 => ?_) (fun c8 => ?_)
    · refine r_aload_n X dX7_write_14 hl 0 rfl ?_
      refine g_7_9 (k := 0) X Y rfl wm_265 dX7_write_15 ?_
      refine vF_i X Y [] [] (ct_X5_isFull l g t f 98 rfl h98) mk_X5_isFull mi_X5_isFull wm_298 (by decide) (rv_5 Y rfl) rfl hl (Nat.le_of_ble_eq_true rfl) rfl dX7_write_18 (Nat.zero_le _) (Nat.zero_le _) (fun H locs Y => ?_)
      have qb18 := tfull_b t 98
      have qm18 : tm 98 = 15 := rfl
      refine r_if_eq X (tgt := 27) dX7_write_21 (by decide) ⟨by omega, by omega⟩ (fun c21 => ?_) (fun c21 => ?_)
      · refine r_aload_n X dX7_write_27 hl 0 rfl ?_
        refine g_7_9 (k := 0) X Y rfl wm_265 dX7_write_28 ?_
        refine r_iload_n X dX7_write_31 hl 1 rfl ?_
        refine vF_v X Y [.int (iV (v))] [] (ct_X5_add l g t f 98 v rfl h98) mk_X5_add mi_X5_add wm_303 (by decide) (rv_5 Y rfl) rfl hl (Nat.le_of_ble_eq_true rfl) rfl dX7_write_32 (Nat.zero_le _) (Nat.zero_le _) (fun H locs Y => ?_)
        obtain ⟨tq1, htq1⟩ : ∃ q, q = topenT t 98 := ⟨_, rfl⟩
        obtain ⟨fq2, hfq2⟩ : ∃ q, q = tset (topenT t 98) f 98 (topenR t 98) 0 v := ⟨_, rfl⟩
        have Y : uY g 117 (cX g tq1 fq2) s H locs := by rw [htq1, hfq2]; exact Y
        refine r_aload_n X dX7_write_35 hl 0 rfl ?_
        refine g_7_9 (k := 0) X Y rfl wm_265 dX7_write_36 ?_
        refine vF_i X Y [] [] (ct_X5_rows l g tq1 fq2 98 rfl) mk_X5_rows mi_X5_rows wm_320 (by decide) (rv_5 Y rfl) rfl hl (Nat.le_of_ble_eq_true rfl) rfl dX7_write_39 (Nat.zero_le _) (Nat.zero_le _) (fun H locs Y => ?_)
        exact ret _ _ _ _ _ _ _ dX7_write_42 Y (by have hq : wriX t v = t 98 3 + 1 := (by unfold wriX; repeat (first | rw [if_pos (by omega)] | rw [if_neg (by omega)])); have ho : topenT t 98 = up2 t 98 3 (t 98 3 + 1) := (if_neg (by omega)); have hr : topenR t 98 = t 98 3 := (if_neg (by omega)); have e3 : up2 t 98 3 (t 98 3 + 1) 98 3 = t 98 3 + 1 := (up2_s _ _ _ _); exact ⟨by rw [hq, htq1, ho, e3], by rw [hq, if_neg (by omega), htq1, ho], by rw [hq, if_neg (by omega), hfq2, ho, hr]; unfold tset; rw [e3, if_pos ⟨by omega, by omega, by omega, by decide⟩]; rw [show t 98 3 * tw 98 + 0 = t 98 3 by rw [show tw 98 = 1 from rfl]; omega]⟩)
      · refine r_ldc X (-1000000004) wm_302 (by decide) dX7_write_24 ?_
        exact ret _ _ _ _ _ _ _ dX7_write_26 Y (by have hq : wriX t v = (-1000000004) := (by unfold wriX; repeat (first | rw [if_pos (by omega)] | rw [if_neg (by omega)])); exact ⟨hq.symm, by rw [hq, if_pos (by decide)], by rw [hq, if_pos (by decide)]⟩)
    · refine r_ldc X (-1000000002) wm_297 (by decide) dX7_write_11 ?_
      exact ret _ _ _ _ _ _ _ dX7_write_13 Y (by have hq : wriX t v = (-1000000002) := (by unfold wriX; repeat (first | rw [if_pos (by omega)] | rw [if_neg (by omega)])); exact ⟨hq.symm, by rw [hq, if_pos (by decide)], by rw [hq, if_pos (by decide)]⟩)
set_option maxHeartbeats 4000000 in
set_option maxRecDepth 100000 in
theorem ct_X7_tear (l : Launch) (g : uG) (t : uN) (f : uF)   : cF_i l yX7_tear cX7_tear 2 (some .int) 2 g [.ref (g.1 + 0)] t f (t 96 3 + t 98 3) (up2 (up2 t 96 3 0) 98 3 0) (f) := by
  refine eF_i (by decide +kernel) (Nat.le_of_ble_eq_true rfl) ?_
  intro p e R s m args below meth c Q ls H locs X Y hl ret
  have X : uX p 2 R s m args c cX7_tear 2 RX7 := X
  have hl : lv_has ls 2 [(0, .ref (g.1 + 0))] := hl
  refine r_aload_n X dX7_tear_0 hl 0 rfl ?_
  refine g_7_8 (k := 0) X Y rfl wm_264 dX7_tear_1 ?_
  refine vF_i X Y [] [] (ct_X5_rows l g t f 96 rfl) mk_X5_rows mi_X5_rows wm_320 (by decide) (rv_5 Y rfl) rfl hl (Nat.le_of_ble_eq_true rfl) rfl dX7_tear_4 (Nat.zero_le _) (Nat.zero_le _) (fun H locs Y => ?_)
  refine r_aload_n X dX7_tear_7 hl 0 rfl ?_
  refine g_7_9 (k := 0) X Y rfl wm_265 dX7_tear_8 ?_
  refine vF_i X Y [] [.int (iV (t 96 3))] (ct_X5_rows l g t f 98 rfl) mk_X5_rows mi_X5_rows wm_320 (by decide) (rv_5 Y rfl) rfl hl (Nat.le_of_ble_eq_true rfl) rfl dX7_tear_11 (Nat.zero_le _) (Nat.zero_le _) (fun H locs Y => ?_)
  refine r_iadd X dX7_tear_14 ?_
  refine r_istore_n X dX7_tear_15 hl [(1, .int (iV ((t 96 3) + (t 98 3)))), (0, .ref (g.1 + 0))] (by decide) rfl (fun ls hl => ?_)
  refine r_aload_n X dX7_tear_16 hl 1 rfl ?_
  refine g_7_8 (k := 0) X Y rfl wm_264 dX7_tear_17 ?_
  refine vF_v X Y [] [] (ct_X5_clear l g t f 96 rfl) mk_X5_clear mi_X5_clear wm_397 (by decide) (rv_5 Y rfl) rfl hl (Nat.le_of_ble_eq_true rfl) rfl dX7_tear_20 (Nat.zero_le _) (Nat.zero_le _) (fun H locs Y => ?_)
  obtain ⟨tq1, htq1⟩ : ∃ q, q = up2 t 96 3 0 := ⟨_, rfl⟩
  have Y : uY g 117 (cX g tq1 f) s H locs := by rw [htq1]; exact Y
  refine r_aload_n X dX7_tear_23 hl 1 rfl ?_
  refine g_7_9 (k := 0) X Y rfl wm_265 dX7_tear_24 ?_
  refine vF_v X Y [] [] (ct_X5_clear l g tq1 f 98 rfl) mk_X5_clear mi_X5_clear wm_397 (by decide) (rv_5 Y rfl) rfl hl (Nat.le_of_ble_eq_true rfl) rfl dX7_tear_27 (Nat.zero_le _) (Nat.zero_le _) (fun H locs Y => ?_)
  obtain ⟨tq2, htq2⟩ : ∃ q, q = up2 tq1 98 3 0 := ⟨_, rfl⟩
  have Y : uY g 117 (cX g tq2 f) s H locs := by rw [htq2]; exact Y
  refine r_iload_n X dX7_tear_30 hl 0 rfl ?_
  exact ret _ _ _ _ _ _ _ dX7_tear_31 Y (by subst htq1 htq2; exact ⟨rfl, rfl, rfl⟩)
set_option maxHeartbeats 4000000 in
set_option maxRecDepth 100000 in
theorem ct_X7_seed (l : Launch) (g : uG) (t : uN) (f : uF) (v : Int) (hv : inI v) : cF_i l yX7_seed cX7_seed 3 (some .int) 1 g [.ref (g.1 + 0), .int (iV (v))] t f (if v < 0 then -1000000002 else t 0 11) (if v < 0 then t else up2 t 0 11 v) (f) := by
  refine eF_i (by decide +kernel) (Nat.le_of_ble_eq_true rfl) ?_
  intro p e R s m args below meth c Q ls H locs X Y hl ret
  have X : uX p 1 R s m args c cX7_seed 3 RX7 := X
  have hl : lv_has ls 3 [(0, .ref (g.1 + 0)), (1, .int (iV (v)))] := hl
  refine r_iload_n X dX7_seed_0 hl 1 rfl ?_
  refine r_if_ge X (tgt := 7) dX7_seed_1 (by decide) ⟨by omega, by omega⟩ (fun c1 => ?_) (fun c1 => ?_)
  · refine r_aload_n X dX7_seed_7 hl 0 rfl ?_
    refine g_7_11 (k := 0) X Y rfl wm_267 dX7_seed_8 ?_
    refine r_istore_n X dX7_seed_11 hl [(2, .int (iV (t 0 11))), (0, .ref (g.1 + 0)), (1, .int (iV (v)))] (by decide) rfl (fun ls hl => ?_)
    refine r_aload_n X dX7_seed_12 hl 1 rfl ?_
    refine r_iload_n X dX7_seed_13 hl 2 rfl ?_
    refine p_7_11 (k := 0) X Y rfl wm_267 dX7_seed_14 (fun H locs Y => ?_)
    obtain ⟨tq1, htq1⟩ : ∃ q, q = up2 t 0 11 (v) := ⟨_, rfl⟩
    have Y : uY g 117 (cX g tq1 f) s H locs := by rw [htq1]; exact Y
    refine r_iload_n X dX7_seed_17 hl 0 rfl ?_
    exact ret _ _ _ _ _ _ _ dX7_seed_18 Y ⟨by first | rw [if_pos (by omega)] | rw [if_neg (by omega)], by first | rw [if_pos (by omega)] | (rw [if_neg (by omega)]; exact htq1), rfl⟩
  · refine r_ldc X (-1000000002) wm_297 (by decide) dX7_seed_4 ?_
    exact ret _ _ _ _ _ _ _ dX7_seed_6 Y ⟨by rw [if_pos (by omega)], by rw [if_pos (by omega)], rfl⟩

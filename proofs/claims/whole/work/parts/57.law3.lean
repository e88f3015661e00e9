/-! the law -/
set_option maxHeartbeats 40000000 in
set_option maxRecDepth 100000 in
/-- the law, from where both objects are made -/
theorem law_main {p : Program} {e : Env} {s : State} {m : MethodId} {below : List Frame} {meth : Method} {c : Code} (l : Launch) {b L : Nat} {xs : Nat → Int32} (hL : L ≤ 256) {g : uG} (hg : g.1 = s.heap.size) (X : uX p 40 room_1 s m #[Value.ref b] c code 4 RL) (hr : meth.sig.returnType = ret) (hlocks : meth.locks = false) (hX : va_X b L xs s s.heap) (hbl : b < s.heap.size) {H : Heap} {locs : List Loc} (Y : uY g 117 (cX g t0N (fun _ _ => 0)) s H locs) {ls : Array Slot} (hl : lv_has ls 4 [(2, .ref (g.1 + 100)), (1, .ref (g.1 + 0)), (0, .ref b)]) : W p l e room_1 s m #[Value.ref b] below meth c H locs 600000 7302250 (lw_Z below #[Value.ref b] s) (F0 m 16 ls []) := by
  refine r_iconst X dL_law_16 ?_
  refine r_istore_n X dL_law_17 hl [(3, .int (iV (0))), (2, .ref (g.1 + 100)), (1, .ref (g.1 + 0)), (0, .ref b)] (by decide) rfl (fun ls hl => ?_)
  have loop18 : ∀ (N : Nat) (i : Int) (tz : uN) (fz : uF) (hi0 : 0 ≤ i) (hi1 : i ≤ L) (hLR : LR tz fz) (H : Heap) (locs : List Loc) (ls : Array Slot), (L - i).toNat < N → uY g 117 (cX g tz fz) s H locs → lv_has ls 4 [(3, .int (iV (i))), (2, .ref (g.1 + 100)), (1, .ref (g.1 + 0)), (0, .ref b)] → W p l e room_1 s m #[Value.ref b] below meth c H locs 600000 7302250 (lw_Z below #[Value.ref b] s) (F0 m 18 ls []) := by
    intro N
    induction N with
    | zero => intro i tz fz hi0 hi1 hLR H locs ls hmu Y hl; exact absurd hmu (Nat.not_lt_zero _)
    | succ N ih18 =>
      intro i tz fz hi0 hi1 hLR H locs ls hmu Y hl
      refine r_iload_n X dL_law_18 hl 0 rfl ?_
      refine r_aload_n X dL_law_19 hl 3 rfl ?_
      refine r_slen X Y hX hbl hg dL_law_20 ?_
      refine r_iconst X dL_law_21 ?_
      refine r_isub X dL_law_22 ?_
      refine r_icmp_gt X (tgt := 915) dL_law_23 (by decide) ⟨by omega, by omega⟩ ⟨by omega, by omega⟩ (fun c23 => ?_) (fun c23 => ?_)
      · refine r_iconst X dL_law_915 ?_
        refine va_forget (fun q hq => by rw [← hg]; exact Y.2.2.2.1.2.2 q hq) ?_
        exact lw_ret X.1 X.2.1 hr hlocks dL_law_916
      · obtain ⟨hML, hTX, hTL, hBK, hSD, hRG, hKP, hPL⟩ := id hLR
        have hHI := hML.1
        have hLK := hML.2.1.2.1
        have hgb := goB_hyp hKP
        obtain ⟨v0, hv0⟩ : ∃ q, (xs i.toNat).toInt = q := ⟨_, rfl⟩
        have rv0 : inI v0 := by rw [← hv0]; exact iV_rng _
        obtain ⟨v1, hv1⟩ : ∃ q, (xs (i + 1).toNat).toInt = q := ⟨_, rfl⟩
        have rv1 : inI v1 := by rw [← hv1]; exact iV_rng _
        obtain ⟨v2, hv2⟩ : ∃ q, (xs (i + 2).toNat).toInt = q := ⟨_, rfl⟩
        have rv2 : inI v2 := by rw [← hv2]; exact iV_rng _
        obtain ⟨v3, hv3⟩ : ∃ q, (xs (i + 3).toNat).toInt = q := ⟨_, rfl⟩
        have rv3 : inI v3 := by rw [← hv3]; exact iV_rng _
        refine r_aload_n X dL_law_26 hl 3 rfl ?_
        refine r_iload_n X dL_law_27 hl 0 rfl ?_
        refine r_sld X Y hX hbl hg (z := i) (by omega) (by omega) hL hv0 dL_law_28 ?_
        refine r_bipush X 31 dL_law_29 (by decide) ?_
        refine r_and31 X dL_law_31 (fun w0 hw0 hw1 => ?_)
        rcases (show (w0 < 0 ∨ 28 < w0) ∨ w0 = 0 ∨ w0 = 1 ∨ w0 = 2 ∨ w0 = 3 ∨ w0 = 4 ∨ w0 = 5 ∨ w0 = 6 ∨ w0 = 7 ∨ w0 = 8 ∨ w0 = 9 ∨ w0 = 10 ∨ w0 = 11 ∨ w0 = 12 ∨ w0 = 13 ∨ w0 = 14 ∨ w0 = 15 ∨ w0 = 16 ∨ w0 = 17 ∨ w0 = 18 ∨ w0 = 19 ∨ w0 = 20 ∨ w0 = 21 ∨ w0 = 22 ∨ w0 = 23 ∨ w0 = 24 ∨ w0 = 25 ∨ w0 = 26 ∨ w0 = 27 ∨ w0 = 28 by omega) with hsw | hsw | hsw | hsw | hsw | hsw | hsw | hsw | hsw | hsw | hsw | hsw | hsw | hsw | hsw | hsw | hsw | hsw | hsw | hsw | hsw | hsw | hsw | hsw | hsw | hsw | hsw | hsw | hsw | hsw
        · refine r_tabOut X 909 dL_law_32 ⟨by omega, by omega⟩ hsw (by decide) ?_
          refine r_iinc X dL_law_909 hl 0 rfl [(3, .int (iV (i + 4))), (2, .ref (g.1 + 100)), (1, .ref (g.1 + 0)), (0, .ref b)] (by decide) rfl (fun ls hl => ?_)
          refine r_goto X 18 dL_law_912 (by decide) ?_
          exact ih18 (i + 4) tz fz (by omega) (by omega) hLR _ _ _ (by omega) Y (lv_sub hl [0, 1, 2, 3] rfl)
        · refine r_tabIn X (132) 164 dL_law_32 ⟨by omega, by omega⟩ (by omega) (by omega) (by rw [hsw]; rfl) (by decide) ?_
          refine r_aload_n X dL_law_164 hl 2 rfl ?_
          refine r_aload_n X dL_law_165 hl 3 rfl ?_
          refine r_iload_n X dL_law_166 hl 0 rfl ?_
          refine r_iconst X dL_law_167 ?_
          refine r_iadd X dL_law_168 ?_
          refine r_sld X Y hX hbl hg (z := i + 1) (by omega) (by omega) hL hv1 dL_law_169 ?_
          refine vF_i X Y [.int (iV (v1))] [] (ct_X7_feed l g tz fz v1 hTX.1 rv1) mk_X7_feed mi_X7_feed wm_293 (by decide) (rv_7 Y rfl) rfl hl (Nat.le_of_ble_eq_true rfl) rfl dL_law_170 (Nat.le_refl _) (Nat.le_refl _) (fun H locs Y => ?_)
          obtain ⟨tq1, htq1⟩ : ∃ q, q = if feeX tz v1 < 0 then tz else up2 tz 1 3 (tz 1 3 + 1) := ⟨_, rfl⟩
          obtain ⟨fq2, hfq2⟩ : ∃ q, q = if feeX tz v1 < 0 then fz else upA fz 2 (tz 1 3) v1 := ⟨_, rfl⟩
          have Y : uY g 117 (cX g tq1 fq2) s H locs := by rw [htq1, hfq2]; exact Y
          have hKH : KH tz fz tq1 fq2 := kh_feed htq1 hfq2
          refine r_aload_n X dL_law_173 hl 1 rfl ?_
          refine r_aload_n X dL_law_174 hl 3 rfl ?_
          refine r_iload_n X dL_law_175 hl 0 rfl ?_
          refine r_iconst X dL_law_176 ?_
          refine r_iadd X dL_law_177 ?_
          refine r_sld X Y hX hbl hg (z := i + 1) (by omega) (by omega) hL hv1 dL_law_178 ?_
          refine vF_i X Y [.int (iV (v1))] [.int (iV (feeX tz v1))] (ct_X8_feed l g tq1 fq2 tz fz v1 ((hKH.1 14).trans hTX.2.2.1) hTX.1 rv1) mk_X8_feed mi_X8_feed wm_847 (by decide) (rv_8 Y rfl) rfl hl (Nat.le_of_ble_eq_true rfl) rfl dL_law_179 (Nat.le_refl _) (Nat.le_refl _) (fun H locs Y => ?_)
          obtain ⟨tq3, htq3⟩ : ∃ q, q = if feeX tz v1 < 0 then tq1 else up2 tq1 100 14 (tq1 100 14 + 1) := ⟨_, rfl⟩
          obtain ⟨fq4, hfq4⟩ : ∃ q, q = if feeX tz v1 < 0 then fq2 else upA fq2 108 (tq1 100 14) v1 := ⟨_, rfl⟩
          have Y : uY g 117 (cX g tq3 fq4) s H locs := by rw [htq3, hfq4]; exact Y
          refine r_eqq X (tgt := 909) dL_law_182 (by decide) (rfl) ?_
          refine r_iinc X dL_law_909 hl 0 rfl [(3, .int (iV (i + 4))), (2, .ref (g.1 + 100)), (1, .ref (g.1 + 0)), (0, .ref b)] (by decide) rfl (fun ls hl => ?_)
          refine r_goto X 18 dL_law_912 (by decide) ?_
          exact ih18 (i + 4) tq3 fq4 (by omega) (by omega) (LR_feed hLR htq1 hfq2 htq3 hfq4) _ _ _ (by omega) Y (lv_sub hl [0, 1, 2, 3] rfl)
        · refine r_tabIn X (155) 187 dL_law_32 ⟨by omega, by omega⟩ (by omega) (by omega) (by rw [hsw]; rfl) (by decide) ?_
          refine r_aload_n X dL_law_187 hl 2 rfl ?_
          refine vR_i X Y [] [] (ct_X7_voyage l g tz fz (fun p => tget tz fz 1 p 0) (tz 1 3) hTX.txt rfl (fun _ => rfl) hHI.1.1.1 hHI.1.1.2.1 hHI.1.1.2.2) mk_X7_voyage mi_X7_voyage wm_324 (by decide) (rv_7 Y rfl) rfl hl (Nat.le_of_ble_eq_true rfl) rfl dL_law_188 (Nat.le_refl _) (Nat.le_refl _) (fun zq1 tq1 fq1 H locs hq1 Y => ?_)
          have hkv := kh_voyage hq1
          refine r_aload_n X dL_law_191 hl 1 rfl ?_
          refine vR_i X Y [] [.int (iV (zq1))] (ct_X8_voyage l g tq1 fq1 (fun p => tget tz fz 1 p 0) (tz 1 3) hTX.txt ((hkv.1 14).trans hTX.2.2.1) (fun p p0 p1 => (hkv.2 108 p (by decide)).trans (hTX.2.2.2 p p0 p1))) mk_X8_voyage mi_X8_voyage wm_857 (by decide) (rv_8 Y rfl) rfl hl (Nat.le_of_ble_eq_true rfl) rfl dL_law_192 (Nat.le_refl _) (Nat.le_refl _) (fun zq2 tq2 fq2 H locs hq2 Y => ?_)
          refine r_eqq X (tgt := 909) dL_law_195 (by decide) ((LR_voyage hLR hq1 hq2).2) ?_
          refine r_iinc X dL_law_909 hl 0 rfl [(3, .int (iV (i + 4))), (2, .ref (g.1 + 100)), (1, .ref (g.1 + 0)), (0, .ref b)] (by decide) rfl (fun ls hl => ?_)
          refine r_goto X 18 dL_law_912 (by decide) ?_
          exact ih18 (i + 4) tq2 fq2 (by omega) (by omega) (LR_voyage hLR hq1 hq2).1 _ _ _ (by omega) Y (lv_sub hl [0, 1, 2, 3] rfl)
        · refine r_tabIn X (168) 200 dL_law_32 ⟨by omega, by omega⟩ (by omega) (by omega) (by rw [hsw]; rfl) (by decide) ?_
          refine r_aload_n X dL_law_200 hl 2 rfl ?_
          refine vF_i X Y [] [] (ct_X7_fault l g tz fz ) mk_X7_fault mi_X7_fault wm_428 (by decide) (rv_7 Y rfl) rfl hl (Nat.le_of_ble_eq_true rfl) rfl dL_law_201 (Nat.le_refl _) (Nat.le_refl _) (fun H locs Y => ?_)
          refine r_aload_n X dL_law_204 hl 1 rfl ?_
          refine vF_i X Y [] [.int (iV (tz 0 10))] (ct_X8_fault l g tz fz ) mk_X8_fault mi_X8_fault wm_899 (by decide) (rv_8 Y rfl) rfl hl (Nat.le_of_ble_eq_true rfl) rfl dL_law_205 (Nat.le_refl _) (Nat.le_refl _) (fun H locs Y => ?_)
          refine r_eqq X (tgt := 909) dL_law_208 (by decide) (hSD.2.2.symm) ?_
          refine r_iinc X dL_law_909 hl 0 rfl [(3, .int (iV (i + 4))), (2, .ref (g.1 + 100)), (1, .ref (g.1 + 0)), (0, .ref b)] (by decide) rfl (fun ls hl => ?_)
          refine r_goto X 18 dL_law_912 (by decide) ?_
          exact ih18 (i + 4) tz fz (by omega) (by omega) hLR _ _ _ (by omega) Y (lv_sub hl [0, 1, 2, 3] rfl)
        · refine r_tabIn X (181) 213 dL_law_32 ⟨by omega, by omega⟩ (by omega) (by omega) (by rw [hsw]; rfl) (by decide) ?_
          refine r_aload_n X dL_law_213 hl 2 rfl ?_
          refine r_aload_n X dL_law_214 hl 3 rfl ?_
          refine r_iload_n X dL_law_215 hl 0 rfl ?_
          refine r_iconst X dL_law_216 ?_
          refine r_iadd X dL_law_217 ?_
          refine r_sld X Y hX hbl hg (z := i + 1) (by omega) (by omega) hL hv1 dL_law_218 ?_
          refine vF_i X Y [.int (iV (v1))] [] (ct_X7_told l g tz fz v1 hHI hTX.1 rv1) mk_X7_told mi_X7_told wm_432 (by decide) (rv_7 Y rfl) rfl hl (Nat.le_of_ble_eq_true rfl) rfl dL_law_219 (Nat.le_refl _) (Nat.le_refl _) (fun H locs Y => ?_)
          refine r_aload_n X dL_law_222 hl 1 rfl ?_
          refine r_aload_n X dL_law_223 hl 3 rfl ?_
          refine r_iload_n X dL_law_224 hl 0 rfl ?_
          refine r_iconst X dL_law_225 ?_
          refine r_iadd X dL_law_226 ?_
          refine r_sld X Y hX hbl hg (z := i + 1) (by omega) (by omega) hL hv1 dL_law_227 ?_
          refine vR_i X Y [.int (iV (v1))] [.int (iV (toldX tz fz v1))] (ct_X8_told l g tz fz tz fz v1 hML hTX.2.2.1 hTL.2.1 hBK.2.1 hRG.2.1 rv1) mk_X8_told mi_X8_told wm_903 (by decide) (rv_8 Y rfl) rfl hl (Nat.le_of_ble_eq_true rfl) rfl dL_law_228 (Nat.le_refl _) (Nat.le_refl _) (fun zq1 tq1 fq1 H locs hq1 Y => ?_)
          refine r_eqq X (tgt := 909) dL_law_231 (by decide) (hq1.1.symm) ?_
          refine r_iinc X dL_law_909 hl 0 rfl [(3, .int (iV (i + 4))), (2, .ref (g.1 + 100)), (1, .ref (g.1 + 0)), (0, .ref b)] (by decide) rfl (fun ls hl => ?_)
          refine r_goto X 18 dL_law_912 (by decide) ?_
          exact ih18 (i + 4) tq1 fq1 (by omega) (by omega) (hLR.scr hq1.2) _ _ _ (by omega) Y (lv_sub hl [0, 1, 2, 3] rfl)
        · refine r_tabIn X (204) 236 dL_law_32 ⟨by omega, by omega⟩ (by omega) (by omega) (by rw [hsw]; rfl) (by decide) ?_
          refine r_aload_n X dL_law_236 hl 2 rfl ?_
          refine r_aload_n X dL_law_237 hl 3 rfl ?_
          refine r_iload_n X dL_law_238 hl 0 rfl ?_
          refine r_iconst X dL_law_239 ?_
          refine r_iadd X dL_law_240 ?_
          refine r_sld X Y hX hbl hg (z := i + 1) (by omega) (by omega) hL hv1 dL_law_241 ?_
          refine r_aload_n X dL_law_242 hl 3 rfl ?_
          refine r_iload_n X dL_law_243 hl 0 rfl ?_
          refine r_iconst X dL_law_244 ?_
          refine r_iadd X dL_law_245 ?_
          refine r_sld X Y hX hbl hg (z := i + 2) (by omega) (by omega) hL hv2 dL_law_246 ?_
          refine vF_i X Y [.int (iV (v1)), .int (iV (v2))] [] (ct_X7_leg l g tz fz v1 v2 hHI rv1 rv2) mk_X7_leg mi_X7_leg wm_467 (by decide) (rv_7 Y rfl) rfl hl (Nat.le_of_ble_eq_true rfl) rfl dL_law_247 (Nat.le_refl _) (Nat.le_refl _) (fun H locs Y => ?_)
          refine r_aload_n X dL_law_250 hl 1 rfl ?_
          refine r_aload_n X dL_law_251 hl 3 rfl ?_
          refine r_iload_n X dL_law_252 hl 0 rfl ?_
          refine r_iconst X dL_law_253 ?_
          refine r_iadd X dL_law_254 ?_
          refine r_sld X Y hX hbl hg (z := i + 1) (by omega) (by omega) hL hv1 dL_law_255 ?_
          refine r_aload_n X dL_law_256 hl 3 rfl ?_
          refine r_iload_n X dL_law_257 hl 0 rfl ?_
          refine r_iconst X dL_law_258 ?_
          refine r_iadd X dL_law_259 ?_
          refine r_sld X Y hX hbl hg (z := i + 2) (by omega) (by omega) hL hv2 dL_law_260 ?_
          refine vF_i X Y [.int (iV (v1)), .int (iV (v2))] [.int (iV (legX tz fz v1 v2))] (ct_X8_leg l g tz fz tz fz v1 v2 hML rv1 rv2) mk_X8_leg mi_X8_leg wm_931 (by decide) (rv_8 Y rfl) rfl hl (Nat.le_of_ble_eq_true rfl) rfl dL_law_261 (Nat.le_refl _) (Nat.le_refl _) (fun H locs Y => ?_)
          refine r_eqq X (tgt := 909) dL_law_264 (by decide) (rfl) ?_
          refine r_iinc X dL_law_909 hl 0 rfl [(3, .int (iV (i + 4))), (2, .ref (g.1 + 100)), (1, .ref (g.1 + 0)), (0, .ref b)] (by decide) rfl (fun ls hl => ?_)
          refine r_goto X 18 dL_law_912 (by decide) ?_
          exact ih18 (i + 4) tz fz (by omega) (by omega) hLR _ _ _ (by omega) Y (lv_sub hl [0, 1, 2, 3] rfl)
        · refine r_tabIn X (237) 269 dL_law_32 ⟨by omega, by omega⟩ (by omega) (by omega) (by rw [hsw]; rfl) (by decide) ?_
          refine r_aload_n X dL_law_269 hl 2 rfl ?_
          refine r_aload_n X dL_law_270 hl 3 rfl ?_
          refine r_iload_n X dL_law_271 hl 0 rfl ?_
          refine r_iconst X dL_law_272 ?_
          refine r_iadd X dL_law_273 ?_
          refine r_sld X Y hX hbl hg (z := i + 1) (by omega) (by omega) hL hv1 dL_law_274 ?_
          refine r_aload_n X dL_law_275 hl 3 rfl ?_
          refine r_iload_n X dL_law_276 hl 0 rfl ?_
          refine r_iconst X dL_law_277 ?_
          refine r_iadd X dL_law_278 ?_
          refine r_sld X Y hX hbl hg (z := i + 2) (by omega) (by omega) hL hv2 dL_law_279 ?_
          refine vF_i X Y [.int (iV (v1)), .int (iV (v2))] [] (ct_X7_lender l g tz fz v1 v2 hHI rv1 rv2) mk_X7_lender mi_X7_lender wm_478 (by decide) (rv_7 Y rfl) rfl hl (Nat.le_of_ble_eq_true rfl) rfl dL_law_280 (Nat.le_refl _) (Nat.le_refl _) (fun H locs Y => ?_)
          refine r_aload_n X dL_law_283 hl 1 rfl ?_
          refine r_aload_n X dL_law_284 hl 3 rfl ?_
          refine r_iload_n X dL_law_285 hl 0 rfl ?_
          refine r_iconst X dL_law_286 ?_
          refine r_iadd X dL_law_287 ?_
          refine r_sld X Y hX hbl hg (z := i + 1) (by omega) (by omega) hL hv1 dL_law_288 ?_
          refine r_aload_n X dL_law_289 hl 3 rfl ?_
          refine r_iload_n X dL_law_290 hl 0 rfl ?_
          refine r_iconst X dL_law_291 ?_
          refine r_iadd X dL_law_292 ?_
          refine r_sld X Y hX hbl hg (z := i + 2) (by omega) (by omega) hL hv2 dL_law_293 ?_
          refine vF_i X Y [.int (iV (v1)), .int (iV (v2))] [.int (iV (lenX tz fz v1 v2))] (ct_X8_lender l g tz fz tz fz v1 v2 hML rv1 rv2) mk_X8_lender mi_X8_lender wm_944 (by decide) (rv_8 Y rfl) rfl hl (Nat.le_of_ble_eq_true rfl) rfl dL_law_294 (Nat.le_refl _) (Nat.le_refl _) (fun H locs Y => ?_)
          refine r_eqq X (tgt := 909) dL_law_297 (by decide) (rfl) ?_
          refine r_iinc X dL_law_909 hl 0 rfl [(3, .int (iV (i + 4))), (2, .ref (g.1 + 100)), (1, .ref (g.1 + 0)), (0, .ref b)] (by decide) rfl (fun ls hl => ?_)
          refine r_goto X 18 dL_law_912 (by decide) ?_
          exact ih18 (i + 4) tz fz (by omega) (by omega) hLR _ _ _ (by omega) Y (lv_sub hl [0, 1, 2, 3] rfl)
        · refine r_tabIn X (270) 302 dL_law_32 ⟨by omega, by omega⟩ (by omega) (by omega) (by rw [hsw]; rfl) (by decide) ?_
          refine r_aload_n X dL_law_302 hl 2 rfl ?_
          refine r_aload_n X dL_law_303 hl 3 rfl ?_
          refine r_iload_n X dL_law_304 hl 0 rfl ?_
          refine r_iconst X dL_law_305 ?_
          refine r_iadd X dL_law_306 ?_
          refine r_sld X Y hX hbl hg (z := i + 1) (by omega) (by omega) hL hv1 dL_law_307 ?_
          refine r_aload_n X dL_law_308 hl 3 rfl ?_
          refine r_iload_n X dL_law_309 hl 0 rfl ?_
          refine r_iconst X dL_law_310 ?_
          refine r_iadd X dL_law_311 ?_
          refine r_sld X Y hX hbl hg (z := i + 2) (by omega) (by omega) hL hv2 dL_law_312 ?_
          refine vF_i X Y [.int (iV (v1)), .int (iV (v2))] [] (ct_X7_loan l g tz fz v1 v2 hHI rv1 rv2) mk_X7_loan mi_X7_loan wm_490 (by decide) (rv_7 Y rfl) rfl hl (Nat.le_of_ble_eq_true rfl) rfl dL_law_313 (Nat.le_refl _) (Nat.le_refl _) (fun H locs Y => ?_)
          refine r_aload_n X dL_law_316 hl 1 rfl ?_
          refine r_aload_n X dL_law_317 hl 3 rfl ?_
          refine r_iload_n X dL_law_318 hl 0 rfl ?_
          refine r_iconst X dL_law_319 ?_
          refine r_iadd X dL_law_320 ?_
          refine r_sld X Y hX hbl hg (z := i + 1) (by omega) (by omega) hL hv1 dL_law_321 ?_
          refine r_aload_n X dL_law_322 hl 3 rfl ?_
          refine r_iload_n X dL_law_323 hl 0 rfl ?_
          refine r_iconst X dL_law_324 ?_
          refine r_iadd X dL_law_325 ?_
          refine r_sld X Y hX hbl hg (z := i + 2) (by omega) (by omega) hL hv2 dL_law_326 ?_
          refine vF_i X Y [.int (iV (v1)), .int (iV (v2))] [.int (iV (loaX tz fz v1 v2))] (ct_X8_loan l g tz fz tz fz v1 v2 hML rv1 rv2) mk_X8_loan mi_X8_loan wm_956 (by decide) (rv_8 Y rfl) rfl hl (Nat.le_of_ble_eq_true rfl) rfl dL_law_327 (Nat.le_refl _) (Nat.le_refl _) (fun H locs Y => ?_)
          refine r_eqq X (tgt := 909) dL_law_330 (by decide) (rfl) ?_
          refine r_iinc X dL_law_909 hl 0 rfl [(3, .int (iV (i + 4))), (2, .ref (g.1 + 100)), (1, .ref (g.1 + 0)), (0, .ref b)] (by decide) rfl (fun ls hl => ?_)
          refine r_goto X 18 dL_law_912 (by decide) ?_
          exact ih18 (i + 4) tz fz (by omega) (by omega) hLR _ _ _ (by omega) Y (lv_sub hl [0, 1, 2, 3] rfl)
        · refine r_tabIn X (303) 335 dL_law_32 ⟨by omega, by omega⟩ (by omega) (by omega) (by rw [hsw]; rfl) (by decide) ?_
          refine r_aload_n X dL_law_335 hl 2 rfl ?_
          refine r_aload_n X dL_law_336 hl 3 rfl ?_
          refine r_iload_n X dL_law_337 hl 0 rfl ?_
          refine r_iconst X dL_law_338 ?_
          refine r_iadd X dL_law_339 ?_
          refine r_sld X Y hX hbl hg (z := i + 1) (by omega) (by omega) hL hv1 dL_law_340 ?_
          refine r_aload_n X dL_law_341 hl 3 rfl ?_
          refine r_iload_n X dL_law_342 hl 0 rfl ?_
          refine r_iconst X dL_law_343 ?_
          refine r_iadd X dL_law_344 ?_
          refine r_sld X Y hX hbl hg (z := i + 2) (by omega) (by omega) hL hv2 dL_law_345 ?_
          refine r_aload_n X dL_law_346 hl 3 rfl ?_
          refine r_iload_n X dL_law_347 hl 0 rfl ?_
          refine r_iconst X dL_law_348 ?_
          refine r_iadd X dL_law_349 ?_
          refine r_sld X Y hX hbl hg (z := i + 3) (by omega) (by omega) hL hv3 dL_law_350 ?_
          refine r_if_eq X (tgt := 358) dL_law_351 (by decide) ⟨by omega, by omega⟩ (fun c351 => ?_) (fun c351 => ?_)
          · refine r_iconst X dL_law_358 ?_
            refine vF_i X Y [.int (iV (v1)), .int (iV (v2)), .int (iV (0))] [] (ct_X7_borrow l g tz fz v1 v2 0 hHI hRG.1 rv1 rv2 (Or.inl rfl)) mk_X7_borrow mi_X7_borrow wm_502 (by decide) (rv_7 Y rfl) rfl hl (Nat.le_of_ble_eq_true rfl) rfl dL_law_359 (Nat.le_refl _) (Nat.le_refl _) (fun H locs Y => ?_)
            obtain ⟨tq1, htq1⟩ : ∃ q, q = if borX tz fz v1 v2 < 0 then tz else borT tz v2 := ⟨_, rfl⟩
            obtain ⟨fq2, hfq2⟩ : ∃ q, q = if borX tz fz v1 v2 < 0 then fz else borF tz fz v1 v2 0 := ⟨_, rfl⟩
            have Y : uY g 117 (cX g tq1 fq2) s H locs := by rw [htq1, hfq2]; exact Y
            have hKH : KH tz fz tq1 fq2 := kh_borrow hRG.1.1 htq1 hfq2
            refine r_aload_n X dL_law_362 hl 1 rfl ?_
            refine r_aload_n X dL_law_363 hl 3 rfl ?_
            refine r_iload_n X dL_law_364 hl 0 rfl ?_
            refine r_iconst X dL_law_365 ?_
            refine r_iadd X dL_law_366 ?_
            refine r_sld X Y hX hbl hg (z := i + 1) (by omega) (by omega) hL hv1 dL_law_367 ?_
            refine r_aload_n X dL_law_368 hl 3 rfl ?_
            refine r_iload_n X dL_law_369 hl 0 rfl ?_
            refine r_iconst X dL_law_370 ?_
            refine r_iadd X dL_law_371 ?_
            refine r_sld X Y hX hbl hg (z := i + 2) (by omega) (by omega) hL hv2 dL_law_372 ?_
            refine r_aload_n X dL_law_373 hl 3 rfl ?_
            refine r_iload_n X dL_law_374 hl 0 rfl ?_
            refine r_iconst X dL_law_375 ?_
            refine r_iadd X dL_law_376 ?_
            refine r_sld X Y hX hbl hg (z := i + 3) (by omega) (by omega) hL hv3 dL_law_377 ?_
            refine r_if_eq X (tgt := 385) dL_law_378 (by decide) ⟨by omega, by omega⟩ (fun c378 => ?_) (fun c378 => ?_)
            · refine r_iconst X dL_law_385 ?_
              refine vF_i X Y [.int (iV (v1)), .int (iV (v2)), .int (iV (0))] [.int (iV (borX tz fz v1 v2))] (ct_X8_borrow l g tq1 fq2 tz fz v1 v2 0 (hML.kh hKH) ((hKH.1 2).trans hRG.2.1) hRG.1.2.1 rv1 rv2 (Or.inl rfl)) mk_X8_borrow mi_X8_borrow wm_977 (by decide) (rv_8 Y rfl) rfl hl (Nat.le_of_ble_eq_true rfl) rfl dL_law_386 (Nat.le_refl _) (Nat.le_refl _) (fun H locs Y => ?_)
              obtain ⟨tq3, htq3⟩ : ∃ q, q = if borX tz fz v1 v2 < 0 then tq1 else minT tq1 := ⟨_, rfl⟩
              obtain ⟨fq4, hfq4⟩ : ∃ q, q = if borX tz fz v1 v2 < 0 then fq2 else takL (minF tq1 fq2) 0 v1 v2 0 := ⟨_, rfl⟩
              have Y : uY g 117 (cX g tq3 fq4) s H locs := by rw [htq3, hfq4]; exact Y
              refine r_eqq X (tgt := 909) dL_law_389 (by decide) (rfl) ?_
              refine r_iinc X dL_law_909 hl 0 rfl [(3, .int (iV (i + 4))), (2, .ref (g.1 + 100)), (1, .ref (g.1 + 0)), (0, .ref b)] (by decide) rfl (fun ls hl => ?_)
              refine r_goto X 18 dL_law_912 (by decide) ?_
              exact ih18 (i + 4) tq3 fq4 (by omega) (by omega) (LR_borrow hLR (Or.inl rfl) htq1 hfq2 htq3 hfq4) _ _ _ (by omega) Y (lv_sub hl [0, 1, 2, 3] rfl)
            · exact absurd c378 (by omega)
          · refine r_iconst X dL_law_354 ?_
            refine r_goto X 359 dL_law_355 (by decide) ?_
            refine vF_i X Y [.int (iV (v1)), .int (iV (v2)), .int (iV (1))] [] (ct_X7_borrow l g tz fz v1 v2 1 hHI hRG.1 rv1 rv2 (Or.inr rfl)) mk_X7_borrow mi_X7_borrow wm_502 (by decide) (rv_7 Y rfl) rfl hl (Nat.le_of_ble_eq_true rfl) rfl dL_law_359 (Nat.le_refl _) (Nat.le_refl _) (fun H locs Y => ?_)
            obtain ⟨tq1, htq1⟩ : ∃ q, q = if borX tz fz v1 v2 < 0 then tz else borT tz v2 := ⟨_, rfl⟩
            obtain ⟨fq2, hfq2⟩ : ∃ q, q = if borX tz fz v1 v2 < 0 then fz else borF tz fz v1 v2 1 := ⟨_, rfl⟩
            have Y : uY g 117 (cX g tq1 fq2) s H locs := by rw [htq1, hfq2]; exact Y
            have hKH : KH tz fz tq1 fq2 := kh_borrow hRG.1.1 htq1 hfq2
            refine r_aload_n X dL_law_362 hl 1 rfl ?_
            refine r_aload_n X dL_law_363 hl 3 rfl ?_
            refine r_iload_n X dL_law_364 hl 0 rfl ?_
            refine r_iconst X dL_law_365 ?_
            refine r_iadd X dL_law_366 ?_
            refine r_sld X Y hX hbl hg (z := i + 1) (by omega) (by omega) hL hv1 dL_law_367 ?_
            refine r_aload_n X dL_law_368 hl 3 rfl ?_
            refine r_iload_n X dL_law_369 hl 0 rfl ?_
            refine r_iconst X dL_law_370 ?_
            refine r_iadd X dL_law_371 ?_
            refine r_sld X Y hX hbl hg (z := i + 2) (by omega) (by omega) hL hv2 dL_law_372 ?_
            refine r_aload_n X dL_law_373 hl 3 rfl ?_
            refine r_iload_n X dL_law_374 hl 0 rfl ?_
            refine r_iconst X dL_law_375 ?_
            refine r_iadd X dL_law_376 ?_
            refine r_sld X Y hX hbl hg (z := i + 3) (by omega) (by omega) hL hv3 dL_law_377 ?_
            refine r_if_eq X (tgt := 385) dL_law_378 (by decide) ⟨by omega, by omega⟩ (fun c378 => ?_) (fun c378 => ?_)
            · exact absurd c378 (by omega)
            · refine r_iconst X dL_law_381 ?_
              refine r_goto X 386 dL_law_382 (by decide) ?_
              refine vF_i X Y [.int (iV (v1)), .int (iV (v2)), .int (iV (1))] [.int (iV (borX tz fz v1 v2))] (ct_X8_borrow l g tq1 fq2 tz fz v1 v2 1 (hML.kh hKH) ((hKH.1 2).trans hRG.2.1) hRG.1.2.1 rv1 rv2 (Or.inr rfl)) mk_X8_borrow mi_X8_borrow wm_977 (by decide) (rv_8 Y rfl) rfl hl (Nat.le_of_ble_eq_true rfl) rfl dL_law_386 (Nat.le_refl _) (Nat.le_refl _) (fun H locs Y => ?_)
              obtain ⟨tq3, htq3⟩ : ∃ q, q = if borX tz fz v1 v2 < 0 then tq1 else minT tq1 := ⟨_, rfl⟩
              obtain ⟨fq4, hfq4⟩ : ∃ q, q = if borX tz fz v1 v2 < 0 then fq2 else takL (minF tq1 fq2) 0 v1 v2 1 := ⟨_, rfl⟩
              have Y : uY g 117 (cX g tq3 fq4) s H locs := by rw [htq3, hfq4]; exact Y
              refine r_eqq X (tgt := 909) dL_law_389 (by decide) (rfl) ?_
              refine r_iinc X dL_law_909 hl 0 rfl [(3, .int (iV (i + 4))), (2, .ref (g.1 + 100)), (1, .ref (g.1 + 0)), (0, .ref b)] (by decide) rfl (fun ls hl => ?_)
              refine r_goto X 18 dL_law_912 (by decide) ?_
              exact ih18 (i + 4) tq3 fq4 (by omega) (by omega) (LR_borrow hLR (Or.inr rfl) htq1 hfq2 htq3 hfq4) _ _ _ (by omega) Y (lv_sub hl [0, 1, 2, 3] rfl)
        · refine r_tabIn X (362) 394 dL_law_32 ⟨by omega, by omega⟩ (by omega) (by omega) (by rw [hsw]; rfl) (by decide) ?_
          refine r_aload_n X dL_law_394 hl 2 rfl ?_
          refine r_aload_n X dL_law_395 hl 3 rfl ?_
          refine r_iload_n X dL_law_396 hl 0 rfl ?_
          refine r_iconst X dL_law_397 ?_
          refine r_iadd X dL_law_398 ?_
          refine r_sld X Y hX hbl hg (z := i + 1) (by omega) (by omega) hL hv1 dL_law_399 ?_
          refine vF_i X Y [.int (iV (v1))] [] (ct_X7_repair l g tz fz v1 hHI hRG.1 rv1) mk_X7_repair mi_X7_repair wm_535 (by decide) (rv_7 Y rfl) rfl hl (Nat.le_of_ble_eq_true rfl) rfl dL_law_400 (Nat.le_refl _) (Nat.le_refl _) (fun H locs Y => ?_)
          obtain ⟨tq1, htq1⟩ : ∃ q, q = if repX tz fz v1 < 0 then tz else repT tz fz v1 := ⟨_, rfl⟩
          obtain ⟨fq2, hfq2⟩ : ∃ q, q = if repX tz fz v1 < 0 then fz else putF tz fz := ⟨_, rfl⟩
          have Y : uY g 117 (cX g tq1 fq2) s H locs := by rw [htq1, hfq2]; exact Y
          have hKH : KH tz fz tq1 fq2 := kh_repair hRG.1.1 htq1 hfq2
          refine r_aload_n X dL_law_403 hl 1 rfl ?_
          refine r_aload_n X dL_law_404 hl 3 rfl ?_
          refine r_iload_n X dL_law_405 hl 0 rfl ?_
          refine r_iconst X dL_law_406 ?_
          refine r_iadd X dL_law_407 ?_
          refine r_sld X Y hX hbl hg (z := i + 1) (by omega) (by omega) hL hv1 dL_law_408 ?_
          refine vF_i X Y [.int (iV (v1))] [.int (iV (repX tz fz v1))] (ct_X8_repair l g tq1 fq2 tz fz v1 (hML.kh hKH) ((hKH.1 2).trans hRG.2.1) hRG.1.2.1 rv1) mk_X8_repair mi_X8_repair wm_990 (by decide) (rv_8 Y rfl) rfl hl (Nat.le_of_ble_eq_true rfl) rfl dL_law_409 (Nat.le_refl _) (Nat.le_refl _) (fun H locs Y => ?_)
          obtain ⟨tq3, htq3⟩ : ∃ q, q = if repX tz fz v1 < 0 then tq1 else minT tq1 := ⟨_, rfl⟩
          obtain ⟨fq4, hfq4⟩ : ∃ q, q = if repX tz fz v1 < 0 then fq2 else upA (upA (minF tq1 fq2) 101 3 (tz 18 2 - v1 * costX tz fz)) 101 2 (tz 18 1 + v1) := ⟨_, rfl⟩
          have Y : uY g 117 (cX g tq3 fq4) s H locs := by rw [htq3, hfq4]; exact Y
          refine r_eqq X (tgt := 909) dL_law_412 (by decide) (rfl) ?_
          refine r_iinc X dL_law_909 hl 0 rfl [(3, .int (iV (i + 4))), (2, .ref (g.1 + 100)), (1, .ref (g.1 + 0)), (0, .ref b)] (by decide) rfl (fun ls hl => ?_)
          refine r_goto X 18 dL_law_912 (by decide) ?_
          exact ih18 (i + 4) tq3 fq4 (by omega) (by omega) (LR_repair hLR htq1 hfq2 htq3 hfq4) _ _ _ (by omega) Y (lv_sub hl [0, 1, 2, 3] rfl)
        · refine r_tabIn X (385) 417 dL_law_32 ⟨by omega, by omega⟩ (by omega) (by omega) (by rw [hsw]; rfl) (by decide) ?_
          refine r_aload_n X dL_law_417 hl 2 rfl ?_
          refine r_aload_n X dL_law_418 hl 3 rfl ?_
          refine r_iload_n X dL_law_419 hl 0 rfl ?_
          refine r_iconst X dL_law_420 ?_
          refine r_iadd X dL_law_421 ?_
          refine r_sld X Y hX hbl hg (z := i + 1) (by omega) (by omega) hL hv1 dL_law_422 ?_
          refine r_if_eq X (tgt := 430) dL_law_423 (by decide) ⟨by omega, by omega⟩ (fun c423 => ?_) (fun c423 => ?_)
          · refine r_iconst X dL_law_430 ?_
            refine vF_i X Y [.int (iV (0))] [] (ct_X7_sail l g tz fz 0 hHI hRG.1 (Or.inl rfl)) mk_X7_sail mi_X7_sail wm_543 (by decide) (rv_7 Y rfl) rfl hl (Nat.le_of_ble_eq_true rfl) rfl dL_law_431 (Nat.le_refl _) (Nat.le_refl _) (fun H locs Y => ?_)
            obtain ⟨tq1, htq1⟩ : ∃ q, q = if saiX tz 0 < 0 then tz else sailT (remT tz) 18 0 := ⟨_, rfl⟩
            obtain ⟨fq2, hfq2⟩ : ∃ q, q = if saiX tz 0 < 0 then fz else putF tz fz := ⟨_, rfl⟩
            have Y : uY g 117 (cX g tq1 fq2) s H locs := by rw [htq1, hfq2]; exact Y
            have hKH : KH tz fz tq1 fq2 := kh_sail hRG.1.1 htq1 hfq2
            refine r_aload_n X dL_law_434 hl 1 rfl ?_
            refine r_aload_n X dL_law_435 hl 3 rfl ?_
            refine r_iload_n X dL_law_436 hl 0 rfl ?_
            refine r_iconst X dL_law_437 ?_
            refine r_iadd X dL_law_438 ?_
            refine r_sld X Y hX hbl hg (z := i + 1) (by omega) (by omega) hL hv1 dL_law_439 ?_
            refine r_if_eq X (tgt := 447) dL_law_440 (by decide) ⟨by omega, by omega⟩ (fun c440 => ?_) (fun c440 => ?_)
            · refine r_iconst X dL_law_447 ?_
              refine vF_i X Y [.int (iV (0))] [.int (iV (saiX tz 0))] (ct_X8_sail l g tq1 fq2 tz fz 0 (hML.kh hKH) ((hKH.1 2).trans hRG.2.1) hRG.1.2.1 (Or.inl rfl)) mk_X8_sail mi_X8_sail wm_995 (by decide) (rv_8 Y rfl) rfl hl (Nat.le_of_ble_eq_true rfl) rfl dL_law_448 (Nat.le_refl _) (Nat.le_refl _) (fun H locs Y => ?_)
              obtain ⟨tq3, htq3⟩ : ∃ q, q = if saiX tz 0 < 0 then tq1 else minT tq1 := ⟨_, rfl⟩
              obtain ⟨fq4, hfq4⟩ : ∃ q, q = if saiX tz 0 < 0 then fq2 else saiF (minF tq1 fq2) 0 := ⟨_, rfl⟩
              have Y : uY g 117 (cX g tq3 fq4) s H locs := by rw [htq3, hfq4]; exact Y
              refine r_eqq X (tgt := 909) dL_law_451 (by decide) (rfl) ?_
              refine r_iinc X dL_law_909 hl 0 rfl [(3, .int (iV (i + 4))), (2, .ref (g.1 + 100)), (1, .ref (g.1 + 0)), (0, .ref b)] (by decide) rfl (fun ls hl => ?_)
              refine r_goto X 18 dL_law_912 (by decide) ?_
              exact ih18 (i + 4) tq3 fq4 (by omega) (by omega) (LR_sail hLR (Or.inl rfl) htq1 hfq2 htq3 hfq4) _ _ _ (by omega) Y (lv_sub hl [0, 1, 2, 3] rfl)
            · exact absurd c440 (by omega)
          · refine r_iconst X dL_law_426 ?_
            refine r_goto X 431 dL_law_427 (by decide) ?_
            refine vF_i X Y [.int (iV (1))] [] (ct_X7_sail l g tz fz 1 hHI hRG.1 (Or.inr rfl)) mk_X7_sail mi_X7_sail wm_543 (by decide) (rv_7 Y rfl) rfl hl (Nat.le_of_ble_eq_true rfl) rfl dL_law_431 (Nat.le_refl _) (Nat.le_refl _) (fun H locs Y => ?_)
            obtain ⟨tq1, htq1⟩ : ∃ q, q = if saiX tz 1 < 0 then tz else sailT (remT tz) 18 1 := ⟨_, rfl⟩
            obtain ⟨fq2, hfq2⟩ : ∃ q, q = if saiX tz 1 < 0 then fz else putF tz fz := ⟨_, rfl⟩
            have Y : uY g 117 (cX g tq1 fq2) s H locs := by rw [htq1, hfq2]; exact Y
            have hKH : KH tz fz tq1 fq2 := kh_sail hRG.1.1 htq1 hfq2
            refine r_aload_n X dL_law_434 hl 1 rfl ?_
            refine r_aload_n X dL_law_435 hl 3 rfl ?_
            refine r_iload_n X dL_law_436 hl 0 rfl ?_
            refine r_iconst X dL_law_437 ?_
            refine r_iadd X dL_law_438 ?_
            refine r_sld X Y hX hbl hg (z := i + 1) (by omega) (by omega) hL hv1 dL_law_439 ?_
            refine r_if_eq X (tgt := 447) dL_law_440 (by decide) ⟨by omega, by omega⟩ (fun c440 => ?_) (fun c440 => ?_)
            · exact absurd c440 (by omega)
            · refine r_iconst X dL_law_443 ?_
              refine r_goto X 448 dL_law_444 (by decide) ?_
              refine vF_i X Y [.int (iV (1))] [.int (iV (saiX tz 1))] (ct_X8_sail l g tq1 fq2 tz fz 1 (hML.kh hKH) ((hKH.1 2).trans hRG.2.1) hRG.1.2.1 (Or.inr rfl)) mk_X8_sail mi_X8_sail wm_995 (by decide) (rv_8 Y rfl) rfl hl (Nat.le_of_ble_eq_true rfl) rfl dL_law_448 (Nat.le_refl _) (Nat.le_refl _) (fun H locs Y => ?_)
              obtain ⟨tq3, htq3⟩ : ∃ q, q = if saiX tz 1 < 0 then tq1 else minT tq1 := ⟨_, rfl⟩
              obtain ⟨fq4, hfq4⟩ : ∃ q, q = if saiX tz 1 < 0 then fq2 else saiF (minF tq1 fq2) 1 := ⟨_, rfl⟩
              have Y : uY g 117 (cX g tq3 fq4) s H locs := by rw [htq3, hfq4]; exact Y
              refine r_eqq X (tgt := 909) dL_law_451 (by decide) (rfl) ?_
              refine r_iinc X dL_law_909 hl 0 rfl [(3, .int (iV (i + 4))), (2, .ref (g.1 + 100)), (1, .ref (g.1 + 0)), (0, .ref b)] (by decide) rfl (fun ls hl => ?_)
              refine r_goto X 18 dL_law_912 (by decide) ?_
              exact ih18 (i + 4) tq3 fq4 (by omega) (by omega) (LR_sail hLR (Or.inr rfl) htq1 hfq2 htq3 hfq4) _ _ _ (by omega) Y (lv_sub hl [0, 1, 2, 3] rfl)
        · refine r_tabIn X (424) 456 dL_law_32 ⟨by omega, by omega⟩ (by omega) (by omega) (by rw [hsw]; rfl) (by decide) ?_
          refine r_aload_n X dL_law_456 hl 2 rfl ?_
          refine r_aload_n X dL_law_457 hl 3 rfl ?_
          refine r_iload_n X dL_law_458 hl 0 rfl ?_
          refine r_iconst X dL_law_459 ?_
          refine r_iadd X dL_law_460 ?_
          refine r_sld X Y hX hbl hg (z := i + 1) (by omega) (by omega) hL hv1 dL_law_461 ?_
          refine vF_i X Y [.int (iV (v1))] [] (ct_X7_drift l g tz fz v1 hHI hRG.1 rv1 hSD.1) mk_X7_drift mi_X7_drift wm_552 (by decide) (rv_7 Y rfl) rfl hl (Nat.le_of_ble_eq_true rfl) rfl dL_law_462 (Nat.le_refl _) (Nat.le_refl _) (fun H locs Y => ?_)
          obtain ⟨tq1, htq1⟩ : ∃ q, q = if driX tz fz v1 < 0 then tz else driN (putF tz fz) (v1).toNat (remT tz) := ⟨_, rfl⟩
          obtain ⟨fq2, hfq2⟩ : ∃ q, q = if driX tz fz v1 < 0 then fz else putF tz fz := ⟨_, rfl⟩
          have Y : uY g 117 (cX g tq1 fq2) s H locs := by rw [htq1, hfq2]; exact Y
          have hKH : KH tz fz tq1 fq2 := kh_drift hRG.1.1 hSD.1 htq1 hfq2
          refine r_aload_n X dL_law_465 hl 1 rfl ?_
          refine r_aload_n X dL_law_466 hl 3 rfl ?_
          refine r_iload_n X dL_law_467 hl 0 rfl ?_
          refine r_iconst X dL_law_468 ?_
          refine r_iadd X dL_law_469 ?_
          refine r_sld X Y hX hbl hg (z := i + 1) (by omega) (by omega) hL hv1 dL_law_470 ?_
          refine vR_i X Y [.int (iV (v1))] [.int (iV (driX tz fz v1))] (ct_X8_drift l g tq1 fq2 tz fz v1 (hML.kh hKH) ((hKH.1 2).trans hRG.2.1) hRG.1 ((hKH.2 101 41 (by decide)).trans hSD.2.1) hSD.1 rv1) mk_X8_drift mi_X8_drift wm_1003 (by decide) (rv_8 Y rfl) rfl hl (Nat.le_of_ble_eq_true rfl) rfl dL_law_471 (Nat.le_refl _) (Nat.le_refl _) (fun zq3 tq3 fq3 H locs hq3 Y => ?_)
          refine r_eqq X (tgt := 909) dL_law_474 (by decide) (hq3.1.symm) ?_
          refine r_iinc X dL_law_909 hl 0 rfl [(3, .int (iV (i + 4))), (2, .ref (g.1 + 100)), (1, .ref (g.1 + 0)), (0, .ref b)] (by decide) rfl (fun ls hl => ?_)
          refine r_goto X 18 dL_law_912 (by decide) ?_
          exact ih18 (i + 4) tq3 fq3 (by omega) (by omega) (LR_drift2 hLR htq1 hfq2 hq3) _ _ _ (by omega) Y (lv_sub hl [0, 1, 2, 3] rfl)
        · refine r_tabIn X (447) 479 dL_law_32 ⟨by omega, by omega⟩ (by omega) (by omega) (by rw [hsw]; rfl) (by decide) ?_
          refine r_aload_n X dL_law_479 hl 2 rfl ?_
          refine vF_i X Y [] [] (ct_X7_undo l g tz fz hHI hRG.1) mk_X7_undo mi_X7_undo wm_564 (by decide) (rv_7 Y rfl) rfl hl (Nat.le_of_ble_eq_true rfl) rfl dL_law_480 (Nat.le_refl _) (Nat.le_refl _) (fun H locs Y => ?_)
          obtain ⟨tq1, htq1⟩ : ∃ q, q = if undX tz < 0 then tz else undT tz := ⟨_, rfl⟩
          obtain ⟨fq2, hfq2⟩ : ∃ q, q = if undX tz < 0 then fz else takF tz fz := ⟨_, rfl⟩
          have Y : uY g 117 (cX g tq1 fq2) s H locs := by rw [htq1, hfq2]; exact Y
          have hKH : KH tz fz tq1 fq2 := kh_undo htq1 hfq2
          refine r_aload_n X dL_law_483 hl 1 rfl ?_
          refine vF_i X Y [] [.int (iV (undX tz))] (ct_X8_undo l g tq1 fq2 tz fz (hML.kh hKH) ((hKH.1 2).trans hRG.2.1) hRG.1.2.1) mk_X8_undo mi_X8_undo wm_968 (by decide) (rv_8 Y rfl) rfl hl (Nat.le_of_ble_eq_true rfl) rfl dL_law_484 (Nat.le_refl _) (Nat.le_refl _) (fun H locs Y => ?_)
          obtain ⟨tq3, htq3⟩ : ∃ q, q = if undX tz < 0 then tq1 else up2 tq1 100 2 (tq1 100 2 - 1) := ⟨_, rfl⟩
          obtain ⟨fq4, hfq4⟩ : ∃ q, q = if undX tz < 0 then fq2 else undF tq1 fq2 := ⟨_, rfl⟩
          have Y : uY g 117 (cX g tq3 fq4) s H locs := by rw [htq3, hfq4]; exact Y
          refine r_eqq X (tgt := 909) dL_law_487 (by decide) (rfl) ?_
          refine r_iinc X dL_law_909 hl 0 rfl [(3, .int (iV (i + 4))), (2, .ref (g.1 + 100)), (1, .ref (g.1 + 0)), (0, .ref b)] (by decide) rfl (fun ls hl => ?_)
          refine r_goto X 18 dL_law_912 (by decide) ?_
          exact ih18 (i + 4) tq3 fq4 (by omega) (by omega) (LR_undo hLR htq1 hfq2 htq3 hfq4) _ _ _ (by omega) Y (lv_sub hl [0, 1, 2, 3] rfl)
        · refine r_tabIn X (460) 492 dL_law_32 ⟨by omega, by omega⟩ (by omega) (by omega) (by rw [hsw]; rfl) (by decide) ?_
          refine r_aload_n X dL_law_492 hl 2 rfl ?_
          refine vF_i X Y [] [] (ct_X7_comesHome l g tz fz hHI) mk_X7_comesHome mi_X7_comesHome wm_572 (by decide) (rv_7 Y rfl) rfl hl (Nat.le_of_ble_eq_true rfl) rfl dL_law_493 (Nat.le_refl _) (Nat.le_refl _) (fun H locs Y => ?_)
          refine r_aload_n X dL_law_496 hl 1 rfl ?_
          refine vF_i X Y [] [.int (iV (cohX tz fz))] (ct_X8_comesHome l g tz fz tz fz hML) mk_X8_comesHome mi_X8_comesHome wm_1016 (by decide) (rv_8 Y rfl) rfl hl (Nat.le_of_ble_eq_true rfl) rfl dL_law_497 (Nat.le_refl _) (Nat.le_refl _) (fun H locs Y => ?_)
          refine r_eqq X (tgt := 909) dL_law_500 (by decide) (rfl) ?_
          refine r_iinc X dL_law_909 hl 0 rfl [(3, .int (iV (i + 4))), (2, .ref (g.1 + 100)), (1, .ref (g.1 + 0)), (0, .ref b)] (by decide) rfl (fun ls hl => ?_)
          refine r_goto X 18 dL_law_912 (by decide) ?_
          exact ih18 (i + 4) tz fz (by omega) (by omega) hLR _ _ _ (by omega) Y (lv_sub hl [0, 1, 2, 3] rfl)
        · refine r_tabIn X (473) 505 dL_law_32 ⟨by omega, by omega⟩ (by omega) (by omega) (by rw [hsw]; rfl) (by decide) ?_
          refine r_aload_n X dL_law_505 hl 2 rfl ?_
          refine vF_i X Y [] [] (ct_X7_rate l g tz fz hHI) mk_X7_rate mi_X7_rate wm_587 (by decide) (rv_7 Y rfl) rfl hl (Nat.le_of_ble_eq_true rfl) rfl dL_law_506 (Nat.le_refl _) (Nat.le_refl _) (fun H locs Y => ?_)
          refine r_aload_n X dL_law_509 hl 1 rfl ?_
          refine vF_i X Y [] [.int (iV (ratX tz fz))] (ct_X8_rate l g tz fz tz fz hML) mk_X8_rate mi_X8_rate wm_1034 (by decide) (rv_8 Y rfl) rfl hl (Nat.le_of_ble_eq_true rfl) rfl dL_law_510 (Nat.le_refl _) (Nat.le_refl _) (fun H locs Y => ?_)
          refine r_eqq X (tgt := 909) dL_law_513 (by decide) (rfl) ?_
          refine r_iinc X dL_law_909 hl 0 rfl [(3, .int (iV (i + 4))), (2, .ref (g.1 + 100)), (1, .ref (g.1 + 0)), (0, .ref b)] (by decide) rfl (fun ls hl => ?_)
          refine r_goto X 18 dL_law_912 (by decide) ?_
          exact ih18 (i + 4) tz fz (by omega) (by omega) hLR _ _ _ (by omega) Y (lv_sub hl [0, 1, 2, 3] rfl)
        · refine r_tabIn X (486) 518 dL_law_32 ⟨by omega, by omega⟩ (by omega) (by omega) (by rw [hsw]; rfl) (by decide) ?_
          refine r_aload_n X dL_law_518 hl 2 rfl ?_
          refine vF_i X Y [] [] (ct_X7_willing l g tz fz hHI) mk_X7_willing mi_X7_willing wm_596 (by decide) (rv_7 Y rfl) rfl hl (Nat.le_of_ble_eq_true rfl) rfl dL_law_519 (Nat.le_refl _) (Nat.le_refl _) (fun H locs Y => ?_)
          refine r_aload_n X dL_law_522 hl 1 rfl ?_
          refine vF_i X Y [] [.int (iV (wilX tz fz))] (ct_X8_willing l g tz fz tz fz hML) mk_X8_willing mi_X8_willing wm_1043 (by decide) (rv_8 Y rfl) rfl hl (Nat.le_of_ble_eq_true rfl) rfl dL_law_523 (Nat.le_refl _) (Nat.le_refl _) (fun H locs Y => ?_)
          refine r_eqq X (tgt := 909) dL_law_526 (by decide) (rfl) ?_
          refine r_iinc X dL_law_909 hl 0 rfl [(3, .int (iV (i + 4))), (2, .ref (g.1 + 100)), (1, .ref (g.1 + 0)), (0, .ref b)] (by decide) rfl (fun ls hl => ?_)
          refine r_goto X 18 dL_law_912 (by decide) ?_
          exact ih18 (i + 4) tz fz (by omega) (by omega) hLR _ _ _ (by omega) Y (lv_sub hl [0, 1, 2, 3] rfl)
        · refine r_tabIn X (499) 531 dL_law_32 ⟨by omega, by omega⟩ (by omega) (by omega) (by rw [hsw]; rfl) (by decide) ?_
          refine r_aload_n X dL_law_531 hl 2 rfl ?_
          refine r_aload_n X dL_law_532 hl 3 rfl ?_
          refine r_iload_n X dL_law_533 hl 0 rfl ?_
          refine r_iconst X dL_law_534 ?_
          refine r_iadd X dL_law_535 ?_
          refine r_sld X Y hX hbl hg (z := i + 1) (by omega) (by omega) hL hv1 dL_law_536 ?_
          refine vF_i X Y [.int (iV (v1))] [] (ct_X7_paid l g tz fz v1 hHI rv1) mk_X7_paid mi_X7_paid wm_600 (by decide) (rv_7 Y rfl) rfl hl (Nat.le_of_ble_eq_true rfl) rfl dL_law_537 (Nat.le_refl _) (Nat.le_refl _) (fun H locs Y => ?_)
          refine r_aload_n X dL_law_540 hl 1 rfl ?_
          refine r_aload_n X dL_law_541 hl 3 rfl ?_
          refine r_iload_n X dL_law_542 hl 0 rfl ?_
          refine r_iconst X dL_law_543 ?_
          refine r_iadd X dL_law_544 ?_
          refine r_sld X Y hX hbl hg (z := i + 1) (by omega) (by omega) hL hv1 dL_law_545 ?_
          refine vR_i X Y [.int (iV (v1))] [.int (iV (paiX tz fz v1))] (ct_X8_paid l g tz fz tz fz v1 hML rv1) mk_X8_paid mi_X8_paid wm_1047 (by decide) (rv_8 Y rfl) rfl hl (Nat.le_of_ble_eq_true rfl) rfl dL_law_546 (Nat.le_refl _) (Nat.le_refl _) (fun zq1 tq1 fq1 H locs hq1 Y => ?_)
          refine r_eqq X (tgt := 909) dL_law_549 (by decide) (hq1.1.symm) ?_
          refine r_iinc X dL_law_909 hl 0 rfl [(3, .int (iV (i + 4))), (2, .ref (g.1 + 100)), (1, .ref (g.1 + 0)), (0, .ref b)] (by decide) rfl (fun ls hl => ?_)
          refine r_goto X 18 dL_law_912 (by decide) ?_
          exact ih18 (i + 4) tq1 fq1 (by omega) (by omega) (hLR.scr hq1.2) _ _ _ (by omega) Y (lv_sub hl [0, 1, 2, 3] rfl)
        · refine r_tabIn X (522) 554 dL_law_32 ⟨by omega, by omega⟩ (by omega) (by omega) (by rw [hsw]; rfl) (by decide) ?_
          refine r_aload_n X dL_law_554 hl 2 rfl ?_
          refine r_aload_n X dL_law_555 hl 3 rfl ?_
          refine r_iload_n X dL_law_556 hl 0 rfl ?_
          refine r_iconst X dL_law_557 ?_
          refine r_iadd X dL_law_558 ?_
          refine r_sld X Y hX hbl hg (z := i + 1) (by omega) (by omega) hL hv1 dL_law_559 ?_
          refine r_aload_n X dL_law_560 hl 3 rfl ?_
          refine r_iload_n X dL_law_561 hl 0 rfl ?_
          refine r_iconst X dL_law_562 ?_
          refine r_iadd X dL_law_563 ?_
          refine r_sld X Y hX hbl hg (z := i + 2) (by omega) (by omega) hL hv2 dL_law_564 ?_
          refine r_aload_n X dL_law_565 hl 3 rfl ?_
          refine r_iload_n X dL_law_566 hl 0 rfl ?_
          refine r_iconst X dL_law_567 ?_
          refine r_iadd X dL_law_568 ?_
          refine r_sld X Y hX hbl hg (z := i + 3) (by omega) (by omega) hL hv3 dL_law_569 ?_
          refine r_if_eq X (tgt := 577) dL_law_570 (by decide) ⟨by omega, by omega⟩ (fun c570 => ?_) (fun c570 => ?_)
          · refine r_iconst X dL_law_577 ?_
            refine vF_i X Y [.int (iV (v1)), .int (iV (v2)), .int (iV (0))] [] (ct_X7_hurt l g tz fz v1 v2 0 hHI rv1 rv2 (Or.inl rfl)) mk_X7_hurt mi_X7_hurt wm_614 (by decide) (rv_7 Y rfl) rfl hl (Nat.le_of_ble_eq_true rfl) rfl dL_law_578 (Nat.le_refl _) (Nat.le_refl _) (fun H locs Y => ?_)
            refine r_aload_n X dL_law_581 hl 1 rfl ?_
            refine r_aload_n X dL_law_582 hl 3 rfl ?_
            refine r_iload_n X dL_law_583 hl 0 rfl ?_
            refine r_iconst X dL_law_584 ?_
            refine r_iadd X dL_law_585 ?_
            refine r_sld X Y hX hbl hg (z := i + 1) (by omega) (by omega) hL hv1 dL_law_586 ?_
            refine r_aload_n X dL_law_587 hl 3 rfl ?_
            refine r_iload_n X dL_law_588 hl 0 rfl ?_
            refine r_iconst X dL_law_589 ?_
            refine r_iadd X dL_law_590 ?_
            refine r_sld X Y hX hbl hg (z := i + 2) (by omega) (by omega) hL hv2 dL_law_591 ?_
            refine r_aload_n X dL_law_592 hl 3 rfl ?_
            refine r_iload_n X dL_law_593 hl 0 rfl ?_
            refine r_iconst X dL_law_594 ?_
            refine r_iadd X dL_law_595 ?_
            refine r_sld X Y hX hbl hg (z := i + 3) (by omega) (by omega) hL hv3 dL_law_596 ?_
            refine r_if_eq X (tgt := 604) dL_law_597 (by decide) ⟨by omega, by omega⟩ (fun c597 => ?_) (fun c597 => ?_)
            · refine r_iconst X dL_law_604 ?_
              refine vR_i X Y [.int (iV (v1)), .int (iV (v2)), .int (iV (0))] [.int (iV (hurX tz fz v1 v2 0))] (ct_X8_hurt l g tz fz tz fz v1 v2 0 hML rv1 rv2 (Or.inl rfl)) mk_X8_hurt mi_X8_hurt wm_1051 (by decide) (rv_8 Y rfl) rfl hl (Nat.le_of_ble_eq_true rfl) rfl dL_law_605 (Nat.le_refl _) (Nat.le_refl _) (fun zq1 tq1 fq1 H locs hq1 Y => ?_)
              refine r_eqq X (tgt := 909) dL_law_608 (by decide) (hq1.1.symm) ?_
              refine r_iinc X dL_law_909 hl 0 rfl [(3, .int (iV (i + 4))), (2, .ref (g.1 + 100)), (1, .ref (g.1 + 0)), (0, .ref b)] (by decide) rfl (fun ls hl => ?_)
              refine r_goto X 18 dL_law_912 (by decide) ?_
              exact ih18 (i + 4) tq1 fq1 (by omega) (by omega) (hLR.scr hq1.2) _ _ _ (by omega) Y (lv_sub hl [0, 1, 2, 3] rfl)
            · exact absurd c597 (by omega)
          · refine r_iconst X dL_law_573 ?_
            refine r_goto X 578 dL_law_574 (by decide) ?_
            refine vF_i X Y [.int (iV (v1)), .int (iV (v2)), .int (iV (1))] [] (ct_X7_hurt l g tz fz v1 v2 1 hHI rv1 rv2 (Or.inr rfl)) mk_X7_hurt mi_X7_hurt wm_614 (by decide) (rv_7 Y rfl) rfl hl (Nat.le_of_ble_eq_true rfl) rfl dL_law_578 (Nat.le_refl _) (Nat.le_refl _) (fun H locs Y => ?_)
            refine r_aload_n X dL_law_581 hl 1 rfl ?_
            refine r_aload_n X dL_law_582 hl 3 rfl ?_
            refine r_iload_n X dL_law_583 hl 0 rfl ?_
            refine r_iconst X dL_law_584 ?_
            refine r_iadd X dL_law_585 ?_
            refine r_sld X Y hX hbl hg (z := i + 1) (by omega) (by omega) hL hv1 dL_law_586 ?_
            refine r_aload_n X dL_law_587 hl 3 rfl ?_
            refine r_iload_n X dL_law_588 hl 0 rfl ?_
            refine r_iconst X dL_law_589 ?_
            refine r_iadd X dL_law_590 ?_
            refine r_sld X Y hX hbl hg (z := i + 2) (by omega) (by omega) hL hv2 dL_law_591 ?_
            refine r_aload_n X dL_law_592 hl 3 rfl ?_
            refine r_iload_n X dL_law_593 hl 0 rfl ?_
            refine r_iconst X dL_law_594 ?_
            refine r_iadd X dL_law_595 ?_
            refine r_sld X Y hX hbl hg (z := i + 3) (by omega) (by omega) hL hv3 dL_law_596 ?_
            refine r_if_eq X (tgt := 604) dL_law_597 (by decide) ⟨by omega, by omega⟩ (fun c597 => ?_) (fun c597 => ?_)
            · exact absurd c597 (by omega)
            · refine r_iconst X dL_law_600 ?_
              refine r_goto X 605 dL_law_601 (by decide) ?_
              refine vR_i X Y [.int (iV (v1)), .int (iV (v2)), .int (iV (1))] [.int (iV (hurX tz fz v1 v2 1))] (ct_X8_hurt l g tz fz tz fz v1 v2 1 hML rv1 rv2 (Or.inr rfl)) mk_X8_hurt mi_X8_hurt wm_1051 (by decide) (rv_8 Y rfl) rfl hl (Nat.le_of_ble_eq_true rfl) rfl dL_law_605 (Nat.le_refl _) (Nat.le_refl _) (fun zq1 tq1 fq1 H locs hq1 Y => ?_)
              refine r_eqq X (tgt := 909) dL_law_608 (by decide) (hq1.1.symm) ?_
              refine r_iinc X dL_law_909 hl 0 rfl [(3, .int (iV (i + 4))), (2, .ref (g.1 + 100)), (1, .ref (g.1 + 0)), (0, .ref b)] (by decide) rfl (fun ls hl => ?_)
              refine r_goto X 18 dL_law_912 (by decide) ?_
              exact ih18 (i + 4) tq1 fq1 (by omega) (by omega) (hLR.scr hq1.2) _ _ _ (by omega) Y (lv_sub hl [0, 1, 2, 3] rfl)
        · refine r_tabIn X (581) 613 dL_law_32 ⟨by omega, by omega⟩ (by omega) (by omega) (by rw [hsw]; rfl) (by decide) ?_
          refine r_aload_n X dL_law_613 hl 2 rfl ?_
          refine r_aload_n X dL_law_614 hl 3 rfl ?_
          refine r_iload_n X dL_law_615 hl 0 rfl ?_
          refine r_iconst X dL_law_616 ?_
          refine r_iadd X dL_law_617 ?_
          refine r_sld X Y hX hbl hg (z := i + 1) (by omega) (by omega) hL hv1 dL_law_618 ?_
          refine r_aload_n X dL_law_619 hl 3 rfl ?_
          refine r_iload_n X dL_law_620 hl 0 rfl ?_
          refine r_iconst X dL_law_621 ?_
          refine r_iadd X dL_law_622 ?_
          refine r_sld X Y hX hbl hg (z := i + 2) (by omega) (by omega) hL hv2 dL_law_623 ?_
          refine vF_i X Y [.int (iV (v1)), .int (iV (v2))] [] (ct_X7_share l g tz fz v1 v2 hHI rv1 rv2) mk_X7_share mi_X7_share wm_618 (by decide) (rv_7 Y rfl) rfl hl (Nat.le_of_ble_eq_true rfl) rfl dL_law_624 (Nat.le_refl _) (Nat.le_refl _) (fun H locs Y => ?_)
          refine r_aload_n X dL_law_627 hl 1 rfl ?_
          refine r_aload_n X dL_law_628 hl 3 rfl ?_
          refine r_iload_n X dL_law_629 hl 0 rfl ?_
          refine r_iconst X dL_law_630 ?_
          refine r_iadd X dL_law_631 ?_
          refine r_sld X Y hX hbl hg (z := i + 1) (by omega) (by omega) hL hv1 dL_law_632 ?_
          refine r_aload_n X dL_law_633 hl 3 rfl ?_
          refine r_iload_n X dL_law_634 hl 0 rfl ?_
          refine r_iconst X dL_law_635 ?_
          refine r_iadd X dL_law_636 ?_
          refine r_sld X Y hX hbl hg (z := i + 2) (by omega) (by omega) hL hv2 dL_law_637 ?_
          refine vR_i X Y [.int (iV (v1)), .int (iV (v2))] [.int (iV (shaX tz fz v1 v2))] (ct_X8_share l g tz fz tz fz v1 v2 hML rv1 rv2) mk_X8_share mi_X8_share wm_1055 (by decide) (rv_8 Y rfl) rfl hl (Nat.le_of_ble_eq_true rfl) rfl dL_law_638 (Nat.le_refl _) (Nat.le_refl _) (fun zq1 tq1 fq1 H locs hq1 Y => ?_)
          refine r_eqq X (tgt := 909) dL_law_641 (by decide) (hq1.1.symm) ?_
          refine r_iinc X dL_law_909 hl 0 rfl [(3, .int (iV (i + 4))), (2, .ref (g.1 + 100)), (1, .ref (g.1 + 0)), (0, .ref b)] (by decide) rfl (fun ls hl => ?_)
          refine r_goto X 18 dL_law_912 (by decide) ?_
          exact ih18 (i + 4) tq1 fq1 (by omega) (by omega) (hLR.scr hq1.2) _ _ _ (by omega) Y (lv_sub hl [0, 1, 2, 3] rfl)
        · refine r_tabIn X (614) 646 dL_law_32 ⟨by omega, by omega⟩ (by omega) (by omega) (by rw [hsw]; rfl) (by decide) ?_
          refine r_aload_n X dL_law_646 hl 2 rfl ?_
          refine r_aload_n X dL_law_647 hl 3 rfl ?_
          refine r_iload_n X dL_law_648 hl 0 rfl ?_
          refine r_iconst X dL_law_649 ?_
          refine r_iadd X dL_law_650 ?_
          refine r_sld X Y hX hbl hg (z := i + 1) (by omega) (by omega) hL hv1 dL_law_651 ?_
          refine vR_i X Y [.int (iV (v1))] [] (ct_X7_plan l g tz fz v1 hHI hPL.1 hLK hPL.2.1 hPL.2.2 rv1) mk_X7_plan mi_X7_plan wm_622 (by decide) (rv_7 Y rfl) rfl hl (Nat.le_of_ble_eq_true rfl) rfl dL_law_652 (Nat.le_refl _) (Nat.le_refl _) (fun zq1 tq1 fq1 H locs hq1 Y => ?_)
          have hKH := kh_plan hq1
          obtain ⟨b0, hb0⟩ := plan_eq hq1
          refine r_aload_n X dL_law_655 hl 1 rfl ?_
          refine r_aload_n X dL_law_656 hl 3 rfl ?_
          refine r_iload_n X dL_law_657 hl 0 rfl ?_
          refine r_iconst X dL_law_658 ?_
          refine r_iadd X dL_law_659 ?_
          refine r_sld X Y hX hbl hg (z := i + 1) (by omega) (by omega) hL hv1 dL_law_660 ?_
          refine vR_i X Y [.int (iV (v1))] [.int (iV (zq1))] (ct_X8_plan l g tq1 fq1 tz fz v1 b0 (hML.kh hKH) rv1) mk_X8_plan mi_X8_plan wm_1059 (by decide) (rv_8 Y rfl) rfl hl (Nat.le_of_ble_eq_true rfl) rfl dL_law_661 (Nat.le_refl _) (Nat.le_refl _) (fun zq2 tq2 fq2 H locs hq2 Y => ?_)
          refine r_eqq X (tgt := 909) dL_law_664 (by decide) ((hb0 hq2.2.2).trans hq2.2.1.symm) ?_
          refine r_iinc X dL_law_909 hl 0 rfl [(3, .int (iV (i + 4))), (2, .ref (g.1 + 100)), (1, .ref (g.1 + 0)), (0, .ref b)] (by decide) rfl (fun ls hl => ?_)
          refine r_goto X 18 dL_law_912 (by decide) ?_
          exact ih18 (i + 4) tq2 fq2 (by omega) (by omega) (LR_plan hLR hq1 hq2.1) _ _ _ (by omega) Y (lv_sub hl [0, 1, 2, 3] rfl)
        · refine r_tabIn X (637) 669 dL_law_32 ⟨by omega, by omega⟩ (by omega) (by omega) (by rw [hsw]; rfl) (by decide) ?_
          refine r_aload_n X dL_law_669 hl 2 rfl ?_
          refine r_aload_n X dL_law_670 hl 3 rfl ?_
          refine r_iload_n X dL_law_671 hl 0 rfl ?_
          refine r_iconst X dL_law_672 ?_
          refine r_iadd X dL_law_673 ?_
          refine r_sld X Y hX hbl hg (z := i + 1) (by omega) (by omega) hL hv1 dL_law_674 ?_
          refine r_aload_n X dL_law_675 hl 3 rfl ?_
          refine r_iload_n X dL_law_676 hl 0 rfl ?_
          refine r_iconst X dL_law_677 ?_
          refine r_iadd X dL_law_678 ?_
          refine r_sld X Y hX hbl hg (z := i + 2) (by omega) (by omega) hL hv2 dL_law_679 ?_
          refine vF_i X Y [.int (iV (v1)), .int (iV (v2))] [] (ct_X7_belief l g tz fz v1 v2 hHI rv1 rv2) mk_X7_belief mi_X7_belief wm_661 (by decide) (rv_7 Y rfl) rfl hl (Nat.le_of_ble_eq_true rfl) rfl dL_law_680 (Nat.le_refl _) (Nat.le_refl _) (fun H locs Y => ?_)
          refine r_aload_n X dL_law_683 hl 1 rfl ?_
          refine r_aload_n X dL_law_684 hl 3 rfl ?_
          refine r_iload_n X dL_law_685 hl 0 rfl ?_
          refine r_iconst X dL_law_686 ?_
          refine r_iadd X dL_law_687 ?_
          refine r_sld X Y hX hbl hg (z := i + 1) (by omega) (by omega) hL hv1 dL_law_688 ?_
          refine r_aload_n X dL_law_689 hl 3 rfl ?_
          refine r_iload_n X dL_law_690 hl 0 rfl ?_
          refine r_iconst X dL_law_691 ?_
          refine r_iadd X dL_law_692 ?_
          refine r_sld X Y hX hbl hg (z := i + 2) (by omega) (by omega) hL hv2 dL_law_693 ?_
          refine vF_i X Y [.int (iV (v1)), .int (iV (v2))] [.int (iV (belX tz fz v1 v2))] (ct_X8_belief l g tz fz tz fz v1 v2 hML rv1 rv2) mk_X8_belief mi_X8_belief wm_1069 (by decide) (rv_8 Y rfl) rfl hl (Nat.le_of_ble_eq_true rfl) rfl dL_law_694 (Nat.le_refl _) (Nat.le_refl _) (fun H locs Y => ?_)
          refine r_eqq X (tgt := 909) dL_law_697 (by decide) (rfl) ?_
          refine r_iinc X dL_law_909 hl 0 rfl [(3, .int (iV (i + 4))), (2, .ref (g.1 + 100)), (1, .ref (g.1 + 0)), (0, .ref b)] (by decide) rfl (fun ls hl => ?_)
          refine r_goto X 18 dL_law_912 (by decide) ?_
          exact ih18 (i + 4) tz fz (by omega) (by omega) hLR _ _ _ (by omega) Y (lv_sub hl [0, 1, 2, 3] rfl)
        · refine r_tabIn X (670) 702 dL_law_32 ⟨by omega, by omega⟩ (by omega) (by omega) (by rw [hsw]; rfl) (by decide) ?_
          refine r_aload_n X dL_law_702 hl 2 rfl ?_
          refine r_aload_n X dL_law_703 hl 3 rfl ?_
          refine r_iload_n X dL_law_704 hl 0 rfl ?_
          refine r_iconst X dL_law_705 ?_
          refine r_iadd X dL_law_706 ?_
          refine r_sld X Y hX hbl hg (z := i + 1) (by omega) (by omega) hL hv1 dL_law_707 ?_
          refine r_aload_n X dL_law_708 hl 3 rfl ?_
          refine r_iload_n X dL_law_709 hl 0 rfl ?_
          refine r_iconst X dL_law_710 ?_
          refine r_iadd X dL_law_711 ?_
          refine r_sld X Y hX hbl hg (z := i + 2) (by omega) (by omega) hL hv2 dL_law_712 ?_
          refine vF_i X Y [.int (iV (v1)), .int (iV (v2))] [] (ct_X7_need l g tz fz v1 v2 hHI rv1 rv2) mk_X7_need mi_X7_need wm_665 (by decide) (rv_7 Y rfl) rfl hl (Nat.le_of_ble_eq_true rfl) rfl dL_law_713 (Nat.le_refl _) (Nat.le_refl _) (fun H locs Y => ?_)
          refine r_aload_n X dL_law_716 hl 1 rfl ?_
          refine r_aload_n X dL_law_717 hl 3 rfl ?_
          refine r_iload_n X dL_law_718 hl 0 rfl ?_
          refine r_iconst X dL_law_719 ?_
          refine r_iadd X dL_law_720 ?_
          refine r_sld X Y hX hbl hg (z := i + 1) (by omega) (by omega) hL hv1 dL_law_721 ?_
          refine r_aload_n X dL_law_722 hl 3 rfl ?_
          refine r_iload_n X dL_law_723 hl 0 rfl ?_
          refine r_iconst X dL_law_724 ?_
          refine r_iadd X dL_law_725 ?_
          refine r_sld X Y hX hbl hg (z := i + 2) (by omega) (by omega) hL hv2 dL_law_726 ?_
          refine vF_i X Y [.int (iV (v1)), .int (iV (v2))] [.int (iV (neeX tz fz v1 v2))] (ct_X8_need l g tz fz tz fz v1 v2 hML rv1 rv2) mk_X8_need mi_X8_need wm_1073 (by decide) (rv_8 Y rfl) rfl hl (Nat.le_of_ble_eq_true rfl) rfl dL_law_727 (Nat.le_refl _) (Nat.le_refl _) (fun H locs Y => ?_)
          refine r_eqq X (tgt := 909) dL_law_730 (by decide) (rfl) ?_
          refine r_iinc X dL_law_909 hl 0 rfl [(3, .int (iV (i + 4))), (2, .ref (g.1 + 100)), (1, .ref (g.1 + 0)), (0, .ref b)] (by decide) rfl (fun ls hl => ?_)
          refine r_goto X 18 dL_law_912 (by decide) ?_
          exact ih18 (i + 4) tz fz (by omega) (by omega) hLR _ _ _ (by omega) Y (lv_sub hl [0, 1, 2, 3] rfl)
        · refine r_tabIn X (703) 735 dL_law_32 ⟨by omega, by omega⟩ (by omega) (by omega) (by rw [hsw]; rfl) (by decide) ?_
          refine r_aload_n X dL_law_735 hl 2 rfl ?_
          refine r_aload_n X dL_law_736 hl 3 rfl ?_
          refine r_iload_n X dL_law_737 hl 0 rfl ?_
          refine r_iconst X dL_law_738 ?_
          refine r_iadd X dL_law_739 ?_
          refine r_sld X Y hX hbl hg (z := i + 1) (by omega) (by omega) hL hv1 dL_law_740 ?_
          refine r_aload_n X dL_law_741 hl 3 rfl ?_
          refine r_iload_n X dL_law_742 hl 0 rfl ?_
          refine r_iconst X dL_law_743 ?_
          refine r_iadd X dL_law_744 ?_
          refine r_sld X Y hX hbl hg (z := i + 2) (by omega) (by omega) hL hv2 dL_law_745 ?_
          refine vF_i X Y [.int (iV (v1)), .int (iV (v2))] [] (ct_X7_tell l g tz fz v1 v2 hHI hTL.1.1 rv1 rv2) mk_X7_tell mi_X7_tell wm_673 (by decide) (rv_7 Y rfl) rfl hl (Nat.le_of_ble_eq_true rfl) rfl dL_law_746 (Nat.le_refl _) (Nat.le_refl _) (fun H locs Y => ?_)
          obtain ⟨tq1, htq1⟩ : ∃ q, q = if telX tz v1 v2 < 0 then tz else up2 tz 96 3 (tz 96 3 + 1) := ⟨_, rfl⟩
          obtain ⟨fq2, hfq2⟩ : ∃ q, q = if telX tz v1 v2 < 0 then fz else upA (upA fz 97 (tz 96 3 * 2 + 0) v1) 97 (tz 96 3 * 2 + 1) v2 := ⟨_, rfl⟩
          have Y : uY g 117 (cX g tq1 fq2) s H locs := by rw [htq1, hfq2]; exact Y
          have hKH : KH tz fz tq1 fq2 := kh_tell htq1 hfq2
          refine r_aload_n X dL_law_749 hl 1 rfl ?_
          refine r_aload_n X dL_law_750 hl 3 rfl ?_
          refine r_iload_n X dL_law_751 hl 0 rfl ?_
          refine r_iconst X dL_law_752 ?_
          refine r_iadd X dL_law_753 ?_
          refine r_sld X Y hX hbl hg (z := i + 1) (by omega) (by omega) hL hv1 dL_law_754 ?_
          refine r_aload_n X dL_law_755 hl 3 rfl ?_
          refine r_iload_n X dL_law_756 hl 0 rfl ?_
          refine r_iconst X dL_law_757 ?_
          refine r_iadd X dL_law_758 ?_
          refine r_sld X Y hX hbl hg (z := i + 2) (by omega) (by omega) hL hv2 dL_law_759 ?_
          refine vF_i X Y [.int (iV (v1)), .int (iV (v2))] [.int (iV (telX tz v1 v2))] (ct_X8_tell l g tq1 fq2 tz fz v1 v2 (hML.kh hKH) ((hKH.1 31).trans hTL.2.1) hTL.1.1 rv1 rv2) mk_X8_tell mi_X8_tell wm_1077 (by decide) (rv_8 Y rfl) rfl hl (Nat.le_of_ble_eq_true rfl) rfl dL_law_760 (Nat.le_refl _) (Nat.le_refl _) (fun H locs Y => ?_)
          obtain ⟨tq3, htq3⟩ : ∃ q, q = if telX tz v1 v2 < 0 then tq1 else up2 tq1 100 31 (tq1 100 31 + 1) := ⟨_, rfl⟩
          obtain ⟨fq4, hfq4⟩ : ∃ q, q = if telX tz v1 v2 < 0 then fq2 else upA (upA fq2 114 (tq1 100 31) v1) 115 (tq1 100 31) v2 := ⟨_, rfl⟩
          have Y : uY g 117 (cX g tq3 fq4) s H locs := by rw [htq3, hfq4]; exact Y
          refine r_eqq X (tgt := 909) dL_law_763 (by decide) (rfl) ?_
          refine r_iinc X dL_law_909 hl 0 rfl [(3, .int (iV (i + 4))), (2, .ref (g.1 + 100)), (1, .ref (g.1 + 0)), (0, .ref b)] (by decide) rfl (fun ls hl => ?_)
          refine r_goto X 18 dL_law_912 (by decide) ?_
          exact ih18 (i + 4) tq3 fq4 (by omega) (by omega) (LR_tell hLR htq1 hfq2 htq3 hfq4) _ _ _ (by omega) Y (lv_sub hl [0, 1, 2, 3] rfl)
        · refine r_tabIn X (736) 768 dL_law_32 ⟨by omega, by omega⟩ (by omega) (by omega) (by rw [hsw]; rfl) (by decide) ?_
          refine r_aload_n X dL_law_768 hl 2 rfl ?_
          refine r_aload_n X dL_law_769 hl 3 rfl ?_
          refine r_iload_n X dL_law_770 hl 0 rfl ?_
          refine r_iconst X dL_law_771 ?_
          refine r_iadd X dL_law_772 ?_
          refine r_sld X Y hX hbl hg (z := i + 1) (by omega) (by omega) hL hv1 dL_law_773 ?_
          refine vF_i X Y [.int (iV (v1))] [] (ct_X7_worth l g tz fz v1 hHI hTL.1 rv1) mk_X7_worth mi_X7_worth wm_677 (by decide) (rv_7 Y rfl) rfl hl (Nat.le_of_ble_eq_true rfl) rfl dL_law_774 (Nat.le_refl _) (Nat.le_refl _) (fun H locs Y => ?_)
          refine r_aload_n X dL_law_777 hl 1 rfl ?_
          refine r_aload_n X dL_law_778 hl 3 rfl ?_
          refine r_iload_n X dL_law_779 hl 0 rfl ?_
          refine r_iconst X dL_law_780 ?_
          refine r_iadd X dL_law_781 ?_
          refine r_sld X Y hX hbl hg (z := i + 1) (by omega) (by omega) hL hv1 dL_law_782 ?_
          refine vR_i X Y [.int (iV (v1))] [.int (iV (worX tz fz v1))] (ct_X8_worth l g tz fz tz fz v1 hML hTL.1 hTL.2.1 hTL.2.2 rv1) mk_X8_worth mi_X8_worth wm_1082 (by decide) (rv_8 Y rfl) rfl hl (Nat.le_of_ble_eq_true rfl) rfl dL_law_783 (Nat.le_refl _) (Nat.le_refl _) (fun zq1 tq1 fq1 H locs hq1 Y => ?_)
          refine r_eqq X (tgt := 909) dL_law_786 (by decide) (hq1.1.symm) ?_
          refine r_iinc X dL_law_909 hl 0 rfl [(3, .int (iV (i + 4))), (2, .ref (g.1 + 100)), (1, .ref (g.1 + 0)), (0, .ref b)] (by decide) rfl (fun ls hl => ?_)
          refine r_goto X 18 dL_law_912 (by decide) ?_
          exact ih18 (i + 4) tq1 fq1 (by omega) (by omega) (hLR.scr hq1.2) _ _ _ (by omega) Y (lv_sub hl [0, 1, 2, 3] rfl)
        · refine r_tabIn X (759) 791 dL_law_32 ⟨by omega, by omega⟩ (by omega) (by omega) (by rw [hsw]; rfl) (by decide) ?_
          refine r_aload_n X dL_law_791 hl 2 rfl ?_
          refine r_aload_n X dL_law_792 hl 3 rfl ?_
          refine r_iload_n X dL_law_793 hl 0 rfl ?_
          refine r_iconst X dL_law_794 ?_
          refine r_iadd X dL_law_795 ?_
          refine r_sld X Y hX hbl hg (z := i + 1) (by omega) (by omega) hL hv1 dL_law_796 ?_
          refine vF_i X Y [.int (iV (v1))] [] (ct_X7_write l g tz fz v1 hBK.1.1 rv1) mk_X7_write mi_X7_write wm_702 (by decide) (rv_7 Y rfl) rfl hl (Nat.le_of_ble_eq_true rfl) rfl dL_law_797 (Nat.le_refl _) (Nat.le_refl _) (fun H locs Y => ?_)
          obtain ⟨tq1, htq1⟩ : ∃ q, q = if wriX tz v1 < 0 then tz else up2 tz 98 3 (tz 98 3 + 1) := ⟨_, rfl⟩
          obtain ⟨fq2, hfq2⟩ : ∃ q, q = if wriX tz v1 < 0 then fz else upA fz 99 (tz 98 3) v1 := ⟨_, rfl⟩
          have Y : uY g 117 (cX g tq1 fq2) s H locs := by rw [htq1, hfq2]; exact Y
          have hKH : KH tz fz tq1 fq2 := kh_write htq1 hfq2
          refine r_aload_n X dL_law_800 hl 1 rfl ?_
          refine r_aload_n X dL_law_801 hl 3 rfl ?_
          refine r_iload_n X dL_law_802 hl 0 rfl ?_
          refine r_iconst X dL_law_803 ?_
          refine r_iadd X dL_law_804 ?_
          refine r_sld X Y hX hbl hg (z := i + 1) (by omega) (by omega) hL hv1 dL_law_805 ?_
          refine vF_i X Y [.int (iV (v1))] [.int (iV (wriX tz v1))] (ct_X8_write l g tq1 fq2 tz fz v1 ((hKH.1 34).trans hBK.2.1) hBK.1.1 rv1) mk_X8_write mi_X8_write wm_1087 (by decide) (rv_8 Y rfl) rfl hl (Nat.le_of_ble_eq_true rfl) rfl dL_law_806 (Nat.le_refl _) (Nat.le_refl _) (fun H locs Y => ?_)
          obtain ⟨tq3, htq3⟩ : ∃ q, q = if wriX tz v1 < 0 then tq1 else up2 tq1 100 34 (tq1 100 34 + 1) := ⟨_, rfl⟩
          obtain ⟨fq4, hfq4⟩ : ∃ q, q = if wriX tz v1 < 0 then fq2 else upA fq2 116 (tq1 100 34) v1 := ⟨_, rfl⟩
          have Y : uY g 117 (cX g tq3 fq4) s H locs := by rw [htq3, hfq4]; exact Y
          refine r_eqq X (tgt := 909) dL_law_809 (by decide) (rfl) ?_
          refine r_iinc X dL_law_909 hl 0 rfl [(3, .int (iV (i + 4))), (2, .ref (g.1 + 100)), (1, .ref (g.1 + 0)), (0, .ref b)] (by decide) rfl (fun ls hl => ?_)
          refine r_goto X 18 dL_law_912 (by decide) ?_
          exact ih18 (i + 4) tq3 fq4 (by omega) (by omega) (LR_write hLR htq1 hfq2 htq3 hfq4) _ _ _ (by omega) Y (lv_sub hl [0, 1, 2, 3] rfl)
        · refine r_tabIn X (782) 814 dL_law_32 ⟨by omega, by omega⟩ (by omega) (by omega) (by rw [hsw]; rfl) (by decide) ?_
          refine r_aload_n X dL_law_814 hl 2 rfl ?_
          refine vF_i X Y [] [] (ct_X7_tear l g tz fz ) mk_X7_tear mi_X7_tear wm_706 (by decide) (rv_7 Y rfl) rfl hl (Nat.le_of_ble_eq_true rfl) rfl dL_law_815 (Nat.le_refl _) (Nat.le_refl _) (fun H locs Y => ?_)
          obtain ⟨tq1, htq1⟩ : ∃ q, q = up2 (up2 tz 96 3 0) 98 3 0 := ⟨_, rfl⟩
          have Y : uY g 117 (cX g tq1 fz) s H locs := by rw [htq1]; exact Y
          refine r_aload_n X dL_law_818 hl 1 rfl ?_
          refine vF_i X Y [] [.int (iV (tz 96 3 + tz 98 3))] (ct_X8_tear l g tq1 fz ) mk_X8_tear mi_X8_tear wm_1091 (by decide) (rv_8 Y rfl) rfl hl (Nat.le_of_ble_eq_true rfl) rfl dL_law_819 (Nat.le_refl _) (Nat.le_refl _) (fun H locs Y => ?_)
          obtain ⟨tq2, htq2⟩ : ∃ q, q = up2 (up2 tq1 100 31 0) 100 34 0 := ⟨_, rfl⟩
          have Y : uY g 117 (cX g tq2 fz) s H locs := by rw [htq2]; exact Y
          refine r_eqq X (tgt := 909) dL_law_822 (by decide) (by rw [htq1, up2_ne _ _ (by omega), up2_ne _ _ (by omega), up2_ne _ _ (by omega), up2_ne _ _ (by omega), hTL.2.1, hBK.2.1]) ?_
          refine r_iinc X dL_law_909 hl 0 rfl [(3, .int (iV (i + 4))), (2, .ref (g.1 + 100)), (1, .ref (g.1 + 0)), (0, .ref b)] (by decide) rfl (fun ls hl => ?_)
          refine r_goto X 18 dL_law_912 (by decide) ?_
          exact ih18 (i + 4) tq2 fz (by omega) (by omega) (LR_tear hLR htq1 htq2) _ _ _ (by omega) Y (lv_sub hl [0, 1, 2, 3] rfl)
        · refine r_tabIn X (795) 827 dL_law_32 ⟨by omega, by omega⟩ (by omega) (by omega) (by rw [hsw]; rfl) (by decide) ?_
          refine r_aload_n X dL_law_827 hl 2 rfl ?_
          refine vF_i X Y [] [] (ct_X7_judge l g tz fz hHI hBK.1) mk_X7_judge mi_X7_judge wm_710 (by decide) (rv_7 Y rfl) rfl hl (Nat.le_of_ble_eq_true rfl) rfl dL_law_828 (Nat.le_refl _) (Nat.le_refl _) (fun H locs Y => ?_)
          refine r_aload_n X dL_law_831 hl 1 rfl ?_
          refine vF_i X Y [] [.int (iV (judX tz fz))] (ct_X8_judge l g tz fz tz fz hML hBK.2.1 hBK.1 hBK.2.2) mk_X8_judge mi_X8_judge wm_1095 (by decide) (rv_8 Y rfl) rfl hl (Nat.le_of_ble_eq_true rfl) rfl dL_law_832 (Nat.le_refl _) (Nat.le_refl _) (fun H locs Y => ?_)
          refine r_eqq X (tgt := 909) dL_law_835 (by decide) (rfl) ?_
          refine r_iinc X dL_law_909 hl 0 rfl [(3, .int (iV (i + 4))), (2, .ref (g.1 + 100)), (1, .ref (g.1 + 0)), (0, .ref b)] (by decide) rfl (fun ls hl => ?_)
          refine r_goto X 18 dL_law_912 (by decide) ?_
          exact ih18 (i + 4) tz fz (by omega) (by omega) hLR _ _ _ (by omega) Y (lv_sub hl [0, 1, 2, 3] rfl)
        · refine r_tabIn X (808) 840 dL_law_32 ⟨by omega, by omega⟩ (by omega) (by omega) (by rw [hsw]; rfl) (by decide) ?_
          refine r_aload_n X dL_law_840 hl 2 rfl ?_
          refine r_aload_n X dL_law_841 hl 3 rfl ?_
          refine r_iload_n X dL_law_842 hl 0 rfl ?_
          refine r_iconst X dL_law_843 ?_
          refine r_iadd X dL_law_844 ?_
          refine r_sld X Y hX hbl hg (z := i + 1) (by omega) (by omega) hL hv1 dL_law_845 ?_
          refine vF_i X Y [.int (iV (v1))] [] (ct_X7_seed l g tz fz v1 rv1) mk_X7_seed mi_X7_seed wm_714 (by decide) (rv_7 Y rfl) rfl hl (Nat.le_of_ble_eq_true rfl) rfl dL_law_846 (Nat.le_refl _) (Nat.le_refl _) (fun H locs Y => ?_)
          obtain ⟨tq1, htq1⟩ : ∃ q, q = if v1 < 0 then tz else up2 tz 0 11 v1 := ⟨_, rfl⟩
          have Y : uY g 117 (cX g tq1 fz) s H locs := by rw [htq1]; exact Y
          refine r_aload_n X dL_law_849 hl 1 rfl ?_
          refine r_aload_n X dL_law_850 hl 3 rfl ?_
          refine r_iload_n X dL_law_851 hl 0 rfl ?_
          refine r_iconst X dL_law_852 ?_
          refine r_iadd X dL_law_853 ?_
          refine r_sld X Y hX hbl hg (z := i + 1) (by omega) (by omega) hL hv1 dL_law_854 ?_
          refine vF_i X Y [.int (iV (v1))] [.int (iV (if v1 < 0 then -1000000002 else tz 0 11))] (ct_X8_seed l g tq1 fz v1 rv1) mk_X8_seed mi_X8_seed wm_1099 (by decide) (rv_8 Y rfl) rfl hl (Nat.le_of_ble_eq_true rfl) rfl dL_law_855 (Nat.le_refl _) (Nat.le_refl _) (fun H locs Y => ?_)
          obtain ⟨fq2, hfq2⟩ : ∃ q, q = if v1 < 0 then fz else upA fz 101 41 v1 := ⟨_, rfl⟩
          have Y : uY g 117 (cX g tq1 fq2) s H locs := by rw [hfq2]; exact Y
          refine r_eqq X (tgt := 909) dL_law_858 (by decide) (by rw [hSD.2.1]) ?_
          refine r_iinc X dL_law_909 hl 0 rfl [(3, .int (iV (i + 4))), (2, .ref (g.1 + 100)), (1, .ref (g.1 + 0)), (0, .ref b)] (by decide) rfl (fun ls hl => ?_)
          refine r_goto X 18 dL_law_912 (by decide) ?_
          exact ih18 (i + 4) tq1 fq2 (by omega) (by omega) (LR_seed hLR rv1 htq1 hfq2) _ _ _ (by omega) Y (lv_sub hl [0, 1, 2, 3] rfl)
        · refine r_tabIn X (831) 863 dL_law_32 ⟨by omega, by omega⟩ (by omega) (by omega) (by rw [hsw]; rfl) (by decide) ?_
          refine r_aload_n X dL_law_863 hl 2 rfl ?_
          refine r_aload_n X dL_law_864 hl 3 rfl ?_
          refine r_iload_n X dL_law_865 hl 0 rfl ?_
          refine r_iconst X dL_law_866 ?_
          refine r_iadd X dL_law_867 ?_
          refine r_sld X Y hX hbl hg (z := i + 1) (by omega) (by omega) hL hv1 dL_law_868 ?_
          refine vF_i X Y [.int (iV (v1))] [] (ct_X7_keep l g tz fz v1 hHI hKP.1.1.1 hKP.2.1.1 rv1) mk_X7_keep mi_X7_keep wm_718 (by decide) (rv_7 Y rfl) rfl hl (Nat.le_of_ble_eq_true rfl) rfl dL_law_869 (Nat.le_refl _) (Nat.le_refl _) (fun H locs Y => ?_)
          obtain ⟨tq1, htq1⟩ : ∃ q, q = if v1 = 0 then kepT tz 83 else if v1 = 1 then kepT tz 87 else tz := ⟨_, rfl⟩
          obtain ⟨fq2, hfq2⟩ : ∃ q, q = if v1 = 0 then cpA fz 20 86 40 else if v1 = 1 then cpA fz 20 90 40 else fz := ⟨_, rfl⟩
          have Y : uY g 117 (cX g tq1 fq2) s H locs := by rw [htq1, hfq2]; exact Y
          refine r_aload_n X dL_law_872 hl 1 rfl ?_
          refine r_aload_n X dL_law_873 hl 3 rfl ?_
          refine r_iload_n X dL_law_874 hl 0 rfl ?_
          refine r_iconst X dL_law_875 ?_
          refine r_iadd X dL_law_876 ?_
          refine r_sld X Y hX hbl hg (z := i + 1) (by omega) (by omega) hL hv1 dL_law_877 ?_
          refine vF_i X Y [.int (iV (v1))] [.int (iV (if v1 = 0 ∨ v1 = 1 then 1 else -1000000001))] (ct_X8_keep l g tq1 fq2 v1 rv1) mk_X8_keep mi_X8_keep wm_1103 (by decide) (rv_8 Y rfl) rfl hl (Nat.le_of_ble_eq_true rfl) rfl dL_law_878 (Nat.le_refl _) (Nat.le_refl _) (fun H locs Y => ?_)
          obtain ⟨tq3, htq3⟩ : ∃ q, q = if v1 = 0 ∨ v1 = 1 then up2 tq1 100 2 0 else tq1 := ⟨_, rfl⟩
          obtain ⟨fq4, hfq4⟩ : ∃ q, q = if v1 = 0 ∨ v1 = 1 then kepF fq2 v1 else fq2 := ⟨_, rfl⟩
          have Y : uY g 117 (cX g tq3 fq4) s H locs := by rw [htq3, hfq4]; exact Y
          refine r_eqq X (tgt := 909) dL_law_881 (by decide) (rfl) ?_
          refine r_iinc X dL_law_909 hl 0 rfl [(3, .int (iV (i + 4))), (2, .ref (g.1 + 100)), (1, .ref (g.1 + 0)), (0, .ref b)] (by decide) rfl (fun ls hl => ?_)
          refine r_goto X 18 dL_law_912 (by decide) ?_
          exact ih18 (i + 4) tq3 fq4 (by omega) (by omega) (LR_keep hLR htq1 hfq2 htq3 hfq4) _ _ _ (by omega) Y (lv_sub hl [0, 1, 2, 3] rfl)
        · refine r_tabIn X (854) 886 dL_law_32 ⟨by omega, by omega⟩ (by omega) (by omega) (by rw [hsw]; rfl) (by decide) ?_
          refine r_aload_n X dL_law_886 hl 2 rfl ?_
          refine r_aload_n X dL_law_887 hl 3 rfl ?_
          refine r_iload_n X dL_law_888 hl 0 rfl ?_
          refine r_iconst X dL_law_889 ?_
          refine r_iadd X dL_law_890 ?_
          refine r_sld X Y hX hbl hg (z := i + 1) (by omega) (by omega) hL hv1 dL_law_891 ?_
          refine vF_i X Y [.int (iV (v1))] [] (ct_X7_goBack l g tz fz v1 hHI hgb.1.1 hgb.1.2 hgb.2.1 hgb.2.2.1 rv1) mk_X7_goBack mi_X7_goBack wm_727 (by decide) (rv_7 Y rfl) rfl hl (Nat.le_of_ble_eq_true rfl) rfl dL_law_892 (Nat.le_refl _) (Nat.le_refl _) (fun H locs Y => ?_)
          obtain ⟨tq1, htq1⟩ : ∃ q, q = if gobX tz v1 < 0 then tz else if v1 = 0 then gobT tz 83 else gobT tz 87 := ⟨_, rfl⟩
          obtain ⟨fq2, hfq2⟩ : ∃ q, q = if gobX tz v1 < 0 then fz else if v1 = 0 then cpA fz 86 20 40 else cpA fz 90 20 40 := ⟨_, rfl⟩
          have Y : uY g 117 (cX g tq1 fq2) s H locs := by rw [htq1, hfq2]; exact Y
          have hKH : KH tz fz tq1 fq2 := kh_goBack htq1 hfq2
          refine r_aload_n X dL_law_895 hl 1 rfl ?_
          refine r_aload_n X dL_law_896 hl 3 rfl ?_
          refine r_iload_n X dL_law_897 hl 0 rfl ?_
          refine r_iconst X dL_law_898 ?_
          refine r_iadd X dL_law_899 ?_
          refine r_sld X Y hX hbl hg (z := i + 1) (by omega) (by omega) hL hv1 dL_law_900 ?_
          refine vF_i X Y [.int (iV (v1))] [.int (iV (gobX tz v1))] (ct_X8_goBack l g tq1 fq2 tz fz v1 rv1 ((hKH.2 102 0 (by decide)).trans hgb.2.2.2.1) ((hKH.2 102 1 (by decide)).trans hgb.2.2.2.2) hgb.2.1 hgb.2.2.1) mk_X8_goBack mi_X8_goBack wm_1107 (by decide) (rv_8 Y rfl) rfl hl (Nat.le_of_ble_eq_true rfl) rfl dL_law_901 (Nat.le_refl _) (Nat.le_refl _) (fun H locs Y => ?_)
          obtain ⟨tq3, htq3⟩ : ∃ q, q = if gobX tz v1 < 0 then tq1 else up2 tq1 100 2 0 := ⟨_, rfl⟩
          obtain ⟨fq4, hfq4⟩ : ∃ q, q = if gobX tz v1 < 0 then fq2 else cpW fq2 (84 + 42 * v1) 0 := ⟨_, rfl⟩
          have Y : uY g 117 (cX g tq3 fq4) s H locs := by rw [htq3, hfq4]; exact Y
          refine r_eqq X (tgt := 909) dL_law_904 (by decide) (rfl) ?_
          refine r_iinc X dL_law_909 hl 0 rfl [(3, .int (iV (i + 4))), (2, .ref (g.1 + 100)), (1, .ref (g.1 + 0)), (0, .ref b)] (by decide) rfl (fun ls hl => ?_)
          refine r_goto X 18 dL_law_912 (by decide) ?_
          exact ih18 (i + 4) tq3 fq4 (by omega) (by omega) (LR_goBack hLR htq1 hfq2 htq3 hfq4) _ _ _ (by omega) Y (lv_sub hl [0, 1, 2, 3] rfl)
  exact loop18 (((L - (0:Int)).toNat) + 1) 0 t0N (fun _ _ => 0) (by omega) (by omega) LR_init _ _ _ (Nat.lt_succ_self _) Y (lv_sub hl [0, 1, 2, 3] rfl)
set_option maxHeartbeats 4000000 in
set_option maxRecDepth 100000 in
/-- YOUR PART: from the entry, for every script of at most 256 ints, the law comes to its end with true -/
theorem whole_start {p : Program} {e : Env} {s : State} {m : MethodId} {below : List Frame} {meth : Method} {c : Code} (l : Launch) (hflags : l.flags = flags0) {b L : Nat} {xs : Nat → Int32} (hL : L ≤ 256) (C0 : lw_At p s m meth c b L xs) : W p l e room_1 s m #[Value.ref b] below meth c s.heap [] 0 0 (lw_Z below #[Value.ref b] s) (entryFrame m ([Value.ref b] : List Value).toArray 4) := by
  obtain ⟨hx, hb, hr, hml, hown, hts, hX, hbl, hlocks, hgv⟩ := id C0
  obtain ⟨g, hg, Y⟩ := law_uY C0
  have X : uX p 40 room_1 s m #[Value.ref b] c code 4 RL := ⟨hx, hb, hml, hown, fun w hw => hts w (T0_lw hw), Nat.le_of_ble_eq_true rfl, Nat.le_of_ble_eq_true rfl⟩
  have hl := lv_entry ([.ref b]) (n := 4) (Nat.le_of_ble_eq_true rfl)
  rw [lg_entry_eq]
  generalize (lg_sl ([.ref b]) ++ List.replicate (4 - (lg_sl ([.ref b])).length) Slot.unset).toArray = ls at hl ⊢
  have hl : lv_has ls 4 [(0, .ref b)] := hl
  refine u_new (ci := 7) X Y fw_X7 tyX7 tyX7_ok wm_72 wm_73 wm_61 rfl bk_7 (Nat.le_of_ble_eq_true rfl) (Nat.le_of_ble_eq_true rfl) dL_law_0 (fun H Y => ?_)
  refine r_dup X dL_law_3 rfl ?_
  refine u_bv Y (u_runI (As := []) (rest := [.ref (g.1 + 0)]) X Y (cc_X7_init l g _ (va_up_self _ _ _)) mk_X7_init mi_X7_init rfl wm_74 (by decide) rfl hl (Nat.le_of_ble_eq_true rfl) rfl dL_law_4 ⟨Nat.le_of_ble_eq_true rfl, Nat.le_of_ble_eq_true rfl⟩) (fun E1 H locs hu1 Y => ?_)
  refine r_astore_n X dL_law_7 hl [(1, .ref (g.1 + 0)), (0, .ref b)] (by decide) rfl (fun ls hl => ?_)
  refine u_new (ci := 8) X Y fw_X8 tyX8 tyX8_ok wm_731 wm_732 wm_70 rfl bk_8 (Nat.le_of_ble_eq_true rfl) (Nat.le_of_ble_eq_true rfl) dL_law_8 (fun H Y => ?_)
  refine r_dup X dL_law_11 rfl ?_
  refine u_bv Y (u_runI (As := []) (rest := [.ref (g.1 + 100)]) X Y (cc_X8_init l g _ (va_up_self _ _ _)) mk_X8_init mi_X8_init rfl wm_733 (by decide) rfl hl (Nat.le_of_ble_eq_true rfl) rfl dL_law_12 ⟨Nat.le_of_ble_eq_true rfl, Nat.le_of_ble_eq_true rfl⟩) (fun E2 H locs hu2 Y => ?_)
  refine r_astore_n X dL_law_15 hl [(2, .ref (g.1 + 100)), (1, .ref (g.1 + 0)), (0, .ref b)] (by decide) rfl (fun ls hl => ?_)
  refine W.widen (k := 600000) (n := 7302250) (Nat.le_of_ble_eq_true rfl) (Nat.le_of_ble_eq_true rfl) ?_
  have Y : uY g 117 (cX g t0N (fun _ _ => 0)) s H locs := Y.congr (fun j hj => by
    rcases Nat.lt_or_ge j 100 with q | q
    · rw [hu2.1 j q, va_up_ne _ _ (by omega)]
      exact hu1.2 j (by omega) q
    · exact hu2.2 j q hj)
  exact law_main l hL hg X hr hlocks hX hbl Y hl

/-! what each act leaves: undo, keep, goBack; the beginning -/
theorem MV.same {t t2 : uN} {f f2 : uF} (h : MV t f t f) (ht : ∀ k, k = 12 ∨ k = 14 ∨ k = 16 → t2 k 3 = t k 3) (hf : ∀ k i, k = 13 ∨ k = 15 ∨ k = 17 ∨ (103 ≤ k ∧ k ≤ 107) → f2 k i = f k i) (hm : ∀ j, j = 3 ∨ j = 4 ∨ j = 5 ∨ j = 6 ∨ j = 10 → t2 100 j = t 100 j) : MV t2 f2 t2 f2 := by
  have g12 : ∀ r c, tget t2 f2 12 r c = tget t f 12 r c := tget_same (ht 12 (by omega)) (fun i => hf 13 i (by omega))
  have g14 : ∀ r c, tget t2 f2 14 r c = tget t f 14 r c := tget_same (ht 14 (by omega)) (fun i => hf 15 i (by omega))
  have g16 : ∀ r c, tget t2 f2 16 r c = tget t f 16 r c := tget_same (ht 16 (by omega)) (fun i => hf 17 i (by omega))
  obtain ⟨⟨v1, v2, v3, v4, v5⟩, v6, v7⟩ := h
  refine ⟨⟨?_, ?_, ?_, ?_, ?_⟩, fun i q1 q2 => ?_, fun i q1 q2 => ?_⟩
  · rw [hm 3 (by omega), ht 12 (by omega)]; exact v1
  · rw [hm 4 (by omega), g12]; exact v2
  · rw [hm 5 (by omega), g12]; exact v3
  · rw [hm 6 (by omega), ht 14 (by omega)]; exact v4
  · rw [hm 10 (by omega), ht 16 (by omega)]; exact v5
  · rw [hf 103 i (by omega), hf 104 i (by omega), hf 105 i (by omega), g14, g14, g14]; exact v6 i q1 (by rw [← ht 14 (by omega)]; exact q2)
  · rw [hf 106 i (by omega), hf 107 i (by omega), g16, g16]; exact v7 i q1 (by rw [← ht 16 (by omega)]; exact q2)
/-- a ship that is taken back -/
theorem LR.load {t t2 : uN} {f f2 : uF} {K : Nat} {w : Int} (h : LR t f) (hK : kd K = 4) (im : IM t f K w) (T : ∀ k j, k < 100 → k ≠ 18 → k ≠ 19 → ¬ (k = 0 ∧ j = 11) → k ≠ 21 → k ≠ 91 → t2 k j = t k j) (c18 : ∀ j, 1 ≤ j → j ≤ 4 → t2 18 j = t K j) (c19 : t2 19 3 = t (K + 1) 3) (F : ∀ k i, k < 100 → k ≠ 20 → f2 k i = f k i) (cf : ∀ i : Int, 0 ≤ i → i < 40 → f2 20 i = f (K + 2) i)
    (hm : ∀ j, j ≠ 2 → t2 100 j = t 100 j) (hg : ∀ k i, 102 ≤ k → f2 k i = f k i) (hw : ∀ i : Int, 0 ≤ i → i < 41 → f2 101 i = f 101 (w + i)) (hw2 : ∀ i : Int, 42 ≤ i → f2 101 i = f 101 i) (sd : (0 ≤ t2 0 11 ∧ t2 0 11 ≤ 2147483647) ∧ f2 101 41 = t2 0 11)
    (r1 : 0 ≤ t2 21 1 ∧ t2 21 1 < 20) (r2 : 0 ≤ t2 21 2 ∧ t2 21 2 ≤ 20) (r3 : t2 100 2 = t2 21 2) (r4 : ∀ j, 0 ≤ j → j < t2 21 2 → rcX t2 j = rcX t j ∧ j < t 21 2) (h6 : t2 91 6 = 0) : LR t2 f2 := by
  obtain ⟨a, b, c, d, e, g, i, j⟩ := h
  have v : ∀ c j, c = 12 ∨ c = 14 ∨ c = 16 → t2 c j = t c j := fun c j hc => T c j (by omega) (by omega) (by omega) (by omega) (by omega) (by omega)
  have vf : ∀ c, c = 13 ∨ c = 15 ∨ c = 17 → ∀ i, f2 c i = f c i := fun c hc i => F c i (by omega) (by omega)
  have im2 : IM t2 f2 18 0 := im.cp hK rfl (v 12 3 (by omega)) (v 14 3 (by omega)) (v 16 3 (by omega)) vf c18 c19 cf (fun i i0 i1 => by rw [Int.zero_add]; exact hw i i0 i1)
  have hV : VOK t2 f2 11 := a.1.1.of (v 12 3 (by omega)) (v 14 3 (by omega)) (v 16 3 (by omega)) vf
  refine ⟨⟨⟨hV, im2.1.1⟩, im2.1, fun z => ?_, a.2.2.2.1.same (fun k hk => v k 3 hk) (fun k i hk => ?_) (fun j hj => hm j (by omega)), im2.2⟩,
    b.of (T 1 3 (by omega) (by omega) (by omega) (by omega) (by omega) (by omega)) (fun i => F 2 i (by omega) (by omega)) (hm 14 (by omega)) (fun i => hg 108 i (by omega)),
    c.of (T 96 3 (by omega) (by omega) (by omega) (by omega) (by omega) (by omega)) (fun i => F 97 i (by omega) (by omega)) (hm 31 (by omega)) (fun k i hk => hg k i (by omega)),
    d.of (T 98 3 (by omega) (by omega) (by omega) (by omega) (by omega) (by omega)) (fun i => F 99 i (by omega) (by omega)) (hm 34 (by omega)) (fun i => hg 116 i (by omega)),
    ⟨sd.1, sd.2, by rw [hm 19 (by omega), T 0 10 (by omega) (by omega) (by omega) (by omega) (by omega) (by omega)]; exact e.2.2⟩,
    ⟨⟨r1, r2, fun j hj => SOK_off (g.1.2.2 j hj) (fun i => T _ i (by omega) (by omega) (by omega) (by omega) (by omega) (by omega)) (T _ 3 (by omega) (by omega) (by omega) (by omega) (by omega) (by omega)) (fun i => F _ i (by omega) (by omega))⟩, r3, fun j j0 j1 => ?_⟩,
    i.of (fun k j hk => T k j (by omega) (by omega) (by omega) (by omega) (by omega) (by omega)) (fun k i hk => F k i (by omega) (by omega)) (fun i => hg 102 i (by omega)) (fun i i0 i1 => hw2 i (by omega)),
    j.off (T 94 3 (by omega) (by omega) (by omega) (by omega) (by omega) (by omega)) h6⟩
  · rw [v 14 3 (by omega), v 16 3 (by omega)]; exact a.2.2.1 (by rw [← v 12 3 (by omega)]; exact z)
  · rcases hk with hk | hk | hk | hk
    · exact vf k (by omega) i
    · exact vf k (by omega) i
    · exact vf k (by omega) i
    · exact hg k i (by omega)
  · obtain ⟨q1, q2⟩ := r4 j j0 j1
    have hb : 23 ≤ rcX t j ∧ rcX t j ≤ 80 := by unfold rcX; omega
    rw [q1]
    exact (g.2.2 j j0 q2).same (rcX_kd t j) v vf (fun i => T _ i (by omega) (by omega) (by omega) (by omega) (by omega) (by omega)) (T _ 3 (by omega) (by omega) (by omega) (by omega) (by omega) (by omega)) (fun i => F _ i (by omega) (by omega)) (fun i i0 i1 => hw2 i (by omega))
theorem cpW_in (f : uF) (x y : Int) {i : Int} (h0 : y ≤ i) (h1 : i < y + 42) : cpW f x y 101 i = f 101 (x + (i - y)) := by unfold cpW; rw [if_pos rfl, if_pos ⟨h0, h1⟩]
theorem cpW_out (f : uF) (x y : Int) {i : Int} (h : ¬ (y ≤ i ∧ i < y + 42)) : cpW f x y 101 i = f 101 i := by unfold cpW; rw [if_pos rfl, if_neg h]
theorem cpW_k (f : uF) (x y : Int) {k : Nat} (h : k ≠ 101) (i : Int) : cpW f x y k i = f k i := by unfold cpW; rw [if_neg h]
theorem LR_undo {t t1 t2 : uN} {f f1 f2 : uF} (h : LR t f) (h1 : t1 = if undX t < 0 then t else undT t) (h2 : f1 = if undX t < 0 then f else takF t f) (h3 : t2 = if undX t < 0 then t1 else up2 t1 100 2 (t1 100 2 - 1)) (h4 : f2 = if undX t < 0 then f1 else undF t1 f1) : LR t2 f2 := by
  by_cases q : undX t < 0
  · rw [if_pos q] at h1 h2 h3 h4
    rw [h3, h4, h1, h2]; exact h
  rw [if_neg q] at h1 h2 h3 h4
  have g := h.2.2.2.2.2.1
  have e := h.2.2.2.2.1
  obtain ⟨⟨g1, g2, -⟩, g4, g5⟩ := g
  have hq : 1 ≤ t 21 2 := by
    by_cases y : t 21 2 = 0
    · exact absurd (show undX t < 0 by unfold undX; rw [if_pos y]; decide) q
    · omega
  have hl : latC t = (t 21 1 - 1) % 20 := by unfold latC; split <;> omega
  have hr : rcX t (t 21 2 - 1) = 23 + 3 * (latC t).toNat := by unfold rcX; rw [hl]; omega
  have hlr : 0 ≤ latC t ∧ latC t < 20 := by rw [hl]; omega
  have tk : ∀ k j, k ≠ 91 → k ≠ 21 → t1 k j = sheCp t 18 (23 + 3 * (latC t).toNat) k j := fun k j a b => by
    rw [h1]; unfold undT takT
    simp only []
    rw [up2_k _ _ _ _ a, up2_k _ _ _ _ b, up2_k _ _ _ _ b]
  have e1 : t1 21 1 = latC t := by
    rw [h1]; unfold undT takT
    simp only []
    rw [up2_k _ _ _ _ (by decide), up2_j _ _ _ (by decide), up2_s]
  have e2 : t1 21 2 = t 21 2 - 1 := by
    rw [h1]; unfold undT takT
    simp only []
    rw [up2_k _ _ _ _ (by decide), up2_s, up2_j _ _ _ (by decide), sheCp_off (by omega) (by omega)]
  have e6 : t1 91 6 = 0 := by rw [h1]; exact up2_s _ _ _ _
  have e100 : ∀ j, t1 100 j = t 100 j := fun j => by rw [tk 100 j (by omega) (by omega), sheCp_off (by omega) (by omega)]
  have z : ∀ k j, ¬ (k = 100 ∧ j = 2) → t2 k j = t1 k j := fun k j a => by rw [h3, up2_ne _ _ a]
  have f1k : ∀ k i, k ≠ 20 → f1 k i = f k i := fun k i a => by rw [h2]; unfold takF; rw [cpA_off a]
  have f2k : ∀ k i, k ≠ 101 → f2 k i = f1 k i := fun k i a => by rw [h4]; unfold undF; rw [upA_k _ _ _ _ a, cpW_k _ _ _ a]
  have f2w : ∀ i : Int, 0 ≤ i → i < 41 → f2 101 i = f 101 (168 + 42 * (t 21 2 - 1) + i) := fun i i0 i1 => by
    rw [h4]; unfold undF
    rw [upA_i _ _ _ (by omega), cpW_in _ _ _ i0 (by omega), e100, g4, f1k 101 _ (by omega), Int.sub_zero]
  refine h.load (K := 23 + 3 * (latC t).toNat) (w := 168 + 42 * (t 21 2 - 1)) (kd_ring (by omega)) (by rw [← hr]; exact g5 _ (by omega) (by omega)) (fun k j a b c d x y => by rw [z k j (by omega), tk k j y x, sheCp_off b c]) (fun j j0 j1 => by rw [z 18 j (by omega), tk 18 j (by omega) (by omega), sheCp_j (by omega) (by omega) j0 j1]) (by rw [z 19 3 (by omega), tk 19 3 (by omega) (by omega)]; exact sheCp_n) (fun k i a b => by rw [f2k k i (by omega), f1k k i b]) (fun i i0 i1 => by rw [f2k 20 i (by omega), h2]; unfold takF; exact cpA_in i0 i1)
    (fun j hj => by rw [z 100 j (by omega), e100]) (fun k i a => by rw [f2k k i (by omega), f1k k i (by omega)]) f2w (fun i a => by rw [h4]; unfold undF; rw [upA_i _ _ _ (by omega), cpW_out _ _ _ (by omega), f1k 101 i (by omega)]) ?_ (by rw [z 21 1 (by omega), e1]; exact hlr) (by rw [z 21 2 (by omega), e2]; omega) (by rw [h3, up2_s, e100, up2_k _ _ _ _ (by decide), e2, g4]) (fun j j0 j1 => ?_) (by rw [z 91 6 (by omega)]; exact e6)
  · have e11 : t2 0 11 = t 0 11 := by rw [z 0 11 (by omega), tk 0 11 (by omega) (by omega), sheCp_off (by omega) (by omega)]
    rw [e11]
    refine ⟨e.1, ?_⟩
    rw [h4]; unfold undF
    rw [upA_s, f1k 101 41 (by omega)]; exact e.2.1
  · rw [z 21 2 (by omega), e2] at j1
    refine ⟨?_, by omega⟩
    unfold rcX
    rw [z 21 1 (by omega), z 21 2 (by omega), e1, e2, hl]
    omega
theorem LR_back1 {t t2 : uN} {f f2 : uF} {c : Nat} {i : Int} (hc : (c = 83 ∧ i = 0) ∨ (c = 87 ∧ i = 1)) (h : LR t f) (hk : KP1 t f c i) (h1 : t c 2 = 1) (h3 : t2 = up2 (gobT t c) 100 2 0) (h4 : f2 = cpW (cpA f (c + 3) 20 40) (84 + 42 * i) 0) : LR t2 f2 := by
  obtain ⟨k1, k2, k3, k4, k5⟩ := hk
  obtain ⟨im, k6⟩ := k5 h1
  have g := h.2.2.2.2.2.1
  have hkd : kd (c + 1) = 4 := by rcases hc with ⟨q, -⟩ | ⟨q, -⟩ <;> subst q <;> rfl
  have z : ∀ k j, ¬ (k = 100 ∧ j = 2) → ¬ (k = 91 ∧ j = 6) → ¬ (k = 21 ∧ j = 2) → ¬ (k = 0 ∧ j = 11) → t2 k j = sheCp t 18 (c + 1) k j := fun k j a b d e => by
    rw [h3]; unfold gobT; rw [up2_ne _ _ a, up2_ne _ _ b, up2_ne _ _ d, up2_ne _ _ e]
  have f2k : ∀ k i, k ≠ 101 → k ≠ 20 → f2 k i = f k i := fun k i a b => by rw [h4, cpW_k _ _ _ a, cpA_off b]
  have e21 : t2 21 2 = 0 := by rw [h3]; unfold gobT; rw [up2_ne _ _ (by omega), up2_ne _ _ (by omega), up2_s]
  refine h.load hkd im (fun k j a b d e x y => by rw [z k j (by omega) (by omega) (by omega) e, sheCp_off b d]) (fun j j0 j1 => by rw [z 18 j (by omega) (by omega) (by omega) (by omega), sheCp_j (by omega) (by omega) j0 j1]) (by rw [z 19 3 (by omega) (by omega) (by omega) (by omega)]; exact sheCp_n) (fun k i a b => f2k k i (by omega) b) (fun i i0 i1 => by rw [h4, cpW_k _ _ _ (by omega)]; exact cpA_in i0 i1)
    (fun j hj => by rw [z 100 j (by omega) (by omega) (by omega) (by omega), sheCp_off (by omega) (by omega)]) (fun k i a => f2k k i (by omega) (by omega)) (fun i i0 i1 => by rw [h4, cpW_in _ _ _ i0 (by omega), cpA_off (by omega), Int.sub_zero]) (fun i a => by rw [h4, cpW_out _ _ _ (by omega), cpA_off (by omega)]) ?_ (by rw [z 21 1 (by omega) (by omega) (by omega) (by omega), sheCp_off (by omega) (by omega)]; exact g.1.1) (by rw [e21]; omega) (by rw [e21, h3, up2_s]) (fun j j0 j1 => absurd j1 (by omega)) (by rw [h3]; unfold gobT; rw [up2_ne _ _ (by omega), up2_s])
  have e11 : t2 0 11 = t c 1 := by rw [h3]; unfold gobT; rw [up2_ne _ _ (by omega), up2_ne _ _ (by omega), up2_ne _ _ (by omega), up2_s]
  rw [e11]
  refine ⟨k3, ?_⟩
  rw [h4, cpW_in _ _ _ (by omega) (by omega), cpA_off (by omega), show 84 + 42 * i + (41 - 0) = 84 + 42 * i + 41 by omega]
  exact k6
theorem LR_goBack {t t1 t2 : uN} {f f1 f2 : uF} {i : Int} (h : LR t f) (h1 : t1 = if gobX t i < 0 then t else if i = 0 then gobT t 83 else gobT t 87) (h2 : f1 = if gobX t i < 0 then f else if i = 0 then cpA f 86 20 40 else cpA f 90 20 40) (h3 : t2 = if gobX t i < 0 then t1 else up2 t1 100 2 0) (h4 : f2 = if gobX t i < 0 then f1 else cpW f1 (84 + 42 * i) 0) : LR t2 f2 := by
  by_cases q : gobX t i < 0
  · rw [if_pos q] at h1 h2 h3 h4
    rw [h3, h4, h1, h2]; exact h
  rw [if_neg q] at h1 h2 h3 h4
  have k := h.2.2.2.2.2.2.1
  by_cases i0 : i = 0
  · rw [if_pos i0] at h1 h2
    have y : ¬ t 83 2 = 0 := fun y => q (by unfold gobX; rw [if_pos i0, if_pos y]; decide)
    refine LR_back1 (c := 83) (i := 0) (Or.inl ⟨rfl, rfl⟩) h k.1 (by have := k.1.2.1; omega) (by rw [h3, h1]) (by rw [h4, h2, i0])
  · rw [if_neg i0] at h1 h2
    have i1 : i = 1 := by
      by_cases y : i = 1
      · exact y
      · exact absurd (show gobX t i < 0 by unfold gobX; rw [if_neg i0, if_neg y]; decide) q
    have y : ¬ t 87 2 = 0 := fun y => q (by unfold gobX; rw [if_neg i0, if_pos i1, if_pos y]; decide)
    refine LR_back1 (c := 87) (i := 1) (Or.inr ⟨rfl, rfl⟩) h k.2 (by have := k.2.2.1; omega) (by rw [h3, h1]) (by rw [h4, h2, i1])
theorem LR_keep1 {t t2 : uN} {f f2 : uF} {c : Nat} {i : Int} (hc : (c = 83 ∧ i = 0) ∨ (c = 87 ∧ i = 1)) (h : LR t f) (h3 : t2 = up2 (kepT t c) 100 2 0) (h4 : f2 = kepF (cpA f 20 (c + 3) 40) i) : LR t2 f2 := by
  obtain ⟨a, b, d, e, s, g, k, j⟩ := h
  have hkd : kd (c + 1) = 4 := by rcases hc with ⟨q, -⟩ | ⟨q, -⟩ <;> subst q <;> rfl
  have T : ∀ x j, x ≠ c → x ≠ c + 1 → x ≠ c + 2 → ¬ (x = 100 ∧ j = 2) → ¬ (x = 21 ∧ j = 2) → t2 x j = t x j := fun x j q1 q2 q3 q4 q5 => by
    rw [h3]; unfold kepT; rw [up2_ne _ _ q4, up2_ne _ _ q5, up2_ne _ _ (by omega), up2_ne _ _ (by omega), sheCp_off q2 (by omega)]
  have F : ∀ x y, x ≠ c + 3 → ¬ (x = 101 ∧ 84 + 42 * i ≤ y ∧ y < 84 + 42 * i + 42) → ¬ (x = 102 ∧ y = i) → f2 x y = f x y := fun x y q1 q2 q3 => by
    rw [h4]; unfold kepF
    rw [upA_ne _ _ q3]
    by_cases x1 : x = 101
    · subst x1; rw [cpW_out _ _ _ (by omega), cpA_off q1]
    · rw [cpW_k _ _ _ x1, cpA_off q1]
  have c21 : t2 21 2 = 0 := by rw [h3]; unfold kepT; rw [up2_ne _ _ (by omega), up2_s]
  have cc1 : t2 c 1 = t 0 11 := by rw [h3]; unfold kepT; rw [up2_ne _ _ (by omega), up2_ne _ _ (by omega), up2_ne _ _ (by omega), up2_s]
  have cc2 : t2 c 2 = 1 := by rw [h3]; unfold kepT; rw [up2_ne _ _ (by omega), up2_ne _ _ (by omega), up2_s]
  have sc : ∀ x j, x = c + 1 ∨ x = c + 2 → t2 x j = sheCp t (c + 1) 18 x j := fun x j q => by
    rw [h3]; unfold kepT; rw [up2_ne _ _ (by omega), up2_ne _ _ (by omega), up2_ne _ _ (by omega), up2_ne _ _ (by omega)]
  have wI : ∀ y : Int, 0 ≤ y → y < 42 → f2 101 (84 + 42 * i + y) = f 101 y := fun y y0 y1 => by
    rw [h4]; unfold kepF
    rw [upA_k _ _ _ _ (by decide), cpW_in _ _ _ (by omega) (by omega), cpA_off (by omega), show 0 + (84 + 42 * i + y - (84 + 42 * i)) = y by omega]
  have imN : IM t2 f2 (c + 1) (84 + 42 * i) := a.im.cp rfl hkd (T 12 3 (by omega) (by omega) (by omega) (by omega) (by omega)) (T 14 3 (by omega) (by omega) (by omega) (by omega) (by omega)) (T 16 3 (by omega) (by omega) (by omega) (by omega) (by omega)) (fun x hx y => F x y (by omega) (by omega) (by omega)) (fun j j0 j1 => by rw [sc _ _ (Or.inl rfl), sheCp_j (by omega) (by omega) j0 j1]) (by rw [sc _ _ (Or.inr rfl)]; exact sheCp_n) (fun y y0 y1 => by rw [h4]; unfold kepF; rw [upA_k _ _ _ _ (by omega), cpW_k _ _ _ (by omega)]; exact cpA_in y0 y1) (fun y y0 y1 => by rw [wI y y0 (by omega), Int.zero_add])
  have newK : KP1 t2 f2 c i := ⟨imN.1.1, Or.inr cc2, by rw [cc1]; exact s.1, by rw [cc2, h4]; unfold kepF; exact upA_s _ _ _ _, fun _ => ⟨imN, by rw [wI 41 (by omega) (by omega), cc1]; exact s.2.1⟩⟩
  have t10 : ∀ j, j ≠ 2 → t2 100 j = t 100 j := fun j hj => T 100 j (by omega) (by omega) (by omega) (by omega) (by omega)
  refine ⟨a.same (fun x j hx => T x j (by omega) (by omega) (by omega) (by omega) (by omega)) (fun x y hx => F x y (by omega) (by omega) (by omega)) (fun j hj => t10 j (by omega)) (fun y y0 y1 => F 101 y (by omega) (by omega) (by omega)), b.of (T 1 3 (by omega) (by omega) (by omega) (by omega) (by omega)) (fun y => F 2 y (by omega) (by omega) (by omega)) (t10 14 (by omega)) (fun y => F 108 y (by omega) (by omega) (by omega)), d.of (T 96 3 (by omega) (by omega) (by omega) (by omega) (by omega)) (fun y => F 97 y (by omega) (by omega) (by omega)) (t10 31 (by omega)) (fun x y hx => F x y (by omega) (by omega) (by omega)), e.of (T 98 3 (by omega) (by omega) (by omega) (by omega) (by omega)) (fun y => F 99 y (by omega) (by omega) (by omega)) (t10 34 (by omega)) (fun y => F 116 y (by omega) (by omega) (by omega)), ?_, ?_, ?_, j.of (fun x j hx => T x j (by omega) (by omega) (by omega) (by omega) (by omega)) (fun x y hx => F x y (by omega) (by omega) (by omega))⟩
  · have e11 := T 0 11 (by omega) (by omega) (by omega) (by omega) (by omega)
    exact ⟨by rw [e11]; exact s.1, by rw [F 101 41 (by omega) (by omega) (by omega), e11]; exact s.2.1, by rw [t10 19 (by omega), T 0 10 (by omega) (by omega) (by omega) (by omega) (by omega)]; exact s.2.2⟩
  · refine ⟨⟨by rw [T 21 1 (by omega) (by omega) (by omega) (by omega) (by omega)]; exact g.1.1, by rw [c21]; omega, fun x hx => SOK_off (g.1.2.2 x hx) (fun y => T _ y (by omega) (by omega) (by omega) (by omega) (by omega)) (T _ 3 (by omega) (by omega) (by omega) (by omega) (by omega)) (fun y => F _ y (by omega) (by omega) (by omega))⟩, by rw [c21, h3, up2_s], fun x x0 x1 => absurd x1 (by omega)⟩
  · rcases hc with ⟨q, q2⟩ | ⟨q, q2⟩ <;> subst q <;> subst q2
    · exact ⟨newK, k.2.of rfl (fun x j hx => T x j (by omega) (by omega) (by omega) (by omega) (by omega)) (fun x y hx => F x y (by omega) (by omega) (by omega)) (F 102 1 (by omega) (by omega) (by omega)) (fun y y0 y1 => F 101 y (by omega) (by omega) (by omega))⟩
    · exact ⟨k.1.of rfl (fun x j hx => T x j (by omega) (by omega) (by omega) (by omega) (by omega)) (fun x y hx => F x y (by omega) (by omega) (by omega)) (F 102 0 (by omega) (by omega) (by omega)) (fun y y0 y1 => F 101 y (by omega) (by omega) (by omega)), newK⟩
theorem LR_keep {t t1 t2 : uN} {f f1 f2 : uF} {i : Int} (h : LR t f) (h1 : t1 = if i = 0 then kepT t 83 else if i = 1 then kepT t 87 else t) (h2 : f1 = if i = 0 then cpA f 20 86 40 else if i = 1 then cpA f 20 90 40 else f) (h3 : t2 = if i = 0 ∨ i = 1 then up2 t1 100 2 0 else t1) (h4 : f2 = if i = 0 ∨ i = 1 then kepF f1 i else f1) : LR t2 f2 := by
  by_cases i0 : i = 0
  · rw [if_pos i0] at h1 h2
    rw [if_pos (Or.inl i0)] at h3 h4
    exact LR_keep1 (c := 83) (i := 0) (Or.inl ⟨rfl, rfl⟩) h (by rw [h3, h1]) (by rw [h4, h2, i0])
  · rw [if_neg i0] at h1 h2
    by_cases i1 : i = 1
    · rw [if_pos i1] at h1 h2
      rw [if_pos (Or.inr i1)] at h3 h4
      exact LR_keep1 (c := 87) (i := 1) (Or.inr ⟨rfl, rfl⟩) h (by rw [h3, h1]) (by rw [h4, h2, i1])
    · rw [if_neg i1] at h1 h2
      rw [if_neg (by omega)] at h3 h4
      rw [h3, h4, h1, h2]; exact h
theorem LR_init : LR t0N (fun _ _ => 0) := by
  have t3 : ∀ k, t0N k 3 = 0 := fun k => if_neg (by omega)
  have tz : ∀ k j, j < 4 → t0N k j = 0 := fun k j hj => if_neg (by omega)
  have t4 : t0N 18 4 = 0 := if_neg (by omega)
  have g : ∀ k r c, tget t0N (fun _ _ => 0) k r c = 0 := fun k r c => tget_none (t3 k) r c
  have ok : ∀ k, 0 ≤ tm k → tOK t0N k := fun k hk => ⟨by rw [t3]; omega, by rw [t3]; exact hk⟩
  have sok : ∀ k, kd k = 4 → k ≠ 3 → k ≠ 100 → k ≠ 91 → t0N k 4 = 0 → SOK t0N (fun _ _ => 0) k := fun k hk _ _ _ h4 => by
    refine ⟨ok _ (by rw [(kd4_w hk).2]; decide), by rw [tz k 1 (by omega)]; omega, by rw [tz k 2 (by omega)]; omega, by rw [t3]; omega, Or.inl h4, fun i => ?_⟩
    rw [g, g, g, g, g]; omega
  have hV : VOK t0N (fun _ _ => 0) 11 := by
    refine ⟨⟨ok _ (by decide), ok _ (by decide), ok _ (by decide)⟩, fun i => by rw [g, g, g]; omega, fun i => by rw [g, g]; omega, by rw [g]; omega, by rw [g]; omega, by rw [g]; omega, by rw [g]; omega⟩
  have s18 := sok 18 rfl (by decide) (by decide) (by decide) t4
  have e : ∀ k j, ¬ ((k = 0 ∧ j = 10) ∨ (k = 3 ∧ j = 4) ∨ (k = 91 ∧ j = 5) ∨ (k = 100 ∧ j = 19)) → t0N k j = 0 := fun k j h => if_neg h
  refine ⟨⟨⟨hV, s18⟩, ⟨s18, by rw [t3, t3]; omega, by rw [g, t3, tz 18 2 (by omega)]; omega, fun _ => t3 _, fun i i0 i1 => absurd i1 (by rw [t3]; omega)⟩, fun _ => ⟨t3 _, t3 _⟩, ⟨⟨?_, ?_, ?_, ?_, ?_⟩, fun i i0 i1 => absurd i1 (by rw [t3]; omega), fun i i0 i1 => absurd i1 (by rw [t3]; omega)⟩, ⟨(t3 18).symm, t4.symm, (tz 18 1 (by omega)).symm, (tz 18 2 (by omega)).symm, (t3 19).symm⟩, fun i i0 i1 => absurd i1 (by rw [t3]; omega)⟩,
    ⟨ok _ (by decide), fun p => by rw [g]; omega, by rw [e 100 14 (by omega), t3], fun p p0 p1 => absurd p1 (by rw [t3]; omega)⟩,
    ⟨⟨ok _ (by decide), fun p => by rw [g, g]; omega⟩, by rw [e 100 31 (by omega), t3], fun p p0 p1 => absurd p1 (by rw [t3]; omega)⟩,
    ⟨⟨ok _ (by decide), fun p => by rw [g]; omega⟩, by rw [e 100 34 (by omega), t3], fun p p0 p1 => absurd p1 (by rw [t3]; omega)⟩,
    ⟨by rw [e 0 11 (by omega)]; omega, by rw [e 0 11 (by omega)], rfl⟩,
    ⟨⟨by rw [e 21 1 (by omega)]; omega, by rw [e 21 2 (by omega)]; omega, fun j hj => sok _ (kd_ring hj) (by omega) (by omega) (by omega) (e _ 4 (by omega))⟩, by rw [e 21 2 (by omega), e 100 2 (by omega)], fun j j0 j1 => absurd j1 (by rw [e 21 2 (by omega)]; omega)⟩,
    ⟨⟨sok 84 rfl (by decide) (by decide) (by decide) (e 84 4 (by omega)), Or.inl (e 83 2 (by omega)), by rw [e 83 1 (by omega)]; omega, (e 83 2 (by omega)).symm, fun q => absurd q (by rw [e 83 2 (by omega)]; omega)⟩, ⟨sok 88 rfl (by decide) (by decide) (by decide) (e 88 4 (by omega)), Or.inl (e 87 2 (by omega)), by rw [e 87 1 (by omega)]; omega, (e 87 2 (by omega)).symm, fun q => absurd q (by rw [e 87 2 (by omega)]; omega)⟩⟩,
    ⟨ok _ (by decide), Or.inl (e 91 6 (by omega)), fun q => absurd q (by rw [e 91 6 (by omega)]; omega)⟩⟩
  · rw [t3, t3]
  · rw [e 100 4 (by omega), g]
  · rw [e 100 5 (by omega), g]
  · rw [e 100 6 (by omega), t3]
  · rw [e 100 10 (by omega), t3]

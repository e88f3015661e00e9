/-! the model's longer acts: what they leave -/
theorem LOK.of {t t2 : uN} {f f2 : uF} (h : LOK t f 18) (hs : SOK t2 f2 18) (h12 : t2 12 3 = t 12 3) (h14 : t2 14 3 = t 14 3) (h16 : t2 16 3 = t 16 3) (h19 : t2 19 3 = t 19 3) (h3 : t2 18 3 ≤ t 14 3) (h2 : t2 18 2 ≤ t 18 2) (hf : ∀ c, c = 13 ∨ c = 17 ∨ c = 20 → ∀ i, f2 c i = f c i) : LOK t2 f2 18 := by
  have g12 : ∀ r c, tget t2 f2 12 r c = tget t f 12 r c := tget_same h12 (hf 13 (by omega))
  have g19 : ∀ r c, tget t2 f2 19 r c = tget t f 19 r c := tget_same h19 (hf 20 (by omega))
  obtain ⟨-, q2, q3, q4, q5⟩ := h
  change t 18 2 ≤ tget t f 12 0 3 + 999 * t 19 3 at q3
  refine ⟨hs, by rw [h14]; exact h3, ?_, fun z => ?_, fun i i0 i1 => ?_⟩
  · rw [g12]
    show _ ≤ _ + 999 * t2 19 3
    rw [h19]; omega
  · show t2 19 3 = 0
    rw [h19]; exact q4 (by rw [← h12]; exact z)
  · change i < t2 19 3 at i1
    rw [h19] at i1
    have q := q5 i i0 i1
    show tget t2 f2 19 i 0 < t2 16 3 ∧ 1 ≤ tget t2 f2 19 i 1 ∧ tget t2 f2 19 i 3 = owedX t2 f2 11 (tget t2 f2 19 i 0) (tget t2 f2 19 i 1)
    rw [g19, g19, g19, h16, owed_same h16 (hf 17 (by omega))]
    exact q
theorem ML.of {a a2 : uN} {b b2 : uF} {t t2 : uN} {f f2 : uF} (L : ML a b t f) (h12 : a2 12 3 = a 12 3) (h14 : a2 14 3 = a 14 3) (h16 : a2 16 3 = a 16 3) (h19 : a2 19 3 = a 19 3) (b1 : 0 ≤ a2 18 1 ∧ a2 18 1 ≤ 9) (b2' : 0 ≤ a2 18 2 ∧ a2 18 2 ≤ a 18 2) (b3 : 0 ≤ a2 18 3 ∧ a2 18 3 ≤ a 14 3) (b4 : a2 18 4 = 0 ∨ a2 18 4 = 1) (hb : ∀ c, c = 13 ∨ c = 15 ∨ c = 17 ∨ c = 20 → ∀ i, b2 c i = b c i)
    (ht : ∀ j, j = 3 ∨ j = 4 ∨ j = 5 ∨ j = 6 ∨ j = 10 → t2 100 j = t 100 j) (hf : ∀ k i, 103 ≤ k → k ≤ 107 → f2 k i = f k i) (w0 : f2 101 0 = a2 18 3) (w1 : f2 101 1 = a2 18 4) (w2 : f2 101 2 = a2 18 1) (w3 : f2 101 3 = a2 18 2) (hw : ∀ j, 4 ≤ j → j < 41 → f2 101 j = f 101 j) : ML a2 b2 t2 f2 := by
  have g12 : ∀ r c, tget a2 b2 12 r c = tget a b 12 r c := tget_same h12 (hb 13 (by omega))
  have g14 : ∀ r c, tget a2 b2 14 r c = tget a b 14 r c := tget_same h14 (hb 15 (by omega))
  have g16 : ∀ r c, tget a2 b2 16 r c = tget a b 16 r c := tget_same h16 (hb 17 (by omega))
  have g19 : ∀ r c, tget a2 b2 19 r c = tget a b 19 r c := tget_same h19 (hb 20 (by omega))
  have hbb := L.1.b
  have hI : HI a2 b2 := L.1.of h12 h14 h16 h19 ⟨b1, by omega, by omega, b4⟩ hb
  obtain ⟨-, m2, m3, ⟨⟨v1, v2, v3, v4, v5⟩, v6, v7⟩, s1, s2⟩ := L
  refine ⟨hI, m2.of hI.2 h12 h14 h16 h19 b3.2 b2'.2 (fun c hc i => hb c (by omega) i), fun z => by rw [h14, h16]; exact m3 (by rw [← h12]; exact z), ⟨⟨?_, ?_, ?_, ?_, ?_⟩, fun i q1 q2 => ?_, fun i q1 q2 => ?_⟩, ⟨w0, w1, w2, w3, ?_⟩, fun i q1 q2 => ?_⟩
  · rw [ht 3 (by omega), h12]; exact v1
  · rw [ht 4 (by omega), g12]; exact v2
  · rw [ht 5 (by omega), g12]; exact v3
  · rw [ht 6 (by omega), h14]; exact v4
  · rw [ht 10 (by omega), h16]; exact v5
  · rw [hf 103 i (by omega) (by omega), hf 104 i (by omega) (by omega), hf 105 i (by omega) (by omega), g14, g14, g14]; exact v6 i q1 (by rw [← h14]; exact q2)
  · rw [hf 106 i (by omega) (by omega), hf 107 i (by omega) (by omega), g16, g16]; exact v7 i q1 (by rw [← h16]; exact q2)
  · show f2 101 4 = a2 19 3
    rw [hw 4 (by omega) (by omega), h19]; exact s1.2.2.2.2
  · change i < a2 19 3 at q2
    rw [h19] at q2
    have s := s2 i q1 q2
    show f2 101 (0 + 5 + i) = tget a2 b2 19 i 0 ∧ f2 101 (0 + 14 + i) = tget a2 b2 19 i 1 ∧ f2 101 (0 + 23 + i) = tget a2 b2 19 i 2 ∧ f2 101 (0 + 32 + i) = tget a2 b2 19 i 4
    rw [hw _ (by omega) (by omega), hw _ (by omega) (by omega), hw _ (by omega) (by omega), hw _ (by omega) (by omega), g19, g19, g19, g19]
    exact s
theorem minT_k (t : uN) {k j : Nat} (h : ¬ (k = 100 ∧ j = 2)) : minT t k j = t k j := up2_ne _ _ h
theorem ML.rem {a : uN} {b : uF} {t : uN} {f : uF} (L : ML a b t f) (hP : 0 ≤ a 21 1 ∧ a 21 1 < 20) (h2 : 0 ≤ t 100 2) : ML (remT a) (putF a b) (minT t) (minF t f) := by
  have hb := L.1.b
  have hk := L.2.1.2.1
  have p := L.p
  have e : ∀ j, remT a 18 j = a 18 j := fun j => remT_off hP (by omega) (by omega) j
  refine L.of (remT_off hP (by omega) (by omega) 3) (remT_off hP (by omega) (by omega) 3) (remT_off hP (by omega) (by omega) 3) (remT_off hP (by omega) (by omega) 3) (by rw [e]; exact hb.1.1) (by rw [e]; omega) (by rw [e]; omega) (by rw [e]; exact hb.1.2.2.2) (fun c hc i => putF_off hP (by omega) i) (fun j hj => minT_k t (by omega)) (fun k i _ _ => minF_k (by omega) i) ?_ ?_ ?_ ?_ (fun j _ _ => minF_lo h2 (by omega))
  · rw [minF_lo h2 (by omega), e]; exact p.1
  · rw [minF_lo h2 (by omega), e]; exact p.2.1
  · rw [minF_lo h2 (by omega), e]; exact p.2.2.1
  · rw [minF_lo h2 (by omega), e]; exact p.2.2.2.1
theorem saiF_at (f : uF) (c : Int) (k : Nat) (j : Int) : saiF f c k j = if c = 0 then (if k = 101 ∧ j = 1 then 1 else f k j) else (if k = 101 ∧ j = 2 then max 0 (f 101 2 - 1) else if k = 101 ∧ j = 0 then f 101 0 + 1 else f k j) := by
  unfold saiF upA up1
  by_cases c0 : c = 0
  · rw [if_pos c0, if_pos c0]
    by_cases k0 : k = 101
    · subst k0; by_cases j1 : j = 1 <;> simp [j1]
    · simp [k0]
  · rw [if_neg c0, if_neg c0]
    by_cases k0 : k = 101
    · subst k0
      by_cases j2 : j = 2
      · simp [j2]
      · by_cases j0 : j = 0 <;> simp [j0, j2]
    · simp [k0]
theorem ML.sai {a a2 : uN} {b : uF} {t : uN} {f f1 : uF} {c : Int} (L : ML a b t f) (hp : a 18 3 < a 14 3) (ha : ∀ k j, k ≠ 0 → a2 k j = sailT a 18 c k j) (hf : ∀ k j, ¬ (k = 101 ∧ j = 41) → f1 k j = f k j) : ML a2 b t (saiF f1 c) := by
  have hb := L.1.b
  have p := L.p
  have e0 := hf 101 0 (by omega)
  have e1 := hf 101 1 (by omega)
  have e2 := hf 101 2 (by omega)
  have e3 := hf 101 3 (by omega)
  have o : ∀ k, k ≠ 0 → k ≠ 18 → a2 k 3 = a k 3 := fun k h1 h2 => by rw [ha k 3 h1, sailT_off h2]
  have q1 := ha 18 1 (by omega)
  have q2 := ha 18 2 (by omega)
  have q3 := ha 18 3 (by omega)
  have q4 := ha 18 4 (by omega)
  rw [sailT_1] at q1
  rw [sailT_2] at q2
  rw [sailT_3] at q3
  rw [sailT_4] at q4
  refine L.of (o 12 (by omega) (by omega)) (o 14 (by omega) (by omega)) (o 16 (by omega) (by omega)) (o 19 (by omega) (by omega)) ?_ (by omega) ?_ ?_ (fun _ _ _ => rfl) (fun _ _ => rfl) (fun k i h1 h2 => ?_) ?_ ?_ ?_ ?_ (fun j h1 h2 => ?_)
  · rw [q1]; split <;> omega
  · rw [q3]; split <;> omega
  · rw [q4]; split
    · exact Or.inr rfl
    · exact hb.1.2.2.2
  · rw [saiF_at, hf k i (by omega)]
    split
    · rw [if_neg (by omega)]
    · rw [if_neg (by omega), if_neg (by omega)]
  · rw [saiF_at, q3]
    split
    · rw [if_neg (by omega)]; omega
    · rw [if_neg (by omega), if_pos (by omega)]; omega
  · rw [saiF_at, q4]
    split
    · rw [if_pos (by omega)]
    · rw [if_neg (by omega), if_neg (by omega)]; omega
  · rw [saiF_at, q1]
    split
    · rw [if_neg (by omega)]; omega
    · rw [if_pos (by omega)]; omega
  · rw [saiF_at, q2]
    split
    · rw [if_neg (by omega)]; omega
    · rw [if_neg (by omega), if_neg (by omega)]; omega
  · rw [saiF_at, hf 101 j (by omega)]
    split
    · rw [if_neg (by omega)]
    · rw [if_neg (by omega), if_neg (by omega)]
theorem sailT_up0 {a : uN} {z : Int} (c : Int) {k j : Nat} (hk : k ≠ 0) : sailT (up2 a 0 11 z) 18 c k j = sailT a 18 c k j := by
  by_cases q : k = 18
  · subst q
    by_cases c0 : c = 0
    · subst c0
      show up2 (up2 a 0 11 z) 18 4 1 18 j = up2 a 18 4 1 18 j
      by_cases j4 : j = 4
      · subst j4; rw [up2_s, up2_s]
      · rw [up2_j _ _ _ j4, up2_j _ _ _ j4, up2_k _ _ _ _ (by decide)]
    · unfold sailT
      rw [if_neg c0, if_neg c0]
      by_cases j1 : j = 1
      · subst j1; rw [up2_s, up2_s, up2_k _ _ _ _ (show 18 ≠ 0 by decide)]
      · rw [up2_j _ _ _ j1, up2_j _ _ _ j1]
        by_cases j3 : j = 3
        · subst j3; rw [up2_s, up2_s, up2_k _ _ _ _ (show 18 ≠ 0 by decide)]
        · rw [up2_j _ _ _ j3, up2_j _ _ _ j3, up2_k _ _ _ _ (show 18 ≠ 0 by decide)]
  · rw [sailT_off q, sailT_off q, up2_k _ _ _ _ hk]
theorem ML.dri {a : uN} {b : uF} {t : uN} {f : uF} (L : ML a b t f) (hp : a 18 3 < a 14 3) : ML (dri1 a b) b t (saiF (upA f 101 41 (nextS (a 0 11))) (if oddX a b 11 (a 18 3) (a 18 1) ≤ drawX a then 1 else 0)) := by
  refine L.sai hp (fun k j hk => sailT_up0 _ hk) (fun k j hj => ?_)
  by_cases q : k = 101
  · subst q; exact upA_i _ _ _ (by omega)
  · exact upA_k _ _ _ _ q
def DRQ (a : uN) (b : uF) (t : uN) (f : uF) (n : Int) (z : Int) (t2 : uN) (f2 : uF) : Prop :=
  z = driX a b n ∧ ((z < 0 ∧ t2 = t ∧ f2 = f) ∨ (0 ≤ z ∧ t2 = minT t ∧ ML (driN (putF a b) n.toNat (remT a)) (putF a b) t2 f2 ∧ f2 101 41 = driN (putF a b) n.toNat (remT a) 0 11 ∧ ∀ k j, ¬ (k = 101 ∧ (j = 0 ∨ j = 1 ∨ j = 2 ∨ j = 41)) → f2 k j = minF t f k j))
theorem driN_stop (b : uF) {A : uN} (h : ¬ inPortX A = 1) (k : Nat) : driN b k A = A := by
  cases k with
  | zero => rfl
  | succ n => rw [driN, if_neg h]
theorem driN_step (b : uF) {A : uN} (h : inPortX A = 1) {k : Int} (hk : 0 < k) : driN b k.toNat A = driN b (k - 1).toNat (dri1 A b) := by
  rw [show k.toNat = (k - 1).toNat + 1 by omega, driN, if_pos h]
theorem saiF_hi (f : uF) (c : Int) {k : Nat} {j : Int} (h : ¬ (k = 101 ∧ (j = 0 ∨ j = 1 ∨ j = 2))) : saiF f c k j = f k j := by
  rw [saiF_at]
  split
  · rw [if_neg (by omega)]
  · rw [if_neg (by omega), if_neg (by omega)]
theorem upA_ne (f : uF) {k k2 : Nat} {i i2 : Int} (z : Int) (h : ¬ (k2 = k ∧ i2 = i)) : upA f k i z k2 i2 = f k2 i2 := by
  by_cases q : k2 = k
  · subst q; exact upA_i _ _ _ (fun e => h ⟨rfl, e⟩)
  · exact upA_k _ _ _ _ q
theorem takL_at (f : uF) (h m v fr j : Int) : takL f h m v fr 101 j = if j = h + 3 then f 101 (h + 3) + v else if j = h + 4 then f 101 (h + 4) + 1 else if j = h + 32 + f 101 (h + 4) then f 101 (h + 0) else if j = h + 23 + f 101 (h + 4) then fr else if j = h + 14 + f 101 (h + 4) then v else if j = h + 5 + f 101 (h + 4) then m else f 101 j := by
  unfold takL
  by_cases q1 : j = h + 3
  · subst q1; rw [upA_s, if_pos rfl]
  rw [upA_i _ _ _ q1, if_neg q1]
  by_cases q2 : j = h + 4
  · subst q2; rw [upA_s, if_pos rfl]
  rw [upA_i _ _ _ q2, if_neg q2]
  by_cases q3 : j = h + 32 + f 101 (h + 4)
  · subst q3; rw [upA_s, if_pos rfl]
  rw [upA_i _ _ _ q3, if_neg q3]
  by_cases q4 : j = h + 23 + f 101 (h + 4)
  · subst q4; rw [upA_s, if_pos rfl]
  rw [upA_i _ _ _ q4, if_neg q4]
  by_cases q5 : j = h + 14 + f 101 (h + 4)
  · subst q5; rw [upA_s, if_pos rfl]
  rw [upA_i _ _ _ q5, if_neg q5]
  by_cases q6 : j = h + 5 + f 101 (h + 4)
  · subst q6; rw [upA_s, if_pos rfl]
  rw [upA_i _ _ _ q6, if_neg q6]
theorem takL_k (f : uF) (h m v fr : Int) {k : Nat} (hk : k ≠ 101) (j : Int) : takL f h m v fr k j = f k j := by
  unfold takL
  rw [upA_k _ _ _ _ hk, upA_k _ _ _ _ hk, upA_k _ _ _ _ hk, upA_k _ _ _ _ hk, upA_k _ _ _ _ hk, upA_k _ _ _ _ hk]
def hK (a : uN) (b : uF) (fr : Int) : Int → Int := fun i => if i = a 19 3 then fr else tget a b 19 i 2
def hD (a : uN) (b : uF) (m v : Int) : Int → Int := fun i => if i = a 19 3 then owedX a b 11 m v else tget a b 19 i 3
theorem hur_py {a : uN} {b : uF} {t : uN} {f f1 f2 f3 : uF} {m v fr : Int} (L : ML a b t f) (hs1 : ∀ k j, k ≠ 112 → k ≠ 113 → f1 k j = f k j) (hm0 : 0 ≤ m) (hm1 : m < a 16 3) (hv0 : 1 ≤ v) (hv1 : v ≤ 999) (hfr : fr = 0 ∨ fr = 1) (h2 : f2 = cpW f1 0 42) (h3 : f3 = takL f2 42 m v fr) :
    PY f3 42 (hK a b fr) (hD a b m v) (a 19 3 + 1) ∧ f3 101 (42 + 3) = a 18 2 + v ∧ (∀ k j, ¬ (k = 112 ∨ k = 113 ∨ (k = 101 ∧ 42 ≤ j ∧ j < 84)) → f3 k j = f k j) ∧ ∀ j, f3 113 j = f1 113 j := by
  have hb := L.1.b
  have p := L.p
  have c2 : ∀ j, 42 ≤ j → j < 84 → f2 101 j = f 101 (j - 42) := fun j h1 hh => by
    rw [h2]; unfold cpW; rw [if_pos rfl, if_pos (by omega), hs1 _ _ (by decide) (by decide), show 0 + (j - 42) = j - 42 by omega]
  have c2' : ∀ j, ¬ (42 ≤ j ∧ j < 84) → f2 101 j = f 101 j := fun j hh => by
    rw [h2]; unfold cpW; rw [if_pos rfl, if_neg (by omega), hs1 _ _ (by decide) (by decide)]
  have ck : ∀ k j, k ≠ 101 → f2 k j = f1 k j := fun k j hk => by rw [h2]; unfold cpW; rw [if_neg hk]
  have n4 : f2 101 (42 + 4) = a 19 3 := by rw [c2 _ (by omega) (by omega)]; exact p.2.2.2.2
  have n3 : f2 101 (42 + 3) = a 18 2 := by rw [c2 _ (by omega) (by omega)]; exact p.2.2.2.1
  have at3 : ∀ j, f3 101 j = if j = 42 + 3 then a 18 2 + v else if j = 42 + 4 then a 19 3 + 1 else if j = 42 + 32 + a 19 3 then f2 101 (42 + 0) else if j = 42 + 23 + a 19 3 then fr else if j = 42 + 14 + a 19 3 then v else if j = 42 + 5 + a 19 3 then m else f2 101 j := fun j => by
    rw [h3, takL_at, n4, n3]
  have k3 : ∀ k j, k ≠ 101 → f3 k j = f1 k j := fun k j hk => by rw [h3, takL_k _ _ _ _ _ hk, ck k j hk]
  have k3f : ∀ k j, k ≠ 101 → k ≠ 112 → k ≠ 113 → f3 k j = f k j := fun k j hk h1 hh => by rw [k3 k j hk, hs1 k j h1 hh]
  refine ⟨⟨Or.inr rfl, ⟨by omega, by omega⟩, ?_, fun i i0 i1 => ?_⟩, ?_, fun k j hkj => ?_, fun j => k3 113 j (by decide)⟩
  · rw [at3, if_neg (by omega), if_pos rfl]
  · by_cases q : i = a 19 3
    · have e5 : f3 101 (42 + 5 + i) = m := by rw [at3, if_neg (by omega), if_neg (by omega), if_neg (by omega), if_neg (by omega), if_neg (by omega), if_pos (by omega)]
      have e14 : f3 101 (42 + 14 + i) = v := by rw [at3, if_neg (by omega), if_neg (by omega), if_neg (by omega), if_neg (by omega), if_pos (by omega)]
      have e23 : f3 101 (42 + 23 + i) = fr := by rw [at3, if_neg (by omega), if_neg (by omega), if_neg (by omega), if_pos (by omega)]
      have hm := L.m hm0 hm1
      have ow := owedX_rng L.1.1 m v (by omega) hv1
      have eo : v + (v * f3 107 m).tdiv 100 = owedX a b 11 m v := by rw [k3f 107 m (by decide) (by decide) (by decide), hm.1.2]; rfl
      have ek : hK a b fr i = fr := if_pos q
      have ed : hD a b m v i = owedX a b 11 m v := if_pos q
      refine ⟨⟨Or.inr rfl, ⟨by omega, by omega⟩, ?_, ?_, ?_⟩, ?_, ?_, ?_, ?_⟩
      · rw [e14]; omega
      · rw [e5]; omega
      · rw [e5, k3f 107 m (by decide) (by decide) (by decide)]; exact hm.2.2
      · rw [ek]; exact e23
      · rw [ek]; omega
      · unfold dueM; rw [e14, e5, ed]; exact eo
      · rw [ed]; omega
    · have iL : i < a 19 3 := by omega
      have e5 : f3 101 (42 + 5 + i) = f 101 (5 + i) := by rw [at3, if_neg (by omega), if_neg (by omega), if_neg (by omega), if_neg (by omega), if_neg (by omega), if_neg (by omega), c2 _ (by omega) (by omega), show 42 + 5 + i - 42 = 5 + i by omega]
      have e14 : f3 101 (42 + 14 + i) = f 101 (14 + i) := by rw [at3, if_neg (by omega), if_neg (by omega), if_neg (by omega), if_neg (by omega), if_neg (by omega), if_neg (by omega), c2 _ (by omega) (by omega), show 42 + 14 + i - 42 = 14 + i by omega]
      have e23 : f3 101 (42 + 23 + i) = f 101 (23 + i) := by rw [at3, if_neg (by omega), if_neg (by omega), if_neg (by omega), if_neg (by omega), if_neg (by omega), if_neg (by omega), c2 _ (by omega) (by omega), show 42 + 23 + i - 42 = 23 + i by omega]
      obtain ⟨⟨o1, o2, o3⟩, o4, o5⟩ := L.o i0 iL
      have lo := L.1.loan i
      have cc := L.c i0 iL
      have ek : hK a b fr i = tget a b 19 i 2 := if_neg q
      have ed : hD a b m v i = tget a b 19 i 3 := if_neg q
      refine ⟨⟨Or.inr rfl, ⟨by omega, by omega⟩, ?_, ?_, ?_⟩, ?_, ?_, ?_, ?_⟩
      · rw [e14]; omega
      · rw [e5]; omega
      · rw [e5, k3f 107 _ (by decide) (by decide) (by decide)]; exact o4
      · rw [ek, e23]; exact cc.2.2.1
      · rw [ek]; exact lo.2.2.1
      · unfold dueM; rw [e14, e5, ed, k3f 107 _ (by decide) (by decide) (by decide)]; exact o5
      · rw [ed]; exact lo.2.2.2.1
  · rw [at3, if_pos rfl]
  · by_cases q : k = 101
    · subst q
      rw [at3, if_neg (by omega), if_neg (by omega), if_neg (by omega), if_neg (by omega), if_neg (by omega), if_neg (by omega), c2' j (by omega)]
    · exact k3f k j q (by omega) (by omega)
theorem hur_sum {a : uN} {b : uF} {m v fr : Int} (hn : 0 ≤ a 19 3) (kind lo : Int) (hlo : lo ≤ a 19 3) : sumR (sD (hK a b fr) (hD a b m v) kind) lo (a 19 3 + 1) = dueS a b 18 lo kind + (if fr = kind then owedX a b 11 m v else 0) := by
  rw [sumR_succ _ hlo]
  have e1 : sumR (sD (hK a b fr) (hD a b m v) kind) lo (a 19 3) = dueS a b 18 lo kind := by
    show _ = sumR (dueX a b 18 kind) lo (a 19 3)
    refine sumR_congr fun i i0 i1 => ?_
    have ek : hK a b fr i = tget a b 19 i 2 := if_neg (by omega)
    have ed : hD a b m v i = tget a b 19 i 3 := if_neg (by omega)
    show (if hK a b fr i = kind then hD a b m v i else 0) = if tget a b 19 i 2 = kind then tget a b 19 i 3 else 0
    rw [ek, ed]
  have e2 : sD (hK a b fr) (hD a b m v) kind (a 19 3) = (if fr = kind then owedX a b 11 m v else 0) := by
    have ek : hK a b fr (a 19 3) = fr := if_pos rfl
    have ed : hD a b m v (a 19 3) = owedX a b 11 m v := if_pos rfl
    show (if hK a b fr (a 19 3) = kind then hD a b m v (a 19 3) else 0) = _
    rw [ek, ed]
  rw [e1, e2]
theorem hur_val {a : uN} {b : uF} {f3 : uF} {m v fr : Int} (h : HI a b) (hfr : fr = 0 ∨ fr = 1) (h3 : f3 101 (42 + 3) = a 18 2 + v) {i : Int} (i0 : 0 ≤ i) (i1 : i < a 19 3) :
    (if hK a b fr i = 1 then payM (hK a b fr) (hD a b m v) (a 19 3 + 1) 1 (tget a b 12 0 1) i else payM (hK a b fr) (hD a b m v) (a 19 3 + 1) 0 (mnM f3 42 (hK a b fr) (hD a b m v) (a 19 3 + 1) (tget a b 12 0 1) (tget a b 12 0 0)) i) = paidS a b 18 i (hurSh a b m v fr) (hurFr a b m v fr) := by
  have ek : hK a b fr i = tget a b 19 i 2 := if_neg (by omega)
  have ed : hD a b m v i = tget a b 19 i 3 := if_neg (by omega)
  have hk := (h.loan i).2.2.1
  have hd := (h.loan i).2.2.2.1
  unfold payM mnM
  rw [hur_sum (by omega) 1 (i + 1) (by omega), hur_sum (by omega) 0 (i + 1) (by omega), hur_sum (by omega) 1 0 (by omega), h3, ek, ed]
  unfold paidS hurSh hurFr smX
  show _ = max 0 (min ((if tget a b 19 i 2 = 1 then _ else _) - dueS a b 18 (i + 1) (tget a b 19 i 2)) (tget a b 19 i 3))
  by_cases c : tget a b 19 i 2 = 1
  · rw [if_pos c, if_pos c, c]
    rcases hfr with q | q <;> subst q
    · rw [if_neg (show ¬ (0 : Int) = 1 by decide), if_pos (rfl : (0 : Int) = 0)]; omega
    · rw [if_pos (rfl : (1 : Int) = 1), if_neg (show ¬ (1 : Int) = 0 by decide)]; omega
  · rw [if_neg c, if_neg c, show tget a b 19 i 2 = 0 by omega]
    rcases hfr with q | q <;> subst q
    · rw [if_neg (show ¬ (0 : Int) = 1 by decide)]
      repeat rw [if_pos (rfl : (0 : Int) = 0)]
      omega
    · rw [if_pos (rfl : (1 : Int) = 1)]
      repeat rw [if_neg (show ¬ (1 : Int) = 0 by decide)]
      omega
theorem PHQ.at {a : uN} {b : uF} {t t2 : uN} {f f2 : uF} {W : Int} (L : ML a b t f) (q : PHQ t f 0 (fun i => tget a b 19 i 2) (fun i => tget a b 19 i 3) (a 19 3) W t2 f2) : ∀ i, 0 ≤ i → i < a 19 3 → f2 112 i = paidS a b 18 i (W + a 18 2 + max 0 (tget a b 12 0 1 - dueS a b 18 0 1)) (tget a b 12 0 1) := by
  intro i h0 h1
  rw [q.2.2 i h0 h1, pay_eq L.1.2, L.v.2.2.1]
  unfold mnM
  rw [show f 101 (0 + 3) = a 18 2 from L.p.2.2.2.1]
  rfl
def woB (a : uN) (b : uF) (w : Int) (n : Nat) : Int := if leaN a b n ≤ w ∧ w ≤ greN a b n then 1 else 0
theorem woB_b (a : uN) (b : uF) (w : Int) (n : Nat) : (woB a b w n = 1 ∧ leaN a b n ≤ w ∧ w ≤ greN a b n) ∨ (woB a b w n = 0 ∧ ¬ (leaN a b n ≤ w ∧ w ≤ greN a b n)) := by
  unfold woB
  split
  · next h => exact Or.inl ⟨rfl, h⟩
  · next h => exact Or.inr ⟨rfl, h⟩
theorem woB_s (a : uN) (b : uF) (w : Int) (n : Nat) : woB a b w (n + 1) = if woB a b w n = 1 ∧ (leastX a b n ≤ w ∧ w ≤ greatX a b n) then 1 else 0 := by
  have h := woB_b a b w n
  unfold woB at h ⊢
  rw [leaN, greN]
  by_cases q : (if leaN a b n ≤ w ∧ w ≤ greN a b n then (1 : Int) else 0) = 1 ∧ (leastX a b n ≤ w ∧ w ≤ greatX a b n)
  · rw [if_pos q, if_pos (by omega)]
  · rw [if_neg q, if_neg (by omega)]
theorem wor_eq {a : uN} {b : uF} (h : HI a b) (hT : TI a b) {n w : Int} (h0 : 0 ≤ w) (h1 : w ≤ 999) :
    (thas a 19 (tget a b 96 n 0) = 1 ∧ paidS a b 18 (tget a b 96 n 0) (w + a 18 2 + max 0 (tget a b 12 0 1 - dueS a b 18 0 1)) (tget a b 12 0 1) = tget a b 96 n 1) ↔ (leastX a b n ≤ w ∧ w ≤ greatX a b n) := by
  have hi := thas_b a 19 (tget a b 96 n 0)
  have hl := h.loan (tget a b 96 n 0)
  have ht := hT.2 n
  unfold leastX greatX canX
  by_cases c : thas a 19 (tget a b 96 n 0) = 0
  · rw [if_pos c, if_pos rfl, if_pos rfl]
    omega
  rw [if_neg c]
  have hd := hl.2.2.2.1
  rcases frTX_b a b n with ⟨q, q2⟩ | ⟨q, q2⟩
  · rw [if_neg (show ¬ frTX a b n = 0 by omega), if_neg (show ¬ (frTX a b n = 0 ∧ ¬ tget a b 96 n 1 = 0) by omega), if_neg (show ¬ (frTX a b n = 0 ∧ ¬ tget a b 96 n 1 = tget a b 19 (tget a b 96 n 0) 3) by omega)]
    have e : ∀ sm, paidS a b 18 (tget a b 96 n 0) sm (tget a b 12 0 1) = paidS a b 18 (tget a b 96 n 0) 0 (tget a b 12 0 1) := fun sm => by
      unfold paidS
      change tget a b (18 + 1) (tget a b 96 n 0) 2 = 1 at q2
      rw [if_pos q2, if_pos q2]
    rw [e]
    by_cases c2 : paidS a b 18 (tget a b 96 n 0) 0 (tget a b 12 0 1) = tget a b 96 n 1
    · rw [if_pos c2, if_neg (show ¬ (1 : Int) = 0 by decide), if_neg (show ¬ (1 : Int) = 0 by decide)]; omega
    · rw [if_neg c2, if_pos (rfl : (0 : Int) = 0), if_pos (rfl : (0 : Int) = 0)]; omega
  · rw [if_pos q]
    have e : paidS a b 18 (tget a b 96 n 0) (w + a 18 2 + max 0 (tget a b 12 0 1 - dueS a b 18 0 1)) (tget a b 12 0 1) = max 0 (min ((w + a 18 2 + max 0 (tget a b 12 0 1 - dueS a b 18 0 1)) - dueS a b 18 (tget a b 96 n 0 + 1) 0) (tget a b 19 (tget a b 96 n 0) 3)) := by
      have q3 : tget a b (18 + 1) (tget a b 96 n 0) 2 = 0 := by
        have := hl.2.2.1
        change tget a b 19 (tget a b 96 n 0) 2 = 0
        omega
      unfold paidS
      rw [q3, if_neg (by decide)]
    rw [e]
    have ej : justX a b n = tget a b 96 n 1 + dueS a b 18 (tget a b 96 n 0 + 1) 0 - (a 18 2 + max 0 (tget a b 12 0 1 - dueS a b 18 0 1)) := by
      unfold justX smX; omega
    rw [ej]
    by_cases c2 : tget a b 96 n 1 ≤ tget a b 19 (tget a b 96 n 0) 3
    · rw [if_pos c2, if_neg (show ¬ (1 : Int) = 0 by decide), if_neg (show ¬ (1 : Int) = 0 by decide)]
      by_cases c3 : tget a b 96 n 1 = 0
      · rw [if_neg (show ¬ (frTX a b n = 0 ∧ ¬ tget a b 96 n 1 = 0) by omega)]
        by_cases c4 : tget a b 96 n 1 = tget a b 19 (tget a b 96 n 0) 3
        · rw [if_neg (show ¬ (frTX a b n = 0 ∧ ¬ tget a b 96 n 1 = tget a b 19 (tget a b 96 n 0) 3) by omega)]; omega
        · rw [if_pos (show frTX a b n = 0 ∧ ¬ tget a b 96 n 1 = tget a b 19 (tget a b 96 n 0) 3 from ⟨q, c4⟩)]; omega
      · rw [if_pos (show frTX a b n = 0 ∧ ¬ tget a b 96 n 1 = 0 from ⟨q, c3⟩)]
        by_cases c4 : tget a b 96 n 1 = tget a b 19 (tget a b 96 n 0) 3
        · rw [if_neg (show ¬ (frTX a b n = 0 ∧ ¬ tget a b 96 n 1 = tget a b 19 (tget a b 96 n 0) 3) by omega)]; omega
        · rw [if_pos (show frTX a b n = 0 ∧ ¬ tget a b 96 n 1 = tget a b 19 (tget a b 96 n 0) 3 from ⟨q, c4⟩)]; omega
    · rw [if_neg c2, if_pos (rfl : (0 : Int) = 0), if_pos (rfl : (0 : Int) = 0)]; omega
theorem up1_s (f : Int → Int) (i z : Int) : up1 f i z i = z := if_pos rfl
theorem up1_ne (f : Int → Int) {i j : Int} (z : Int) (h : j ≠ i) : up1 f i z j = f j := if_neg h

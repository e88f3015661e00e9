/-! the model's voyage -/
theorem cap8 (t : uN) {w : Int} (h : w = 0 ∨ w = 1 ∨ w = 2) : (w = 0 ∧ tm (tbC w) = 1 ∧ cn8 t w = t 100 20) ∨ (w = 1 ∧ tm (tbC w) = 7 ∧ cn8 t w = t 100 22) ∨ (w = 2 ∧ tm (tbC w) = 5 ∧ cn8 t w = t 100 24) := by
  rcases h with q | q | q <;> subst q
  · exact Or.inl ⟨rfl, rfl, rfl⟩
  · exact Or.inr (Or.inl ⟨rfl, rfl, rfl⟩)
  · exact Or.inr (Or.inr ⟨rfl, rfl, rfl⟩)
def nvX (x : Int → Int) (D : uF) (w : Nat) (r : Int) (j : Nat) : Int := dV x (sk x (posN x (D w r) j))
def CN8 (x : Int → Int) (c : Nat → Int) (D : uF) (t : uN) (f : uF) : Prop := ∀ w, (w = 0 ∨ w = 1 ∨ w = 2) → cn8 t w = c w.toNat ∧ (0 ≤ c w.toNat ∧ c w.toNat ≤ tm (tbC w)) ∧ ∀ r j, 0 ≤ r → r < c w.toNat → 0 ≤ j → j < wdt w → f (aw8 w) (r * wdt w + j) = nvX x D w.toNat r j.toNat
def paR (x : Int → Int) (n : Int) : (Int × Int) × (Nat → Int) × uF := paS x n 220 (sk x 0) (fun _ => 0) (fun _ _ => 0)
def VI8 (x : Int → Int) (n : Int) (t0 : uN) (f0 : uF) (y : Int) (tz : uN) (fz : uF) : Prop := RDc t0 tz ∧ RDg f0 fz ∧
  ((y = 1 ∧ (0 ≤ tz 100 15 ∧ tz 100 15 ≤ n) ∧ tz 100 18 = 0 ∧ tz 100 19 = -1 ∧ ∃ (fu : Nat) (c : Nat → Int) (D : uF), n - sk x (tz 100 15) ≤ fu ∧ paS x n fu (sk x (tz 100 15)) c D = paR x n ∧ CN8 x c D tz fz) ∨
   (y = 0 ∧ ¬ tz 100 18 = 0 ∧ (paR x n).1 = (tz 100 18, tz 100 19)))
theorem VI8.one {x : Int → Int} {n : Int} {t0 tz : uN} {f0 fz : uF} (h : VI8 x n t0 f0 1 tz fz) : (0 ≤ tz 100 15 ∧ tz 100 15 ≤ n) ∧ tz 100 18 = 0 ∧ tz 100 19 = -1 ∧ ∃ (fu : Nat) (c : Nat → Int) (D : uF), n - sk x (tz 100 15) ≤ fu ∧ paS x n fu (sk x (tz 100 15)) c D = paR x n ∧ CN8 x c D tz fz := by
  rcases h.2.2 with h | h
  · exact h.2
  · exact absurd h.1 (by decide)
theorem VI8.tm {x : Int → Int} {n : Int} {t0 tz : uN} {f0 fz : uF} (h : VI8 x n t0 f0 1 tz fz) (hT : txt x n ∧ t0 100 14 = n ∧ ∀ p, 0 ≤ p → p < n → f0 108 p = x p) : TM x n tz fz :=
  ⟨hT.1, by rw [h.1 100 14 (by unfold rdj; omega)]; exact hT.2.1, fun p p0 p1 => by rw [h.2.1 108 p (by omega)]; exact hT.2.2 p p0 p1, h.one.1⟩
theorem VI8.cnt {x : Int → Int} {n : Int} {t0 tz : uN} {f0 fz : uF} (h : VI8 x n t0 f0 1 tz fz) : (tz 100 20 = 0 ∨ tz 100 20 = 1) ∧ (0 ≤ tz 100 22 ∧ tz 100 22 ≤ 7) ∧ (0 ≤ tz 100 24 ∧ tz 100 24 ≤ 5) := by
  obtain ⟨-, -, -, fu, c, D, -, -, hc⟩ := h.one
  have a := hc 0 (by omega)
  have b := hc 1 (by omega)
  have d := hc 2 (by omega)
  have a1 : tz 100 20 = c 0 := a.1
  have b1 : tz 100 22 = c 1 := b.1
  have d1 : tz 100 24 = c 2 := d.1
  have a2 : 0 ≤ c 0 ∧ c 0 ≤ 1 := a.2.1
  have b2 : 0 ≤ c 1 ∧ c 1 ≤ 7 := b.2.1
  have d2 : 0 ≤ c 2 ∧ c 2 ≤ 5 := d.2.1
  omega
theorem CN8_step {x : Int → Int} {c : Nat → Int} {D : uF} {t t2 : uN} {f f2 : uF} {w p : Int} (hw : w = 0 ∨ w = 1 ∨ w = 2) (h : CN8 x c D t f) (hlt : cn8 t w < tm (tbC w)) (hc : ∀ v, v = 0 ∨ v = 1 ∨ v = 2 → cn8 t2 v = if v = w then cn8 t w + 1 else cn8 t v)
    (hf : ∀ k i, f2 k i = if k = aw8 w ∧ cn8 t w * wdt w ≤ i ∧ i < cn8 t w * wdt w + wdt w then dV x (sk x (posN x p (i - cn8 t w * wdt w).toNat)) else f k i) : CN8 x (upN c w.toNat (c w.toNat + 1)) (upA D w.toNat (c w.toNat) p) t2 f2 := by
  intro v hv
  obtain ⟨w1, w2, w3⟩ := h w hw
  obtain ⟨v1, v2, v3⟩ := h v hv
  have hcv := hc v hv
  rw [w1] at hcv hf hlt
  by_cases q : v = w
  · subst q
    rw [if_pos rfl] at hcv
    have eu : upN c v.toNat (c v.toNat + 1) v.toNat = c v.toNat + 1 := if_pos rfl
    rw [eu]
    refine ⟨hcv, by omega, fun r j r0 r1 j0 j1 => ?_⟩
    rw [hf]
    have hW := wdt_rng v
    by_cases g : r = c v.toNat
    · subst g
      rw [if_pos ⟨rfl, by omega, by omega⟩]
      unfold nvX
      rw [upA_s, show c v.toNat * wdt v + j - c v.toNat * wdt v = j by omega]
    · have hm : (r + 1) * wdt v ≤ c v.toNat * wdt v := Int.mul_le_mul_of_nonneg_right (by omega) (by omega)
      rw [Int.add_mul, Int.one_mul] at hm
      rw [if_neg (by omega)]
      unfold nvX
      rw [upA_i _ _ _ g]
      exact v3 r j r0 (by omega) j0 j1
  · rw [if_neg q] at hcv
    have hn : v.toNat ≠ w.toNat := by omega
    have ha : aw8 v ≠ aw8 w := by
      unfold aw8
      rcases hv with z | z | z <;> rcases hw with y | y | y <;> subst z <;> subst y <;> first | decide | exact absurd rfl q
    have eu : upN c w.toNat (c w.toNat + 1) v.toNat = c v.toNat := if_neg hn
    rw [eu]
    refine ⟨by rw [hcv]; exact v1, v2, fun r j r0 r1 j0 j1 => ?_⟩
    rw [hf, if_neg (fun e => ha e.1)]
    unfold nvX
    rw [upA_k _ _ _ _ hn]
    exact v3 r j r0 r1 j0 j1
theorem VI8_step {x : Int → Int} {n s z : Int} {t0 tz t1 t2 : uN} {f0 fz f2 : uF} (hx : txt x n) (h : VI8 x n t0 f0 1 tz fz) (hs : s = sk x (tz 100 15)) (hn : s < n) (h1 : t1 = up2 (up2 tz 100 15 s) 100 16 s) (hq : CQ8 x n t1 fz s (wordZ (x s)) z t2 f2) : VI8 x n t0 f0 z t2 f2 ∧ (z = 0 ∨ (z = 1 ∧ s < t2 100 15)) := by
  obtain ⟨o1, o2, o3, fu, c, D, o4, o5, o6⟩ := h.one
  have e1 : RDf tz t1 := by
    rw [h1]
    exact ((RDf.rf tz).up _ (Or.inl rfl)).up _ (Or.inr (Or.inl rfl))
  have e20 : t1 100 20 = c 0 := (e1 100 20 (by unfold rdj; omega)).trans (o6 0 (by omega)).1
  have ec : ∀ w, cn8 t1 w = cn8 tz w := cn8_of (fun j hj => e1 100 j (by unfold rdj; omega))
  have e18 : t1 100 18 = tz 100 18 := by rw [h1, up2_ne _ _ (by omega), up2_ne _ _ (by omega)]
  have e19 : t1 100 19 = tz 100 19 := by rw [h1, up2_ne _ _ (by omega), up2_ne _ _ (by omega)]
  rw [← hs] at o4 o5
  obtain ⟨k, rfl⟩ : ∃ k, fu = k + 1 := ⟨fu - 1, by omega⟩
  rw [paS, if_neg (by omega)] at o5
  obtain ⟨q1, q2, q3⟩ := hq
  have r1 : RDc t0 t2 := (h.1.tr e1.c).tr q1
  have r2 : RDg f0 f2 := h.2.1.tr q2
  rw [e20] at q3
  rcases q3 with ⟨b1, b2, b3, b4⟩ | ⟨b1, b2, b3, b4, b5⟩ | ⟨b1, b2, b3⟩
  · rw [if_pos b1] at o5
    exact ⟨⟨r1, r2, Or.inr ⟨b2, by omega, by rw [← o5, b3, b4]⟩⟩, Or.inl b2⟩
  · have hw : wordZ (x s) = 0 ∨ wordZ (x s) = 1 ∨ wordZ (x s) = 2 := by have := wordZ_rng (x s); omega
    rw [if_neg b1, if_pos (by rw [← (o6 _ hw).1, ← ec]; exact b2)] at o5
    exact ⟨⟨r1, r2, Or.inr ⟨b3, by omega, by rw [← o5, b4, b5]⟩⟩, Or.inl b3⟩
  · have hw : wordZ (x s) = 0 ∨ wordZ (x s) = 1 ∨ wordZ (x s) = 2 := by have := wordZ_rng (x s); omega
    rw [if_neg b1, if_neg (by rw [← (o6 _ hw).1, ← ec]; omega)] at o5
    rcases b3 with ⟨d1, d2, d3, d4⟩ | ⟨d1, d2, d3, d4, d5, d6, d7⟩
    · rw [if_neg d1] at o5
      exact ⟨⟨r1, r2, Or.inr ⟨d2, by rw [d3]; exact d1, by rw [← o5, d3, d4]⟩⟩, Or.inl d2⟩
    · rw [if_pos d1, ← d3] at o5
      have hk := sk_rng hx d4.1 d4.2.1
      refine ⟨⟨r1, r2, Or.inl ⟨d2, ⟨d4.1, d4.2.1⟩, by rw [d5.1, e18]; exact o2, by rw [d5.2, e19]; exact o3, k, _, _, by omega, o5, ?_⟩⟩, Or.inr ⟨d2, d4.2.2⟩⟩
      refine CN8_step (t := tz) (f := fz) hw o6 (by rw [← ec]; exact b2) (fun v hv => by rw [← ec, ← ec]; exact d6 v hv) (fun k i => ?_)
      rw [← ec]; exact d7 k i
theorem VI8_end {x : Int → Int} {n : Int} {t0 tz : uN} {f0 fz : uF} (h : VI8 x n t0 f0 1 tz fz) (hn : n ≤ sk x (tz 100 15)) : (paR x n).1 = (0, -1) ∧ CN8 x (paR x n).2.1 (paR x n).2.2 tz fz := by
  obtain ⟨o1, o2, o3, fu, c, D, o4, o5, o6⟩ := h.one
  have e : paS x n fu (sk x (tz 100 15)) c D = ((0, -1), c, D) := by
    cases fu with
    | zero => rfl
    | succ k => rw [paS, if_pos hn]
  rw [e] at o5
  rw [← o5]
  exact ⟨rfl, o6⟩
theorem VI8_init {x : Int → Int} {n : Int} {t t2 : uN} {f : uF} (hx : txt x n) (h2 : t2 = up2 (up2 (up2 (up2 (up2 (up2 t 100 15 0) 100 18 0) 100 19 (-1)) 100 20 0) 100 22 0) 100 24 0) : VI8 x n t f 1 t2 f := by
  have hn := hx.1
  have e : ∀ j, j ≠ 15 → j ≠ 18 → j ≠ 19 → j ≠ 20 → j ≠ 22 → j ≠ 24 → t2 100 j = t 100 j := fun j a1 a2 a3 a4 a5 a6 => by
    rw [h2, up2_j _ _ _ a6, up2_j _ _ _ a5, up2_j _ _ _ a4, up2_j _ _ _ a3, up2_j _ _ _ a2, up2_j _ _ _ a1]
  have e15 : t2 100 15 = 0 := by rw [h2, up2_j _ _ _ (by decide), up2_j _ _ _ (by decide), up2_j _ _ _ (by decide), up2_j _ _ _ (by decide), up2_j _ _ _ (by decide), up2_s]
  have e18 : t2 100 18 = 0 := by rw [h2, up2_j _ _ _ (by decide), up2_j _ _ _ (by decide), up2_j _ _ _ (by decide), up2_j _ _ _ (by decide), up2_s]
  have e19 : t2 100 19 = -1 := by rw [h2, up2_j _ _ _ (by decide), up2_j _ _ _ (by decide), up2_j _ _ _ (by decide), up2_s]
  have e20 : t2 100 20 = 0 := by rw [h2, up2_j _ _ _ (by decide), up2_j _ _ _ (by decide), up2_s]
  have e22 : t2 100 22 = 0 := by rw [h2, up2_j _ _ _ (by decide), up2_s]
  have e24 : t2 100 24 = 0 := by rw [h2, up2_s]
  have hs := sk_rng hx (p := 0) (by omega) hn.1
  refine ⟨fun k j q => ?_, fun _ _ _ => rfl, Or.inl ⟨rfl, by omega, e18, e19, 220, fun _ => 0, fun _ _ => 0, by rw [e15]; omega, by rw [e15]; rfl, fun w hw => ?_⟩⟩
  · by_cases hk : k = 100
    · subst hk
      unfold rdj at q
      exact e j (by omega) (by omega) (by omega) (by omega) (by omega) (by omega)
    · rw [h2, up2_k _ _ _ _ hk, up2_k _ _ _ _ hk, up2_k _ _ _ _ hk, up2_k _ _ _ _ hk, up2_k _ _ _ _ hk, up2_k _ _ _ _ hk]
  · refine ⟨?_, ⟨Int.le_refl _, ?_⟩, fun r j r0 r1 => absurd r1 (by show ¬ r < 0; omega)⟩
    · rcases hw with q | q | q <;> subst q
      · exact e20
      · exact e22
      · exact e24
    · rcases hw with q | q | q <;> subst q <;> decide
def RDv (t t2 : uN) : Prop := ∀ k j, ¬ (k = 100 ∧ (rdj j ∨ j = 14 ∨ j = 20 ∨ j = 22 ∨ j = 24)) → t2 k j = t k j
/-- what a good voyage leaves -/
def VS8 (x : Int → Int) (c : Nat → Int) (D : uF) (t : uN) (f : uF) (z : Int) (t2 : uN) (f2 : uF) : Prop :=
  z = c 1 ∧ (∀ k j, k < 100 → t2 k j = t k j) ∧ (∀ k j, k < 100 → f2 k j = f k j) ∧
  (t2 100 2 = 0 ∧ t2 100 3 = c 0 ∧ t2 100 6 = c 1 ∧ t2 100 10 = c 2 ∧ t2 100 14 = 0 ∧ t2 100 19 = -1 ∧ t2 100 31 = 0 ∧ t2 100 34 = 0) ∧
  ((c 0 = 0 ∧ t2 100 4 = 0 ∧ t2 100 5 = 0 ∧ f2 101 2 = 0 ∧ f2 101 3 = 0) ∨ (c 0 = 1 ∧ t2 100 4 = nvX x D 0 0 0 ∧ t2 100 5 = nvX x D 0 0 1 ∧ f2 101 2 = nvX x D 0 0 2 ∧ f2 101 3 = nvX x D 0 0 3)) ∧
  (f2 101 0 = 0 ∧ f2 101 1 = 0 ∧ f2 101 4 = 0 ∧ f2 101 41 = f 101 41) ∧ (f2 102 0 = 0 ∧ f2 102 1 = 0) ∧
  (∀ i, 0 ≤ i → i < c 1 → f2 103 i = nvX x D 1 i 0 ∧ f2 104 i = nvX x D 1 i 1 ∧ f2 105 i = nvX x D 1 i 2) ∧
  (∀ i, 0 ≤ i → i < c 2 → f2 106 i = nvX x D 2 i 0 ∧ f2 107 i = nvX x D 2 i 1)
def VM8 (x : Int → Int) (n : Int) (t : uN) (f : uF) (z : Int) (t2 : uN) (f2 : uF) : Prop :=
  (¬ (paR x n).1.1 = 0 ∧ z = -10 - (paR x n).1.1 ∧ RDv t t2 ∧ t2 100 14 = 0 ∧ t2 100 19 = (paR x n).1.2 ∧ RDg f f2) ∨
  ((paR x n).1.1 = 0 ∧ (paR x n).1.2 = -1 ∧ ((0 ≤ (paR x n).2.1 0 ∧ (paR x n).2.1 0 ≤ 1) ∧ (0 ≤ (paR x n).2.1 1 ∧ (paR x n).2.1 1 ≤ 7) ∧ (0 ≤ (paR x n).2.1 2 ∧ (paR x n).2.1 2 ≤ 5)) ∧ VS8 x (paR x n).2.1 (paR x n).2.2 t f z t2 f2)
theorem VM8_bad {x : Int → Int} {n y : Int} {t tz t2 : uN} {f fz : uF} (h : VI8 x n t f y tz fz) (hy : y = 0) (h2 : t2 = up2 tz 100 14 0) : VM8 x n t f (-10 - tz 100 18) t2 fz := by
  rcases h.2.2 with h3 | ⟨-, h3, h4⟩
  · omega
  · refine Or.inl ⟨by rw [h4]; exact h3, by rw [h4], fun k j q => ?_, by rw [h2, up2_s], by rw [h2, up2_ne _ _ (by omega), h4], h.2.1⟩
    rw [h2, up2_ne _ _ (fun e => q ⟨e.1, Or.inr (Or.inl e.2)⟩)]
    exact h.1 k j (fun e => q ⟨e.1, e.2.elim Or.inl (fun z => Or.inr (Or.inr z))⟩)

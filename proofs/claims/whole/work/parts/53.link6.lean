/-! what each act leaves: voyage -/
theorem fol_ok (x : Int → Int) (w p : Int) (r : Nat) : ∀ j, (fol x w p r j).1 = 0 → ∀ i, j ≤ i → i < j + r → numK x (w * 4 + i) (sk x (posN x p i)) = 0 := by
  induction r with
  | zero => intro j _ i h1 h2; omega
  | succ r ih =>
    intro j h i h1 h2
    rw [fol] at h
    by_cases q : numK x (w * 4 + j) (sk x (posN x p j)) = 0
    · rw [if_pos q] at h
      by_cases e : i = j
      · subst e; exact q
      · exact ih (j + 1) h i (by omega) (by omega)
    · rw [if_neg q] at h
      exact absurd h q
/-- what is read is within its bounds; legs and lenders want a ship -/
def BN8 (x : Int → Int) (c : Nat → Int) (D : uF) : Prop := (∀ w : Int, (w = 0 ∨ w = 1 ∨ w = 2) → 0 ≤ c w.toNat ∧ ∀ r, 0 ≤ r → r < c w.toNat → ∀ i : Nat, i < (wdt w).toNat → numK x (w * 4 + i) (sk x (posN x (D w.toNat r) i)) = 0) ∧ (c 0 = 0 → c 1 = 0 ∧ c 2 = 0)
theorem paS_ok (x : Int → Int) (n : Int) (k : Nat) : ∀ p c D, BN8 x c D → BN8 x (paS x n k p c D).2.1 (paS x n k p c D).2.2 := by
  induction k with
  | zero => intro p c D h; exact h
  | succ k ih =>
    intro p c D h
    rw [paS]
    split
    · exact h
    · split
      · exact h
      · next hb =>
        split
        · exact h
        · split
          · next hf =>
            refine ih _ _ _ ⟨fun v hv => ?_, fun z => ?_⟩
            · have hw : wordZ (x p) = 0 ∨ wordZ (x p) = 1 ∨ wordZ (x p) = 2 := by have := wordZ_rng (x p); omega
              obtain ⟨v1, v2⟩ := h.1 v hv
              by_cases q : v.toNat = (wordZ (x p)).toNat
              · have qv : v = wordZ (x p) := by omega
                have eu : upN c (wordZ (x p)).toNat (c (wordZ (x p)).toNat + 1) v.toNat = c v.toNat + 1 := by rw [← q]; exact if_pos rfl
                rw [eu]
                refine ⟨by omega, fun r r0 r1 i hi => ?_⟩
                by_cases g : r = c v.toNat
                · rw [g, ← q, upA_s, qv]
                  have := fol_ok x (wordZ (x p)) p (wdt (wordZ (x p))).toNat 0 hf i (by omega) (by rw [← qv]; omega)
                  exact this
                · rw [← q, upA_i _ _ _ g]
                  exact v2 r r0 (by omega) i hi
              · have eu : upN c (wordZ (x p)).toNat (c (wordZ (x p)).toNat + 1) v.toNat = c v.toNat := if_neg q
                rw [eu]
                refine ⟨v1, fun r r0 r1 i hi => ?_⟩
                rw [upA_k _ _ _ _ q]
                exact v2 r r0 r1 i hi
            · have hw : wordZ (x p) = 0 ∨ wordZ (x p) = 1 ∨ wordZ (x p) = 2 := by have := wordZ_rng (x p); omega
              have h0 := (h.1 0 (by omega)).1
              change 0 ≤ c 0 at h0
              by_cases q : wordZ (x p) = 0
              · have : upN c (wordZ (x p)).toNat (c (wordZ (x p)).toNat + 1) 0 = c 0 + 1 := by rw [q]; exact if_pos rfl
                omega
              · have e0 : upN c (wordZ (x p)).toNat (c (wordZ (x p)).toNat + 1) 0 = c 0 := if_neg (by omega)
                rw [e0] at z
                exact absurd (Or.inr ⟨q, z⟩) hb
          · exact h
theorem paR_ok (x : Int → Int) (n : Int) : BN8 x (paR x n).2.1 (paR x n).2.2 := paS_ok x n 220 _ _ _ ⟨fun w _ => ⟨Int.le_refl _, fun r r0 r1 => absurd r1 (by show ¬ r < 0; omega)⟩, fun _ => ⟨rfl, rfl⟩⟩
theorem numK_ok {x : Int → Int} {b q : Int} (h : numK x b q = 0) : leastT b.toNat ≤ dV x q ∧ dV x q ≤ greatT b.toNat := by
  unfold numK at h
  split at h
  · omega
  · split at h
    · next y => exact y.2
    · omega
/-- the rows' numbers, with their bounds -/
theorem nv_rng {x : Int → Int} {c : Nat → Int} {D : uF} (h : BN8 x c D) : (c 0 = 1 → (1 ≤ nvX x D 0 0 0 ∧ nvX x D 0 0 0 ≤ 999) ∧ (0 ≤ nvX x D 0 0 1 ∧ nvX x D 0 0 1 ≤ 999) ∧ (0 ≤ nvX x D 0 0 2 ∧ nvX x D 0 0 2 ≤ 9) ∧ (0 ≤ nvX x D 0 0 3 ∧ nvX x D 0 0 3 ≤ 999)) ∧
    (∀ r, 0 ≤ r → r < c 1 → (0 ≤ nvX x D 1 r 0 ∧ nvX x D 1 r 0 ≤ 99) ∧ (0 ≤ nvX x D 1 r 1 ∧ nvX x D 1 r 1 ≤ 9) ∧ (0 ≤ nvX x D 1 r 2 ∧ nvX x D 1 r 2 ≤ 99)) ∧
    (∀ r, 0 ≤ r → r < c 2 → (0 ≤ nvX x D 2 r 0 ∧ nvX x D 2 r 0 ≤ 999) ∧ (0 ≤ nvX x D 2 r 1 ∧ nvX x D 2 r 1 ≤ 200)) := by
  refine ⟨fun q => ?_, fun r r0 r1 => ?_, fun r r0 r1 => ?_⟩
  · have a := (h.1 0 (by omega)).2 0 (by omega) (by show 0 < c 0; omega)
    have a0 := numK_ok (a 0 (by decide))
    have a1 := numK_ok (a 1 (by decide))
    have a2 := numK_ok (a 2 (by decide))
    have a3 := numK_ok (a 3 (by decide))
    exact ⟨a0, a1, a2, a3⟩
  · have a := (h.1 1 (by omega)).2 r r0 r1
    have a0 := numK_ok (a 0 (by decide))
    have a1 := numK_ok (a 1 (by decide))
    have a2 := numK_ok (a 2 (by decide))
    have b2 : 1 ≤ nvX x D 1 r 2 ∧ nvX x D 1 r 2 ≤ 99 := a2
    exact ⟨a0, a1, by omega⟩
  · have a := (h.1 2 (by omega)).2 r r0 r1
    have a0 := numK_ok (a 0 (by decide))
    have a1 := numK_ok (a 1 (by decide))
    exact ⟨a0, a1⟩
theorem LR_voyF {t t1 t2 tr : uN} {f f1 f2 fr : uF} {x : Int → Int} (h : LR t f) (hc : CLfr t f tr fr) (e4 : tr 3 4 = (paR x (t 1 3)).1.2) (h1 : t1 = vyT0 tr) (h2 : f1 = fr) (r1 : RDv t1 t2) (r2 : t2 100 14 = 0) (r3 : t2 100 19 = (paR x (t 1 3)).1.2) (r4 : RDg f1 f2) : LR t2 f2 := by
  obtain ⟨a, b, c, d, e, g, i, j⟩ := h
  have T1 : ∀ k j, k ≠ 3 → ¬ (j = 3 ∧ (k = 5 ∨ k = 7 ∨ k = 9)) → ¬ (k = 0 ∧ j = 10) → ¬ (k = 1 ∧ j = 3) → t1 k j = t k j := fun k j a b c d => by
    rw [h1]; unfold vyT0; rw [up2_ne _ _ d, up2_ne _ _ c]; exact hc.1 k j a b
  have T : ∀ k j, k ≠ 3 → k ≠ 5 → k ≠ 7 → k ≠ 9 → k ≠ 100 → ¬ (k = 0 ∧ j = 10) → ¬ (k = 1 ∧ j = 3) → t2 k j = t k j := fun k j a b c d x y z => by
    rw [r1 k j (fun e => x e.1)]; exact T1 k j a (by omega) y z
  have M : ∀ j, ¬ (14 ≤ j ∧ j ≤ 24) → t2 100 j = t 100 j := fun j a => by
    rw [r1 100 j (by unfold rdj; omega)]; exact T1 100 j (by omega) (by omega) (by omega) (by omega)
  have F : ∀ k i, ¬ (109 ≤ k ∧ k ≤ 111) → k ≠ 6 → k ≠ 8 → k ≠ 10 → f2 k i = f k i := fun k i a b c d => by
    rw [r4 k i (by omega), h2]; exact hc.2 k i b c d
  have e13 : t2 1 3 = 0 := by rw [r1 1 3 (by omega), h1]; unfold vyT0; rw [up2_s]
  have e10 : t2 0 10 = (paR x (t 1 3)).1.2 := by rw [r1 0 10 (by omega), h1]; unfold vyT0; rw [up2_ne _ _ (by omega), up2_s]; exact e4
  refine ⟨a.same (fun k j hk => T k j (by omega) (by omega) (by omega) (by omega) (by omega) (by omega) (by omega)) (fun k i hk => F k i (by omega) (by omega) (by omega) (by omega)) (fun j hj => M j (by omega)) (fun i _ _ => F 101 i (by omega) (by omega) (by omega) (by omega)), ⟨?_, fun p => ?_, by rw [r2, e13], fun p p0 p1 => absurd p1 (by omega)⟩,
    c.of (T 96 3 (by omega) (by omega) (by omega) (by omega) (by omega) (by omega) (by omega)) (fun i => F 97 i (by omega) (by omega) (by omega) (by omega)) (M 31 (by omega)) (fun k i hk => F k i (by omega) (by omega) (by omega) (by omega)),
    d.of (T 98 3 (by omega) (by omega) (by omega) (by omega) (by omega) (by omega) (by omega)) (fun i => F 99 i (by omega) (by omega) (by omega) (by omega)) (M 34 (by omega)) (fun i => F 116 i (by omega) (by omega) (by omega) (by omega)), ?_,
    g.of (fun k j hk => T k j (by omega) (by omega) (by omega) (by omega) (by omega) (by omega) (by omega)) (fun k i hk => F k i (by omega) (by omega) (by omega) (by omega)) (M 2 (by omega)) (fun i _ => F 101 i (by omega) (by omega) (by omega) (by omega)),
    i.of (fun k j hk => T k j (by omega) (by omega) (by omega) (by omega) (by omega) (by omega) (by omega)) (fun k i hk => F k i (by omega) (by omega) (by omega) (by omega)) (fun i => F 102 i (by omega) (by omega) (by omega) (by omega)) (fun i _ _ => F 101 i (by omega) (by omega) (by omega) (by omega)),
    j.of (fun k j hk => T k j (by omega) (by omega) (by omega) (by omega) (by omega) (by omega) (by omega)) (fun k i hk => F k i (by omega) (by omega) (by omega) (by omega))⟩
  · show 0 ≤ t2 1 3 ∧ t2 1 3 ≤ 220
    rw [e13]; decide
  · rw [tget_none e13]; decide
  · exact ⟨by rw [T 0 11 (by omega) (by omega) (by omega) (by omega) (by omega) (by omega) (by omega)]; exact e.1, by rw [F 101 41 (by omega) (by omega) (by omega) (by omega), T 0 11 (by omega) (by omega) (by omega) (by omega) (by omega) (by omega) (by omega)]; exact e.2.1, by rw [r3, e10]⟩
theorem LR_voyT {t t1 t2 tr : uN} {f f1 f2 fr : uF} {x : Int → Int} {c : Nat → Int} {D : uF} {z2 : Int} (h : LR t f) (hc : CLfr t f tr fr) (ho : tOK tr 5 ∧ tOK tr 7 ∧ tOK tr 9) (e4 : tr 3 4 = -1) (hC : CN x c D tr fr) (hB : BN8 x c D) (hcr : (0 ≤ c 0 ∧ c 0 ≤ 1) ∧ (0 ≤ c 1 ∧ c 1 ≤ 7) ∧ (0 ≤ c 2 ∧ c 2 ≤ 5)) (h1 : t1 = vyT3 (vyT2 (vyT1 (vyT0 tr)) (vyF1 fr))) (h2 : f1 = vyF1 fr) (hm : VS8 x c D t1 f1 z2 t2 f2) : LR t2 f2 ∧ z2 = t1 14 3 := by
  obtain ⟨a, b, cc, d, e, g, i, j⟩ := h
  obtain ⟨n1, n2, n3⟩ := nv_rng hB
  have c0 : tr 5 3 = c 0 := (hC 0 (by omega)).1
  have c1 : tr 7 3 = c 1 := (hC 1 (by omega)).1
  have c2 : tr 9 3 = c 2 := (hC 2 (by omega)).1
  obtain ⟨m0, mt, mf, ⟨m2, m3, m6, m10, m14, m19, m31, m34⟩, mv, ⟨w0, w1, w4, w41⟩, ⟨k0, k1⟩, ml, mm⟩ := hm
  have T1 : ∀ k j, ¬ (k = 0 ∧ j = 10) → k ≠ 1 → k ≠ 3 → k ≠ 12 → k ≠ 14 → k ≠ 16 → k ≠ 18 → k ≠ 19 → ¬ (k = 96 ∧ j = 3) → ¬ (k = 98 ∧ j = 3) → ¬ (k = 83 ∧ j = 2) → ¬ (k = 87 ∧ j = 2) → ¬ (k = 21 ∧ j = 2) → ¬ (k = 91 ∧ j = 6) → ¬ (j = 3 ∧ (k = 5 ∨ k = 7 ∨ k = 9)) → t1 k j = t k j := fun k j q1 q2 q3 q4 q5 q6 q7 q8 q9 q10 q11 q12 q13 q14 q15 => by
    rw [h1]; unfold vyT3
    rw [up2_ne _ _ q14, up2_ne _ _ q13, up2_ne _ _ q12, up2_ne _ _ q11, up2_ne _ _ q10, up2_ne _ _ q9]
    unfold vyT2
    simp only []
    rw [up2_k _ _ _ _ q7, up2_k _ _ _ _ q7, up2_k _ _ _ _ q7, up2_k _ _ _ _ q7, up2_k _ _ _ _ q8]
    unfold vyT1
    simp only []
    rw [up2_k _ _ _ _ q6, up2_k _ _ _ _ q5, up2_k _ _ _ _ q4]
    unfold vyT0
    rw [up2_k _ _ _ _ q2, up2_ne _ _ q1]
    exact hc.1 k j q3 q15
  have v10 : t1 0 10 = -1 := by
    rw [h1]
    show tr 3 4 = -1
    exact e4
  have v13 : t1 1 3 = 0 := by rw [h1]; rfl
  have v12 : t1 12 3 = c 0 := by
    rw [h1]
    show tr 5 3 = c 0
    exact c0
  have v14 : t1 14 3 = c 1 := by
    rw [h1]
    show tr 7 3 = c 1
    exact c1
  have v16 : t1 16 3 = c 2 := by
    rw [h1]
    show tr 9 3 = c 2
    exact c2
  have v183 : t1 18 3 = 0 := by rw [h1]; rfl
  have v184 : t1 18 4 = 0 := by rw [h1]; rfl
  have v193 : t1 19 3 = 0 := by rw [h1]; rfl
  have v96 : t1 96 3 = 0 := by rw [h1]; rfl
  have v98 : t1 98 3 = 0 := by rw [h1]; rfl
  have v83 : t1 83 2 = 0 := by rw [h1]; rfl
  have v87 : t1 87 2 = 0 := by rw [h1]; rfl
  have v21 : t1 21 2 = 0 := by rw [h1]; rfl
  have v91 : t1 91 6 = 0 := by rw [h1]; rfl
  have F1 : ∀ k i, k ≠ 13 → k ≠ 15 → k ≠ 17 → k ≠ 6 → k ≠ 8 → k ≠ 10 → f1 k i = f k i := fun k i q1 q2 q3 q4 q5 q6 => by
    rw [h2]; unfold vyF1
    rw [cpA_off q3, cpA_off q2, cpA_off q1]
    exact hc.2 k i q4 q5 q6
  have f13 : ∀ y : Int, 0 ≤ y → y < 4 → f1 13 y = fr 6 y := fun y y0 y1 => by
    rw [h2]; unfold vyF1
    rw [cpA_off (by decide), cpA_off (by decide), cpA_in y0 y1]
  have f15 : ∀ y : Int, 0 ≤ y → y < 21 → f1 15 y = fr 8 y := fun y y0 y1 => by
    rw [h2]; unfold vyF1
    rw [cpA_off (by decide), cpA_in y0 y1, cpA_off (by decide)]
  have f17 : ∀ y : Int, 0 ≤ y → y < 10 → f1 17 y = fr 10 y := fun y y0 y1 => by
    rw [h2]; unfold vyF1
    rw [cpA_in y0 y1, cpA_off (by decide), cpA_off (by decide)]
  have s12 : ∀ y : Int, 0 ≤ y → y < 4 → c 0 = 1 → tget t1 f1 12 0 y = nvX x D 0 0 y.toNat := fun y y0 y1 q => by
    rw [tgetU (by omega) (by rw [v12]; omega) y0 (by show y < 4; omega), show tw 12 = 4 from rfl, Int.zero_mul, Int.zero_add, f13 y y0 y1]
    have := (hC 0 (by omega)).2 0 y (by omega) (by show 0 < c 0; omega) y0 y1
    rw [Int.zero_mul, Int.zero_add] at this
    exact this
  have s14 : ∀ r y : Int, 0 ≤ r → r < c 1 → 0 ≤ y → y < 3 → tget t1 f1 14 r y = nvX x D 1 r y.toNat := fun r y r0 r1 y0 y1 => by
    rw [tgetU r0 (by rw [v14]; exact r1) y0 (by show y < 3; omega), show tw 14 = 3 from rfl, f15 _ (by omega) (by omega)]
    exact (hC 1 (by omega)).2 r y r0 r1 y0 y1
  have s16 : ∀ r y : Int, 0 ≤ r → r < c 2 → 0 ≤ y → y < 2 → tget t1 f1 16 r y = nvX x D 2 r y.toNat := fun r y r0 r1 y0 y1 => by
    rw [tgetU r0 (by rw [v16]; exact r1) y0 (by show y < 2; omega), show tw 16 = 2 from rfl, f17 _ (by omega) (by omega)]
    exact (hC 2 (by omega)).2 r y r0 r1 y0 y1
  have T12 : ∀ k j, k = 12 ∨ k = 14 ∨ k = 16 → j = 3 → vyT1 (vyT0 tr) k j = t1 k j := fun k j hk hj => by
    subst hj
    rcases hk with q | q | q <;> subst q <;> rw [h1] <;> rfl
  have t12 : ∀ y, tget (vyT1 (vyT0 tr)) (vyF1 fr) 12 0 y = tget t1 f1 12 0 y := fun y => tget_same (T12 12 3 (by omega) rfl) (fun i => by rw [h2]) 0 y
  have v181 : t1 18 1 = tget t1 f1 12 0 2 := by
    rw [← t12 2, h1]
    show tget (up2 (vyT1 (vyT0 tr)) 19 3 0) (vyF1 fr) 12 0 2 = _
    exact tget_same (up2_ne _ _ (by omega)) (fun _ => rfl) 0 2
  have v182 : t1 18 2 = tget t1 f1 12 0 3 := by
    rw [← t12 3, h1]
    show tget (up2 (up2 (vyT1 (vyT0 tr)) 19 3 0) 18 1 _) (vyF1 fr) 12 0 3 = _
    exact tget_same (by rw [up2_ne _ _ (by omega), up2_ne _ _ (by omega)]) (fun _ => rfl) 0 3
  have b12 : ∀ y : Int, 0 ≤ y → y < 4 → c 0 = 0 → tget t1 f1 12 0 y = 0 := fun y _ _ q => tget_none (by rw [v12]; exact q) 0 y
  have q12 : (0 ≤ tget t1 f1 12 0 0 ∧ tget t1 f1 12 0 0 ≤ 999) ∧ (0 ≤ tget t1 f1 12 0 1 ∧ tget t1 f1 12 0 1 ≤ 999) ∧ (0 ≤ tget t1 f1 12 0 2 ∧ tget t1 f1 12 0 2 ≤ 9) ∧ (0 ≤ tget t1 f1 12 0 3 ∧ tget t1 f1 12 0 3 ≤ 999) := by
    rcases (show c 0 = 0 ∨ c 0 = 1 by omega) with q | q
    · rw [b12 0 (by omega) (by omega) q, b12 1 (by omega) (by omega) q, b12 2 (by omega) (by omega) q, b12 3 (by omega) (by omega) q]; omega
    · have := n1 q
      rw [s12 0 (by omega) (by omega) q, s12 1 (by omega) (by omega) q, s12 2 (by omega) (by omega) q, s12 3 (by omega) (by omega) q]
      exact ⟨⟨by have := this.1.1; exact Int.le_trans (by decide) this, this.1.2⟩, this.2.1, this.2.2.1, this.2.2.2⟩
  have hV1 : VOK t1 f1 11 := by
    refine ⟨⟨?_, ?_, ?_⟩, fun r => ?_, fun r => ?_, q12⟩
    · show 0 ≤ t1 12 3 ∧ t1 12 3 ≤ 1
      omega
    · show 0 ≤ t1 14 3 ∧ t1 14 3 ≤ 7
      omega
    · show 0 ≤ t1 16 3 ∧ t1 16 3 ≤ 5
      omega
    · show (0 ≤ tget t1 f1 14 r 0 ∧ tget t1 f1 14 r 0 ≤ 99) ∧ (0 ≤ tget t1 f1 14 r 1 ∧ tget t1 f1 14 r 1 ≤ 9) ∧ (0 ≤ tget t1 f1 14 r 2 ∧ tget t1 f1 14 r 2 ≤ 99)
      by_cases q : 0 ≤ r ∧ r < c 1
      · rw [s14 r 0 q.1 q.2 (by omega) (by omega), s14 r 1 q.1 q.2 (by omega) (by omega), s14 r 2 q.1 q.2 (by omega) (by omega)]
        exact n2 r q.1 q.2
      · have o : ∀ y, tget t1 f1 14 r y = 0 := fun y => by unfold tget; rw [if_neg (by omega)]
        rw [o, o, o]; omega
    · show (0 ≤ tget t1 f1 16 r 0 ∧ tget t1 f1 16 r 0 ≤ 999) ∧ (0 ≤ tget t1 f1 16 r 1 ∧ tget t1 f1 16 r 1 ≤ 200)
      by_cases q : 0 ≤ r ∧ r < c 2
      · rw [s16 r 0 q.1 q.2 (by omega) (by omega), s16 r 1 q.1 q.2 (by omega) (by omega)]
        exact n3 r q.1 q.2
      · have o : ∀ y, tget t1 f1 16 r y = 0 := fun y => by unfold tget; rw [if_neg (by omega)]
        rw [o, o]; omega
  have hz : ∀ r y, tget t1 f1 19 r y = 0 := fun r y => tget_none v193 r y
  have hS1 : SOK t1 f1 18 := by
    refine ⟨?_, by rw [v181]; exact q12.2.2.1, by rw [v182]; omega, by rw [v183]; omega, Or.inl v184, fun r => ?_⟩
    · show 0 ≤ t1 19 3 ∧ t1 19 3 ≤ 8
      omega
    · show (0 ≤ tget t1 f1 19 r 0 ∧ tget t1 f1 19 r 0 ≤ 4) ∧ (0 ≤ tget t1 f1 19 r 1 ∧ tget t1 f1 19 r 1 ≤ 999) ∧ (0 ≤ tget t1 f1 19 r 2 ∧ tget t1 f1 19 r 2 ≤ 1) ∧ (0 ≤ tget t1 f1 19 r 3 ∧ tget t1 f1 19 r 3 ≤ 2997) ∧ (0 ≤ tget t1 f1 19 r 4 ∧ tget t1 f1 19 r 4 ≤ 7)
      rw [hz, hz, hz, hz, hz]; omega
  have G : ∀ k, k < 99 → ∀ r y, tget t2 f2 k r y = tget t1 f1 k r y := fun k hk r y => tget_same (mt k 3 (by omega)) (fun i => mf (k + 1) i (by omega)) r y
  have hV2 : VOK t2 f2 11 := hV1.of (mt 12 3 (by omega)) (mt 14 3 (by omega)) (mt 16 3 (by omega)) (fun q hq i => mf q i (by omega))
  have hS2 : SOK t2 f2 18 := SOK_off hS1 (fun j => mt 18 j (by omega)) (mt 19 3 (by omega)) (fun i => mf 20 i (by omega))
  have T2 : ∀ k j, k < 100 → ¬ (k = 0 ∧ j = 10) → k ≠ 1 → k ≠ 3 → k ≠ 12 → k ≠ 14 → k ≠ 16 → k ≠ 18 → k ≠ 19 → ¬ (k = 96 ∧ j = 3) → ¬ (k = 98 ∧ j = 3) → ¬ (k = 83 ∧ j = 2) → ¬ (k = 87 ∧ j = 2) → ¬ (k = 21 ∧ j = 2) → ¬ (k = 91 ∧ j = 6) → ¬ (j = 3 ∧ (k = 5 ∨ k = 7 ∨ k = 9)) → t2 k j = t k j := fun k j q0 q1 q2 q3 q4 q5 q6 q7 q8 q9 q10 q11 q12 q13 q14 q15 => by
    rw [mt k j q0]; exact T1 k j q1 q2 q3 q4 q5 q6 q7 q8 q9 q10 q11 q12 q13 q14 q15
  have F2 : ∀ k i, k < 100 → k ≠ 13 → k ≠ 15 → k ≠ 17 → k ≠ 6 → k ≠ 8 → k ≠ 10 → f2 k i = f k i := fun k i q0 q1 q2 q3 q4 q5 q6 => by
    rw [mf k i q0]; exact F1 k i q1 q2 q3 q4 q5 q6
  have e12 : t2 12 3 = c 0 := by rw [mt 12 3 (by omega)]; exact v12
  have e14 : t2 14 3 = c 1 := by rw [mt 14 3 (by omega)]; exact v14
  have e16 : t2 16 3 = c 2 := by rw [mt 16 3 (by omega)]; exact v16
  have e193 : t2 19 3 = 0 := by rw [mt 19 3 (by omega)]; exact v193
  refine ⟨⟨⟨⟨hV2, hS2⟩, ⟨hS2, ?_, ?_, fun _ => e193, fun r r0 r1 => absurd r1 (by show ¬ r < t2 19 3; omega)⟩, fun z => ?_, ⟨⟨?_, ?_, ?_, ?_, ?_⟩, fun r r0 r1 => ?_, fun r r0 r1 => ?_⟩, ⟨?_, ?_, ?_, ?_, ?_⟩, fun r r0 r1 => absurd r1 (by show ¬ r < t2 19 3; omega)⟩, ⟨?_, fun p => ?_, ?_, fun p p0 p1 => ?_⟩, ⟨⟨?_, fun p => ?_⟩, ?_, fun p p0 p1 => ?_⟩, ⟨⟨?_, fun p => ?_⟩, ?_, fun p p0 p1 => ?_⟩, ⟨?_, ?_, ?_⟩, ⟨⟨?_, ?_, fun s hs => ?_⟩, ?_, fun p p0 p1 => ?_⟩, ⟨⟨?_, ?_, ?_, ?_, fun q => ?_⟩, ⟨?_, ?_, ?_, ?_, fun q => ?_⟩⟩, ?_⟩, by rw [m0, v14]⟩
  · rw [mt 18 3 (by omega), v183, e14]; omega
  · show t2 18 2 ≤ tget t2 f2 12 0 3 + 999 * t2 19 3
    rw [mt 18 2 (by omega), v182, G 12 (by omega), e193]; omega
  · rw [e14, e16]; rw [e12] at z; exact hB.2 z
  · rw [m3, e12]
  · rw [G 12 (by omega)]
    rcases mv with ⟨q, y4, -⟩ | ⟨q, y4, -⟩
    · rw [y4, b12 0 (by omega) (by omega) q]
    · rw [y4, s12 0 (by omega) (by omega) q]; rfl
  · rw [G 12 (by omega)]
    rcases mv with ⟨q, -, y5, -⟩ | ⟨q, -, y5, -⟩
    · rw [y5, b12 1 (by omega) (by omega) q]
    · rw [y5, s12 1 (by omega) (by omega) q]; rfl
  · rw [m6, e14]
  · rw [m10, e16]
  · rw [e14] at r1
    obtain ⟨y0, y1, y2⟩ := ml r r0 r1
    rw [G 14 (by omega), G 14 (by omega), G 14 (by omega), y0, y1, y2, s14 r 0 r0 r1 (by omega) (by omega), s14 r 1 r0 r1 (by omega) (by omega), s14 r 2 r0 r1 (by omega) (by omega)]
    exact ⟨rfl, rfl, rfl⟩
  · rw [e16] at r1
    obtain ⟨y0, y1⟩ := mm r r0 r1
    rw [G 16 (by omega), G 16 (by omega), y0, y1, s16 r 0 r0 r1 (by omega) (by omega), s16 r 1 r0 r1 (by omega) (by omega)]
    exact ⟨rfl, rfl⟩
  · rw [mt 18 3 (by omega), v183]; exact w0
  · rw [mt 18 4 (by omega), v184]; exact w1
  · rw [mt 18 1 (by omega), v181]
    rcases mv with ⟨q, -, -, y2, -⟩ | ⟨q, -, -, y2, -⟩
    · rw [b12 2 (by omega) (by omega) q]; exact y2
    · rw [s12 2 (by omega) (by omega) q]; exact y2
  · rw [mt 18 2 (by omega), v182]
    rcases mv with ⟨q, -, -, -, y3⟩ | ⟨q, -, -, -, y3⟩
    · rw [b12 3 (by omega) (by omega) q]; exact y3
    · rw [s12 3 (by omega) (by omega) q]; exact y3
  · show f2 101 4 = t2 19 3
    rw [e193]; exact w4
  · show 0 ≤ t2 1 3 ∧ t2 1 3 ≤ 220
    rw [mt 1 3 (by omega), v13]; decide
  · rw [G 1 (by omega), tget_none v13]; decide
  · rw [m14, mt 1 3 (by omega), v13]
  · exact absurd p1 (by rw [mt 1 3 (by omega), v13]; omega)
  · show 0 ≤ t2 96 3 ∧ t2 96 3 ≤ 6
    rw [mt 96 3 (by omega), v96]; decide
  · rw [G 96 (by omega), G 96 (by omega), tget_none v96, tget_none v96]; decide
  · rw [m31, mt 96 3 (by omega), v96]
  · exact absurd p1 (by rw [mt 96 3 (by omega), v96]; omega)
  · show 0 ≤ t2 98 3 ∧ t2 98 3 ≤ 15
    rw [mt 98 3 (by omega), v98]; decide
  · rw [G 98 (by omega), tget_none v98]; decide
  · rw [m34, mt 98 3 (by omega), v98]
  · exact absurd p1 (by rw [mt 98 3 (by omega), v98]; omega)
  · rw [T2 0 11 (by omega) (by omega) (by omega) (by omega) (by omega) (by omega) (by omega) (by omega) (by omega) (by omega) (by omega) (by omega) (by omega) (by omega) (by omega) (by omega)]; exact e.1
  · rw [T2 0 11 (by omega) (by omega) (by omega) (by omega) (by omega) (by omega) (by omega) (by omega) (by omega) (by omega) (by omega) (by omega) (by omega) (by omega) (by omega) (by omega), w41, F1 101 41 (by omega) (by omega) (by omega) (by omega) (by omega) (by omega)]; exact e.2.1
  · rw [m19, mt 0 10 (by omega), v10]
  · rw [T2 21 1 (by omega) (by omega) (by omega) (by omega) (by omega) (by omega) (by omega) (by omega) (by omega) (by omega) (by omega) (by omega) (by omega) (by omega) (by omega) (by omega)]; exact g.1.1
  · rw [mt 21 2 (by omega), v21]; decide
  · exact SOK_off (g.1.2.2 s hs) (fun q => T2 _ q (by omega) (by omega) (by omega) (by omega) (by omega) (by omega) (by omega) (by omega) (by omega) (by omega) (by omega) (by omega) (by omega) (by omega) (by omega) (by omega)) (T2 _ 3 (by omega) (by omega) (by omega) (by omega) (by omega) (by omega) (by omega) (by omega) (by omega) (by omega) (by omega) (by omega) (by omega) (by omega) (by omega) (by omega)) (fun q => F2 _ q (by omega) (by omega) (by omega) (by omega) (by omega) (by omega) (by omega))
  · rw [m2, mt 21 2 (by omega), v21]
  · exact absurd p1 (by rw [mt 21 2 (by omega), v21]; omega)
  · exact SOK_off i.1.1 (fun q => T2 _ q (by omega) (by omega) (by omega) (by omega) (by omega) (by omega) (by omega) (by omega) (by omega) (by omega) (by omega) (by omega) (by omega) (by omega) (by omega) (by omega)) (T2 _ 3 (by omega) (by omega) (by omega) (by omega) (by omega) (by omega) (by omega) (by omega) (by omega) (by omega) (by omega) (by omega) (by omega) (by omega) (by omega) (by omega)) (fun q => F2 _ q (by omega) (by omega) (by omega) (by omega) (by omega) (by omega) (by omega))
  · exact Or.inl (by rw [mt 83 2 (by omega)]; exact v83)
  · rw [T2 83 1 (by omega) (by omega) (by omega) (by omega) (by omega) (by omega) (by omega) (by omega) (by omega) (by omega) (by omega) (by omega) (by omega) (by omega) (by omega) (by omega)]; exact i.1.2.2.1
  · rw [k0, mt 83 2 (by omega), v83]
  · rw [mt 83 2 (by omega), v83] at q; exact absurd q (by decide)
  · exact SOK_off i.2.1 (fun q => T2 _ q (by omega) (by omega) (by omega) (by omega) (by omega) (by omega) (by omega) (by omega) (by omega) (by omega) (by omega) (by omega) (by omega) (by omega) (by omega) (by omega)) (T2 _ 3 (by omega) (by omega) (by omega) (by omega) (by omega) (by omega) (by omega) (by omega) (by omega) (by omega) (by omega) (by omega) (by omega) (by omega) (by omega) (by omega)) (fun q => F2 _ q (by omega) (by omega) (by omega) (by omega) (by omega) (by omega) (by omega))
  · exact Or.inl (by rw [mt 87 2 (by omega)]; exact v87)
  · rw [T2 87 1 (by omega) (by omega) (by omega) (by omega) (by omega) (by omega) (by omega) (by omega) (by omega) (by omega) (by omega) (by omega) (by omega) (by omega) (by omega) (by omega)]; exact i.2.2.2.1
  · rw [k1, mt 87 2 (by omega), v87]
  · rw [mt 87 2 (by omega), v87] at q; exact absurd q (by decide)
  · exact j.off (T2 94 3 (by omega) (by omega) (by omega) (by omega) (by omega) (by omega) (by omega) (by omega) (by omega) (by omega) (by omega) (by omega) (by omega) (by omega) (by omega) (by omega)) (by rw [mt 91 6 (by omega)]; exact v91)
theorem LR_voyage {t t1 t2 : uN} {f f1 f2 : uF} {x : Int → Int} {z z2 : Int} (h : LR t f) (hv : VQ x (t 1 3) t f z t1 f1) (hm : VM8 x (t 1 3) t1 f1 z2 t2 f2) : LR t2 f2 ∧ z = z2 := by
  obtain ⟨k, tr, fr, ⟨q1, q2, q3, q4, q5⟩, q6⟩ := hv
  change k = (paR x (t 1 3)).1.1 at q3
  change tr 3 4 = (paR x (t 1 3)).1.2 at q4
  rcases hm with ⟨m1, m2, m3, m4, m5, m6⟩ | ⟨m1, m2, m3, m4⟩
  · rcases q6 with ⟨a1, a2, a3, a4⟩ | ⟨a1, -⟩
    · exact ⟨LR_voyF h q1 q4 a3 a4 m3 m4 m5 m6, by rw [a2, m2, q3]⟩
    · omega
  · rcases q6 with ⟨a1, -⟩ | ⟨a1, a2, a3, a4⟩
    · omega
    · have r := LR_voyT h q1 q2 (by rw [q4]; exact m2) (q5 a1) (paR_ok x (t 1 3)) m3 a3 a4 m4
      exact ⟨r.1, by rw [a2, r.2]⟩

/-! what each act leaves: the small ones -/
theorem tget_old {t t2 : uN} {f f2 : uF} {k : Nat} (hw : 1 ≤ tw k) (hn : t2 k 3 = t k 3 + 1) (hf : ∀ i : Int, i < t k 3 * tw k → f2 (k + 1) i = f (k + 1) i) {r : Int} (hr : r < t k 3) (c : Int) : tget t2 f2 k r c = tget t f k r c := by
  unfold tget
  by_cases q : 0 ≤ r ∧ r < t k 3 ∧ 0 ≤ c ∧ c < tw k
  · rw [if_pos q, if_pos (by omega)]
    have hm : (r + 1) * tw k ≤ t k 3 * tw k := Int.mul_le_mul_of_nonneg_right (by omega) (by omega)
    rw [Int.add_mul, Int.one_mul] at hm
    exact hf _ (by omega)
  · rw [if_neg q, if_neg (by omega)]
theorem tget_new {t t2 : uN} {f2 : uF} {k : Nat} (hn : t2 k 3 = t k 3 + 1) (h0 : 0 ≤ t k 3) {c : Int} (c0 : 0 ≤ c) (c1 : c < tw k) : tget t2 f2 k (t k 3) c = f2 (k + 1) (t k 3 * tw k + c) := by
  unfold tget
  rw [if_pos (by omega)]
theorem tget_out {t2 : uN} {f2 : uF} {k : Nat} {r : Int} (hr : t2 k 3 ≤ r) (c : Int) : tget t2 f2 k r c = 0 := by
  unfold tget
  rw [if_neg (by omega)]
theorem LR_feed {t t1 t2 : uN} {f f1 f2 : uF} {v : Int} (h : LR t f) (h1 : t1 = if feeX t v < 0 then t else up2 t 1 3 (t 1 3 + 1)) (h2 : f1 = if feeX t v < 0 then f else upA f 2 (t 1 3) v) (h3 : t2 = if feeX t v < 0 then t1 else up2 t1 100 14 (t1 100 14 + 1)) (h4 : f2 = if feeX t v < 0 then f1 else upA f1 108 (t1 100 14) v) : LR t2 f2 := by
  by_cases q : feeX t v < 0
  · rw [if_pos q] at h1 h2 h3 h4
    rw [h3, h4, h1, h2]; exact h
  rw [if_neg q] at h1 h2 h3 h4
  obtain ⟨a, b, c, d, e, g, i, j⟩ := h
  obtain ⟨b1, b2, b3, b4⟩ := b
  have hq : ¬ (v < 0 ∨ 255 < v) ∧ tfull t 1 = 0 := by
    by_cases y : v < 0 ∨ 255 < v
    · exact absurd (show feeX t v < 0 by unfold feeX; rw [if_pos y]; decide) q
    · by_cases y2 : tfull t 1 = 0
      · exact ⟨y, y2⟩
      · exact absurd (show feeX t v < 0 by unfold feeX; rw [if_neg y, if_neg y2]; decide) q
  have hfl := tfull_b t 1
  have hb1 : 0 ≤ t 1 3 ∧ t 1 3 ≤ 220 := b1
  have htm : tm 1 = 220 := rfl
  have e14 : t1 100 14 = t 1 3 := by rw [h1, up2_ne _ _ (by omega)]; exact b3
  rw [e14] at h3 h4
  have T : ∀ k j, ¬ (k = 1 ∧ j = 3) → ¬ (k = 100 ∧ j = 14) → t2 k j = t k j := fun k j x y => by rw [h3, up2_ne _ _ y, h1, up2_ne _ _ x]
  have F : ∀ k i, ¬ (k = 2 ∧ i = t 1 3) → ¬ (k = 108 ∧ i = t 1 3) → f2 k i = f k i := fun k i x y => by rw [h4, upA_ne _ _ y, h2, upA_ne _ _ x]
  have n1 : t2 1 3 = t 1 3 + 1 := by rw [h3, up2_ne _ _ (by omega), h1, up2_s]
  have tw1 : tw 1 = 1 := rfl
  have old : ∀ r, r < t 1 3 → tget t2 f2 1 r 0 = tget t f 1 r 0 := fun r hr => tget_old (by decide) n1 (fun i hi => by
    rw [tw1, Int.mul_one] at hi
    exact F 2 i (by omega) (by omega)) hr 0
  have new : tget t2 f2 1 (t 1 3) 0 = v := by
    rw [tget_new n1 (by omega) (by decide) (by decide), tw1, Int.mul_one, Int.add_zero, h4, upA_k _ _ _ _ (by decide), h2]
    exact upA_s _ _ _ _
  refine ⟨a.same (fun k j hk => T k j (by omega) (by omega)) (fun k i hk => F k i (by omega) (by omega)) (fun j hj => T 100 j (by omega) (by omega)) (fun i i0 i1 => F 101 i (by omega) (by omega)), ⟨?_, fun p => ?_, ?_, fun p p0 p1 => ?_⟩, c.of (T 96 3 (by omega) (by omega)) (fun i => F 97 i (by omega) (by omega)) (T 100 31 (by omega) (by omega)) (fun k i hk => F k i (by omega) (by omega)), d.of (T 98 3 (by omega) (by omega)) (fun i => F 99 i (by omega) (by omega)) (T 100 34 (by omega) (by omega)) (fun i => F 116 i (by omega) (by omega)), ?_, g.of (fun k j hk => T k j (by omega) (by omega)) (fun k i hk => F k i (by omega) (by omega)) (T 100 2 (by omega) (by omega)) (fun i hi => F 101 i (by omega) (by omega)), i.of (fun k j hk => T k j (by omega) (by omega)) (fun k i hk => F k i (by omega) (by omega)) (fun i => F 102 i (by omega) (by omega)) (fun i i0 i1 => F 101 i (by omega) (by omega)), j.of (fun k j hk => T k j (by omega) (by omega)) (fun k i hk => F k i (by omega) (by omega))⟩
  · show 0 ≤ t2 1 3 ∧ t2 1 3 ≤ 220
    rw [n1]; omega
  · rcases (show p < t 1 3 ∨ p = t 1 3 ∨ t 1 3 < p by omega) with y | y | y
    · rw [old p y]; exact b2 p
    · rw [y, new]; omega
    · rw [tget_out (by omega)]; omega
  · rw [n1, h3, up2_s]
  · rcases (show p < t 1 3 ∨ p = t 1 3 by omega) with y | y
    · rw [old p y, F 108 p (by omega) (by omega)]; exact b4 p p0 y
    · rw [y, new, h4, upA_s]
  · exact ⟨by rw [T 0 11 (by omega) (by omega)]; exact e.1, by rw [F 101 41 (by omega) (by omega), T 0 11 (by omega) (by omega)]; exact e.2.1, by rw [T 100 19 (by omega) (by omega), T 0 10 (by omega) (by omega)]; exact e.2.2⟩
theorem LR_write {t t1 t2 : uN} {f f1 f2 : uF} {v : Int} (h : LR t f) (h1 : t1 = if wriX t v < 0 then t else up2 t 98 3 (t 98 3 + 1)) (h2 : f1 = if wriX t v < 0 then f else upA f 99 (t 98 3) v) (h3 : t2 = if wriX t v < 0 then t1 else up2 t1 100 34 (t1 100 34 + 1)) (h4 : f2 = if wriX t v < 0 then f1 else upA f1 116 (t1 100 34) v) : LR t2 f2 := by
  by_cases q : wriX t v < 0
  · rw [if_pos q] at h1 h2 h3 h4
    rw [h3, h4, h1, h2]; exact h
  rw [if_neg q] at h1 h2 h3 h4
  obtain ⟨a, b, c, d, e, g, i, j⟩ := h
  obtain ⟨⟨d1, d2⟩, d3, d4⟩ := d
  have hq : ¬ (v < 0 ∨ 9999 < v) ∧ tfull t 98 = 0 := by
    by_cases y : v < 0 ∨ 9999 < v
    · exact absurd (show wriX t v < 0 by unfold wriX; rw [if_pos y]; decide) q
    · by_cases y2 : tfull t 98 = 0
      · exact ⟨y, y2⟩
      · exact absurd (show wriX t v < 0 by unfold wriX; rw [if_neg y, if_neg y2]; decide) q
  have hfl := tfull_b t 98
  have hb1 : 0 ≤ t 98 3 ∧ t 98 3 ≤ 15 := d1
  have htm : tm 98 = 15 := rfl
  have e34 : t1 100 34 = t 98 3 := by rw [h1, up2_ne _ _ (by omega)]; exact d3
  rw [e34] at h3 h4
  have T : ∀ k j, ¬ (k = 98 ∧ j = 3) → ¬ (k = 100 ∧ j = 34) → t2 k j = t k j := fun k j x y => by rw [h3, up2_ne _ _ y, h1, up2_ne _ _ x]
  have F : ∀ k i, ¬ (k = 99 ∧ i = t 98 3) → ¬ (k = 116 ∧ i = t 98 3) → f2 k i = f k i := fun k i x y => by rw [h4, upA_ne _ _ y, h2, upA_ne _ _ x]
  have n1 : t2 98 3 = t 98 3 + 1 := by rw [h3, up2_ne _ _ (by omega), h1, up2_s]
  have tw1 : tw 98 = 1 := rfl
  have old : ∀ r, r < t 98 3 → tget t2 f2 98 r 0 = tget t f 98 r 0 := fun r hr => tget_old (by decide) n1 (fun i hi => by
    rw [tw1, Int.mul_one] at hi
    exact F 99 i (by omega) (by omega)) hr 0
  have new : tget t2 f2 98 (t 98 3) 0 = v := by
    rw [tget_new n1 (by omega) (by decide) (by decide), tw1, Int.mul_one, Int.add_zero, h4, upA_k _ _ _ _ (by decide), h2]
    exact upA_s _ _ _ _
  refine ⟨a.same (fun k j hk => T k j (by omega) (by omega)) (fun k i hk => F k i (by omega) (by omega)) (fun j hj => T 100 j (by omega) (by omega)) (fun i i0 i1 => F 101 i (by omega) (by omega)), b.of (T 1 3 (by omega) (by omega)) (fun i => F 2 i (by omega) (by omega)) (T 100 14 (by omega) (by omega)) (fun i => F 108 i (by omega) (by omega)), c.of (T 96 3 (by omega) (by omega)) (fun i => F 97 i (by omega) (by omega)) (T 100 31 (by omega) (by omega)) (fun k i hk => F k i (by omega) (by omega)), ⟨⟨?_, fun p => ?_⟩, ?_, fun p p0 p1 => ?_⟩, ?_, g.of (fun k j hk => T k j (by omega) (by omega)) (fun k i hk => F k i (by omega) (by omega)) (T 100 2 (by omega) (by omega)) (fun i hi => F 101 i (by omega) (by omega)), i.of (fun k j hk => T k j (by omega) (by omega)) (fun k i hk => F k i (by omega) (by omega)) (fun i => F 102 i (by omega) (by omega)) (fun i i0 i1 => F 101 i (by omega) (by omega)), j.of (fun k j hk => T k j (by omega) (by omega)) (fun k i hk => F k i (by omega) (by omega))⟩
  · show 0 ≤ t2 98 3 ∧ t2 98 3 ≤ 15
    rw [n1]; omega
  · rcases (show p < t 98 3 ∨ p = t 98 3 ∨ t 98 3 < p by omega) with y | y | y
    · rw [old p y]; exact d2 p
    · rw [y, new]; omega
    · rw [tget_out (by omega)]; omega
  · rw [n1, h3, up2_s]
  · rcases (show p < t 98 3 ∨ p = t 98 3 by omega) with y | y
    · rw [old p y, F 116 p (by omega) (by omega)]; exact d4 p p0 y
    · rw [y, new, h4, upA_s]
  · exact ⟨by rw [T 0 11 (by omega) (by omega)]; exact e.1, by rw [F 101 41 (by omega) (by omega), T 0 11 (by omega) (by omega)]; exact e.2.1, by rw [T 100 19 (by omega) (by omega), T 0 10 (by omega) (by omega)]; exact e.2.2⟩
theorem LR_tell {t t1 t2 : uN} {f f1 f2 : uF} {u v : Int} (h : LR t f) (h1 : t1 = if telX t u v < 0 then t else up2 t 96 3 (t 96 3 + 1)) (h2 : f1 = if telX t u v < 0 then f else upA (upA f 97 (t 96 3 * 2 + 0) u) 97 (t 96 3 * 2 + 1) v) (h3 : t2 = if telX t u v < 0 then t1 else up2 t1 100 31 (t1 100 31 + 1)) (h4 : f2 = if telX t u v < 0 then f1 else upA (upA f1 114 (t1 100 31) u) 115 (t1 100 31) v) : LR t2 f2 := by
  by_cases q : telX t u v < 0
  · rw [if_pos q] at h1 h2 h3 h4
    rw [h3, h4, h1, h2]; exact h
  rw [if_neg q] at h1 h2 h3 h4
  obtain ⟨a, b, c, d, e, g, i, j⟩ := h
  obtain ⟨⟨c1, c2⟩, c3, c4⟩ := c
  have hb := a.1.b
  have hh := thas_b t 19 u
  have hq : thas t 19 u = 1 ∧ ¬ (v < 0 ∨ 9999 < v) ∧ tfull t 96 = 0 := by
    by_cases y0 : thas t 19 u = 0
    · exact absurd (show telX t u v < 0 by unfold telX; rw [if_pos y0]; decide) q
    · by_cases y : v < 0 ∨ 9999 < v
      · exact absurd (show telX t u v < 0 by unfold telX; rw [if_neg y0, if_pos y]; decide) q
      · by_cases y2 : tfull t 96 = 0
        · exact ⟨by omega, y, y2⟩
        · exact absurd (show telX t u v < 0 by unfold telX; rw [if_neg y0, if_neg y, if_neg y2]; decide) q
  have hfl := tfull_b t 96
  have hb1 : 0 ≤ t 96 3 ∧ t 96 3 ≤ 6 := c1
  have htm : tm 96 = 6 := rfl
  have e31 : t1 100 31 = t 96 3 := by rw [h1, up2_ne _ _ (by omega)]; exact c3
  rw [e31] at h3 h4
  have T : ∀ k j, ¬ (k = 96 ∧ j = 3) → ¬ (k = 100 ∧ j = 31) → t2 k j = t k j := fun k j x y => by rw [h3, up2_ne _ _ y, h1, up2_ne _ _ x]
  have F : ∀ k i, ¬ (k = 97 ∧ t 96 3 * 2 ≤ i ∧ i ≤ t 96 3 * 2 + 1) → ¬ ((k = 114 ∨ k = 115) ∧ i = t 96 3) → f2 k i = f k i := fun k i x y => by rw [h4, upA_ne _ _ (by omega), upA_ne _ _ (by omega), h2, upA_ne _ _ (by omega), upA_ne _ _ (by omega)]
  have n1 : t2 96 3 = t 96 3 + 1 := by rw [h3, up2_ne _ _ (by omega), h1, up2_s]
  have tw1 : tw 96 = 2 := rfl
  have old : ∀ r, r < t 96 3 → ∀ y, tget t2 f2 96 r y = tget t f 96 r y := fun r hr y => tget_old (by decide) n1 (fun i hi => by
    rw [tw1] at hi
    exact F 97 i (by omega) (by omega)) hr y
  have new0 : tget t2 f2 96 (t 96 3) 0 = u := by
    rw [tget_new n1 (by omega) (by decide) (by decide), tw1, h4, upA_k _ _ _ _ (by decide), upA_k _ _ _ _ (by decide), h2, upA_i _ _ _ (by omega)]
    exact upA_s _ _ _ _
  have new1 : tget t2 f2 96 (t 96 3) 1 = v := by
    rw [tget_new n1 (by omega) (by decide) (by decide), tw1, h4, upA_k _ _ _ _ (by decide), upA_k _ _ _ _ (by decide), h2]
    exact upA_s _ _ _ _
  refine ⟨a.same (fun k j hk => T k j (by omega) (by omega)) (fun k i hk => F k i (by omega) (by omega)) (fun j hj => T 100 j (by omega) (by omega)) (fun i i0 i1 => F 101 i (by omega) (by omega)), b.of (T 1 3 (by omega) (by omega)) (fun i => F 2 i (by omega) (by omega)) (T 100 14 (by omega) (by omega)) (fun i => F 108 i (by omega) (by omega)), ⟨⟨?_, fun p => ?_⟩, ?_, fun p p0 p1 => ?_⟩, d.of (T 98 3 (by omega) (by omega)) (fun i => F 99 i (by omega) (by omega)) (T 100 34 (by omega) (by omega)) (fun i => F 116 i (by omega) (by omega)), ?_, g.of (fun k j hk => T k j (by omega) (by omega)) (fun k i hk => F k i (by omega) (by omega)) (T 100 2 (by omega) (by omega)) (fun i hi => F 101 i (by omega) (by omega)), i.of (fun k j hk => T k j (by omega) (by omega)) (fun k i hk => F k i (by omega) (by omega)) (fun i => F 102 i (by omega) (by omega)) (fun i i0 i1 => F 101 i (by omega) (by omega)), j.of (fun k j hk => T k j (by omega) (by omega)) (fun k i hk => F k i (by omega) (by omega))⟩
  · show 0 ≤ t2 96 3 ∧ t2 96 3 ≤ 6
    rw [n1]; omega
  · rcases (show p < t 96 3 ∨ p = t 96 3 ∨ t 96 3 < p by omega) with y | y | y
    · rw [old p y, old p y]; exact c2 p
    · rw [y, new0, new1]; omega
    · rw [tget_out (by omega), tget_out (by omega)]; omega
  · rw [n1, h3, up2_s]
  · rcases (show p < t 96 3 ∨ p = t 96 3 by omega) with y | y
    · rw [old p y, old p y, F 114 p (by omega) (by omega), F 115 p (by omega) (by omega)]; exact c4 p p0 y
    · rw [y, new0, new1, h4, upA_s, upA_k _ _ _ _ (by decide), upA_s]; exact ⟨rfl, rfl⟩
  · exact ⟨by rw [T 0 11 (by omega) (by omega)]; exact e.1, by rw [F 101 41 (by omega) (by omega), T 0 11 (by omega) (by omega)]; exact e.2.1, by rw [T 100 19 (by omega) (by omega), T 0 10 (by omega) (by omega)]; exact e.2.2⟩
theorem LR_tear {t t1 t2 : uN} {f : uF} (h : LR t f) (h1 : t1 = up2 (up2 t 96 3 0) 98 3 0) (h3 : t2 = up2 (up2 t1 100 31 0) 100 34 0) : LR t2 f := by
  obtain ⟨a, b, c, d, e, g, i, j⟩ := h
  have T : ∀ k j, ¬ (k = 96 ∧ j = 3) → ¬ (k = 98 ∧ j = 3) → ¬ (k = 100 ∧ (j = 31 ∨ j = 34)) → t2 k j = t k j := fun k j x y z => by rw [h3, up2_ne _ _ (by omega), up2_ne _ _ (by omega), h1, up2_ne _ _ y, up2_ne _ _ x]
  have e96 : t2 96 3 = 0 := by rw [h3, up2_ne _ _ (by omega), up2_ne _ _ (by omega), h1, up2_ne _ _ (by omega), up2_s]
  have e98 : t2 98 3 = 0 := by rw [h3, up2_ne _ _ (by omega), up2_ne _ _ (by omega), h1, up2_s]
  refine ⟨a.same (fun k j hk => T k j (by omega) (by omega) (by omega)) (fun _ _ _ => rfl) (fun j hj => T 100 j (by omega) (by omega) (by omega)) (fun _ _ _ => rfl), b.of (T 1 3 (by omega) (by omega) (by omega)) (fun _ => rfl) (T 100 14 (by omega) (by omega) (by omega)) (fun _ => rfl), ⟨⟨?_, fun p => ?_⟩, ?_, fun p p0 p1 => absurd p1 (by omega)⟩, ⟨⟨?_, fun p => ?_⟩, ?_, fun p p0 p1 => absurd p1 (by omega)⟩, ?_, g.of (fun k j hk => T k j (by omega) (by omega) (by omega)) (fun _ _ _ => rfl) (T 100 2 (by omega) (by omega) (by omega)) (fun _ _ => rfl), i.of (fun k j hk => T k j (by omega) (by omega) (by omega)) (fun _ _ _ => rfl) (fun _ => rfl) (fun _ _ _ => rfl), j.of (fun k j hk => T k j (by omega) (by omega) (by omega)) (fun _ _ _ => rfl)⟩
  · show 0 ≤ t2 96 3 ∧ t2 96 3 ≤ 6
    rw [e96]; decide
  · rw [tget_none e96, tget_none e96]; decide
  · rw [e96, h3, up2_ne _ _ (by omega), up2_s]
  · show 0 ≤ t2 98 3 ∧ t2 98 3 ≤ 15
    rw [e98]; decide
  · rw [tget_none e98]; decide
  · rw [e98, h3, up2_s]
  · exact ⟨by rw [T 0 11 (by omega) (by omega) (by omega)]; exact e.1, by rw [T 0 11 (by omega) (by omega) (by omega)]; exact e.2.1, by rw [T 100 19 (by omega) (by omega) (by omega), T 0 10 (by omega) (by omega) (by omega)]; exact e.2.2⟩
theorem LR_seed {t t1 : uN} {f f2 : uF} {v : Int} (h : LR t f) (hv : inI v) (h1 : t1 = if v < 0 then t else up2 t 0 11 v) (h4 : f2 = if v < 0 then f else upA f 101 41 v) : LR t1 f2 := by
  by_cases q : v < 0
  · rw [if_pos q] at h1 h4
    rw [h4, h1]; exact h
  rw [if_neg q] at h1 h4
  obtain ⟨a, b, c, d, e, g, i, j⟩ := h
  have T : ∀ k j, ¬ (k = 0 ∧ j = 11) → t1 k j = t k j := fun k j x => by rw [h1, up2_ne _ _ x]
  have F : ∀ k i, ¬ (k = 101 ∧ i = 41) → f2 k i = f k i := fun k i x => by rw [h4, upA_ne _ _ x]
  refine ⟨a.same (fun k j hk => T k j (by omega)) (fun k i hk => F k i (by omega)) (fun j hj => T 100 j (by omega)) (fun i i0 i1 => F 101 i (by omega)), b.of (T 1 3 (by omega)) (fun i => F 2 i (by omega)) (T 100 14 (by omega)) (fun i => F 108 i (by omega)), c.of (T 96 3 (by omega)) (fun i => F 97 i (by omega)) (T 100 31 (by omega)) (fun k i hk => F k i (by omega)), d.of (T 98 3 (by omega)) (fun i => F 99 i (by omega)) (T 100 34 (by omega)) (fun i => F 116 i (by omega)), ⟨?_, ?_, ?_⟩, g.of (fun k j hk => T k j (by omega)) (fun k i hk => F k i (by omega)) (T 100 2 (by omega)) (fun i hi => F 101 i (by omega)), i.of (fun k j hk => T k j (by omega)) (fun k i hk => F k i (by omega)) (fun i => F 102 i (by omega)) (fun i i0 i1 => F 101 i (by omega)), j.of (fun k j hk => T k j (by omega)) (fun k i hk => F k i (by omega))⟩
  · rw [h1, up2_s]; have := hv; unfold inI at this; omega
  · rw [h1, up2_s, h4, upA_s]
  · rw [T 100 19 (by omega), T 0 10 (by omega)]; exact e.2.2

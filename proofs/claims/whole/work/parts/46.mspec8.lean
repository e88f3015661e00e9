/-! the model's voyage: its loops -/
def LGI (F : uF) (n : Int) (fl : uF) : Prop := (∀ k i, k ≠ 103 → k ≠ 104 → k ≠ 105 → fl k i = F k i) ∧ ∀ i, 0 ≤ i → i < n → fl 103 i = F 110 (3 * i) ∧ fl 104 i = F 110 (3 * i + 1) ∧ fl 105 i = F 110 (3 * i + 2)
theorem LGI_step {F fl f1 f2 f3 : uF} {n : Int} (h : LGI F n fl) (h1 : f1 = upA fl 103 n (fl 110 (3 * n))) (h2 : f2 = upA f1 104 n (f1 110 (3 * n + 1))) (h3 : f3 = upA f2 105 n (f2 110 (3 * n + 2))) : LGI F (n + 1) f3 := by
  have e1 : ∀ j, f1 110 j = F 110 j := fun j => by rw [h1, upA_k _ _ _ _ (by decide)]; exact h.1 110 j (by decide) (by decide) (by decide)
  have e2 : ∀ j, f2 110 j = F 110 j := fun j => by rw [h2, upA_k _ _ _ _ (by decide)]; exact e1 j
  refine ⟨fun k i a b c => ?_, fun i i0 i1 => ?_⟩
  · rw [h3, upA_k _ _ _ _ c, h2, upA_k _ _ _ _ b, h1, upA_k _ _ _ _ a]; exact h.1 k i a b c
  · by_cases q : i = n
    · subst q
      refine ⟨?_, ?_, ?_⟩
      · rw [h3, upA_k _ _ _ _ (by decide), h2, upA_k _ _ _ _ (by decide), h1, upA_s]; exact h.1 110 _ (by decide) (by decide) (by decide)
      · rw [h3, upA_k _ _ _ _ (by decide), h2, upA_s]; exact e1 _
      · rw [h3, upA_s]; exact e2 _
    · have g := h.2 i i0 (by omega)
      refine ⟨?_, ?_, ?_⟩
      · rw [h3, upA_k _ _ _ _ (by decide), h2, upA_k _ _ _ _ (by decide), h1, upA_i _ _ _ q]; exact g.1
      · rw [h3, upA_k _ _ _ _ (by decide), h2, upA_i _ _ _ q, h1, upA_k _ _ _ _ (by decide)]; exact g.2.1
      · rw [h3, upA_i _ _ _ q, h2, upA_k _ _ _ _ (by decide), h1, upA_k _ _ _ _ (by decide)]; exact g.2.2
def LMI (F : uF) (n : Int) (fl : uF) : Prop := (∀ k i, k ≠ 106 → k ≠ 107 → fl k i = F k i) ∧ ∀ i, 0 ≤ i → i < n → fl 106 i = F 111 (2 * i) ∧ fl 107 i = F 111 (2 * i + 1)
theorem LMI_step {F fl f1 f2 : uF} {n : Int} (h : LMI F n fl) (h1 : f1 = upA fl 106 n (fl 111 (2 * n))) (h2 : f2 = upA f1 107 n (f1 111 (2 * n + 1))) : LMI F (n + 1) f2 := by
  have e1 : ∀ j, f1 111 j = F 111 j := fun j => by rw [h1, upA_k _ _ _ _ (by decide)]; exact h.1 111 j (by decide) (by decide)
  refine ⟨fun k i a b => ?_, fun i i0 i1 => ?_⟩
  · rw [h2, upA_k _ _ _ _ b, h1, upA_k _ _ _ _ a]; exact h.1 k i a b
  · by_cases q : i = n
    · subst q
      refine ⟨?_, ?_⟩
      · rw [h2, upA_k _ _ _ _ (by decide), h1, upA_s]; exact h.1 111 _ (by decide) (by decide)
      · rw [h2, upA_s]; exact e1 _
    · have g := h.2 i i0 (by omega)
      refine ⟨?_, ?_⟩
      · rw [h2, upA_k _ _ _ _ (by decide), h1, upA_i _ _ _ q]; exact g.1
      · rw [h2, upA_i _ _ _ q, h1, upA_k _ _ _ _ (by decide)]; exact g.2
def LWI (F : uF) (n : Int) (fl : uF) : Prop := (∀ k i, ¬ (k = 101 ∧ 0 ≤ i ∧ i < 42) → fl k i = F k i) ∧ ∀ i, 0 ≤ i → i < n → fl 101 i = 0
theorem LWI_step {F fl f1 : uF} {n : Int} (h : LWI F n fl) (h0 : 0 ≤ n) (hn : n < 42) (h1 : f1 = upA fl 101 n 0) : LWI F (n + 1) f1 := by
  refine ⟨fun k i a => ?_, fun i i0 i1 => ?_⟩
  · rw [h1, upA_ne _ _ (by omega)]; exact h.1 k i a
  · by_cases q : i = n
    · rw [h1, q, upA_s]
    · rw [h1, upA_i _ _ _ q]; exact h.2 i i0 (by omega)
/-- a good voyage's end -/
theorem VS8_of {x : Int → Int} {n : Int} {c : Nat → Int} {D : uF} {t tz tr t2 : uN} {f fz fl fm fw f1 f2 f3 f4 f5 : uF} {v0 v1 v2 v3 : Int} (hV : VI8 x n t f 1 tz fz) (hc : CN8 x c D tz fz) (hr : (0 ≤ c 0 ∧ c 0 ≤ 1) ∧ (0 ≤ c 1 ∧ c 1 ≤ 7) ∧ (0 ≤ c 2 ∧ c 2 ≤ 5))
    (hl : LGI fz (c 1) fl) (hm : LMI fl (c 2) fm) (hw : LWI fm 42 fw) (h1 : f1 = upA fw 101 2 v2) (h2 : f2 = upA f1 101 3 v3) (h3 : f3 = upA f2 101 41 (f 101 41)) (h4 : f4 = upA f3 102 0 0) (h5 : f5 = upA f4 102 1 0)
    (hv : (c 0 = 0 ∧ v0 = 0 ∧ v1 = 0 ∧ v2 = 0 ∧ v3 = 0) ∨ (c 0 = 1 ∧ v0 = fz 109 0 ∧ v1 = fz 109 1 ∧ v2 = fz 109 2 ∧ v3 = fz 109 3))
    (hr2 : RDf tz tr) (e19 : tr 100 19 = -1) (ht : t2 = up2 (up2 (up2 (up2 (up2 (up2 (up2 (up2 (up2 tr 100 14 0) 100 3 (c 0)) 100 4 v0) 100 5 v1) 100 6 (c 1)) 100 10 (c 2)) 100 31 0) 100 34 0) 100 2 0) : VS8 x c D t f (c 1) t2 f5 := by
  have tk : ∀ k j, k ≠ 100 → t2 k j = t k j := fun k j hk => by
    rw [ht, up2_k _ _ _ _ hk, up2_k _ _ _ _ hk, up2_k _ _ _ _ hk, up2_k _ _ _ _ hk, up2_k _ _ _ _ hk, up2_k _ _ _ _ hk, up2_k _ _ _ _ hk, up2_k _ _ _ _ hk, up2_k _ _ _ _ hk, hr2 k j (fun e => hk e.1)]
    exact hV.1 k j (fun e => hk e.1)
  have fk : ∀ k j, k ≠ 101 → k ≠ 102 → f5 k j = fw k j := fun k j a b => by
    rw [h5, upA_k _ _ _ _ b, h4, upA_k _ _ _ _ b, h3, upA_k _ _ _ _ a, h2, upA_k _ _ _ _ a, h1, upA_k _ _ _ _ a]
  have f101 : ∀ j, f5 101 j = f3 101 j := fun j => by rw [h5, upA_k _ _ _ _ (by decide), h4, upA_k _ _ _ _ (by decide)]
  have w0 : ∀ j, 0 ≤ j → j < 42 → j ≠ 2 → j ≠ 3 → j ≠ 41 → f5 101 j = 0 := fun j j0 j1 a b d => by
    rw [f101, h3, upA_i _ _ _ d, h2, upA_i _ _ _ b, h1, upA_i _ _ _ a]; exact hw.2 j j0 j1
  have w2 : f5 101 2 = v2 := by rw [f101, h3, upA_i _ _ _ (by decide), h2, upA_i _ _ _ (by decide), h1, upA_s]
  have w3 : f5 101 3 = v3 := by rw [f101, h3, upA_i _ _ _ (by decide), h2, upA_s]
  have w41 : f5 101 41 = f 101 41 := by rw [f101, h3, upA_s]
  have e4 : t2 100 4 = v0 := by rw [ht, up2_j _ _ _ (by decide), up2_j _ _ _ (by decide), up2_j _ _ _ (by decide), up2_j _ _ _ (by decide), up2_j _ _ _ (by decide), up2_j _ _ _ (by decide), up2_s]
  have e5 : t2 100 5 = v1 := by rw [ht, up2_j _ _ _ (by decide), up2_j _ _ _ (by decide), up2_j _ _ _ (by decide), up2_j _ _ _ (by decide), up2_j _ _ _ (by decide), up2_s]
  have fwk : ∀ k j, k ≠ 101 → fw k j = fm k j := fun k j a => hw.1 k j (fun e => a e.1)
  have a9 : c 0 = 1 → ∀ j : Int, 0 ≤ j → j < 4 → fz 109 j = nvX x D 0 0 j.toNat := fun q j j0 j1 => by
    have := (hc 0 (by omega)).2.2 0 j (by omega) (by show 0 < c 0; omega) j0 j1
    rw [Int.zero_mul, Int.zero_add] at this
    exact this
  refine ⟨rfl, fun k j hk => tk k j (by omega), fun k j hk => ?_, ⟨?_, ?_, ?_, ?_, ?_, ?_, ?_, ?_⟩, ?_, ⟨w0 0 (by decide) (by decide) (by decide) (by decide) (by decide), w0 1 (by decide) (by decide) (by decide) (by decide) (by decide), w0 4 (by decide) (by decide) (by decide) (by decide) (by decide), w41⟩, ⟨?_, ?_⟩, fun i i0 i1 => ?_, fun i i0 i1 => ?_⟩
  · rw [fk k j (by omega) (by omega), fwk k j (by omega), hm.1 k j (by omega) (by omega), hl.1 k j (by omega) (by omega) (by omega)]
    exact hV.2.1 k j (by omega)
  · rw [ht, up2_s]
  · rw [ht, up2_j _ _ _ (by decide), up2_j _ _ _ (by decide), up2_j _ _ _ (by decide), up2_j _ _ _ (by decide), up2_j _ _ _ (by decide), up2_j _ _ _ (by decide), up2_j _ _ _ (by decide), up2_s]
  · rw [ht, up2_j _ _ _ (by decide), up2_j _ _ _ (by decide), up2_j _ _ _ (by decide), up2_j _ _ _ (by decide), up2_s]
  · rw [ht, up2_j _ _ _ (by decide), up2_j _ _ _ (by decide), up2_j _ _ _ (by decide), up2_s]
  · rw [ht, up2_j _ _ _ (by decide), up2_j _ _ _ (by decide), up2_j _ _ _ (by decide), up2_j _ _ _ (by decide), up2_j _ _ _ (by decide), up2_j _ _ _ (by decide), up2_j _ _ _ (by decide), up2_j _ _ _ (by decide), up2_s]
  · rw [ht, up2_j _ _ _ (by decide), up2_j _ _ _ (by decide), up2_j _ _ _ (by decide), up2_j _ _ _ (by decide), up2_j _ _ _ (by decide), up2_j _ _ _ (by decide), up2_j _ _ _ (by decide), up2_j _ _ _ (by decide), up2_j _ _ _ (by decide)]
    exact e19
  · rw [ht, up2_j _ _ _ (by decide), up2_j _ _ _ (by decide), up2_s]
  · rw [ht, up2_j _ _ _ (by decide), up2_s]
  · rcases hv with ⟨q, y0, y1, y2, y3⟩ | ⟨q, y0, y1, y2, y3⟩
    · exact Or.inl ⟨q, by rw [e4, y0], by rw [e5, y1], by rw [w2, y2], by rw [w3, y3]⟩
    · exact Or.inr ⟨q, by rw [e4, y0]; exact a9 q 0 (by decide) (by decide), by rw [e5, y1]; exact a9 q 1 (by decide) (by decide), by rw [w2, y2]; exact a9 q 2 (by decide) (by decide), by rw [w3, y3]; exact a9 q 3 (by decide) (by decide)⟩
  · rw [h5, upA_i _ _ _ (by decide), h4, upA_s]
  · rw [h5, upA_s]
  · have g := hl.2 i i0 i1
    have q := fun j j0 j1 => (hc 1 (by omega)).2.2 i j i0 i1 j0 j1
    have eL : ∀ k, k = 103 ∨ k = 104 ∨ k = 105 → f5 k i = fl k i := fun k hk => by rw [fk k i (by omega) (by omega), fwk k i (by omega), hm.1 k i (by omega) (by omega)]
    rw [eL 103 (by omega), eL 104 (by omega), eL 105 (by omega), g.1, g.2.1, g.2.2]
    have q0 := q 0 (by decide) (by decide)
    have q1 := q 1 (by decide) (by decide)
    have q2 := q 2 (by decide) (by decide)
    change fz 110 (i * 3 + 0) = _ at q0
    change fz 110 (i * 3 + 1) = _ at q1
    change fz 110 (i * 3 + 2) = _ at q2
    rw [Int.add_zero] at q0
    rw [Int.mul_comm] at q0 q1 q2
    exact ⟨q0, q1, q2⟩
  · have g := hm.2 i i0 i1
    have q := fun j j0 j1 => (hc 2 (by omega)).2.2 i j i0 i1 j0 j1
    rw [fk 106 i (by omega) (by omega), fk 107 i (by omega) (by omega), fwk 106 i (by omega), fwk 107 i (by omega), g.1, g.2, hl.1 111 _ (by omega) (by omega) (by omega), hl.1 111 _ (by omega) (by omega) (by omega)]
    have q0 := q 0 (by decide) (by decide)
    have q1 := q 1 (by decide) (by decide)
    change fz 111 (i * 2 + 0) = _ at q0
    change fz 111 (i * 2 + 1) = _ at q1
    rw [Int.add_zero] at q0
    rw [Int.mul_comm] at q0 q1
    exact ⟨q0, q1⟩

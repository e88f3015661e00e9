/-! the model's cells beside the class's: (a, b) is the class's state, (t, f) holds the model -/
def MV (a : uN) (b : uF) (t : uN) (f : uF) : Prop :=
  (t 100 3 = a 12 3 ∧ t 100 4 = tget a b 12 0 0 ∧ t 100 5 = tget a b 12 0 1 ∧ t 100 6 = a 14 3 ∧ t 100 10 = a 16 3) ∧
  (∀ l, 0 ≤ l → l < a 14 3 → f 103 l = tget a b 14 l 0 ∧ f 104 l = tget a b 14 l 1 ∧ f 105 l = tget a b 14 l 2) ∧
  ∀ m, 0 ≤ m → m < a 16 3 → f 106 m = tget a b 16 m 0 ∧ f 107 m = tget a b 16 m 1
/-- the model's words from h on are the class's ship k -/
def MS (a : uN) (b : uF) (k : Nat) (f : uF) (h : Int) : Prop :=
  (f 101 (h + 0) = a k 3 ∧ f 101 (h + 1) = a k 4 ∧ f 101 (h + 2) = a k 1 ∧ f 101 (h + 3) = a k 2 ∧ f 101 (h + 4) = a (k + 1) 3) ∧
  ∀ i, 0 ≤ i → i < a (k + 1) 3 → f 101 (h + 5 + i) = tget a b (k + 1) i 0 ∧ f 101 (h + 14 + i) = tget a b (k + 1) i 1 ∧ f 101 (h + 23 + i) = tget a b (k + 1) i 2 ∧ f 101 (h + 32 + i) = tget a b (k + 1) i 4
/-- a ship's loans are of this voyage -/
def LOK (a : uN) (b : uF) (k : Nat) : Prop :=
  SOK a b k ∧ a k 3 ≤ a 14 3 ∧ a k 2 ≤ tget a b 12 0 3 + 999 * a (k + 1) 3 ∧ (a 12 3 = 0 → a (k + 1) 3 = 0) ∧
  ∀ i, 0 ≤ i → i < a (k + 1) 3 → tget a b (k + 1) i 0 < a 16 3 ∧ 1 ≤ tget a b (k + 1) i 1 ∧ tget a b (k + 1) i 3 = owedX a b 11 (tget a b (k + 1) i 0) (tget a b (k + 1) i 1)
def ML (a : uN) (b : uF) (t : uN) (f : uF) : Prop := HI a b ∧ LOK a b 18 ∧ (a 12 3 = 0 → a 14 3 = 0 ∧ a 16 3 = 0) ∧ MV a b t f ∧ MS a b 18 f 0
theorem ML.p {a : uN} {b : uF} {t : uN} {f : uF} (L : ML a b t f) : f 101 0 = a 18 3 ∧ f 101 1 = a 18 4 ∧ f 101 2 = a 18 1 ∧ f 101 3 = a 18 2 ∧ f 101 4 = a 19 3 := L.2.2.2.2.1
theorem ML.c {a : uN} {b : uF} {t : uN} {f : uF} (L : ML a b t f) {i : Int} (h0 : 0 ≤ i) (h1 : i < a 19 3) : f 101 (5 + i) = tget a b 19 i 0 ∧ f 101 (14 + i) = tget a b 19 i 1 ∧ f 101 (23 + i) = tget a b 19 i 2 ∧ f 101 (32 + i) = tget a b 19 i 4 := by
  have := L.2.2.2.2.2 i h0 h1
  rw [Int.zero_add, Int.zero_add, Int.zero_add, Int.zero_add] at this
  exact this
theorem ML.v {a : uN} {b : uF} {t : uN} {f : uF} (L : ML a b t f) : t 100 3 = a 12 3 ∧ t 100 4 = tget a b 12 0 0 ∧ t 100 5 = tget a b 12 0 1 ∧ t 100 6 = a 14 3 ∧ t 100 10 = a 16 3 := L.2.2.2.1.1
theorem ML.l {a : uN} {b : uF} {t : uN} {f : uF} (L : ML a b t f) {i : Int} (h0 : 0 ≤ i) (h1 : i < a 14 3) : (f 103 i = tget a b 14 i 0 ∧ f 104 i = tget a b 14 i 1 ∧ f 105 i = tget a b 14 i 2) ∧ ((0 ≤ f 103 i ∧ f 103 i ≤ 99) ∧ (0 ≤ f 104 i ∧ f 104 i ≤ 9) ∧ (0 ≤ f 105 i ∧ f 105 i ≤ 99)) := by
  have h := L.2.2.2.1.2.1 i h0 h1
  have h2 := L.1.leg i
  refine ⟨h, ?_⟩
  rw [h.1, h.2.1, h.2.2]
  exact h2
theorem ML.m {a : uN} {b : uF} {t : uN} {f : uF} (L : ML a b t f) {i : Int} (h0 : 0 ≤ i) (h1 : i < a 16 3) : (f 106 i = tget a b 16 i 0 ∧ f 107 i = tget a b 16 i 1) ∧ ((0 ≤ f 106 i ∧ f 106 i ≤ 999) ∧ (0 ≤ f 107 i ∧ f 107 i ≤ 200)) := by
  have h := L.2.2.2.1.2.2 i h0 h1
  have h2 := L.1.len i
  refine ⟨h, ?_⟩
  rw [h.1, h.2]
  exact h2
/-- a loan's columns, their bounds, its due -/
theorem ML.o {a : uN} {b : uF} {t : uN} {f : uF} (L : ML a b t f) {i : Int} (h0 : 0 ≤ i) (h1 : i < a 19 3) :
    ((0 ≤ f 101 (5 + i) ∧ f 101 (5 + i) < a 16 3) ∧ (1 ≤ f 101 (14 + i) ∧ f 101 (14 + i) ≤ 999) ∧ (0 ≤ f 101 (23 + i) ∧ f 101 (23 + i) ≤ 1)) ∧ (0 ≤ f 107 (f 101 (5 + i)) ∧ f 107 (f 101 (5 + i)) ≤ 200) ∧ f 101 (14 + i) + (f 101 (14 + i) * f 107 (f 101 (5 + i))).tdiv 100 = tget a b 19 i 3 := by
  obtain ⟨c1, c2, c3, c4⟩ := L.c h0 h1
  obtain ⟨d1, d2, d3⟩ := L.2.1.2.2.2.2 i h0 h1
  have hr := L.1.loan i
  change tget a b 19 i 0 < a 16 3 at d1
  change 1 ≤ tget a b 19 i 1 at d2
  have hm := L.m (i := f 101 (5 + i)) (by rw [c1]; omega) (by rw [c1]; omega)
  refine ⟨⟨by rw [c1]; omega, by rw [c2]; omega, by rw [c3]; omega⟩, hm.2.2, ?_⟩
  rw [hm.1.2, c1, c2]
  exact d3.symm
def inX (v lo hi : Int) : Int := if lo ≤ v ∧ v ≤ hi then 1 else 0
theorem inX_b (v lo hi : Int) : (inX v lo hi = 1 ∧ lo ≤ v ∧ v ≤ hi) ∨ (inX v lo hi = 0 ∧ ¬ (lo ≤ v ∧ v ≤ hi)) := by unfold inX; split <;> simp_all
theorem cmpZ_b (a b : Int) : (cmpZ a b = 1 ∧ b < a) ∨ (cmpZ a b = 0 ∧ a = b) ∨ (cmpZ a b = -1 ∧ a < b) := by
  unfold cmpZ
  split
  · omega
  · split <;> omega

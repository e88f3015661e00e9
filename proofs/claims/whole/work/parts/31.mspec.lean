/-! the model's cells beside the class's: (a, b) is the class's state, (t, f) holds the model -/
def MV (a : uN) (b : uF) (t : uN) (f : uF) : Prop :=
  (t 100 3 = a 12 3 ∧ t 100 4 = tget a b 12 0 0 ∧ t 100 5 = tget a b 12 0 1 ∧ t 100 6 = a 14 3 ∧ t 100 10 = a 16 3) ∧
  (∀ l, 0 ≤ l → l < a 14 3 → f 103 l = tget a b 14 l 0 ∧ f 104 l = tget a b 14 l 1 ∧ f 105 l = tget a b 14 l 2) ∧
  ∀ m, 0 ≤ m → m < a 16 3 → f 106 m = tget a b 16 m 0 ∧ f 107 m = tget a b 16 m 1
/-- the model's words from h on are the class's ship k -/
def MS (a : uN) (b : uF) (k : Nat) (f : uF) (h : Int) : Prop :=
  (f 101 (h + 0) = a k 3 ∧ f 101 (h + 1) = a k 4 ∧ f 101 (h + 2) = a k 1 ∧ f 101 (h + 3) = a k 2 ∧ f 101 (h + 4) = a (k + 1) 3) ∧
  ∀ i, 0 ≤ i → i < a (k + 1) 3 → f 101 (h + 5 + i) = tget a b (k + 1) i 0 ∧ f 101 (h + 14 + i) = tget a b (k + 1) i 1 ∧ f 101 (h + 23 + i) = tget a b (k + 1) i 2 ∧ f 101 (h + 32 + i) = tget a b (k + 1) i 4
/-- a ship's loans are of this voyage -/
def LOK (a : uN) (b : uF) (k : Nat) : Prop :=
  SOK a b k ∧ a k 3 ≤ a 14 3 ∧ a k 2 ≤ tget a b 12 0 3 + 999 * a (k + 1) 3 ∧ (a 12 3 = 0 → a (k + 1) 3 = 0) ∧
  ∀ i, 0 ≤ i → i < a (k + 1) 3 → tget a b (k + 1) i 0 < a 16 3 ∧ 1 ≤ tget a b (k + 1) i 1 ∧ tget a b (k + 1) i 3 = owedX a b 11 (tget a b (k + 1) i 0) (tget a b (k + 1) i 1)
def ML (a : uN) (b : uF) (t : uN) (f : uF) : Prop := HI a b ∧ LOK a b 18 ∧ (a 12 3 = 0 → a 14 3 = 0 ∧ a 16 3 = 0) ∧ MV a b t f ∧ MS a b 18 f 0
theorem ML.p {a : uN} {b : uF} {t : uN} {f : uF} (L : ML a b t f) : f 101 0 = a 18 3 ∧ f 101 1 = a 18 4 ∧ f 101 2 = a 18 1 ∧ f 101 3 = a 18 2 ∧ f 101 4 = a 19 3 := L.2.2.2.2.1
theorem ML.c {a : uN} {b : uF} {t : uN} {f : uF} (L : ML a b t f) {i : Int} (h0 : 0 ≤ i) (h1 : i < a 19 3) : f 101 (5 + i) = tget a b 19 i 0 ∧ f 101 (14 + i) = tget a b 19 i 1 ∧ f 101 (23 + i) = tget a b 19 i 2 ∧ f 101 (32 + i) = tget a b 19 i 4 := by
  have := L.2.2.2.2.2 i h0 h1
  rw [Int.zero_add, Int.zero_add, Int.zero_add, Int.zero_add] at this
  exact this
theorem ML.v {a : uN} {b : uF} {t : uN} {f : uF} (L : ML a b t f) : t 100 3 = a 12 3 ∧ t 100 4 = tget a b 12 0 0 ∧ t 100 5 = tget a b 12 0 1 ∧ t 100 6 = a 14 3 ∧ t 100 10 = a 16 3 := L.2.2.2.1.1
theorem ML.l {a : uN} {b : uF} {t : uN} {f : uF} (L : ML a b t f) {i : Int} (h0 : 0 ≤ i) (h1 : i < a 14 3) : (f 103 i = tget a b 14 i 0 ∧ f 104 i = tget a b 14 i 1 ∧ f 105 i = tget a b 14 i 2) ∧ ((0 ≤ f 103 i ∧ f 103 i ≤ 99) ∧ (0 ≤ f 104 i ∧ f 104 i ≤ 9) ∧ (0 ≤ f 105 i ∧ f 105 i ≤ 99)) := by
  have h := L.2.2.2.1.2.1 i h0 h1
  have h2 := L.1.leg i
  refine ⟨h, ?_⟩
  rw [h.1, h.2.1, h.2.2]
  exact h2
theorem ML.m {a : uN} {b : uF} {t : uN} {f : uF} (L : ML a b t f) {i : Int} (h0 : 0 ≤ i) (h1 : i < a 16 3) : (f 106 i = tget a b 16 i 0 ∧ f 107 i = tget a b 16 i 1) ∧ ((0 ≤ f 106 i ∧ f 106 i ≤ 999) ∧ (0 ≤ f 107 i ∧ f 107 i ≤ 200)) := by
  have h := L.2.2.2.1.2.2 i h0 h1
  have h2 := L.1.len i
  refine ⟨h, ?_⟩
  rw [h.1, h.2]
  exact h2
/-- a loan's columns, their bounds, its due -/
theorem ML.o {a : uN} {b : uF} {t : uN} {f : uF} (L : ML a b t f) {i : Int} (h0 : 0 ≤ i) (h1 : i < a 19 3) :
    ((0 ≤ f 101 (5 + i) ∧ f 101 (5 + i) < a 16 3) ∧ (1 ≤ f 101 (14 + i) ∧ f 101 (14 + i) ≤ 999) ∧ (0 ≤ f 101 (23 + i) ∧ f 101 (23 + i) ≤ 1)) ∧ (0 ≤ f 107 (f 101 (5 + i)) ∧ f 107 (f 101 (5 + i)) ≤ 200) ∧ f 101 (14 + i) + (f 101 (14 + i) * f 107 (f 101 (5 + i))).tdiv 100 = tget a b 19 i 3 := by
  obtain ⟨c1, c2, c3, c4⟩ := L.c h0 h1
  obtain ⟨d1, d2, d3⟩ := L.2.1.2.2.2.2 i h0 h1
  have hr := L.1.loan i
  change tget a b 19 i 0 < a 16 3 at d1
  change 1 ≤ tget a b 19 i 1 at d2
  have hm := L.m (i := f 101 (5 + i)) (by rw [c1]; omega) (by rw [c1]; omega)
  refine ⟨⟨by rw [c1]; omega, by rw [c2]; omega, by rw [c3]; omega⟩, hm.2.2, ?_⟩
  rw [hm.1.2, c1, c2]
  exact d3.symm
def inX (v lo hi : Int) : Int := if lo ≤ v ∧ v ≤ hi then 1 else 0
theorem inX_b (v lo hi : Int) : (inX v lo hi = 1 ∧ lo ≤ v ∧ v ≤ hi) ∨ (inX v lo hi = 0 ∧ ¬ (lo ≤ v ∧ v ≤ hi)) := by unfold inX; split <;> simp_all
theorem cmpZ_b (a b : Int) : (cmpZ a b = 1 ∧ b < a) ∨ (cmpZ a b = 0 ∧ a = b) ∨ (cmpZ a b = -1 ∧ a < b) := by
  unfold cmpZ
  split
  · omega
  · split <;> omega
def dueM (f : uF) (h i : Int) : Int := f 101 (h + 14 + i) + (f 101 (h + 14 + i) * f 107 (f 101 (h + 5 + i))).tdiv 100
/-- a loan of the ship at h may be asked -/
def DUH (f : uF) (h i : Int) : Prop := (h = 0 ∨ h = 42) ∧ (0 ≤ i ∧ i ≤ 8) ∧ (0 ≤ f 101 (h + 14 + i) ∧ f 101 (h + 14 + i) ≤ 999) ∧ (0 ≤ f 101 (h + 5 + i) ∧ f 101 (h + 5 + i) ≤ 4) ∧ (0 ≤ f 107 (f 101 (h + 5 + i)) ∧ f 107 (f 101 (h + 5 + i)) ≤ 200)
theorem ML.d {a : uN} {b : uF} {t : uN} {f : uF} (L : ML a b t f) {i : Int} (h0 : 0 ≤ i) (h1 : i < a 19 3) : DUH f 0 i ∧ dueM f 0 i = tget a b 19 i 3 := by
  have hb := L.1.b
  obtain ⟨⟨o1, o2, o3⟩, o4, o5⟩ := L.o h0 h1
  refine ⟨⟨Or.inl rfl, ⟨h0, by omega⟩, ?_, ?_, ?_⟩, o5⟩
  · show 0 ≤ f 101 (14 + i) ∧ _; exact ⟨by omega, o2.2⟩
  · show 0 ≤ f 101 (5 + i) ∧ _; exact ⟨o1.1, by show f 101 (5 + i) ≤ 4; omega⟩
  · exact o4
theorem dueM_rng {f : uF} {h i : Int} (H : DUH f h i) : (0 ≤ f 101 (h + 14 + i) * f 107 (f 101 (h + 5 + i)) ∧ f 101 (h + 14 + i) * f 107 (f 101 (h + 5 + i)) ≤ 199800) ∧ 0 ≤ dueM f h i ∧ dueM f h i ≤ 2997 := by
  obtain ⟨h1, h2, h3, h4, h5⟩ := H
  have m0 : 0 ≤ f 101 (h + 14 + i) * f 107 (f 101 (h + 5 + i)) := Int.mul_nonneg (by omega) (by omega)
  have m1 : f 101 (h + 14 + i) * f 107 (f 101 (h + 5 + i)) ≤ 999 * 200 := Int.mul_le_mul (by omega) (by omega) (by omega) (by omega)
  have e : (f 101 (h + 14 + i) * f 107 (f 101 (h + 5 + i))).tdiv 100 = f 101 (h + 14 + i) * f 107 (f 101 (h + 5 + i)) / 100 := Int.tdiv_eq_ediv_of_nonneg m0
  unfold dueM
  omega
theorem sumR_app (h : Int → Int) {a m b : Int} (q1 : a ≤ m) (q2 : m ≤ b) : sumR h a b = sumR h a m + sumR h m b := by
  obtain ⟨n, hn⟩ : ∃ n : Nat, b = m + n := ⟨(b - m).toNat, by omega⟩
  subst hn
  clear q2
  induction n with
  | zero => rw [show m + ((0 : Nat) : Int) = m by omega, sumR_nil h (a := m) (b := m) (by omega)]; omega
  | succ n ih =>
    rw [show m + ((n + 1 : Nat) : Int) = m + (n : Int) + 1 by omega, sumR_succ h (by omega), sumR_succ h (by omega), ih]
    omega
theorem sumN_add (h g : Int → Int) (a : Int) (n : Nat) : sumN (fun i => h i + g i) a n = sumN h a n + sumN g a n := by
  induction n with
  | zero => rfl
  | succ n ih => rw [sumN, sumN, sumN, ih]; omega
theorem sumR_add (h g : Int → Int) (a b : Int) : sumR (fun i => h i + g i) a b = sumR h a b + sumR g a b := sumN_add h g a _
theorem sumN_zero (a : Int) (n : Nat) : sumN (fun _ => 0) a n = 0 := by
  induction n with
  | zero => rfl
  | succ n ih => rw [sumN, ih]; rfl
theorem sumR_0 {h : Int → Int} {a b : Int} (q : ∀ i, a ≤ i → i < b → h i = 0) : sumR h a b = 0 := (sumR_congr (h2 := fun _ => 0) q).trans (sumN_zero a _)
/-- the rank, counted through all loans -/
def rkX (a : uN) (b : uF) (i : Int) : Int → Int := fun k => if tget a b 19 k 2 = tget a b 19 i 2 then (if i < k then 1 else 0) else (if tget a b 19 k 2 = 1 then 1 else 0)
theorem rk_eq {a : uN} {b : uF} (h : HI a b) {i : Int} (h0 : 0 ≤ i) (h1 : i < a 19 3) : sumR (rkX a b i) 0 (a 19 3) = rankS a b 18 i := by
  have hi := (h.loan i).2.2.1
  have hsp := sumR_app (cntX a b 18 (tget a b 19 i 2)) (a := 0) (m := i + 1) (b := a 19 3) (by omega) (by omega)
  have hlo : sumR (fun k => if tget a b 19 k 2 = tget a b 19 i 2 then (if i < k then 1 else 0) else 0) 0 (a 19 3) = cntS a b 18 (i + 1) (tget a b 19 i 2) := by
    rw [sumR_app _ (m := i + 1) (by omega) (by omega), sumR_0 (b := i + 1) (fun k q1 q2 => by rw [if_neg (show ¬ i < k by omega)]; split <;> rfl), Int.zero_add]
    show _ = sumR (cntX a b 18 (tget a b 19 i 2)) (i + 1) (a 19 3)
    refine sumR_congr fun k q1 q2 => ?_
    show _ = if tget a b 19 k 2 = tget a b 19 i 2 then 1 else 0
    split
    · rw [if_pos (by omega)]
    · rfl
  rcases (show tget a b 19 i 2 = 0 ∨ tget a b 19 i 2 = 1 by omega) with q | q
  · unfold rankS
    show _ = (if tget a b 19 i 2 = 0 then cntS a b 18 0 1 else 0) + cntS a b 18 (i + 1) (tget a b 19 i 2)
    rw [if_pos q, ← hlo]
    show _ = sumR (cntX a b 18 1) 0 (a 19 3) + _
    rw [← sumR_add]
    refine sumR_congr fun k _ _ => ?_
    show (if tget a b 19 k 2 = tget a b 19 i 2 then (if i < k then (1 : Int) else 0) else if tget a b 19 k 2 = 1 then 1 else 0) = (if tget a b 19 k 2 = 1 then 1 else 0) + if tget a b 19 k 2 = tget a b 19 i 2 then (if i < k then 1 else 0) else 0
    by_cases c : tget a b 19 k 2 = tget a b 19 i 2
    · rw [if_pos c, if_pos c, if_neg (show ¬ tget a b 19 k 2 = 1 by omega), Int.zero_add]
    · rw [if_neg c, if_neg c]; omega
  · unfold rankS
    show _ = (if tget a b 19 i 2 = 0 then cntS a b 18 0 1 else 0) + cntS a b 18 (i + 1) (tget a b 19 i 2)
    rw [if_neg (by omega), ← hlo, Int.zero_add]
    refine sumR_congr fun k _ _ => ?_
    show (if tget a b 19 k 2 = tget a b 19 i 2 then (if i < k then (1 : Int) else 0) else if tget a b 19 k 2 = 1 then 1 else 0) = if tget a b 19 k 2 = tget a b 19 i 2 then (if i < k then 1 else 0) else 0
    by_cases c : tget a b 19 k 2 = tget a b 19 i 2
    · rw [if_pos c, if_pos c]
    · rw [if_neg c, if_neg c, if_neg (show ¬ tget a b 19 k 2 = 1 by omega)]
/-- the least rate that is worth it, sought from 0 on -/
theorem rate_eq {c r : Int} (h0 : 0 ≤ c) (h1 : (99 + r) * c < 100000000) (h2 : 100000000 ≤ (100 + r) * c) (hr : 0 ≤ r) (hr2 : r ≤ 999) : rateX c = r := by
  have hc : 0 < c := by
    rcases Int.lt_or_le 0 c with q | q
    · exact q
    · have : c = 0 := by omega
      subst this; omega
  have e : (100000000 + c - 1).tdiv c = 100 + r := by
    rw [Int.tdiv_eq_ediv_of_nonneg (by omega)]
    rw [Int.add_mul] at h1 h2
    refine Int.le_antisymm ?_ ?_
    · have : (100000000 + c - 1) / c < 100 + r + 1 := Int.ediv_lt_of_lt_mul hc (by rw [Int.add_mul, Int.add_mul]; omega)
      omega
    · refine Int.le_ediv_of_mul_le hc ?_
      rw [Int.add_mul]; omega
  unfold rateX
  rw [if_pos hc, e, if_pos (by omega)]
  omega
theorem rate_no {c : Int} (h0 : 0 ≤ c) (h1 : 1099 * c < 100000000) : rateX c = -1 := by
  unfold rateX
  by_cases hc : 0 < c
  · rw [if_pos hc]
    have e : 1100 ≤ (100000000 + c - 1).tdiv c := by
      rw [Int.tdiv_eq_ediv_of_nonneg (by omega)]
      refine Int.le_ediv_of_mul_le hc ?_
      omega
    rw [if_neg (by omega)]
  · rw [if_neg hc]
/-- n loans lie at h: their kinds K, their dues D -/
def PY (f : uF) (h : Int) (K D : Int → Int) (n : Int) : Prop := (h = 0 ∨ h = 42) ∧ (0 ≤ n ∧ n ≤ 9) ∧ f 101 (h + 4) = n ∧ ∀ i, 0 ≤ i → i < n → DUH f h i ∧ f 101 (h + 23 + i) = K i ∧ (0 ≤ K i ∧ K i ≤ 1) ∧ dueM f h i = D i ∧ 0 ≤ D i ∧ D i ≤ 2997
def sD (K D : Int → Int) (kind : Int) : Int → Int := fun i => if K i = kind then D i else 0
def payM (K D : Int → Int) (n kind much i : Int) : Int := min (D i) (max 0 (much - sumR (sD K D kind) (i + 1) n))
def PYI (f : uF) (K D : Int → Int) (n kind much i : Int) (f2 : uF) : Prop := (∀ k j, k ≠ 112 → f2 k j = f k j) ∧ (∀ j, ¬ (i < j ∧ j < n ∧ K j = kind) → f2 112 j = f 112 j) ∧ ∀ j, i < j → j < n → K j = kind → f2 112 j = payM K D n kind much j
theorem PY.of {f f2 : uF} {h n : Int} {K D : Int → Int} (H : PY f h K D n) (hf : ∀ k j, k ≠ 112 → f2 k j = f k j) : PY f2 h K D n := by
  refine ⟨H.1, H.2.1, by rw [hf 101 _ (by decide)]; exact H.2.2.1, fun i h0 h1 => ?_⟩
  have q := H.2.2.2 i h0 h1
  unfold DUH dueM at q ⊢
  simp only [hf 101 _ (show 101 ≠ 112 by decide), hf 107 _ (show 107 ≠ 112 by decide)]
  exact q
theorem PYI.skip {f f2 : uF} {K D : Int → Int} {n kind much i : Int} (h : PYI f K D n kind much i f2) (hk : ¬ K i = kind) : PYI f K D n kind much (i - 1) f2 := by
  refine ⟨h.1, fun j hj => h.2.1 j (fun q => hj ⟨by omega, q.2.1, q.2.2⟩), fun j h1 h2 h3 => ?_⟩
  by_cases q : j = i
  · subst q; exact absurd h3 hk
  · exact h.2.2 j (by omega) h2 h3
theorem PYI.step {f f2 f3 : uF} {K D : Int → Int} {n kind much i v : Int} (h : PYI f K D n kind much i f2) (hi : i < n) (hk : K i = kind) (h3 : f3 = upA f2 112 i v) (hv : v = payM K D n kind much i) : PYI f K D n kind much (i - 1) f3 := by
  subst h3
  refine ⟨fun k j q => by rw [upA_k _ _ _ _ q]; exact h.1 k j q, fun j hj => ?_, fun j h1 h2 h3 => ?_⟩
  · by_cases q : j = i
    · subst q; exact absurd ⟨by omega, hi, hk⟩ hj
    · rw [upA_i _ _ _ q]; exact h.2.1 j (fun z => hj ⟨by omega, z.2.1, z.2.2⟩)
  · by_cases q : j = i
    · subst q; rw [upA_s]; exact hv
    · rw [upA_i _ _ _ q]; exact h.2.2 j (by omega) h2 h3
/-- what a kind's payment leaves -/
def PYQ (t : uN) (f : uF) (K D : Int → Int) (n kind much : Int) (z : Int) (t2 : uN) (f2 : uF) : Prop := t2 = t ∧ z = max 0 (much - sumR (sD K D kind) 0 n) ∧ PYI f K D n kind much (-1) f2
theorem sD_rng {f : uF} {h n : Int} {K D : Int → Int} (H : PY f h K D n) {kind i : Int} (h0 : 0 ≤ i) (h1 : i < n) : 0 ≤ sD K D kind i ∧ sD K D kind i ≤ 2997 := by
  have q := H.2.2.2 i h0 h1
  unfold sD
  split
  · exact q.2.2.2.2
  · omega
theorem bit_none {c : Int → Int} (h : ∀ j, ¬ c j = 1) (n : Nat) : bitN c n = 0 := by
  induction n with
  | zero => rfl
  | succ n ih =>
    have := bitN_0 (c := c) (i := (n : Int)) (by omega) (h _)
    rw [show ((n : Int) + 1).toNat = n + 1 by omega, show ((n : Nat) : Int).toNat = n by omega] at this
    rw [this, ih]
/-- what the model scratches on: nothing that counts -/
def Scr (t : uN) (f : uF) (t2 : uN) (f2 : uF) : Prop := (∀ k j, ¬ (k = 100 ∧ (j = 27 ∨ j = 29 ∨ j = 30)) → t2 k j = t k j) ∧ ∀ k j, ¬ (k = 112 ∨ k = 113 ∨ (k = 101 ∧ 42 ≤ j ∧ j < 84)) → f2 k j = f k j
theorem Scr.rf (t : uN) (f : uF) : Scr t f t f := ⟨fun _ _ _ => rfl, fun _ _ _ => rfl⟩
theorem Scr.tr {t t2 t3 : uN} {f f2 f3 : uF} (h : Scr t f t2 f2) (h2 : Scr t2 f2 t3 f3) : Scr t f t3 f3 := ⟨fun k j q => (h2.1 k j q).trans (h.1 k j q), fun k j q => (h2.2 k j q).trans (h.2 k j q)⟩
theorem MV.scr {a : uN} {b : uF} {t t2 : uN} {f f2 : uF} (h : MV a b t f) (hs : Scr t f t2 f2) : MV a b t2 f2 := by
  obtain ⟨⟨h1, h2, h3, h4, h5⟩, h6, h7⟩ := h
  refine ⟨⟨?_, ?_, ?_, ?_, ?_⟩, fun l q1 q2 => ?_, fun m q1 q2 => ?_⟩
  · rw [hs.1 100 3 (by omega)]; exact h1
  · rw [hs.1 100 4 (by omega)]; exact h2
  · rw [hs.1 100 5 (by omega)]; exact h3
  · rw [hs.1 100 6 (by omega)]; exact h4
  · rw [hs.1 100 10 (by omega)]; exact h5
  · rw [hs.2 103 l (by omega), hs.2 104 l (by omega), hs.2 105 l (by omega)]; exact h6 l q1 q2
  · rw [hs.2 106 m (by omega), hs.2 107 m (by omega)]; exact h7 m q1 q2
theorem MS.of {a : uN} {b : uF} {k : Nat} {f f2 : uF} {h : Int} (hm : MS a b k f h) (hn : a (k + 1) 3 ≤ 8) (hf : ∀ j, h ≤ j → j < h + 41 → f2 101 j = f 101 j) : MS a b k f2 h := by
  obtain ⟨⟨h1, h2, h3, h4, h5⟩, h6⟩ := hm
  refine ⟨⟨?_, ?_, ?_, ?_, ?_⟩, fun i q1 q2 => ?_⟩
  · rw [hf _ (by omega) (by omega)]; exact h1
  · rw [hf _ (by omega) (by omega)]; exact h2
  · rw [hf _ (by omega) (by omega)]; exact h3
  · rw [hf _ (by omega) (by omega)]; exact h4
  · rw [hf _ (by omega) (by omega)]; exact h5
  · rw [hf _ (by omega) (by omega), hf _ (by omega) (by omega), hf _ (by omega) (by omega), hf _ (by omega) (by omega)]; exact h6 i q1 q2
theorem ML.scr {a : uN} {b : uF} {t t2 : uN} {f f2 : uF} (L : ML a b t f) (hs : Scr t f t2 f2) : ML a b t2 f2 := by
  have hb := L.1.b
  exact ⟨L.1, L.2.1, L.2.2.1, L.2.2.2.1.scr hs, L.2.2.2.2.of (by show a 19 3 ≤ 8; omega) (fun j h1 h2 => hs.2 101 j (by omega))⟩
theorem ML.py {a : uN} {b : uF} {t : uN} {f : uF} (L : ML a b t f) : PY f 0 (fun i => tget a b 19 i 2) (fun i => tget a b 19 i 3) (a 19 3) := by
  have hb := L.1.b
  refine ⟨Or.inl rfl, ⟨by omega, by omega⟩, L.p.2.2.2.2, fun i h0 h1 => ?_⟩
  have hl := L.1.loan i
  obtain ⟨d1, d2⟩ := L.d h0 h1
  refine ⟨d1, ?_, hl.2.2.1, d2, hl.2.2.2.1⟩
  show f 101 (23 + i) = _
  exact (L.c h0 h1).2.2.1
/-- the money for the ship's loans and what is behind -/
def mnM (f : uF) (h : Int) (K D : Int → Int) (n F W : Int) : Int := W + f 101 (h + 3) + max 0 (F - sumR (sD K D 1) 0 n)
def PHQ (t : uN) (f : uF) (h : Int) (K D : Int → Int) (n W : Int) (t2 : uN) (f2 : uF) : Prop :=
  t2 = up2 t 100 27 (max 0 (mnM f h K D n (t 100 5) W - sumR (sD K D 0) 0 n)) ∧ (∀ k j, k ≠ 112 → f2 k j = f k j) ∧ ∀ j, 0 ≤ j → j < n → f2 112 j = if K j = 1 then payM K D n 1 (t 100 5) j else payM K D n 0 (mnM f h K D n (t 100 5) W) j
theorem PHQ_of {t t1 t2 t3 : uN} {f f1 f2 : uF} {h n W z1 z2 : Int} {K D : Int → Int} (HP : PY f h K D n) (q1 : PYQ t f K D n 1 (t 100 5) z1 t1 f1) (q2 : PYQ t1 f1 K D n 0 (W + f1 101 (h + 3) + z1) z2 t2 f2) (h3 : t3 = up2 t2 100 27 z2) : PHQ t f h K D n W t3 f2 := by
  obtain ⟨a1, a2, a3⟩ := q1
  obtain ⟨b1, b2, b3⟩ := q2
  subst a1 b1
  have e : W + f1 101 (h + 3) + z1 = mnM f h K D n (t2 100 5) W := by unfold mnM; rw [a3.1 101 _ (by decide), a2]
  rw [e] at b2 b3
  refine ⟨by rw [h3, b2], fun k j q => (b3.1 k j q).trans (a3.1 k j q), fun j j0 j1 => ?_⟩
  have hK := (HP.2.2.2 j j0 j1).2.2.1
  by_cases c : K j = 1
  · rw [if_pos c, b3.2.1 j (by omega)]
    exact a3.2.2 j (by omega) j1 c
  · rw [if_neg c]
    exact b3.2.2 j (by omega) j1 (by omega)
theorem PHQ.scr {t t2 : uN} {f f2 : uF} {h n W : Int} {K D : Int → Int} (q : PHQ t f h K D n W t2 f2) : Scr t f t2 f2 :=
  ⟨fun k j hk => by rw [q.1, up2_ne _ _ (by omega)], fun k j hk => q.2.1 k j (by omega)⟩
theorem pay_eq {a : uN} {b : uF} (h : SOK a b 18) (i sm fm : Int) : paidS a b 18 i sm fm = if tget a b 19 i 2 = 1 then payM (fun i => tget a b 19 i 2) (fun i => tget a b 19 i 3) (a 19 3) 1 fm i else payM (fun i => tget a b 19 i 2) (fun i => tget a b 19 i 3) (a 19 3) 0 sm i := by
  have hl := (h.2.2.2.2.2 i)
  have hk : 0 ≤ tget a b 19 i 2 ∧ tget a b 19 i 2 ≤ 1 := hl.2.2.1
  have hd : 0 ≤ tget a b 19 i 3 := hl.2.2.2.1.1
  unfold paidS payM
  show max 0 (min ((if tget a b 19 i 2 = 1 then fm else sm) - dueS a b 18 (i + 1) (tget a b 19 i 2)) (tget a b 19 i 3)) = _
  by_cases c : tget a b 19 i 2 = 1
  · rw [if_pos c, if_pos c, c]
    show max 0 (min (fm - sumR (sD (fun i => tget a b 19 i 2) (fun i => tget a b 19 i 3) 1) (i + 1) (a 19 3)) (tget a b 19 i 3)) = min (tget a b 19 i 3) (max 0 (fm - sumR (sD (fun i => tget a b 19 i 2) (fun i => tget a b 19 i 3) 1) (i + 1) (a 19 3)))
    omega
  · rw [if_neg c, if_neg c, show tget a b 19 i 2 = 0 by omega]
    show max 0 (min (sm - sumR (sD (fun i => tget a b 19 i 2) (fun i => tget a b 19 i 3) 0) (i + 1) (a 19 3)) (tget a b 19 i 3)) = min (tget a b 19 i 3) (max 0 (sm - sumR (sD (fun i => tget a b 19 i 2) (fun i => tget a b 19 i 3) 0) (i + 1) (a 19 3)))
    omega
theorem ML.mn {a : uN} {b : uF} {t : uN} {f : uF} (L : ML a b t f) (F : Int) : mnM f 0 (fun i => tget a b 19 i 2) (fun i => tget a b 19 i 3) (a 19 3) F (tget a b 12 0 0) = smX a b F := by
  unfold mnM smX
  rw [show f 101 (0 + 3) = a 18 2 from L.p.2.2.2.1]
  rfl
theorem PHQ.now {a : uN} {b : uF} {t t2 : uN} {f f2 : uF} (L : ML a b t f) (q : PHQ t f 0 (fun i => tget a b 19 i 2) (fun i => tget a b 19 i 3) (a 19 3) (tget a b 12 0 0) t2 f2) : t2 100 27 = max 0 (smX a b (tget a b 12 0 1) - dueS a b 18 0 0) ∧ ∀ i, 0 ≤ i → i < a 19 3 → f2 112 i = paidX a b i := by
  obtain ⟨q1, q2, q3⟩ := q
  rw [L.mn, L.v.2.2.1] at q1 q3
  refine ⟨by rw [q1, up2_s]; rfl, fun i h0 h1 => ?_⟩
  rw [q3 i h0 h1]
  exact (pay_eq L.1.2 i _ _).symm
theorem tget_none {a : uN} {b : uF} {k : Nat} (h : a k 3 = 0) (r c : Int) : tget a b k r c = 0 := by
  unfold tget
  rw [if_neg (by omega)]
theorem ML.nos {a : uN} {b : uF} {t : uN} {f : uF} (L : ML a b t f) (h : a 12 3 = 0) : a 18 2 = 0 ∧ a 19 3 = 0 ∧ smX a b (tget a b 12 0 1) = 0 ∧ dueS a b 18 0 0 = 0 := by
  have hb := L.1.b
  have e := L.2.1.2.2.1
  have e2 : a 19 3 = 0 := L.2.1.2.2.2.1 h
  rw [tget_none h] at e
  change a 18 2 ≤ 0 + 999 * a 19 3 at e
  have hd : ∀ k, dueS a b 18 0 k = 0 := fun k => sumR_nil _ (show a 19 3 ≤ 0 by omega)
  refine ⟨by omega, e2, ?_, hd 0⟩
  unfold smX
  rw [tget_none h, tget_none h, hd 1]
  omega
theorem owed_eq {a : uN} {b : uF} (h : HI a b) : sumR (fun j => tget a b 19 j 3) 0 (a 19 3) = dueS a b 18 0 1 + dueS a b 18 0 0 := by
  show _ = sumR (dueX a b 18 1) 0 (a 19 3) + sumR (dueX a b 18 0) 0 (a 19 3)
  rw [← sumR_add]
  refine sumR_congr fun i _ _ => ?_
  have hk := (h.loan i).2.2.1
  show _ = (if tget a b 19 i 2 = 1 then tget a b 19 i 3 else 0) + if tget a b 19 i 2 = 0 then tget a b 19 i 3 else 0
  by_cases c : tget a b 19 i 2 = 1
  · rw [if_pos c, if_neg (by omega)]; omega
  · rw [if_neg c, if_pos (by omega)]; omega
theorem left_eq {a : uN} {b : uF} {t : uN} {f : uF} (L : ML a b t f) : (if a 18 4 = 1 then 0 else max 0 (smX a b (tget a b 12 0 1) - dueS a b 18 0 0)) = if goneX a = 0 then max 0 (lbpX a b + a 18 2) else 0 := by
  have hb := L.1.b
  have q := goneX_b hb.1.2.2.2
  unfold lbpX
  by_cases c : a 18 4 = 1
  · rw [if_pos c, if_neg (by omega)]
  · rw [if_neg c]
    by_cases d : a 12 3 = 0
    · have hn := L.nos d
      rw [if_neg (by omega), hn.2.2.1, hn.2.2.2]; rfl
    · rw [if_pos (by omega)]; omega
/-- the copy of 42 words -/
def cpW (f : uF) (x y : Int) : uF := fun k i => if k = 101 then (if y ≤ i ∧ i < y + 42 then f 101 (x + (i - y)) else f 101 i) else f k i
/-- along the copy -/
def cpI (f : uF) (x y n : Int) (f2 : uF) : Prop := (∀ k i, k ≠ 101 → f2 k i = f k i) ∧ ∀ i, f2 101 i = if y ≤ i ∧ i < y + n then f 101 (x + (i - y)) else f 101 i
theorem cpI.done {f f2 : uF} {x y : Int} (h : cpI f x y 42 f2) : f2 = cpW f x y := by
  funext k i
  unfold cpW
  by_cases q : k = 101
  · subst q; rw [if_pos rfl]; exact h.2 i
  · rw [if_neg q]; exact h.1 k i q
theorem cpI.step {f f2 f3 : uF} {x y n v : Int} (h : cpI f x y n f2) (h0 : 0 ≤ n) (hn : n < 42) (hd : x + 42 ≤ y ∨ y + 42 ≤ x) (h3 : f3 = upA f2 101 (y + n) v) (hv : v = f2 101 (x + n)) : cpI f x y (n + 1) f3 := by
  subst h3
  refine ⟨fun k i q => by rw [upA_k _ _ _ _ q]; exact h.1 k i q, fun i => ?_⟩
  by_cases q : i = y + n
  · subst q; rw [upA_s, if_pos (by omega), hv, h.2, if_neg (by omega), show y + n - y = n by omega]
  · rw [upA_i _ _ _ q, h.2]
    by_cases c : y ≤ i ∧ i < y + n
    · rw [if_pos c, if_pos (by omega)]
    · rw [if_neg c, if_neg (by omega)]
theorem sha_eq {a : uN} {b : uF} (h : SOK a b 18) {i : Int} {v : Int} : paidS a b 18 i v 0 = if tget a b 19 i 2 = 1 then 0 else payM (fun i => tget a b 19 i 2) (fun i => tget a b 19 i 3) (a 19 3) 0 v i := by
  rw [pay_eq h]
  have hl := (h.2.2.2.2.2 i)
  have hd : 0 ≤ tget a b 19 i 3 := hl.2.2.2.1.1
  by_cases c : tget a b 19 i 2 = 1
  · rw [if_pos c, if_pos c]
    unfold payM
    have hs : 0 ≤ sumR (sD (fun i => tget a b 19 i 2) (fun i => tget a b 19 i 3) 1) (i + 1) (a 19 3) := by
      refine (sumN_rng _ _ 2997 _ (fun j _ _ => ?_)).1
      have hj := (h.2.2.2.2.2 j).2.2.2.1
      change 0 ≤ tget a b 19 j 3 ∧ tget a b 19 j 3 ≤ 2997 at hj
      show 0 ≤ (if tget a b 19 j 2 = 1 then tget a b 19 j 3 else 0) ∧ (if tget a b 19 j 2 = 1 then tget a b 19 j 3 else 0) ≤ 2997
      split <;> omega
    show min (tget a b 19 i 3) (max 0 _) = 0
    omega
  · rw [if_neg c, if_neg c]

/-! sums; what the ship's methods say -/
def sumN (h : Int → Int) (a : Int) : Nat → Int
  | 0 => 0
  | n + 1 => sumN h a n + h (a + n)
def sumR (h : Int → Int) (a b : Int) : Int := sumN h a (b - a).toNat
theorem sumR_nil (h : Int → Int) {a b : Int} (q : b ≤ a) : sumR h a b = 0 := by rw [sumR, show (b - a).toNat = 0 by omega]; rfl
theorem sumR_succ (h : Int → Int) {a b : Int} (q : a ≤ b) : sumR h a (b + 1) = sumR h a b + h b := by
  rw [sumR, show (b + 1 - a).toNat = (b - a).toNat + 1 by omega, sumN, show a + ((b - a).toNat : Nat) = b by omega]; rfl
theorem sum_fin {h : Int → Int} {a b i : Int} (h0 : a ≤ i) (h1 : i ≤ a ∨ i ≤ b) (h2 : b ≤ i) : sumR h a i = sumR h a b := by
  rcases Int.lt_or_le b i with q | q
  · rw [sumR_nil _ (by omega), sumR_nil _ (by omega)]
  · rw [show i = b by omega]
theorem sumN_head (h : Int → Int) (a : Int) (n : Nat) : sumN h a (n + 1) = h a + sumN h (a + 1) n := by
  induction n with
  | zero => simp [sumN]
  | succ n ih =>
    rw [sumN, ih, sumN, show a + 1 + (n : Int) = a + ((n + 1 : Nat) : Int) by omega]; omega
theorem sumR_head (h : Int → Int) {a b : Int} (q : a < b) : sumR h a b = h a + sumR h (a + 1) b := by
  rw [sumR, show (b - a).toNat = (b - (a + 1)).toNat + 1 by omega, sumN_head]; rfl
theorem sumN_rng (h : Int → Int) (a : Int) (M : Int) (n : Nat) (q : ∀ i, a ≤ i → i < a + n → 0 ≤ h i ∧ h i ≤ M) : 0 ≤ sumN h a n ∧ sumN h a n ≤ M * n := by
  induction n with
  | zero => simp [sumN]
  | succ n ih =>
    have h1 := ih (fun i h1 h2 => q i h1 (by omega))
    have h2 := q (a + n) (by omega) (by omega)
    rw [sumN, show ((n + 1 : Nat) : Int) = (n : Int) + 1 by omega, Int.mul_add, Int.mul_one]
    omega
theorem sumR_rng (h : Int → Int) (a b : Int) (M : Int) (hM : 0 ≤ M) (n : Nat) (hn : b - a ≤ n) (q : ∀ i, a ≤ i → i < b → 0 ≤ h i ∧ h i ≤ M) : 0 ≤ sumR h a b ∧ sumR h a b ≤ M * n := by
  have h1 := sumN_rng h a M (b - a).toNat (fun i h1 h2 => q i h1 (by omega))
  refine ⟨h1.1, Int.le_trans h1.2 ?_⟩
  exact Int.mul_le_mul_of_nonneg_left (by omega) hM
theorem sumN_congr {h h2 : Int → Int} (a : Int) (n : Nat) (q : ∀ i, a ≤ i → i < a + n → h i = h2 i) : sumN h a n = sumN h2 a n := by
  induction n with
  | zero => rfl
  | succ n ih => rw [sumN, sumN, ih (fun i h1 h2 => q i h1 (by omega)), q (a + n) (by omega) (by omega)]
theorem sumR_congr {h h2 : Int → Int} {a b : Int} (q : ∀ i, a ≤ i → i < b → h i = h2 i) : sumR h a b = sumR h2 a b := sumN_congr a _ (fun i h1 h2 => q i h1 (by omega))
def topenR (t : uN) (k : Nat) : Int := if tm k ≤ t k 3 then -1 else t k 3
def topenT (t : uN) (k : Nat) : uN := if tm k ≤ t k 3 then t else up2 t k 3 (t k 3 + 1)
theorem topenT_ok {t : uN} {k : Nat} (ht : tOK t k) : tOK (topenT t k) k := by
  unfold topenT
  split
  · exact ht
  · next h => exact ⟨by rw [up2_s]; have := ht.1; omega, by rw [up2_s]; omega⟩
theorem topenR_rng {t : uN} {k : Nat} (hk : kd k = 5) (ht : tOK t k) : -1 ≤ topenR t k ∧ topenR t k ≤ 220 := by
  have := kd5_w hk
  have h := ht
  unfold tOK at h
  unfold topenR
  split <;> omega
/-- a ship's state is within its bounds -/
def SOK (t : uN) (f : uF) (k : Nat) : Prop := tOK t (k + 1) ∧ (0 ≤ t k 1 ∧ t k 1 ≤ 9) ∧ (0 ≤ t k 2 ∧ t k 2 ≤ 10000) ∧ (0 ≤ t k 3 ∧ t k 3 ≤ 7) ∧ (t k 4 = 0 ∨ t k 4 = 1) ∧
  ∀ i, (0 ≤ tget t f (k + 1) i 0 ∧ tget t f (k + 1) i 0 ≤ 4) ∧ (0 ≤ tget t f (k + 1) i 1 ∧ tget t f (k + 1) i 1 ≤ 999) ∧ (0 ≤ tget t f (k + 1) i 2 ∧ tget t f (k + 1) i 2 ≤ 1) ∧ (0 ≤ tget t f (k + 1) i 3 ∧ tget t f (k + 1) i 3 ≤ 2997) ∧ (0 ≤ tget t f (k + 1) i 4 ∧ tget t f (k + 1) i 4 ≤ 7)
theorem SOK.n {t : uN} {f : uF} {k : Nat} (hk : kd k = 4) (h : SOK t f k) : 0 ≤ t (k + 1) 3 ∧ t (k + 1) 3 ≤ 8 := by
  have := h.1
  unfold tOK at this
  rw [(kd4_w hk).2] at this
  exact this
def VOK (t : uN) (f : uF) (v : Nat) : Prop := (tOK t (v + 1) ∧ tOK t (v + 3) ∧ tOK t (v + 5)) ∧
  (∀ i, (0 ≤ tget t f (v + 3) i 0 ∧ tget t f (v + 3) i 0 ≤ 99) ∧ (0 ≤ tget t f (v + 3) i 1 ∧ tget t f (v + 3) i 1 ≤ 9) ∧ (0 ≤ tget t f (v + 3) i 2 ∧ tget t f (v + 3) i 2 ≤ 99)) ∧
  (∀ i, (0 ≤ tget t f (v + 5) i 0 ∧ tget t f (v + 5) i 0 ≤ 999) ∧ (0 ≤ tget t f (v + 5) i 1 ∧ tget t f (v + 5) i 1 ≤ 200)) ∧
  (0 ≤ tget t f (v + 1) 0 0 ∧ tget t f (v + 1) 0 0 ≤ 999) ∧ (0 ≤ tget t f (v + 1) 0 1 ∧ tget t f (v + 1) 0 1 ≤ 999) ∧ (0 ≤ tget t f (v + 1) 0 2 ∧ tget t f (v + 1) 0 2 ≤ 9) ∧ (0 ≤ tget t f (v + 1) 0 3 ∧ tget t f (v + 1) 0 3 ≤ 999)
theorem VOK.n {t : uN} {f : uF} {v : Nat} (hk : kd v = 6) (h : VOK t f v) : (0 ≤ t (v + 1) 3 ∧ t (v + 1) 3 ≤ 1) ∧ (0 ≤ t (v + 3) 3 ∧ t (v + 3) 3 ≤ 7) ∧ (0 ≤ t (v + 5) 3 ∧ t (v + 5) 3 ≤ 5) := by
  have h1 := h.1
  unfold tOK at h1
  rw [(kd6_w hk).1.2, (kd6_w hk).2.1.2, (kd6_w hk).2.2.2] at h1
  omega
def lentX (t : uN) (f : uF) (k : Nat) (m : Int) : Int → Int := fun i => if tget t f (k + 1) i 0 = m then tget t f (k + 1) i 1 else 0
def lentS (t : uN) (f : uF) (k : Nat) (m : Int) : Int := sumR (lentX t f k m) 0 (t (k + 1) 3)
def dueX (t : uN) (f : uF) (k : Nat) (kind : Int) : Int → Int := fun i => if tget t f (k + 1) i 2 = kind then tget t f (k + 1) i 3 else 0
def dueS (t : uN) (f : uF) (k : Nat) (first kind : Int) : Int := sumR (dueX t f k kind) first (t (k + 1) 3)
def cntX (t : uN) (f : uF) (k : Nat) (kind : Int) : Int → Int := fun i => if tget t f (k + 1) i 2 = kind then 1 else 0
def cntS (t : uN) (f : uF) (k : Nat) (first kind : Int) : Int := sumR (cntX t f k kind) first (t (k + 1) 3)
theorem lentX_rng {t : uN} {f : uF} {k : Nat} (h : SOK t f k) (m i : Int) : 0 ≤ lentX t f k m i ∧ lentX t f k m i ≤ 999 := by
  have := h.2.2.2.2.2 i
  unfold lentX
  split <;> omega
theorem dueX_rng {t : uN} {f : uF} {k : Nat} (h : SOK t f k) (m i : Int) : 0 ≤ dueX t f k m i ∧ dueX t f k m i ≤ 2997 := by
  have := h.2.2.2.2.2 i
  unfold dueX
  split <;> omega
theorem cntX_rng (t : uN) (f : uF) (k : Nat) (m i : Int) : 0 ≤ cntX t f k m i ∧ cntX t f k m i ≤ 1 := by
  unfold cntX
  split <;> omega
theorem lentS_rng {t : uN} {f : uF} {k : Nat} (hk : kd k = 4) (h : SOK t f k) (m : Int) : 0 ≤ lentS t f k m ∧ lentS t f k m ≤ 7992 := by
  have := h.n hk
  exact sumR_rng _ _ _ 999 (by omega) 8 (by omega) (fun i _ _ => lentX_rng h m i)
theorem dueS_rng {t : uN} {f : uF} {k : Nat} (hk : kd k = 4) (h : SOK t f k) (first kind : Int) (h0 : 0 ≤ first) : 0 ≤ dueS t f k first kind ∧ dueS t f k first kind ≤ 23976 := by
  have := h.n hk
  exact sumR_rng _ _ _ 2997 (by omega) 8 (by omega) (fun i _ _ => dueX_rng h kind i)
theorem cntS_rng {t : uN} {f : uF} {k : Nat} (hk : kd k = 4) (h : SOK t f k) (first kind : Int) (h0 : 0 ≤ first) : 0 ≤ cntS t f k first kind ∧ cntS t f k first kind ≤ 8 := by
  have := h.n hk
  have q := sumR_rng (cntX t f k kind) first (t (k + 1) 3) 1 (by omega) 8 (by omega) (fun i _ _ => cntX_rng t f k kind i)
  unfold cntS
  omega
def rankS (t : uN) (f : uF) (k : Nat) (i : Int) : Int := (if tget t f (k + 1) i 2 = 0 then cntS t f k 0 1 else 0) + cntS t f k (i + 1) (tget t f (k + 1) i 2)
def paidS (t : uN) (f : uF) (k : Nat) (i sm fm : Int) : Int := max 0 (min ((if tget t f (k + 1) i 2 = 1 then fm else sm) - dueS t f k (i + 1) (tget t f (k + 1) i 2)) (tget t f (k + 1) i 3))
def sailT (t : uN) (k : Nat) (comes : Int) : uN := if comes = 0 then up2 t k 4 1 else up2 (up2 t k 3 (t k 3 + 1)) k 1 (max 0 (t k 1 - 1))
/-- a leg's odds -/
def oddX (t : uN) (f : uF) (v : Nat) (l s : Int) : Int := min 100 (tget t f (v + 3) l 0 + tget t f (v + 3) l 1 * (9 - s))
theorem oddX_rng {t : uN} {f : uF} {v : Nat} (h : VOK t f v) (l s : Int) (h0 : 0 ≤ s) (h1 : s ≤ 9) : 0 ≤ oddX t f v l s ∧ oddX t f v l s ≤ 100 ∧ 0 ≤ tget t f (v + 3) l 1 * (9 - s) ∧ tget t f (v + 3) l 1 * (9 - s) ≤ 81 := by
  have h2 := h.2.1 l
  have m0 : 0 ≤ tget t f (v + 3) l 1 * (9 - s) := Int.mul_nonneg (by omega) (by omega)
  have m1 : tget t f (v + 3) l 1 * (9 - s) ≤ 9 * 9 := Int.mul_le_mul (by omega) (by omega) (by omega) (by omega)
  unfold oddX
  omega
def thruX (o : Int → Int → Int) : Nat → Int → Int → Int → Int
  | 0, _, _, v => v
  | n + 1, l, s, v => thruX o n (l + 1) (max 0 (s - 1)) ((v * (100 - o l s)).tdiv 100)
def thru (o : Int → Int → Int) (a b s v : Int) : Int := thruX o (b - a).toNat a s v
theorem thru_end (o : Int → Int → Int) {a b s v : Int} (h : b ≤ a) : thru o a b s v = v := by rw [thru, show (b - a).toNat = 0 by omega]; rfl
theorem thru_step (o : Int → Int → Int) {a b s v : Int} (h : a < b) : thru o a b s v = thru o (a + 1) b (max 0 (s - 1)) ((v * (100 - o a s)).tdiv 100) := by
  rw [thru, show (b - a).toNat = (b - (a + 1)).toNat + 1 by omega]; rfl
theorem step_rng {v o : Int} (h0 : 0 ≤ v) (h1 : v ≤ 1000000) (o0 : 0 ≤ o) (o1 : o ≤ 100) : 0 ≤ v * (100 - o) ∧ v * (100 - o) ≤ 100000000 ∧ 0 ≤ (v * (100 - o)).tdiv 100 ∧ (v * (100 - o)).tdiv 100 ≤ v := by
  have m0 : 0 ≤ v * (100 - o) := Int.mul_nonneg h0 (by omega)
  have m1 : v * (100 - o) ≤ v * 100 := Int.mul_le_mul_of_nonneg_left (by omega) h0
  have e : (v * (100 - o)).tdiv 100 = v * (100 - o) / 100 := Int.tdiv_eq_ediv_of_nonneg m0
  omega
def owedX (t : uN) (f : uF) (v : Nat) (m a : Int) : Int := a + (a * tget t f (v + 5) m 1).tdiv 100
theorem owedX_rng {t : uN} {f : uF} {v : Nat} (h : VOK t f v) (m a : Int) (h0 : 0 ≤ a) (h1 : a ≤ 999) : 0 ≤ a * tget t f (v + 5) m 1 ∧ a * tget t f (v + 5) m 1 ≤ 199800 ∧ a ≤ owedX t f v m a ∧ owedX t f v m a ≤ 2997 := by
  have h2 := h.2.2.1 m
  have m0 : 0 ≤ a * tget t f (v + 5) m 1 := Int.mul_nonneg (by omega) (by omega)
  have m1 : a * tget t f (v + 5) m 1 ≤ 999 * 200 := Int.mul_le_mul (by omega) (by omega) (by omega) (by omega)
  have e : (a * tget t f (v + 5) m 1).tdiv 100 = a * tget t f (v + 5) m 1 / 100 := Int.tdiv_eq_ediv_of_nonneg m0
  unfold owedX
  omega

/-! the model's reader -/
def ltA (x : Int → Int) (n p : Int) : Int := if p < n then x p else -1
def TM (x : Int → Int) (n : Int) (t : uN) (f : uF) : Prop := txt x n ∧ t 100 14 = n ∧ (∀ p, 0 ≤ p → p < n → f 108 p = x p) ∧ (0 ≤ t 100 15 ∧ t 100 15 ≤ n)
theorem ltA_b {x : Int → Int} {n : Int} (hx : txt x n) (p : Int) : (p < n ∧ ltA x n p = x p ∧ 0 ≤ x p ∧ x p ≤ 255) ∨ (n ≤ p ∧ ltA x n p = -1 ∧ x p = 0) := by
  unfold ltA
  rcases Int.lt_or_le p n with q | q
  · rw [if_pos q]; exact Or.inl ⟨q, rfl, (hx.2.1 p).1, (hx.2.1 p).2⟩
  · rw [if_neg (by omega)]; exact Or.inr ⟨q, rfl, hx.2.2 p (by omega)⟩
theorem TM.of {x : Int → Int} {n : Int} {t t2 : uN} {f f2 : uF} (h : TM x n t f) (h1 : t2 100 14 = t 100 14) (h2 : 0 ≤ t2 100 15 ∧ t2 100 15 ≤ n) (hf : ∀ i, f2 108 i = f 108 i) : TM x n t2 f2 := ⟨h.1, by rw [h1]; exact h.2.1, fun p p0 p1 => by rw [hf]; exact h.2.2.1 p p0 p1, h2⟩
theorem dg_stop {x : Int → Int} {v : Int} (h : ¬ (48 ≤ x v ∧ x v ≤ 57)) (k : Nat) (w : Int) : dg x k v w = (v, w) := by
  cases k with
  | zero => rfl
  | succ k => rw [dg, if_neg h]
theorem numK_1 {x : Int → Int} {q : Int} (h : ¬ (48 ≤ x q ∧ x q ≤ 57)) (b : Int) : numK x b q = 1 := by
  unfold numK
  rw [if_pos]
  unfold dE
  rw [dg_stop h]
/-- what fields the reader writes on -/
def rdj (j : Nat) : Prop := j = 15 ∨ j = 16 ∨ j = 17 ∨ j = 18 ∨ j = 19
def RDf (t t2 : uN) : Prop := ∀ k j, ¬ (k = 100 ∧ rdj j) → t2 k j = t k j
theorem RDf.tr {t t2 t3 : uN} (h : RDf t t2) (h2 : RDf t2 t3) : RDf t t3 := fun k j q => (h2 k j q).trans (h k j q)
theorem RDf.up {t t2 : uN} (h : RDf t t2) {j : Nat} (z : Int) (hj : rdj j) : RDf t (up2 t2 100 j z) := fun k i q => by
  rw [up2_ne _ _ (fun e => q ⟨e.1, by rw [e.2]; exact hj⟩)]; exact h k i q
theorem RDf.rf (t : uN) : RDf t t := fun _ _ _ => rfl
def TKQ (x : Int → Int) (t : uN) (f : uF) (z : Int) (t2 : uN) (f2 : uF) : Prop :=
  f2 = f ∧ RDf t t2 ∧ ((x (sk x (t 100 15)) = 59 ∧ z = 1 ∧ t2 100 15 = sk x (t 100 15) + 1 ∧ t2 100 18 = t 100 18 ∧ t2 100 19 = t 100 19) ∨ (¬ x (sk x (t 100 15)) = 59 ∧ z = 0 ∧ t2 100 18 = 1 ∧ t2 100 19 = sk x (t 100 15)))
def TNQ (x : Int → Int) (b : Int) (t : uN) (f : uF) (z : Int) (t2 : uN) (f2 : uF) : Prop :=
  f2 = f ∧ RDf t t2 ∧ ((numK x b (sk x (t 100 15)) = 0 ∧ z = 1 ∧ t2 100 15 = dE x (sk x (t 100 15)) ∧ t2 100 17 = dV x (sk x (t 100 15)) ∧ t2 100 18 = t 100 18 ∧ t2 100 19 = t 100 19) ∨ (¬ numK x b (sk x (t 100 15)) = 0 ∧ z = 0 ∧ t2 100 18 = numK x b (sk x (t 100 15)) ∧ t2 100 19 = sk x (t 100 15)))
/-- along a clause's numbers: j are read into the row at e of the cell A -/
def TWI (x : Int → Int) (n w p : Int) (wd A : Nat) (e : Int) (t : uN) (f : uF) (j : Int) (tz : uN) (fz : uF) : Prop :=
  RDf t tz ∧ (∀ k i, ¬ (k = A ∧ e ≤ i ∧ i < e + wd) → fz k i = f k i) ∧ (0 ≤ tz 100 15 ∧ tz 100 15 ≤ n) ∧ tz 100 15 = posN x p j.toNat ∧ fol x w p (wd - j.toNat) j.toNat = fol x w p wd 0 ∧ (tz 100 18 = t 100 18 ∧ tz 100 19 = t 100 19) ∧ ∀ i : Int, 0 ≤ i → i < j → fz A (e + i) = dV x (sk x (posN x p i.toNat))
/-- a clause's numbers at their end -/
def TWQ (x : Int → Int) (n w p : Int) (wd A : Nat) (e : Int) (t : uN) (f : uF) (z : Int) (t2 : uN) (f2 : uF) : Prop :=
  RDf t t2 ∧ (∀ k i, ¬ (k = A ∧ e ≤ i ∧ i < e + wd) → f2 k i = f k i) ∧
  ((z = 1 ∧ (0 ≤ t2 100 15 ∧ t2 100 15 ≤ n) ∧ t2 100 15 = posN x p wd ∧ fol x w p 0 wd = fol x w p wd 0 ∧ (t2 100 18 = t 100 18 ∧ t2 100 19 = t 100 19) ∧ ∀ i : Int, 0 ≤ i → i < wd → f2 A (e + i) = dV x (sk x (posN x p i.toNat))) ∨
   (z = 0 ∧ ¬ (fol x w p wd 0).1 = 0 ∧ t2 100 18 = (fol x w p wd 0).1 ∧ t2 100 19 = (fol x w p wd 0).2.1))
theorem TWI_init {x : Int → Int} {n w p : Int} {wd A : Nat} {e : Int} {t : uN} {f : uF} (h : 0 ≤ t 100 15 ∧ t 100 15 ≤ n) (hp : t 100 15 = p + 1) : TWI x n w p wd A e t f 0 t f :=
  ⟨RDf.rf t, fun _ _ _ => rfl, h, hp, rfl, ⟨rfl, rfl⟩, fun i i0 i1 => absurd i1 (by omega)⟩
theorem TWI_step {x : Int → Int} {n w p : Int} {wd A : Nat} {e : Int} {t tz t1 : uN} {f fz f1 f2 : uF} {j z : Int} (hx : txt x n) (hI : TWI x n w p wd A e t f j tz fz) (hj0 : 0 ≤ j) (hj1 : j < wd) (hq : TNQ x (w * 4 + j) tz fz z t1 f1) (hz : ¬ z = 0) (h2 : f2 = upA f1 A (e + j) (t1 100 17)) : TWI x n w p wd A e t f (j + 1) t1 f2 := by
  obtain ⟨i1, i2, i3, i4, i5, i6, i7⟩ := hI
  obtain ⟨q1, q2, q3⟩ := hq
  rcases q3 with ⟨a1, a2, a3, a4, a5, a6⟩ | ⟨a1, a2, -⟩
  · have s1 := sk_rng hx i3.1 i3.2
    have s2 := dE_rng hx (p := sk x (tz 100 15)) (by omega) s1.2
    subst q1
    refine ⟨i1.tr q2, fun k i hk => ?_, by rw [a3]; omega, ?_, ?_, by omega, fun i i0 i1 => ?_⟩
    · rw [h2, upA_ne _ _ (by omega)]; exact i2 k i hk
    · rw [a3, i4, show (j + 1).toNat = j.toNat + 1 by omega]; rfl
    · rw [← i5, show wd - j.toNat = (wd - (j + 1).toNat) + 1 by omega, fol, show ((j.toNat : Nat) : Int) = j by omega, ← i4, if_pos a1, show j.toNat + 1 = (j + 1).toNat by omega]
    · rw [h2]
      by_cases g : i = j
      · rw [g, upA_s, a4, i4]
      · rw [upA_i _ _ _ (by omega)]; exact i7 i i0 (by omega)
  · exact absurd a2 hz
theorem TWI_bad {x : Int → Int} {n w p : Int} {wd A : Nat} {e : Int} {t tz t1 : uN} {f fz f1 : uF} {j z : Int} (hI : TWI x n w p wd A e t f j tz fz) (hj0 : 0 ≤ j) (hj1 : j < wd) (hq : TNQ x (w * 4 + j) tz fz z t1 f1) (hz : z = 0) : TWQ x n w p wd A e t f 0 t1 f1 := by
  obtain ⟨i1, i2, i3, i4, i5, i6, i7⟩ := hI
  obtain ⟨q1, q2, q3⟩ := hq
  rcases q3 with ⟨a1, a2, -⟩ | ⟨a1, a2, a3, a4⟩
  · omega
  · subst q1
    have ef : fol x w p wd 0 = (numK x (w * 4 + j) (sk x (tz 100 15)), sk x (tz 100 15), 0) := by
      rw [← i5, show wd - j.toNat = (wd - (j + 1).toNat) + 1 by omega, fol, show ((j.toNat : Nat) : Int) = j by omega, ← i4, if_neg a1]
    refine ⟨i1.tr q2, i2, Or.inr ⟨rfl, ?_, ?_, ?_⟩⟩
    · rw [ef]; exact a1
    · rw [ef]; exact a3
    · rw [ef]; exact a4
theorem TWI_end {x : Int → Int} {n w p : Int} {wd A : Nat} {e : Int} {t tz : uN} {f fz : uF} {j : Int} (hI : TWI x n w p wd A e t f j tz fz) (hj : j = wd) : TWQ x n w p wd A e t f 1 tz fz := by
  obtain ⟨i1, i2, i3, i4, i5, i6, i7⟩ := hI
  subst hj
  rw [show ((wd : Int)).toNat = wd by omega] at i4 i5
  rw [Nat.sub_self] at i5
  exact ⟨i1, i2, Or.inl ⟨rfl, i3, i4, i5, i6, i7⟩⟩
theorem lTs (j : Int) (h0 : 0 ≤ j) (h1 : j < 4) : (leastT (0 * 4 + j).toNat = if j = 0 then 1 else 0) ∧ greatT (0 * 4 + j).toNat = if j = 2 then 9 else 999 := by
  rcases (show j = 0 ∨ j = 1 ∨ j = 2 ∨ j = 3 by omega) with q | q | q | q <;> subst q <;> decide
theorem lTl (j : Int) (h0 : 0 ≤ j) (h1 : j < 3) : (leastT (1 * 4 + j).toNat = if j = 2 then 1 else 0) ∧ greatT (1 * 4 + j).toNat = if j = 1 then 9 else 99 := by
  rcases (show j = 0 ∨ j = 1 ∨ j = 2 by omega) with q | q | q <;> subst q <;> decide
theorem lTm (j : Int) (h0 : 0 ≤ j) (h1 : j < 2) : (leastT (2 * 4 + j).toNat = 0) ∧ greatT (2 * 4 + j).toNat = if j = 0 then 999 else 200 := by
  rcases (show j = 0 ∨ j = 1 by omega) with q | q <;> subst q <;> decide
/-- the rows that a word has had, their cell -/
def cn8 (t : uN) (w : Int) : Int := if w = 0 then t 100 20 else if w = 1 then t 100 22 else t 100 24
def aw8 (w : Int) : Nat := if w = 0 then 109 else if w = 1 then 110 else 111
def wj8 (w : Int) : Nat := if w = 0 then 20 else if w = 1 then 22 else 24
theorem wordZ_b (c : Int) : (c = 115 ∧ wordZ c = 0) ∨ (c = 108 ∧ wordZ c = 1) ∨ (c = 109 ∧ wordZ c = 2) ∨ (¬ c = 115 ∧ ¬ c = 108 ∧ ¬ c = 109 ∧ wordZ c = -1) := by
  unfold wordZ
  by_cases h : c = 115
  · rw [if_pos h]; omega
  · rw [if_neg h]
    by_cases h2 : c = 108
    · rw [if_pos h2]; omega
    · rw [if_neg h2]
      by_cases h3 : c = 109
      · rw [if_pos h3]; omega
      · rw [if_neg h3]; omega
def RDc (t t2 : uN) : Prop := ∀ k j, ¬ (k = 100 ∧ (rdj j ∨ j = 20 ∨ j = 22 ∨ j = 24)) → t2 k j = t k j
def RDg (f f2 : uF) : Prop := ∀ k i, ¬ (k = 109 ∨ k = 110 ∨ k = 111) → f2 k i = f k i
/-- a clause's end -/
def CQ8 (x : Int → Int) (n : Int) (t : uN) (f : uF) (p w : Int) (z : Int) (t2 : uN) (f2 : uF) : Prop :=
  RDc t t2 ∧ RDg f f2 ∧
  (((w = -1 ∨ (¬ w = 0 ∧ t 100 20 = 0)) ∧ z = 0 ∧ t2 100 18 = 1 ∧ t2 100 19 = p) ∨
   (¬ (w = -1 ∨ (¬ w = 0 ∧ t 100 20 = 0)) ∧ tm (tbC w) ≤ cn8 t w ∧ z = 0 ∧ t2 100 18 = 3 ∧ t2 100 19 = p) ∨
   (¬ (w = -1 ∨ (¬ w = 0 ∧ t 100 20 = 0)) ∧ cn8 t w < tm (tbC w) ∧
    ((¬ (fol x w p (wdt w).toNat 0).1 = 0 ∧ z = 0 ∧ t2 100 18 = (fol x w p (wdt w).toNat 0).1 ∧ t2 100 19 = (fol x w p (wdt w).toNat 0).2.1) ∨
     ((fol x w p (wdt w).toNat 0).1 = 0 ∧ z = 1 ∧ t2 100 15 = (fol x w p (wdt w).toNat 0).2.2 ∧ (0 ≤ t2 100 15 ∧ t2 100 15 ≤ n ∧ p < t2 100 15) ∧ (t2 100 18 = t 100 18 ∧ t2 100 19 = t 100 19) ∧
      (∀ v, v = 0 ∨ v = 1 ∨ v = 2 → cn8 t2 v = if v = w then cn8 t w + 1 else cn8 t v) ∧
      (∀ k i, f2 k i = if k = aw8 w ∧ cn8 t w * wdt w ≤ i ∧ i < cn8 t w * wdt w + wdt w then dV x (sk x (posN x p (i - cn8 t w * wdt w).toNat)) else f k i)))))
/-- the number while its digits come: va the class's, nu the model's -/
def NB (q v va nu : Int) : Prop := (v = q ∧ va = 0 ∧ nu = 0) ∨ (v = q + 1 ∧ (0 ≤ va ∧ va ≤ 9) ∧ nu = va) ∨ (v = q + 2 ∧ (0 ≤ va ∧ va ≤ 99) ∧ nu = va) ∨ (v = q + 3 ∧ (0 ≤ va ∧ va ≤ 999) ∧ nu = va) ∨ (q + 3 < v ∧ 0 ≤ nu ∧ nu ≤ 999)
theorem NB_i (q : Int) : NB q q 0 0 := Or.inl ⟨rfl, rfl, rfl⟩
theorem NB_r {q v va nu : Int} (h : NB q v va nu) : 0 ≤ nu ∧ nu ≤ 999 := by unfold NB at h; omega
theorem NB_e {q v va nu : Int} (h : NB q v va nu) : v ≤ q + 3 → nu = va := by unfold NB at h; omega
theorem NB_s {q v va nu d : Int} (h : NB q v va nu) (d0 : 48 ≤ d) (d1 : d ≤ 57) (hv : v - q < 3) : NB q (v + 1) (min va 999 * 10 + d - 48) (10 * nu + d - 48) := by unfold NB at h ⊢; omega
theorem NB_k {q v va nu : Int} (h : NB q v va nu) (w : Int) (hv : 3 ≤ v - q) : NB q (v + 1) w nu := by unfold NB at h ⊢; omega

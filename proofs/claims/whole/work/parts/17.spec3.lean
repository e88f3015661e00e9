/-! copies of a ship's state; the past; the voyage's tables -/
theorem tOK_k {t : uN} {k k2 j : Nat} {z : Int} (hne : k2 ≠ k) (h : tOK t k2) : tOK (up2 t k j z) k2 := by
  unfold tOK
  rw [up2_k _ _ _ _ hne]
  exact h
theorem thas_b (t : uN) (k : Nat) (row : Int) : (thas t k row = 1 ∧ 0 ≤ row ∧ row < t k 3) ∨ (thas t k row = 0 ∧ ¬ (0 ≤ row ∧ row < t k 3)) := by
  unfold thas
  split <;> simp_all
theorem tfull_b (t : uN) (k : Nat) : (tfull t k = 1 ∧ tm k ≤ t k 3) ∨ (tfull t k = 0 ∧ t k 3 < tm k) := by
  unfold tfull
  split <;> simp_all
def sheCp (t : uN) (k k2 : Nat) : uN := (fun t => up2 t k 4 (t k2 4)) ((fun t => up2 t k 3 (t k2 3)) ((fun t => up2 t k 2 (t k2 2)) ((fun t => up2 t k 1 (t k2 1)) (up2 t (k + 1) 3 (t (k2 + 1) 3)))))
theorem sheCp_off {t : uN} {k k2 x : Nat} (h1 : x ≠ k) (h2 : x ≠ k + 1) (j : Nat) : sheCp t k k2 x j = t x j := by simp [sheCp, up2, h1, h2]
theorem sheCp_j {t : uN} {k k2 j : Nat} (h : k2 ≠ k) (h2 : k2 ≠ k + 1) (hj : 1 ≤ j) (hj4 : j ≤ 4) : sheCp t k k2 k j = t k2 j := by
  rcases (show j = 1 ∨ j = 2 ∨ j = 3 ∨ j = 4 by omega) with rfl | rfl | rfl | rfl <;> simp [sheCp, up2, h, h2]
theorem sheCp_n {t : uN} {k k2 : Nat} : sheCp t k k2 (k + 1) 3 = t (k2 + 1) 3 := by simp [sheCp, up2]
theorem kd_ne {a b : Nat} (h : kd a ≠ kd b) : a ≠ b := fun q => h (by rw [q])
/-- what is read out of a copied table -/
theorem tget_cp {t t2 : uN} {f f2 : uF} {k k2 : Nat} (hk : kd k = 5) (ht : tOK t k2) (hk2 : kd k2 = 5) (hw : tw k = tw k2) (hn : t2 k 3 = t k2 3) (hf : ∀ i : Int, 0 ≤ i → i < (al (k2 + 1) : Nat) → f2 (k + 1) i = f (k2 + 1) i) (row col : Int) : tget t2 f2 k row col = tget t f k2 row col := by
  unfold tget
  rw [hn, hw]
  split
  · next h =>
    have q := cell_rng hk2 ht h
    exact hf _ q.1 q.2.1
  · rfl
theorem tget_same {t t2 : uN} {f f2 : uF} {k : Nat} (hn : t2 k 3 = t k 3) (hf : ∀ i, f2 (k + 1) i = f (k + 1) i) (row col : Int) : tget t2 f2 k row col = tget t f k row col := by
  unfold tget
  rw [hn, hf]
theorem cpA_in {f : uF} {a b : Nat} {n i : Int} (h0 : 0 ≤ i) (h1 : i < n) : cpA f a b n b i = f a i := by simp [cpA, h0, h1]
theorem cpA_off {f : uF} {a b c : Nat} {n : Int} (h : c ≠ b) (i : Int) : cpA f a b n c i = f c i := by simp [cpA, h]
theorem SOK_cp {t : uN} {f : uF} {k k2 : Nat} (hk : kd k = 4) (hk2 : kd k2 = 4) (hne : k2 ≠ k) (h : SOK t f k2) : SOK (sheCp t k k2) (cpA f (k2 + 2) (k + 2) 40) k := by
  have e1 : k2 ≠ k + 1 := kd_ne (by rw [hk2, kr_4_0 hk]; decide)
  have eg : ∀ row col, tget (sheCp t k k2) (cpA f (k2 + 2) (k + 2) 40) (k + 1) row col = tget t f (k2 + 1) row col := tget_cp (kr_4_0 hk) h.1 (kr_4_0 hk2) (by rw [(kd4_w hk).1, (kd4_w hk2).1]) sheCp_n (fun i h0 h1 => by
    have ea := kd5_al (kr_4_0 hk2)
    rw [(kd4_w hk2).1, (kd4_w hk2).2] at ea
    exact cpA_in h0 (by omega))
  refine ⟨?_, by rw [sheCp_j hne e1 (by decide) (by decide)]; exact h.2.1, by rw [sheCp_j hne e1 (by decide) (by decide)]; exact h.2.2.1, by rw [sheCp_j hne e1 (by decide) (by decide)]; exact h.2.2.2.1, by rw [sheCp_j hne e1 (by decide) (by decide)]; exact h.2.2.2.2.1, fun i => by rw [eg, eg, eg, eg, eg]; exact h.2.2.2.2.2 i⟩
  have q := h.1
  unfold tOK at q ⊢
  rw [sheCp_n, (kd4_w hk).2]
  rw [(kd4_w hk2).2] at q
  exact q
theorem SOK_off {t t2 : uN} {f f2 : uF} {k : Nat} (h : SOK t f k) (ht : ∀ j, t2 k j = t k j) (hn : t2 (k + 1) 3 = t (k + 1) 3) (hf : ∀ i, f2 (k + 2) i = f (k + 2) i) : SOK t2 f2 k := by
  have eg : ∀ row col, tget t2 f2 (k + 1) row col = tget t f (k + 1) row col := tget_same hn hf
  refine ⟨?_, by rw [ht]; exact h.2.1, by rw [ht]; exact h.2.2.1, by rw [ht]; exact h.2.2.2.1, by rw [ht]; exact h.2.2.2.2.1, fun i => by rw [eg, eg, eg, eg, eg]; exact h.2.2.2.2.2 i⟩
  have q := h.1
  unfold tOK at q ⊢
  rw [hn]
  exact q
def slotC (t : uN) : Nat := 23 + 3 * (t 21 1).toNat
def latC (t : uN) : Int := if 0 < t 21 1 then t 21 1 - 1 else 19
def putT (t : uN) : uN := (fun t => up2 t 21 2 (min 20 (t 21 2 + 1))) ((fun t => up2 t 21 1 (if t 21 1 + 1 < 20 then t 21 1 + 1 else 0)) (sheCp t (23 + 3 * (t 21 1).toNat) 18))
def putF (t : uN) (f : uF) : uF := cpA f 20 (23 + 3 * (t 21 1).toNat + 2) 40
def takT (t : uN) : uN := (fun t0 => (fun t => up2 t 21 2 (t 21 2 - 1)) (up2 t0 21 1 (latC t))) (sheCp t 18 (23 + 3 * (latC t).toNat))
def takF (t : uN) (f : uF) : uF := cpA f (23 + 3 * (latC t).toNat + 2) 20 40

/-! what the class's acts do -/
theorem HI.of {t t2 : uN} {f f2 : uF} (h : HI t f) (h12 : t2 12 3 = t 12 3) (h14 : t2 14 3 = t 14 3) (h16 : t2 16 3 = t 16 3) (h19 : t2 19 3 = t 19 3) (b : (0 ≤ t2 18 1 ∧ t2 18 1 ≤ 9) ∧ (0 ≤ t2 18 2 ∧ t2 18 2 ≤ 10000) ∧ (0 ≤ t2 18 3 ∧ t2 18 3 ≤ 7) ∧ (t2 18 4 = 0 ∨ t2 18 4 = 1)) (hf : ∀ c, c = 13 ∨ c = 15 ∨ c = 17 ∨ c = 20 → ∀ i, f2 c i = f c i) : HI t2 f2 := by
  have g12 : ∀ r c, tget t2 f2 12 r c = tget t f 12 r c := tget_same h12 (hf 13 (by omega))
  have g14 : ∀ r c, tget t2 f2 14 r c = tget t f 14 r c := tget_same h14 (hf 15 (by omega))
  have g16 : ∀ r c, tget t2 f2 16 r c = tget t f 16 r c := tget_same h16 (hf 17 (by omega))
  have g19 : ∀ r c, tget t2 f2 19 r c = tget t f 19 r c := tget_same h19 (hf 20 (by omega))
  refine ⟨⟨⟨?_, ?_, ?_⟩, fun i => ?_, fun i => ?_, ?_⟩, ?_, b.1, b.2.1, b.2.2.1, b.2.2.2, fun i => ?_⟩
  · have q := h.1.1.1; unfold tOK at q ⊢; rw [h12]; exact q
  · have q := h.1.1.2.1; unfold tOK at q ⊢; rw [h14]; exact q
  · have q := h.1.1.2.2; unfold tOK at q ⊢; rw [h16]; exact q
  · rw [g14, g14, g14]; exact h.leg i
  · rw [g16, g16]; exact h.len i
  · rw [g12, g12, g12, g12]; exact h.1.2.2.2
  · have q := h.2.1; unfold tOK at q ⊢; rw [h19]; exact q
  · rw [g19, g19, g19, g19, g19]; exact h.loan i
theorem VOK.of {t t2 : uN} {f f2 : uF} (h : VOK t f 11) (h12 : t2 12 3 = t 12 3) (h14 : t2 14 3 = t 14 3) (h16 : t2 16 3 = t 16 3) (hf : ∀ c, c = 13 ∨ c = 15 ∨ c = 17 → ∀ i, f2 c i = f c i) : VOK t2 f2 11 := by
  have g12 : ∀ r c, tget t2 f2 12 r c = tget t f 12 r c := tget_same h12 (hf 13 (by omega))
  have g14 : ∀ r c, tget t2 f2 14 r c = tget t f 14 r c := tget_same h14 (hf 15 (by omega))
  have g16 : ∀ r c, tget t2 f2 16 r c = tget t f 16 r c := tget_same h16 (hf 17 (by omega))
  refine ⟨⟨?_, ?_, ?_⟩, fun i => ?_, fun i => ?_, ?_⟩
  · have q := h.1.1; unfold tOK at q ⊢; rw [h12]; exact q
  · have q := h.1.2.1; unfold tOK at q ⊢; rw [h14]; exact q
  · have q := h.1.2.2; unfold tOK at q ⊢; rw [h16]; exact q
  · rw [g14, g14, g14]; exact h.2.1 i
  · rw [g16, g16]; exact h.2.2.1 i
  · rw [g12, g12, g12, g12]; exact h.2.2.2
theorem owed_same {t t2 : uN} {f f2 : uF} (h16 : t2 16 3 = t 16 3) (hf : ∀ i, f2 17 i = f 17 i) (m v : Int) : owedX t2 f2 11 m v = owedX t f 11 m v := by
  have g16 : ∀ r c, tget t2 f2 16 r c = tget t f 16 r c := tget_same h16 hf
  unfold owedX
  rw [g16]
def PI (t : uN) (f : uF) : Prop := (0 ≤ t 21 1 ∧ t 21 1 < 20) ∧ (0 ≤ t 21 2 ∧ t 21 2 ≤ 20) ∧ ∀ j : Nat, j < 20 → SOK t f (23 + 3 * j)
def remT (t : uN) : uN := up2 (putT t) 91 6 0
theorem putT_off {t : uN} {x : Nat} (h : 0 ≤ t 21 1 ∧ t 21 1 < 20) (hx : x < 21 ∨ x = 22 ∨ 83 ≤ x) (j : Nat) : putT t x j = t x j := by
  unfold putT
  simp only []
  rw [up2_k _ _ _ _ (by omega), up2_k _ _ _ _ (by omega), sheCp_off (by omega) (by omega)]
theorem remT_off {t : uN} {x : Nat} (h : 0 ≤ t 21 1 ∧ t 21 1 < 20) (hx : x < 21 ∨ x = 22 ∨ 83 ≤ x) (h91 : x ≠ 91) (j : Nat) : remT t x j = t x j := by
  unfold remT
  rw [up2_k _ _ _ _ h91, putT_off h hx]
theorem putF_off {t : uN} {f : uF} {x : Nat} (h : 0 ≤ t 21 1 ∧ t 21 1 < 20) (hx : x < 25 ∨ 83 ≤ x) (i : Int) : putF t f x i = f x i := by
  unfold putF
  rw [cpA_off (by omega)]
theorem HI.rem {t : uN} {f : uF} (h : HI t f) (hP : PI t f) : HI (remT t) (putF t f) := by
  have e : ∀ j, remT t 18 j = t 18 j := fun j => remT_off hP.1 (by omega) (by omega) j
  refine h.of (remT_off hP.1 (by omega) (by omega) 3) (remT_off hP.1 (by omega) (by omega) 3) (remT_off hP.1 (by omega) (by omega) 3) (remT_off hP.1 (by omega) (by omega) 3) (by rw [e, e, e, e]; exact h.b.1) (fun c hc i => putF_off hP.1 (by omega) i)
theorem sailT_off {t : uN} {k x : Nat} {c : Int} (hx : x ≠ k) (j : Nat) : sailT t k c x j = t x j := by
  unfold sailT
  split
  · rw [up2_k _ _ _ _ hx]
  · rw [up2_k _ _ _ _ hx, up2_k _ _ _ _ hx]
theorem sailT_1 (t : uN) (k : Nat) (c : Int) : sailT t k c k 1 = (if c = 0 then t k 1 else max 0 (t k 1 - 1)) := by unfold sailT; split <;> simp [up2]
theorem sailT_2 (t : uN) (k : Nat) (c : Int) : sailT t k c k 2 = t k 2 := by unfold sailT; split <;> simp [up2]
theorem sailT_3 (t : uN) (k : Nat) (c : Int) : sailT t k c k 3 = (if c = 0 then t k 3 else t k 3 + 1) := by unfold sailT; split <;> simp [up2]
theorem sailT_4 (t : uN) (k : Nat) (c : Int) : sailT t k c k 4 = (if c = 0 then 1 else t k 4) := by unfold sailT; split <;> simp [up2]
theorem HI.sail {t : uN} {f : uF} (h : HI t f) (c : Int) (h7 : t 18 3 < t 14 3) : HI (sailT t 18 c) f := by
  have hb := h.b
  refine h.of (sailT_off (by decide) 3) (sailT_off (by decide) 3) (sailT_off (by decide) 3) (sailT_off (by decide) 3) ?_ (fun _ _ _ => rfl)
  rw [sailT_1, sailT_2, sailT_3, sailT_4]
  split <;> omega
theorem HI.up {t : uN} {f : uF} (h : HI t f) {k j : Nat} {z : Int} (hk : k ≠ 12 ∧ k ≠ 14 ∧ k ≠ 16 ∧ k ≠ 18 ∧ k ≠ 19) : HI (up2 t k j z) f := by
  refine h.of (up2_k _ _ _ _ (by omega)) (up2_k _ _ _ _ (by omega)) (up2_k _ _ _ _ (by omega)) (up2_k _ _ _ _ (by omega)) ?_ (fun _ _ _ => rfl)
  rw [up2_k _ _ _ _ (by omega), up2_k _ _ _ _ (by omega), up2_k _ _ _ _ (by omega), up2_k _ _ _ _ (by omega)]
  exact h.b.1
def borX (t : uN) (f : uF) (m v : Int) : Int := if thas t 16 m = 0 then -1000000001 else if v < 1 ∨ 999 < v then -1000000002 else if inPortX t = 1 ∧ v ≤ yetX t f m then (if tfull t 19 = 0 then t 19 3 else -1000000004) else -1000000003
def borT (t : uN) (v : Int) : uN := up2 (up2 (remT t) 19 3 (t 19 3 + 1)) 18 2 (t 18 2 + v)
def borF (t : uN) (f : uF) (m v fr : Int) : uF := upA (upA (upA (upA (upA (putF t f) 20 (t 19 3 * 5 + 0) m) 20 (t 19 3 * 5 + 1) v) 20 (t 19 3 * 5 + 2) fr) 20 (t 19 3 * 5 + 3) (owedX t f 11 m v)) 20 (t 19 3 * 5 + 4) (t 18 3)
def repX (t : uN) (f : uF) (k : Int) : Int := if k < 1 ∨ 9 < k then -1000000002 else if inPortX t = 1 ∧ t 18 1 + k ≤ 9 ∧ k * costX t f ≤ t 18 2 then t 18 1 + k else -1000000003
def repT (t : uN) (f : uF) (k : Int) : uN := up2 (up2 (remT t) 18 1 (t 18 1 + k)) 18 2 (t 18 2 - k * costX t f)
def saiX (t : uN) (c : Int) : Int := if inPortX t = 0 then -1000000003 else (if c = 0 then t 18 3 else t 18 3 + 1)
def drawX (t : uN) : Int := ((nextS (t 0 11)).tdiv 65536).tmod 100
def dri1 (t : uN) (f : uF) : uN := sailT (up2 t 0 11 (nextS (t 0 11))) 18 (if oddX t f 11 (t 18 3) (t 18 1) ≤ drawX t then 1 else 0)
def driN (f : uF) : Nat → uN → uN
  | 0, t => t
  | n + 1, t => if inPortX t = 1 then driN f n (dri1 t f) else t
def driX (t : uN) (f : uF) (n : Int) : Int := if n < 1 ∨ 7 < n then -1000000002 else if inPortX t = 0 then -1000000003 else whereX (driN (putF t f) n.toNat (remT t))
theorem drawX_rng (t : uN) : 0 ≤ drawX t ∧ drawX t ≤ 99 := by
  have := nextS_rng (t 0 11)
  unfold drawX
  rw [Int.tdiv_eq_ediv_of_nonneg (by omega), Int.tmod_eq_emod_of_nonneg (by omega)]
  omega
theorem HI.dri {t : uN} {f : uF} (h : HI t f) (h7 : t 18 3 < t 14 3) : HI (dri1 t f) f := by
  unfold dri1
  exact (h.up (k := 0) (j := 11) (z := nextS (t 0 11)) (by omega)).sail _ (by rw [up2_k _ _ _ _ (by decide), up2_k _ _ _ _ (by decide)]; exact h7)
theorem dri1_seed (t : uN) (f : uF) : dri1 t f 0 11 = nextS (t 0 11) := by
  unfold dri1
  rw [sailT_off (by decide), up2_s]
def undX (t : uN) : Int := if t 21 2 = 0 then -1000000003 else t 21 2 - 1
def undT (t : uN) : uN := up2 (takT t) 91 6 0
def kepT (t : uN) (c : Nat) : uN := up2 (up2 (up2 (sheCp t (c + 1) 18) c 1 (t 0 11)) c 2 1) 21 2 0
def gobT (t : uN) (c : Nat) : uN := up2 (up2 (up2 (sheCp t 18 (c + 1)) 0 11 (t c 1)) 21 2 0) 91 6 0
def gobX (t : uN) (i : Int) : Int := if i = 0 then (if t 83 2 = 0 then -1000000003 else 1) else if i = 1 then (if t 87 2 = 0 then -1000000003 else 1) else -1000000001

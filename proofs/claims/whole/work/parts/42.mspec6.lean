/-! the model's clauses -/
def wdn (w : Int) : Nat := if w = 0 then 4 else if w = 1 then 3 else 2
/-- after a clause's numbers -/
def WQ8 (x : Int → Int) (n w p : Int) (t : uN) (f : uF) (z : Int) (t2 : uN) (f2 : uF) : Prop :=
  RDc t t2 ∧ RDg f f2 ∧
  ((z = 0 ∧ ¬ (fol x w p (wdt w).toNat 0).1 = 0 ∧ t2 100 18 = (fol x w p (wdt w).toNat 0).1 ∧ t2 100 19 = (fol x w p (wdt w).toNat 0).2.1) ∨
   (z = 1 ∧ (0 ≤ t2 100 15 ∧ t2 100 15 ≤ n) ∧ t2 100 15 = posN x p (wdt w).toNat ∧ fol x w p 0 (wdt w).toNat = fol x w p (wdt w).toNat 0 ∧ (t2 100 18 = t 100 18 ∧ t2 100 19 = t 100 19) ∧
    (∀ v, v = 0 ∨ v = 1 ∨ v = 2 → cn8 t2 v = if v = w then cn8 t w + 1 else cn8 t v) ∧
    (∀ k i, f2 k i = if k = aw8 w ∧ cn8 t w * wdt w ≤ i ∧ i < cn8 t w * wdt w + wdt w then dV x (sk x (posN x p (i - cn8 t w * wdt w).toNat)) else f k i)))
theorem RDf.c {t t2 : uN} (h : RDf t t2) : RDc t t2 := fun k j q => h k j (fun e => q ⟨e.1, Or.inl e.2⟩)
theorem RDc.tr {t t2 t3 : uN} (h : RDc t t2) (h2 : RDc t2 t3) : RDc t t3 := fun k j q => (h2 k j q).trans (h k j q)
theorem RDg.tr {f f2 f3 : uF} (h : RDg f f2) (h2 : RDg f2 f3) : RDg f f3 := fun k j q => (h2 k j q).trans (h k j q)
theorem aw8_r (w : Int) : aw8 w = 109 ∨ aw8 w = 110 ∨ aw8 w = 111 := by unfold aw8; split <;> (try split) <;> omega
theorem cn8_of {t t2 : uN} (h : ∀ j, j = 20 ∨ j = 22 ∨ j = 24 → t2 100 j = t 100 j) (w : Int) : cn8 t2 w = cn8 t w := by
  unfold cn8
  rw [h 20 (by omega), h 22 (by omega), h 24 (by omega)]
theorem WQ8_of {x : Int → Int} {n w p : Int} {t tb t1 tq : uN} {f fq : uF} {z : Int} (hw : w = 0 ∨ w = 1 ∨ w = 2) (hT : TWQ x n w p (wdt w).toNat (aw8 w) (cn8 t w * wdt w) tb f z t1 fq) (hb : RDc t tb) (h18 : tb 100 18 = t 100 18 ∧ tb 100 19 = t 100 19) (hf : ∀ k j, ¬ (k = 100 ∧ (j = 20 ∨ j = 22 ∨ j = 24)) → tq k j = t1 k j)
    (hc : z = 1 → ∀ v, v = 0 ∨ v = 1 ∨ v = 2 → cn8 tq v = if v = w then cn8 t w + 1 else cn8 t v) : WQ8 x n w p t f z tq fq := by
  obtain ⟨a1, a2, a3⟩ := hT
  have hW := wdt_rng w
  have h1q : RDc t1 tq := fun k j q => hf k j (fun e => q ⟨e.1, Or.inr e.2⟩)
  have hA := aw8_r w
  have e15 := hf 100 15 (by omega)
  have e18 := hf 100 18 (by omega)
  have e19 := hf 100 19 (by omega)
  refine ⟨(hb.tr a1.c).tr h1q, fun k i q => a2 k i (by omega), ?_⟩
  rcases a3 with ⟨b1, b2, b3, b4, b5, b6⟩ | ⟨b1, b2, b3, b4⟩
  · refine Or.inr ⟨b1, by rw [e15]; exact b2, by rw [e15]; exact b3, b4, ⟨by rw [e18, b5.1]; exact h18.1, by rw [e19, b5.2]; exact h18.2⟩, hc b1, fun k i => ?_⟩
    by_cases q : k = aw8 w ∧ cn8 t w * wdt w ≤ i ∧ i < cn8 t w * wdt w + wdt w
    · rw [if_pos q]
      have := b6 (i - cn8 t w * wdt w) (by omega) (by omega)
      rw [show cn8 t w * wdt w + (i - cn8 t w * wdt w) = i by omega] at this
      rw [q.1]; exact this
    · rw [if_neg q]; exact a2 k i (by omega)
  · exact Or.inl ⟨b1, b2, by rw [e18]; exact b3, by rw [e19]; exact b4⟩
def LQ8 (x : Int → Int) (n w p : Int) (wd A j : Nat) (e : Int) (t : uN) (f : uF) (z : Int) (t2 : uN) (f2 : uF) : Prop := ∃ t1, TWQ x n w p wd A e t f z t1 f2 ∧ ((z = 0 ∧ t2 = t1) ∨ (z = 1 ∧ t2 = up2 t1 100 j (t 100 j + 1)))
theorem WQ8_s {x : Int → Int} {n p : Int} {t t1 tq : uN} {f fq : uF} {z : Int} (h0 : t 100 20 = 0) (ht : RDf t t1) (h18 : t1 100 18 = t 100 18 ∧ t1 100 19 = t 100 19) (h : TWQ x n 0 p 4 109 0 (up2 t1 100 20 1) f z tq fq) : WQ8 x n 0 p t f z tq fq := by
  have fr : ∀ j, j = 22 ∨ j = 24 → tq 100 j = t 100 j := fun j hj => by rw [h.1 100 j (by unfold rdj; omega), up2_ne _ _ (by omega), ht 100 j (by unfold rdj; omega)]
  have f20 : tq 100 20 = 1 := by rw [h.1 100 20 (by unfold rdj; omega), up2_s]
  refine WQ8_of (tb := up2 t1 100 20 1) (t1 := tq) (Or.inl rfl) ?_ (fun k j q => ?_) ⟨?_, ?_⟩ (fun _ _ _ => rfl) (fun _ v hv => ?_)
  · rw [show cn8 t 0 * wdt 0 = 0 by show t 100 20 * wdt 0 = 0; rw [h0, Int.zero_mul]]; exact h
  · rw [up2_ne _ _ (by omega)]; exact ht.c k j q
  · rw [up2_ne _ _ (by omega)]; exact h18.1
  · rw [up2_ne _ _ (by omega)]; exact h18.2
  · rcases hv with q | q | q <;> subst q
    · rw [if_pos rfl]
      show tq 100 20 = t 100 20 + 1
      omega
    · rw [if_neg (by decide)]; exact fr 22 (by omega)
    · rw [if_neg (by decide)]; exact fr 24 (by omega)
theorem WQ8_l {x : Int → Int} {n p : Int} {t t1 tq : uN} {f fq : uF} {z : Int} (ht : RDf t t1) (h18 : t1 100 18 = t 100 18 ∧ t1 100 19 = t 100 19) (h : LQ8 x n 1 p 3 110 22 (3 * t 100 22) t1 f z tq fq) : WQ8 x n 1 p t f z tq fq := by
  obtain ⟨t4, h, h2⟩ := h
  have fr : ∀ j, j = 20 ∨ j = 22 ∨ j = 24 → t4 100 j = t 100 j := fun j hj => by rw [h.1 100 j (by unfold rdj; omega), ht 100 j (by unfold rdj; omega)]
  have g22 : t1 100 22 = t 100 22 := ht 100 22 (by unfold rdj; omega)
  refine WQ8_of (tb := t1) (t1 := t4) (Or.inr (Or.inl rfl)) ?_ ht.c h18 (fun k j q => ?_) (fun hz v hv => ?_)
  · rw [show cn8 t 1 * wdt 1 = 3 * t 100 22 from Int.mul_comm _ _]; exact h
  · rcases h2 with ⟨-, q2⟩ | ⟨-, q2⟩
    · rw [q2]
    · rw [q2, up2_ne _ _ (by omega)]
  · rcases h2 with ⟨q1, q2⟩ | ⟨-, q2⟩
    · omega
    · rcases hv with q | q | q <;> subst q
      · rw [if_neg (by decide)]
        show tq 100 20 = t 100 20
        rw [q2, up2_ne _ _ (by omega)]; exact fr 20 (by omega)
      · rw [if_pos rfl]
        show tq 100 22 = t 100 22 + 1
        rw [q2, up2_s, g22]
      · rw [if_neg (by decide)]
        show tq 100 24 = t 100 24
        rw [q2, up2_ne _ _ (by omega)]; exact fr 24 (by omega)
theorem WQ8_m {x : Int → Int} {n p : Int} {t t1 tq : uN} {f fq : uF} {z : Int} (ht : RDf t t1) (h18 : t1 100 18 = t 100 18 ∧ t1 100 19 = t 100 19) (h : LQ8 x n 2 p 2 111 24 (2 * t 100 24) t1 f z tq fq) : WQ8 x n 2 p t f z tq fq := by
  obtain ⟨t4, h, h2⟩ := h
  have fr : ∀ j, j = 20 ∨ j = 22 ∨ j = 24 → t4 100 j = t 100 j := fun j hj => by rw [h.1 100 j (by unfold rdj; omega), ht 100 j (by unfold rdj; omega)]
  have g24 : t1 100 24 = t 100 24 := ht 100 24 (by unfold rdj; omega)
  refine WQ8_of (tb := t1) (t1 := t4) (Or.inr (Or.inr rfl)) ?_ ht.c h18 (fun k j q => ?_) (fun hz v hv => ?_)
  · rw [show cn8 t 2 * wdt 2 = 2 * t 100 24 from Int.mul_comm _ _]; exact h
  · rcases h2 with ⟨-, q2⟩ | ⟨-, q2⟩
    · rw [q2]
    · rw [q2, up2_ne _ _ (by omega)]
  · rcases h2 with ⟨q1, q2⟩ | ⟨-, q2⟩
    · omega
    · rcases hv with q | q | q <;> subst q
      · rw [if_neg (by decide)]
        show tq 100 20 = t 100 20
        rw [q2, up2_ne _ _ (by omega)]; exact fr 20 (by omega)
      · rw [if_neg (by decide)]
        show tq 100 22 = t 100 22
        rw [q2, up2_ne _ _ (by omega)]; exact fr 22 (by omega)
      · rw [if_pos rfl]
        show tq 100 24 = t 100 24 + 1
        rw [q2, up2_s, g24]
theorem CQ8_bad {x : Int → Int} {n w p : Int} {t t2 : uN} {f f2 : uF} {z : Int} (hnb : ¬ (w = -1 ∨ (¬ w = 0 ∧ t 100 20 = 0))) (hcn : cn8 t w < tm (tbC w)) (h : WQ8 x n w p t f z t2 f2) (hz : z = 0) : CQ8 x n t f p w 0 t2 f2 := by
  obtain ⟨a1, a2, a3⟩ := h
  rcases a3 with ⟨-, b2, b3, b4⟩ | ⟨b1, -⟩
  · exact ⟨a1, a2, Or.inr (Or.inr ⟨hnb, hcn, Or.inl ⟨b2, rfl, b3, b4⟩⟩)⟩
  · omega
theorem CQ8_end {x : Int → Int} {n w p : Int} {t t2 t3 : uN} {f f2 f3 : uF} {z y : Int} (hx : txt x n) (hp0 : 0 ≤ p) (hp1 : p < n) (hnb : ¬ (w = -1 ∨ (¬ w = 0 ∧ t 100 20 = 0))) (hcn : cn8 t w < tm (tbC w)) (h : WQ8 x n w p t f z t2 f2) (hz : ¬ z = 0) (hk : TKQ x t2 f2 y t3 f3) : CQ8 x n t f p w y t3 f3 := by
  obtain ⟨a1, a2, a3⟩ := h
  obtain ⟨k1, k2, k3⟩ := hk
  subst k1
  rcases a3 with ⟨b1, -⟩ | ⟨-, b2, b3, b4, b5, b6, b7⟩
  · exact absurd b1 hz
  · have hs := sk_rng hx b2.1 b2.2
    have hpos := posN_rng hx hp0 hp1 (wdt w).toNat
    rw [fol, ← b3] at b4
    refine ⟨a1.tr k2.c, a2, Or.inr (Or.inr ⟨hnb, hcn, ?_⟩)⟩
    rcases k3 with ⟨c1, c2, c3, c4, c5⟩ | ⟨c1, c2, c3, c4⟩
    · rw [if_pos c1] at b4
      have hlt := txt_lt hx (p := sk x (t2 100 15)) (by omega) (by rw [c1]; decide)
      refine Or.inr ⟨by rw [← b4], c2, by rw [← b4]; exact c3, ⟨by omega, by omega, by omega⟩, ⟨by rw [c4]; exact b5.1, by rw [c5]; exact b5.2⟩, fun v hv => ?_, b7⟩
      rw [cn8_of (fun j hj => k2 100 j (by unfold rdj; omega)) v]
      exact b6 v hv
    · rw [if_neg c1] at b4
      exact Or.inl ⟨by rw [← b4]; exact (show ¬ (1 : Int) = 0 by decide), c2, by rw [← b4]; exact c3, by rw [← b4]; exact c4⟩
theorem WQ8.tm {x : Int → Int} {n w p : Int} {t t2 : uN} {f f2 : uF} {z : Int} (h : WQ8 x n w p t f z t2 f2) (hT : TM x n t f) (hz : ¬ z = 0) : TM x n t2 f2 := by
  obtain ⟨a1, a2, a3⟩ := h
  rcases a3 with ⟨b1, -⟩ | ⟨-, b2, -⟩
  · exact absurd b1 hz
  · exact hT.of (a1 100 14 (by unfold rdj; omega)) b2 (fun i => a2 108 i (by omega))

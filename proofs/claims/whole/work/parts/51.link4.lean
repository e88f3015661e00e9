/-! what each act leaves: borrow, drift, plan -/
theorem LR_drift {t t1 t2 : uN} {f f1 f2 : uF} {n z : Int} (h : LR t f) (h1 : t1 = if driX t f n < 0 then t else driN (putF t f) n.toNat (remT t)) (h2 : f1 = if driX t f n < 0 then f else putF t f)
    (hd : DRQ t f t1 f1 n z t2 f2) (hfr : ∀ k j, k ≠ 0 → k ≠ 18 → driN (putF t f) n.toNat (remT t) k j = remT t k j) (hsr : 0 ≤ driN (putF t f) n.toNat (remT t) 0 11 ∧ driN (putF t f) n.toNat (remT t) 0 11 ≤ 2147483647) (h0 : ∀ j, j ≠ 11 → driN (putF t f) n.toNat (remT t) 0 j = remT t 0 j) : LR t2 f2 := by
  obtain ⟨d1, d2⟩ := hd
  by_cases q : driX t f n < 0
  · rw [if_pos q] at h1 h2
    rcases d2 with ⟨-, d3, d4⟩ | ⟨d3, -⟩
    · rw [d3, d4, h1, h2]; exact h
    · omega
  rw [if_neg q] at h1 h2
  rcases d2 with ⟨d3, -⟩ | ⟨-, d4, d5, d6, d7⟩
  · omega
  have L := h.1
  have g := h.2.2.2.2.2.1
  have hP := g.1.1
  have hu2 := g.2.1
  have hu := g.1.2.1
  have hm1 : ∀ j, t1 100 j = t 100 j := fun j => by rw [h1, hfr 100 j (by omega) (by omega), remT_off hP (by omega) (by omega)]
  have hf1 : ∀ x i, 83 ≤ x → f1 x i = f x i := fun x i hx => by rw [h2, putF_off hP (by omega)]
  obtain ⟨m1, m2, m3⟩ := fix_t hm1 d4
  have Wk : ∀ x i, x ≠ 101 → f2 x i = f1 x i := fun x i hx => by rw [d7 x i (by omega), minF_k hx]
  have W : ∀ i, i ≠ 0 → i ≠ 1 → i ≠ 2 → i ≠ 41 → f2 101 i = minF t f 101 i := fun i a b c d => by rw [d7 101 i (by omega)]; exact minF_congr (hm1 2) (fun i => hf1 101 i (by omega)) i
  refine h.act (fun x j a b c d => ?_) (fun x i a b => by rw [Wk x i (by omega), h2]) m1 m2 (fun x i a => by rw [Wk x i (by omega)]; exact hf1 x i (by omega)) (fun i a => W i (by omega) (by omega) (by omega) (by omega)) ?_ ?_
  · rw [m3 x j (by omega), h1]
    by_cases x0 : x = 0
    · subst x0; exact h0 j (by omega)
    · exact hfr x j x0 c
  · rw [m3 0 11 (by omega), h1]; exact ⟨hsr, d6⟩
  · have r := d5
    have r1 := r.1.b
    have rk := r.2.1.2.1
    have rp := r.p
    have y : ∀ x j, x ≠ 100 → t2 x j = driN (putF t f) n.toNat (remT t) x j := fun x j hx => by rw [m3 x j hx, h1]
    exact r.of (y 12 3 (by omega)) (y 14 3 (by omega)) (y 16 3 (by omega)) (y 19 3 (by omega)) (by rw [y 18 1 (by omega)]; exact r1.1.1) (by rw [y 18 2 (by omega)]; omega) (by rw [y 18 3 (by omega)]; omega) (by rw [y 18 4 (by omega)]; exact r1.1.2.2.2) (fun x hx i => by rw [Wk x i (by omega), h2]) (fun j hj => rfl) (fun x i a b => rfl) (by rw [y 18 3 (by omega)]; exact rp.1) (by rw [y 18 4 (by omega)]; exact rp.2.1) (by rw [y 18 1 (by omega)]; exact rp.2.2.1) (by rw [y 18 2 (by omega)]; exact rp.2.2.2.1) (fun j a b => rfl)
theorem dri1_fr (b : uF) (a : uN) : (∀ k j, k ≠ 0 → k ≠ 18 → dri1 a b k j = a k j) ∧ (∀ j, j ≠ 11 → dri1 a b 0 j = a 0 j) ∧ 0 ≤ dri1 a b 0 11 ∧ dri1 a b 0 11 ≤ 2147483647 := by
  refine ⟨fun k j x y => ?_, fun j hj => ?_, by rw [dri1_seed]; exact nextS_rng _⟩
  · unfold dri1; rw [sailT_off y, up2_k _ _ _ _ x]
  · unfold dri1; rw [sailT_off (by decide), up2_j _ _ _ hj]
theorem driN_fr (b : uF) (n : Nat) : ∀ a : uN, 0 ≤ a 0 11 ∧ a 0 11 ≤ 2147483647 → (∀ k j, k ≠ 0 → k ≠ 18 → driN b n a k j = a k j) ∧ (∀ j, j ≠ 11 → driN b n a 0 j = a 0 j) ∧ 0 ≤ driN b n a 0 11 ∧ driN b n a 0 11 ≤ 2147483647 := by
  induction n with
  | zero => intro a h; exact ⟨fun _ _ _ _ => rfl, fun _ _ => rfl, h⟩
  | succ n ih =>
    intro a h
    rw [driN]
    split
    · obtain ⟨d1, d2, d3⟩ := dri1_fr b a
      obtain ⟨i1, i2, i3⟩ := ih (dri1 a b) d3
      exact ⟨fun k j x y => (i1 k j x y).trans (d1 k j x y), fun j hj => (i2 j hj).trans (d2 j hj), i3⟩
    · exact ⟨fun _ _ _ _ => rfl, fun _ _ => rfl, h⟩
theorem LR_drift2 {t t1 t2 : uN} {f f1 f2 : uF} {n z : Int} (h : LR t f) (h1 : t1 = if driX t f n < 0 then t else driN (putF t f) n.toNat (remT t)) (h2 : f1 = if driX t f n < 0 then f else putF t f) (hd : DRQ t f t1 f1 n z t2 f2) : LR t2 f2 := by
  have hP := h.2.2.2.2.2.1.1.1
  obtain ⟨a, b, c⟩ := driN_fr (putF t f) n.toNat (remT t) (by rw [remT_off hP (by omega) (by omega)]; exact h.2.2.2.2.1.1)
  exact LR_drift h h1 h2 hd a c b
theorem tgetU {t : uN} {f : uF} {k : Nat} {r c : Int} (h0 : 0 ≤ r) (h1 : r < t k 3) (c0 : 0 ≤ c) (c1 : c < tw k) : tget t f k r c = f (k + 1) (r * tw k + c) := by
  unfold tget
  rw [if_pos ⟨h0, h1, c0, c1⟩]
theorem LR_borrow {t t1 t2 : uN} {f f1 f2 : uF} {m v fr : Int} (h : LR t f) (hfr : fr = 0 ∨ fr = 1) (h1 : t1 = if borX t f m v < 0 then t else borT t v) (h2 : f1 = if borX t f m v < 0 then f else borF t f m v fr) (h3 : t2 = if borX t f m v < 0 then t1 else minT t1) (h4 : f2 = if borX t f m v < 0 then f1 else takL (minF t1 f1) 0 m v fr) : LR t2 f2 := by
  by_cases q : borX t f m v < 0
  · rw [if_pos q] at h1 h2 h3 h4
    rw [h3, h4, h1, h2]; exact h
  rw [if_neg q] at h1 h2 h3 h4
  have L := h.1
  have g := h.2.2.2.2.2.1
  have e := h.2.2.2.2.1
  have hP := g.1.1
  have hu := g.1.2.1
  have hu2 := g.2.1
  have hb := L.1.b
  have qf := tfull_b t 19
  have qm : tm 19 = 8 := rfl
  have hq : (0 ≤ m ∧ m < t 16 3) ∧ (1 ≤ v ∧ v ≤ 999) ∧ inPortX t = 1 ∧ t 19 3 < 8 := by
    have hh := thas_b t 16 m
    by_cases y0 : thas t 16 m = 0
    · exact absurd (show borX t f m v < 0 by unfold borX; rw [if_pos y0]; decide) q
    · by_cases y : v < 1 ∨ 999 < v
      · exact absurd (show borX t f m v < 0 by unfold borX; rw [if_neg y0, if_pos y]; decide) q
      · by_cases y1 : inPortX t = 1 ∧ v ≤ yetX t f m
        · by_cases y2 : tfull t 19 = 0
          · exact ⟨by omega, by omega, y1.1, by omega⟩
          · exact absurd (show borX t f m v < 0 by unfold borX; rw [if_neg y0, if_neg y, if_pos y1, if_neg y2]; decide) q
        · exact absurd (show borX t f m v < 0 by unfold borX; rw [if_neg y0, if_neg y, if_neg y1]; decide) q
  have hport : t 18 3 < t 14 3 := by
    have qp := inPortX_b t
    have qw := whereX_b hb.1.2.2.2
    omega
  have hT1 : ∀ x j, ¬ (x = 19 ∧ j = 3) → ¬ (x = 18 ∧ j = 2) → t1 x j = remT t x j := fun x j a b => by rw [h1]; unfold borT; rw [up2_ne _ _ b, up2_ne _ _ a]
  have t193 : t1 19 3 = t 19 3 + 1 := by rw [h1]; unfold borT; rw [up2_ne _ _ (by omega), up2_s]
  have t182 : t1 18 2 = t 18 2 + v := by rw [h1]; unfold borT; rw [up2_s]
  have hm1 : ∀ j, t1 100 j = t 100 j := fun j => by rw [hT1 100 j (by omega) (by omega), remT_off hP (by omega) (by omega)]
  have hf0 : ∀ x i, ¬ (x = 20 ∧ t 19 3 * 5 ≤ i) → f1 x i = putF t f x i := fun x i a => by
    rw [h2]; unfold borF
    rw [upA_ne _ _ (by omega), upA_ne _ _ (by omega), upA_ne _ _ (by omega), upA_ne _ _ (by omega), upA_ne _ _ (by omega)]
  have hf1 : ∀ x i, 83 ≤ x → f1 x i = f x i := fun x i hx => by rw [hf0 x i (by omega), putF_off hP (by omega)]
  obtain ⟨m1, m2, m3⟩ := fix_t hm1 h3
  have p := L.p
  have em : ∀ i, minF t1 f1 101 i = minF t f 101 i := minF_congr (hm1 2) (fun i => hf1 101 i (by omega))
  have eml : ∀ i, i < 168 → minF t1 f1 101 i = f 101 i := fun i hi => by rw [em]; exact minF_lo (by omega) hi
  have n4 : minF t1 f1 101 (0 + 4) = t 19 3 := by rw [eml _ (by omega)]; exact p.2.2.2.2
  have AT : ∀ j, f2 101 j = if j = 0 + 3 then t 18 2 + v else if j = 0 + 4 then t 19 3 + 1 else if j = 0 + 32 + t 19 3 then t 18 3 else if j = 0 + 23 + t 19 3 then fr else if j = 0 + 14 + t 19 3 then v else if j = 0 + 5 + t 19 3 then m else minF t f 101 j := fun j => by
    rw [h4, takL_at, n4, eml (0 + 3) (by omega), eml (0 + 0) (by omega), em, show f 101 (0 + 3) = t 18 2 from p.2.2.2.1, show f 101 (0 + 0) = t 18 3 from p.1]
  have W : ∀ i, 41 ≤ i → f2 101 i = minF t f 101 i := fun i a => by
    rw [AT, if_neg (by omega), if_neg (by omega), if_neg (by omega), if_neg (by omega), if_neg (by omega), if_neg (by omega)]
  have Wk : ∀ x i, x ≠ 101 → f2 x i = f1 x i := fun x i hx => by rw [h4, takL_k _ _ _ _ _ hx, minF_k hx]
  have Tk : ∀ x j, x < 21 → ¬ (x = 19 ∧ j = 3) → ¬ (x = 18 ∧ j = 2) → t2 x j = t x j := fun x j a b c => by rw [m3 x j (by omega), hT1 x j b c, remT_off hP (by omega) (by omega)]
  have Fk : ∀ x i, x < 25 → ¬ (x = 20 ∧ t 19 3 * 5 ≤ i) → f2 x i = f x i := fun x i a b => by rw [Wk x i (by omega), hf0 x i b, putF_off hP (by omega)]
  have n193 : t2 19 3 = t 19 3 + 1 := by rw [m3 19 3 (by omega)]; exact t193
  have n182 : t2 18 2 = t 18 2 + v := by rw [m3 18 2 (by omega)]; exact t182
  have ow := owedX_rng L.1.1 m v (by omega) hq.2.1.2
  have g12 : ∀ r c, tget t2 f2 12 r c = tget t f 12 r c := tget_same (Tk 12 3 (by omega) (by omega) (by omega)) (fun i => Fk 13 i (by omega) (by omega))
  have g14 : ∀ r c, tget t2 f2 14 r c = tget t f 14 r c := tget_same (Tk 14 3 (by omega) (by omega) (by omega)) (fun i => Fk 15 i (by omega) (by omega))
  have g16 : ∀ r c, tget t2 f2 16 r c = tget t f 16 r c := tget_same (Tk 16 3 (by omega) (by omega) (by omega)) (fun i => Fk 17 i (by omega) (by omega))
  have tw19 : tw 19 = 5 := rfl
  have old : ∀ r, r < t 19 3 → ∀ c, tget t2 f2 19 r c = tget t f 19 r c := fun r hr c => tget_old (by decide) n193 (fun i hi => by
    rw [tw19] at hi
    exact Fk 20 i (by omega) (by omega)) hr c
  have nf : ∀ i, f2 20 i = f1 20 i := fun i => Wk 20 i (by omega)
  have new0 : tget t2 f2 19 (t 19 3) 0 = m := by
    rw [tget_new n193 (by omega) (by decide) (by decide), tw19, nf, h2]; unfold borF
    rw [upA_i _ _ _ (by omega), upA_i _ _ _ (by omega), upA_i _ _ _ (by omega), upA_i _ _ _ (by omega), upA_s]
  have new1 : tget t2 f2 19 (t 19 3) 1 = v := by
    rw [tget_new n193 (by omega) (by decide) (by decide), tw19, nf, h2]; unfold borF
    rw [upA_i _ _ _ (by omega), upA_i _ _ _ (by omega), upA_i _ _ _ (by omega), upA_s]
  have new2 : tget t2 f2 19 (t 19 3) 2 = fr := by
    rw [tget_new n193 (by omega) (by decide) (by decide), tw19, nf, h2]; unfold borF
    rw [upA_i _ _ _ (by omega), upA_i _ _ _ (by omega), upA_s]
  have new3 : tget t2 f2 19 (t 19 3) 3 = owedX t f 11 m v := by
    rw [tget_new n193 (by omega) (by decide) (by decide), tw19, nf, h2]; unfold borF
    rw [upA_i _ _ _ (by omega), upA_s]
  have new4 : tget t2 f2 19 (t 19 3) 4 = t 18 3 := by
    rw [tget_new n193 (by omega) (by decide) (by decide), tw19, nf, h2]; unfold borF
    rw [upA_s]
  have hLK := L.2.1
  have lk3 : t 18 2 ≤ tget t f 12 0 3 + 999 * t 19 3 := hLK.2.2.1
  have hpurse := L.1.1.2.2.2.2.2.2
  have p3b : 0 ≤ tget t f 12 0 3 ∧ tget t f 12 0 3 ≤ 999 := hpurse
  have z18 : ∀ j, j ≠ 2 → t2 18 j = t 18 j := fun j hj => Tk 18 j (by omega) (by omega) (by omega)
  have hS : SOK t2 f2 18 := by
    refine ⟨?_, by rw [z18 1 (by omega)]; exact hb.1.1, by rw [n182]; omega, by rw [z18 3 (by omega)]; exact hb.1.2.2.1, by rw [z18 4 (by omega)]; exact hb.1.2.2.2, fun i => ?_⟩
    · show 0 ≤ t2 19 3 ∧ t2 19 3 ≤ 8
      rw [n193]; omega
    · show (0 ≤ tget t2 f2 19 i 0 ∧ tget t2 f2 19 i 0 ≤ 4) ∧ (0 ≤ tget t2 f2 19 i 1 ∧ tget t2 f2 19 i 1 ≤ 999) ∧ (0 ≤ tget t2 f2 19 i 2 ∧ tget t2 f2 19 i 2 ≤ 1) ∧ (0 ≤ tget t2 f2 19 i 3 ∧ tget t2 f2 19 i 3 ≤ 2997) ∧ (0 ≤ tget t2 f2 19 i 4 ∧ tget t2 f2 19 i 4 ≤ 7)
      rcases (show i < t 19 3 ∨ i = t 19 3 ∨ t 19 3 < i by omega) with y | y | y
      · rw [old i y, old i y, old i y, old i y, old i y]; exact L.1.loan i
      · rw [y, new0, new1, new2, new3, new4]; omega
      · rw [tget_out (by omega), tget_out (by omega), tget_out (by omega), tget_out (by omega), tget_out (by omega)]; omega
  have hV : VOK t2 f2 11 := L.1.1.of (Tk 12 3 (by omega) (by omega) (by omega)) (Tk 14 3 (by omega) (by omega) (by omega)) (Tk 16 3 (by omega) (by omega) (by omega)) (fun c hc i => Fk c i (by omega) (by omega))
  have e16 : t2 16 3 = t 16 3 := Tk 16 3 (by omega) (by omega) (by omega)
  have e14 : t2 14 3 = t 14 3 := Tk 14 3 (by omega) (by omega) (by omega)
  have e12 : t2 12 3 = t 12 3 := Tk 12 3 (by omega) (by omega) (by omega)
  have eow : ∀ x y, owedX t2 f2 11 x y = owedX t f 11 x y := owed_same e16 (fun i => Fk 17 i (by omega) (by omega))
  have hLM : LOK t2 f2 18 := by
    refine ⟨hS, by rw [z18 3 (by omega), e14]; exact hLK.2.1, ?_, fun z => ?_, fun i i0 i1 => ?_⟩
    · show t2 18 2 ≤ tget t2 f2 12 0 3 + 999 * t2 19 3
      rw [n182, g12, n193]; omega
    · have := L.2.2.1 (by rw [← e12]; exact z)
      omega
    · change i < t2 19 3 at i1
      show tget t2 f2 19 i 0 < t2 16 3 ∧ 1 ≤ tget t2 f2 19 i 1 ∧ tget t2 f2 19 i 3 = owedX t2 f2 11 (tget t2 f2 19 i 0) (tget t2 f2 19 i 1)
      rw [eow, e16]
      by_cases y : i = t 19 3
      · rw [y, new0, new1, new3]; exact ⟨hq.1.2, hq.2.1.1, rfl⟩
      · rw [old i (by omega), old i (by omega), old i (by omega)]; exact hLK.2.2.2.2 i i0 (by show i < t 19 3; omega)
  have AO : ∀ j, j ≠ 3 → j ≠ 4 → j ≠ 32 + t 19 3 → j ≠ 23 + t 19 3 → j ≠ 14 + t 19 3 → j ≠ 5 + t 19 3 → j < 168 → f2 101 j = f 101 j := fun j a b c d x y z => by
    rw [AT, if_neg (by omega), if_neg (by omega), if_neg (by omega), if_neg (by omega), if_neg (by omega), if_neg (by omega), minF_lo (by omega) z]
  refine h.act (fun x j a b c d => by rw [m3 x j (by omega)]; exact hT1 x j (by omega) (by omega)) (fun x i a b => by rw [Wk x i (by omega)]; exact hf0 x i (by omega)) m1 m2 (fun x i a => by rw [Wk x i (by omega)]; exact hf1 x i (by omega)) (fun i a => W i (by omega)) ?_ ?_
  · have e11 : t2 0 11 = t 0 11 := Tk 0 11 (by omega) (by omega) (by omega)
    rw [e11, W 41 (by omega), minF_lo (by omega) (by omega)]
    exact ⟨e.1, e.2.1⟩
  · refine ⟨⟨hV, hS⟩, hLM, fun z => ?_, ⟨⟨?_, ?_, ?_, ?_, ?_⟩, fun l l0 l1 => ?_, fun l l0 l1 => ?_⟩, ⟨?_, ?_, ?_, ?_, ?_⟩, fun i i0 i1 => ?_⟩
    · rw [e14, e16]; exact L.2.2.1 (by rw [← e12]; exact z)
    · rw [m2 3 (by omega), e12]; exact L.v.1
    · rw [m2 4 (by omega), g12]; exact L.v.2.1
    · rw [m2 5 (by omega), g12]; exact L.v.2.2.1
    · rw [m2 6 (by omega), e14]; exact L.v.2.2.2.1
    · rw [m2 10 (by omega), e16]; exact L.v.2.2.2.2
    · rw [e14] at l1
      rw [g14, g14, g14, Wk 103 l (by omega), Wk 104 l (by omega), Wk 105 l (by omega), hf1 103 l (by omega), hf1 104 l (by omega), hf1 105 l (by omega)]; exact (L.l l0 l1).1
    · rw [e16] at l1
      rw [g16, g16, Wk 106 l (by omega), Wk 107 l (by omega), hf1 106 l (by omega), hf1 107 l (by omega)]; exact (L.m l0 l1).1
    · rw [z18 3 (by omega)]; show f2 101 0 = _; rw [AO 0 (by omega) (by omega) (by omega) (by omega) (by omega) (by omega) (by omega)]; exact p.1
    · rw [z18 4 (by omega)]; show f2 101 1 = _; rw [AO 1 (by omega) (by omega) (by omega) (by omega) (by omega) (by omega) (by omega)]; exact p.2.1
    · rw [z18 1 (by omega)]; show f2 101 2 = _; rw [AO 2 (by omega) (by omega) (by omega) (by omega) (by omega) (by omega) (by omega)]; exact p.2.2.1
    · rw [n182, AT, if_pos rfl]
    · show f2 101 (0 + 4) = t2 19 3
      rw [n193, AT, if_neg (by omega), if_pos rfl]
    · change i < t2 19 3 at i1
      show f2 101 (0 + 5 + i) = tget t2 f2 19 i 0 ∧ f2 101 (0 + 14 + i) = tget t2 f2 19 i 1 ∧ f2 101 (0 + 23 + i) = tget t2 f2 19 i 2 ∧ f2 101 (0 + 32 + i) = tget t2 f2 19 i 4
      by_cases y : i = t 19 3
      · rw [y, new0, new1, new2, new4]
        refine ⟨?_, ?_, ?_, ?_⟩
        · rw [AT, if_neg (by omega), if_neg (by omega), if_neg (by omega), if_neg (by omega), if_neg (by omega), if_pos rfl]
        · rw [AT, if_neg (by omega), if_neg (by omega), if_neg (by omega), if_neg (by omega), if_pos rfl]
        · rw [AT, if_neg (by omega), if_neg (by omega), if_neg (by omega), if_pos rfl]
        · rw [AT, if_neg (by omega), if_neg (by omega), if_pos rfl]
      · have cc := L.c i0 (show i < t 19 3 by omega)
        rw [old i (by omega), old i (by omega), old i (by omega), old i (by omega), AO _ (by omega) (by omega) (by omega) (by omega) (by omega) (by omega) (by omega), AO _ (by omega) (by omega) (by omega) (by omega) (by omega) (by omega) (by omega), AO _ (by omega) (by omega) (by omega) (by omega) (by omega) (by omega) (by omega), AO _ (by omega) (by omega) (by omega) (by omega) (by omega) (by omega) (by omega), Int.zero_add, Int.zero_add, Int.zero_add, Int.zero_add]
        exact cc
theorem LR_plan {t t1 t2 : uN} {f f1 f2 : uF} {i z : Int} (h : LR t f) (hp : PQ t f i z t1 f1) (hs : Scr t1 f1 t2 f2) : LR t2 f2 := by
  refine LR.scr ?_ hs
  rcases hp with ⟨-, -, a, b⟩ | ⟨-, q1, q2, q3, q4, -⟩
  · rw [a, b]; exact h
  obtain ⟨a, b, c, d, e, g, x, j⟩ := h
  have T : ∀ k j, k ≠ 91 → k ≠ 92 → k ≠ 94 → t1 k j = t k j := fun k j h1 h2 h3 => q1.1 k j (by omega) (by omega) (by omega)
  have F : ∀ k j, k ≠ 93 → k ≠ 95 → f1 k j = f k j := q1.2
  refine ⟨a.same (fun k j hk => T k j (by omega) (by omega) (by omega)) (fun k i hk => F k i (by omega) (by omega)) (fun j hj => T 100 j (by omega) (by omega) (by omega)) (fun i _ _ => F 101 i (by omega) (by omega)), b.of (T 1 3 (by omega) (by omega) (by omega)) (fun i => F 2 i (by omega) (by omega)) (T 100 14 (by omega) (by omega) (by omega)) (fun i => F 108 i (by omega) (by omega)), c.of (T 96 3 (by omega) (by omega) (by omega)) (fun i => F 97 i (by omega) (by omega)) (T 100 31 (by omega) (by omega) (by omega)) (fun k i hk => F k i (by omega) (by omega)), d.of (T 98 3 (by omega) (by omega) (by omega)) (fun i => F 99 i (by omega) (by omega)) (T 100 34 (by omega) (by omega) (by omega)) (fun i => F 116 i (by omega) (by omega)), ?_, g.of (fun k j hk => T k j (by omega) (by omega) (by omega)) (fun k i hk => F k i (by omega) (by omega)) (T 100 2 (by omega) (by omega) (by omega)) (fun i _ => F 101 i (by omega) (by omega)), x.of (fun k j hk => T k j (by omega) (by omega) (by omega)) (fun k i hk => F k i (by omega) (by omega)) (fun i => F 102 i (by omega) (by omega)) (fun i _ _ => F 101 i (by omega) (by omega)), q3, Or.inr q2, fun _ => ?_⟩
  · exact ⟨by rw [T 0 11 (by omega) (by omega) (by omega)]; exact e.1, by rw [F 101 41 (by omega) (by omega), T 0 11 (by omega) (by omega) (by omega)]; exact e.2.1, by rw [T 100 19 (by omega) (by omega) (by omega), T 0 10 (by omega) (by omega) (by omega)]; exact e.2.2⟩
  · obtain ⟨b0, r⟩ := q4
    refine ⟨b0, ?_⟩
    rw [plS_same (fun k j hk => T k j (by omega) (by omega) (by omega)) (fun k i hk => F k i (by omega) (by omega)), T 14 3 (by omega) (by omega) (by omega), T 18 3 (by omega) (by omega) (by omega)]
    exact r
theorem plan_eq {t t1 : uN} {f f1 : uF} {i z : Int} (hp : PQ t f i z t1 f1) : ∃ b0, ((goneX t = 0 → (plS t f (lbpX t f) b0).2 (-1) = t 14 3 - t 18 3) → z = plaM t f b0 i) := by
  rcases hp with ⟨h1, h2, -⟩ | ⟨h1, q1, q2, q3, ⟨b0, r1, r2, r3⟩, q5⟩
  · refine ⟨fun _ => 0, fun _ => ?_⟩
    unfold plaM
    rw [if_neg (by omega), h2]
  · refine ⟨b0, fun hm => ?_⟩
    have hm := hm h1
    unfold plaM
    rw [if_pos h1, q5]
    by_cases y : i = -1
    · rw [if_pos y, if_pos y, r1]
    · rw [if_neg y, if_neg y]
      have hh := thas_b t1 94 i
      rw [r2, hm] at hh
      by_cases y2 : 0 ≤ i ∧ i < t 14 3 - t 18 3
      · rw [if_pos (by omega), if_pos y2, tgetU y2.1 (by rw [r2, hm]; exact y2.2) (by decide) (by decide), show tw 94 = 1 from rfl, Int.mul_one, Int.add_zero]
        exact r3 i y2.1 y2.2
      · rw [if_neg (by omega), if_neg y2]

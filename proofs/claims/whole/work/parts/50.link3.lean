/-! what each act leaves: the acts that are remembered -/
theorem minF_congr {t t1 : uN} {f f1 : uF} (h : t1 100 2 = t 100 2) (hf : ∀ i, f1 101 i = f 101 i) (i : Int) : minF t1 f1 101 i = minF t f 101 i := by
  unfold minF
  rw [h]
  split
  · show (if (966 : Int) ≤ i ∧ i < 966 + 42 then shW f1 101 (0 + (i - 966)) else shW f1 101 i) = if (966 : Int) ≤ i ∧ i < 966 + 42 then shW f 101 (0 + (i - 966)) else shW f 101 i
    have e : ∀ j, shW f1 101 j = shW f 101 j := fun j => by unfold shW; rw [hf, hf]
    rw [e, e]
  · show (if 168 + 42 * t 100 2 ≤ i ∧ i < 168 + 42 * t 100 2 + 42 then f1 101 (0 + (i - (168 + 42 * t 100 2))) else f1 101 i) = if 168 + 42 * t 100 2 ≤ i ∧ i < 168 + 42 * t 100 2 + 42 then f 101 (0 + (i - (168 + 42 * t 100 2))) else f 101 i
    rw [hf, hf]
/-- where the words of slot j come from -/
theorem minF_w {t : uN} {f : uF} (h0 : 0 ≤ t 100 2) (h1 : t 100 2 ≤ 20) {j i : Int} (j0 : 0 ≤ j) (j1 : j < min 20 (t 100 2 + 1)) (i0 : 0 ≤ i) (i1 : i < 42) : minF t f 101 (168 + 42 * j + i) = if j = min 20 (t 100 2 + 1) - 1 then f 101 i else f 101 (168 + 42 * (if t 100 2 = 20 then j + 1 else j) + i) := by
  unfold minF
  by_cases q : t 100 2 = 20
  · rw [if_pos q, if_pos q]
    show (if (966 : Int) ≤ 168 + 42 * j + i ∧ 168 + 42 * j + i < 966 + 42 then shW f 101 (0 + (168 + 42 * j + i - 966)) else shW f 101 (168 + 42 * j + i)) = _
    by_cases g : j = min 20 (t 100 2 + 1) - 1
    · rw [if_pos g, if_pos (by omega)]
      unfold shW
      rw [if_neg (by omega), show 0 + (168 + 42 * j + i - 966) = i by omega]
    · rw [if_neg g, if_neg (by omega)]
      unfold shW
      rw [if_pos (by omega), show 168 + 42 * j + i + 42 = 168 + 42 * (j + 1) + i by omega]
  · rw [if_neg q, if_neg q]
    show (if 168 + 42 * t 100 2 ≤ 168 + 42 * j + i ∧ 168 + 42 * j + i < 168 + 42 * t 100 2 + 42 then f 101 (0 + (168 + 42 * j + i - (168 + 42 * t 100 2))) else f 101 (168 + 42 * j + i)) = _
    by_cases g : j = min 20 (t 100 2 + 1) - 1
    · rw [if_pos g, if_pos (by omega), show 0 + (168 + 42 * j + i - (168 + 42 * t 100 2)) = i by omega]
    · rw [if_neg g, if_neg (by omega)]
theorem ML.im {t : uN} {f : uF} (L : ML t f t f) : IM t f 18 0 := ⟨L.2.1, L.2.2.2.2⟩
/-- the ring once more is right, an act being remembered -/
theorem RGI.put {t t2 : uN} {f f2 : uF} (h : RGI t f) (L : ML t f t f) (ht : ∀ k j, k < 100 → k ≠ 0 → k ≠ 18 → k ≠ 19 → t2 k j = remT t k j) (hf : ∀ k i, k < 100 → k ≠ 20 → f2 k i = putF t f k i) (hm : t2 100 2 = min 20 (t 100 2 + 1)) (hw : ∀ i : Int, 168 ≤ i → f2 101 i = minF t f 101 i) : RGI t2 f2 := by
  obtain ⟨⟨h1, h2, h3⟩, h4, h5⟩ := h
  have e1 : t2 21 1 = if t 21 1 + 1 < 20 then t 21 1 + 1 else 0 := by
    rw [ht 21 1 (by omega) (by omega) (by omega) (by omega)]
    unfold remT putT
    simp only []
    rw [up2_k _ _ _ _ (by decide), up2_j _ _ _ (by decide), up2_s, sheCp_off (by omega) (by omega)]
  have e2 : t2 21 2 = min 20 (t 21 2 + 1) := by
    rw [ht 21 2 (by omega) (by omega) (by omega) (by omega)]
    unfold remT putT
    simp only []
    rw [up2_k _ _ _ _ (by decide), up2_s, up2_j _ _ _ (by decide), sheCp_off (by omega) (by omega)]
  have rem : ∀ k j, k ≠ 91 → k ≠ 21 → remT t k j = sheCp t (23 + 3 * (t 21 1).toNat) 18 k j := fun k j a b => by
    unfold remT putT
    simp only []
    rw [up2_k _ _ _ _ a, up2_k _ _ _ _ b, up2_k _ _ _ _ b]
  have cn : ∀ j, 1 ≤ j → j ≤ 4 → t2 (23 + 3 * (t 21 1).toNat) j = t 18 j := fun j j0 j1 => by
    rw [ht _ j (by omega) (by omega) (by omega) (by omega), rem _ _ (by omega) (by omega), sheCp_j (by omega) (by omega) j0 j1]
  have cm : t2 (23 + 3 * (t 21 1).toNat + 1) 3 = t 19 3 := by
    rw [ht _ 3 (by omega) (by omega) (by omega) (by omega), rem _ _ (by omega) (by omega), sheCp_n]
  have cf : ∀ i : Int, 0 ≤ i → i < 40 → f2 (23 + 3 * (t 21 1).toNat + 2) i = f 20 i := fun i i0 i1 => by
    rw [hf _ i (by omega) (by omega)]
    unfold putF
    exact cpA_in i0 i1
  have so : ∀ j : Nat, j < 20 → j ≠ (t 21 1).toNat → (∀ i, t2 (23 + 3 * j) i = t (23 + 3 * j) i) ∧ t2 (23 + 3 * j + 1) 3 = t (23 + 3 * j + 1) 3 ∧ ∀ i, f2 (23 + 3 * j + 2) i = f (23 + 3 * j + 2) i := fun j hj hne => by
    refine ⟨fun i => ?_, ?_, fun i => ?_⟩
    · rw [ht _ i (by omega) (by omega) (by omega) (by omega), rem _ _ (by omega) (by omega), sheCp_off (by omega) (by omega)]
    · rw [ht _ 3 (by omega) (by omega) (by omega) (by omega), rem _ _ (by omega) (by omega), sheCp_off (by omega) (by omega)]
    · rw [hf _ i (by omega) (by omega)]
      unfold putF
      rw [cpA_off (by omega)]
  have v : ∀ c j, c = 12 ∨ c = 14 ∨ c = 16 → t2 c j = t c j := fun c j hc => by
    rw [ht c j (by omega) (by omega) (by omega) (by omega), remT_off h1 (by omega) (by omega)]
  have vf : ∀ c, c = 13 ∨ c = 15 ∨ c = 17 → ∀ i, f2 c i = f c i := fun c hc i => by
    rw [hf c i (by omega) (by omega), putF_off h1 (by omega)]
  have hr : rcX t2 (t2 21 2 - 1) = 23 + 3 * (t 21 1).toNat := by
    unfold rcX
    rw [e1]
    split <;> omega
  have nw : ∀ i : Int, 0 ≤ i → i < 42 → f2 101 (168 + 42 * (t2 21 2 - 1) + i) = f 101 i := fun i i0 i1 => by
    rw [hw _ (by omega), minF_w (by omega) (by omega) (by omega) (by omega) i0 i1, if_pos (by omega)]
  have im : IM t2 f2 (23 + 3 * (t 21 1).toNat) (168 + 42 * (t2 21 2 - 1)) :=
    L.im.cp rfl (kd_ring (by omega)) (v 12 3 (by omega)) (v 14 3 (by omega)) (v 16 3 (by omega)) vf cn cm cf (fun i i0 i1 => by rw [nw i i0 (by omega), Int.zero_add])
  refine ⟨⟨by rw [e1]; split <;> omega, by rw [e2]; omega, fun j hj => ?_⟩, by rw [hm, e2, h4], fun j j0 j1 => ?_⟩
  · by_cases g : j = (t 21 1).toNat
    · rw [g]; exact im.1.1
    · obtain ⟨a, b, c⟩ := so j hj g
      exact SOK_off (h3 j hj) a b c
  · by_cases g : j = t2 21 2 - 1
    · rw [g, hr]; exact im
    · have ej : rcX t2 j = rcX t (if t 21 2 = 20 then j + 1 else j) := by
        unfold rcX
        rw [e1, e2]
        split <;> split <;> omega
      have hne : ((t 21 1 - t 21 2 + (if t 21 2 = 20 then j + 1 else j)) % 20).toNat ≠ (t 21 1).toNat := by split <;> omega
      have hj' : 0 ≤ (if t 21 2 = 20 then j + 1 else j) ∧ (if t 21 2 = 20 then j + 1 else j) < t 21 2 := by split <;> omega
      obtain ⟨a, b, c⟩ := so _ (by omega) hne
      have old := h5 _ hj'.1 hj'.2
      rw [ej]
      refine old.cp (rcX_kd t _) (rcX_kd t _) (v 12 3 (by omega)) (v 14 3 (by omega)) (v 16 3 (by omega)) vf (fun i _ _ => a i) b (fun i _ _ => c i) (fun i i0 i1 => ?_)
      rw [hw _ (by omega), minF_w (by omega) (by omega) j0 (by omega) i0 (by omega), if_neg (by omega), h4]
/-- an act that was remembered -/
theorem LR.act {t t2 : uN} {f f2 : uF} (h : LR t f) (ht : ∀ k j, k < 100 → ¬ (k = 0 ∧ j = 11) → k ≠ 18 → k ≠ 19 → t2 k j = remT t k j) (hf : ∀ k i, k < 100 → k ≠ 20 → f2 k i = putF t f k i) (hm : t2 100 2 = min 20 (t 100 2 + 1)) (hm2 : ∀ j, j ≠ 2 → t2 100 j = t 100 j) (hg : ∀ k i, 102 ≤ k → f2 k i = f k i) (hw : ∀ i : Int, 42 ≤ i → f2 101 i = minF t f 101 i)
    (sd : (0 ≤ t2 0 11 ∧ t2 0 11 ≤ 2147483647) ∧ f2 101 41 = t2 0 11) (L : ML t2 f2 t2 f2) : LR t2 f2 := by
  obtain ⟨a, b, c, d, e, g, i, j⟩ := h
  have h1 := g.1.1
  have hu := g.1.2.1
  have h4 := g.2.1
  have T : ∀ k j, k < 21 ∨ k = 22 ∨ (83 ≤ k ∧ k < 100 ∧ k ≠ 91) → ¬ (k = 0 ∧ j = 11) → k ≠ 18 → k ≠ 19 → t2 k j = t k j := fun k j x y z w => by
    rw [ht k j (by omega) y z w, remT_off h1 (by omega) (by omega)]
  have F : ∀ k i, k < 25 ∨ (83 ≤ k ∧ k < 100) → k ≠ 20 → f2 k i = f k i := fun k i x y => by
    rw [hf k i (by omega) y, putF_off h1 (by omega)]
  have e6 : t2 91 6 = 0 := by
    rw [ht 91 6 (by omega) (by omega) (by omega) (by omega)]
    exact up2_s _ _ _ _
  exact ⟨L, b.of (T 1 3 (by omega) (by omega) (by omega) (by omega)) (fun i => F 2 i (by omega) (by omega)) (hm2 14 (by omega)) (fun i => hg 108 i (by omega)),
    c.of (T 96 3 (by omega) (by omega) (by omega) (by omega)) (fun i => F 97 i (by omega) (by omega)) (hm2 31 (by omega)) (fun k i hk => hg k i (by omega)),
    d.of (T 98 3 (by omega) (by omega) (by omega) (by omega)) (fun i => F 99 i (by omega) (by omega)) (hm2 34 (by omega)) (fun i => hg 116 i (by omega)),
    ⟨sd.1, sd.2, by rw [hm2 19 (by omega), T 0 10 (by omega) (by omega) (by omega) (by omega)]; exact e.2.2⟩,
    g.put a (fun k j x y z w => ht k j x (by omega) z w) hf hm (fun i hi => hw i (by omega)),
    i.of (fun k j hk => T k j (by omega) (by omega) (by omega) (by omega)) (fun k i hk => F k i (by omega) (by omega)) (fun i => hg 102 i (by omega)) (fun i i0 i1 => by rw [hw i (by omega), minF_lo (by omega) (by omega)]),
    j.off (T 94 3 (by omega) (by omega) (by omega) (by omega)) e6⟩
theorem fix_t {t1 t2 : uN} {t : uN} (h1 : ∀ j, t1 100 j = t 100 j) (h2 : t2 = minT t1) : t2 100 2 = min 20 (t 100 2 + 1) ∧ (∀ j, j ≠ 2 → t2 100 j = t 100 j) ∧ ∀ k j, k ≠ 100 → t2 k j = t1 k j := by
  refine ⟨?_, fun j hj => ?_, fun k j hk => ?_⟩
  · rw [h2]; unfold minT; rw [up2_s, h1]
  · rw [h2]; unfold minT; rw [up2_j _ _ _ hj, h1]
  · rw [h2]; unfold minT; rw [up2_k _ _ _ _ hk]
theorem LR_repair {t t1 t2 : uN} {f f1 f2 : uF} {k : Int} (h : LR t f) (h1 : t1 = if repX t f k < 0 then t else repT t f k) (h2 : f1 = if repX t f k < 0 then f else putF t f) (h3 : t2 = if repX t f k < 0 then t1 else minT t1) (h4 : f2 = if repX t f k < 0 then f1 else upA (upA (minF t1 f1) 101 3 (t 18 2 - k * costX t f)) 101 2 (t 18 1 + k)) : LR t2 f2 := by
  by_cases q : repX t f k < 0
  · rw [if_pos q] at h1 h2 h3 h4
    rw [h3, h4, h1, h2]; exact h
  rw [if_neg q] at h1 h2 h3 h4
  have L := h.1
  have g := h.2.2.2.2.2.1
  have e := h.2.2.2.2.1
  have hP := g.1.1
  have hu := g.1.2.1
  have hu2 := g.2.1
  have hb := L.1.b
  have hq : (1 ≤ k ∧ k ≤ 9) ∧ t 18 1 + k ≤ 9 ∧ k * costX t f ≤ t 18 2 := by
    by_cases y0 : k < 1 ∨ 9 < k
    · exact absurd (show repX t f k < 0 by unfold repX; rw [if_pos y0]; decide) q
    · by_cases y1 : inPortX t = 1 ∧ t 18 1 + k ≤ 9 ∧ k * costX t f ≤ t 18 2
      · exact ⟨by omega, y1.2⟩
      · exact absurd (show repX t f k < 0 by unfold repX; rw [if_neg y0, if_neg y1]; decide) q
  have hc : 0 ≤ costX t f := (L.1.leg (t 18 3)).2.2.1
  have hm0 : 0 ≤ k * costX t f := Int.mul_nonneg (by omega) hc
  have hT1 : ∀ x j, x ≠ 18 → t1 x j = remT t x j := fun x j hx => by rw [h1]; unfold repT; rw [up2_k _ _ _ _ hx, up2_k _ _ _ _ hx]
  have t18 : ∀ j, j ≠ 1 → j ≠ 2 → t1 18 j = t 18 j := fun j a b => by rw [h1]; unfold repT; rw [up2_j _ _ _ b, up2_j _ _ _ a, remT_off hP (by omega) (by omega)]
  have t181 : t1 18 1 = t 18 1 + k := by rw [h1]; unfold repT; rw [up2_j _ _ _ (by decide), up2_s]
  have t182 : t1 18 2 = t 18 2 - k * costX t f := by rw [h1]; unfold repT; rw [up2_s]
  have hm1 : ∀ j, t1 100 j = t 100 j := fun j => by rw [hT1 100 j (by omega), remT_off hP (by omega) (by omega)]
  have hf1 : ∀ x i, 83 ≤ x → f1 x i = f x i := fun x i hx => by rw [h2, putF_off hP (by omega)]
  obtain ⟨m1, m2, m3⟩ := fix_t hm1 h3
  have W : ∀ i, i ≠ 2 → i ≠ 3 → f2 101 i = minF t f 101 i := fun i a b => by rw [h4, upA_i _ _ _ a, upA_i _ _ _ b]; exact minF_congr (hm1 2) (fun i => hf1 101 i (by omega)) i
  have Wk : ∀ x i, x ≠ 101 → f2 x i = f1 x i := fun x i hx => by rw [h4, upA_k _ _ _ _ hx, upA_k _ _ _ _ hx, minF_k hx]
  have w0 := L.p
  refine h.act (fun x j a b c d => by rw [m3 x j (by omega)]; exact hT1 x j c) (fun x i a b => by rw [Wk x i (by omega), h2]) m1 m2 (fun x i a => by rw [Wk x i (by omega)]; exact hf1 x i (by omega)) (fun i a => W i (by omega) (by omega)) ?_ ?_
  · have e11 : t2 0 11 = t 0 11 := by rw [m3 0 11 (by omega), hT1 0 11 (by omega), remT_off hP (by omega) (by omega)]
    rw [e11, W 41 (by omega) (by omega), minF_lo (by omega) (by omega)]
    exact ⟨e.1, e.2.1⟩
  · have Tk : ∀ x j, x < 21 → x ≠ 18 → t2 x j = t x j := fun x j a b => by rw [m3 x j (by omega), hT1 x j b, remT_off hP (by omega) (by omega)]
    have z18 : ∀ j, t2 18 j = t1 18 j := fun j => m3 18 j (by omega)
    refine L.of (Tk 12 3 (by omega) (by omega)) (Tk 14 3 (by omega) (by omega)) (Tk 16 3 (by omega) (by omega)) (Tk 19 3 (by omega) (by omega)) (by rw [z18, t181]; omega) (by rw [z18, t182]; omega) (by rw [z18, t18 3 (by omega) (by omega)]; have := L.2.1.2.1; omega) (by rw [z18, t18 4 (by omega) (by omega)]; exact hb.1.2.2.2) (fun c hc i => by rw [Wk c i (by omega), h2, putF_off hP (by omega)]) (fun j hj => m2 j (by omega)) (fun x i a b => by rw [Wk x i (by omega)]; exact hf1 x i (by omega)) ?_ ?_ ?_ ?_ (fun j a b => by rw [W j (by omega) (by omega), minF_lo (by omega) (by omega)])
    · rw [W 0 (by omega) (by omega), minF_lo (by omega) (by omega), z18, t18 3 (by omega) (by omega)]; exact w0.1
    · rw [W 1 (by omega) (by omega), minF_lo (by omega) (by omega), z18, t18 4 (by omega) (by omega)]; exact w0.2.1
    · rw [z18, t181, h4, upA_s]
    · rw [z18, t182, h4, upA_i _ _ _ (by omega), upA_s]
theorem LR_sail {t t1 t2 : uN} {f f1 f2 : uF} {c : Int} (h : LR t f) (hc : c = 0 ∨ c = 1) (h1 : t1 = if saiX t c < 0 then t else sailT (remT t) 18 c) (h2 : f1 = if saiX t c < 0 then f else putF t f) (h3 : t2 = if saiX t c < 0 then t1 else minT t1) (h4 : f2 = if saiX t c < 0 then f1 else saiF (minF t1 f1) c) : LR t2 f2 := by
  by_cases q : saiX t c < 0
  · rw [if_pos q] at h1 h2 h3 h4
    rw [h3, h4, h1, h2]; exact h
  rw [if_neg q] at h1 h2 h3 h4
  have L := h.1
  have g := h.2.2.2.2.2.1
  have e := h.2.2.2.2.1
  have hP := g.1.1
  have hu := g.1.2.1
  have hu2 := g.2.1
  have hb := L.1.b
  have hport : t 18 3 < t 14 3 := by
    have qp := inPortX_b t
    have qw := whereX_b hb.1.2.2.2
    by_cases y : inPortX t = 0
    · exact absurd (show saiX t c < 0 by unfold saiX; rw [if_pos y]; decide) q
    · omega
  have hT1 : ∀ x j, x ≠ 18 → t1 x j = remT t x j := fun x j hx => by rw [h1, sailT_off hx]
  have hm1 : ∀ j, t1 100 j = t 100 j := fun j => by rw [hT1 100 j (by omega), remT_off hP (by omega) (by omega)]
  have hf1 : ∀ x i, 83 ≤ x → f1 x i = f x i := fun x i hx => by rw [h2, putF_off hP (by omega)]
  obtain ⟨m1, m2, m3⟩ := fix_t hm1 h3
  have W : ∀ i, i ≠ 0 → i ≠ 1 → i ≠ 2 → f2 101 i = minF t f 101 i := fun i a b d => by rw [h4, saiF_hi _ _ (by omega)]; exact minF_congr (hm1 2) (fun i => hf1 101 i (by omega)) i
  have Wk : ∀ x i, x ≠ 101 → f2 x i = f1 x i := fun x i hx => by rw [h4, saiF_hi _ _ (by omega), minF_k hx]
  have LRm := L.rem hP (by omega)
  refine h.act (fun x j a b c d => by rw [m3 x j (by omega)]; exact hT1 x j c) (fun x i a b => by rw [Wk x i (by omega), h2]) m1 m2 (fun x i a => by rw [Wk x i (by omega)]; exact hf1 x i (by omega)) (fun i a => W i (by omega) (by omega) (by omega)) ?_ ?_
  · have e11 : t2 0 11 = t 0 11 := by rw [m3 0 11 (by omega), hT1 0 11 (by omega), remT_off hP (by omega) (by omega)]
    rw [e11, W 41 (by omega) (by omega) (by omega), minF_lo (by omega) (by omega)]
    exact ⟨e.1, e.2.1⟩
  · have e18 : ∀ j, remT t 18 j = t 18 j := fun j => remT_off hP (by omega) (by omega) j
    have r := LRm.sai (a2 := sailT (remT t) 18 c) (f1 := minF t f) (c := c) (by rw [e18, remT_off hP (by omega) (by omega)]; exact hport) (fun _ _ _ => rfl) (fun _ _ _ => rfl)
    have r1 := r.1.b
    have rk := r.2.1.2.1
    have rp := r.p
    have z : ∀ x j, x ≠ 100 → t2 x j = sailT (remT t) 18 c x j := fun x j hx => by rw [m3 x j hx, h1]
    have fz : ∀ i, i < 168 → f2 101 i = saiF (minF t f) c 101 i := fun i _ => by
      rw [h4, saiF_at, saiF_at]
      have e : ∀ i, minF t1 f1 101 i = minF t f 101 i := minF_congr (hm1 2) (fun i => hf1 101 i (by omega))
      rw [e, e, e]
    refine r.of (z 12 3 (by omega)) (z 14 3 (by omega)) (z 16 3 (by omega)) (z 19 3 (by omega)) (by rw [z 18 1 (by omega)]; exact r1.1.1) (by rw [z 18 2 (by omega)]; omega) (by rw [z 18 3 (by omega)]; omega) (by rw [z 18 4 (by omega)]; exact r1.1.2.2.2) (fun x hx i => by rw [Wk x i (by omega), h2]) (fun j hj => by rw [m2 j (by omega), minT_k t (by omega)]) (fun x i a b => by rw [Wk x i (by omega), hf1 x i (by omega), saiF_hi _ _ (by omega), minF_k (by omega)]) ?_ ?_ ?_ ?_ (fun j a b => fz j (by omega))
    · rw [fz 0 (by omega), z 18 3 (by omega)]; exact rp.1
    · rw [fz 1 (by omega), z 18 4 (by omega)]; exact rp.2.1
    · rw [fz 2 (by omega), z 18 1 (by omega)]; exact rp.2.2.1
    · rw [fz 3 (by omega), z 18 2 (by omega)]; exact rp.2.2.2.1

/-! class and model side by side: what holds between the calls -/
/-- the ship k and the words from h on are one -/
def IM (t : uN) (f : uF) (k : Nat) (h : Int) : Prop := LOK t f k ∧ MS t f k f h
theorem IM.cp {t t2 : uN} {f f2 : uF} {k k2 : Nat} {h h2 : Int} (hk : kd k = 4) (hk2 : kd k2 = 4) (H : IM t f k h) (v12 : t2 12 3 = t 12 3) (v14 : t2 14 3 = t 14 3) (v16 : t2 16 3 = t 16 3) (vf : ∀ c, c = 13 ∨ c = 15 ∨ c = 17 → ∀ i, f2 c i = f c i) (e : ∀ j, 1 ≤ j → j ≤ 4 → t2 k2 j = t k j) (en : t2 (k2 + 1) 3 = t (k + 1) 3) (ef : ∀ i : Int, 0 ≤ i → i < 40 → f2 (k2 + 2) i = f (k + 2) i) (ew : ∀ i : Int, 0 ≤ i → i < 41 → f2 101 (h2 + i) = f 101 (h + i)) : IM t2 f2 k2 h2 := by
  obtain ⟨⟨q1, q2, q3, q4, q5⟩, ⟨s1, s2, s3, s4, s5⟩, s6⟩ := H
  have hn := q1.n hk
  have g12 : ∀ r c, tget t2 f2 12 r c = tget t f 12 r c := tget_same v12 (vf 13 (by omega))
  have hal : ((al (k + 1 + 1) : Nat) : Int) = 40 := by
    rw [kd5_al (kd_all (P := fun k => kd (k + 1) = 5) 4 (by decide) (by decide +kernel) k hk), (kd4_w hk).1, (kd4_w hk).2]; rfl
  have gk : ∀ r c, tget t2 f2 (k2 + 1) r c = tget t f (k + 1) r c := fun r c =>
    tget_cp (kd_all (P := fun k => kd (k + 1) = 5) 4 (by decide) (by decide +kernel) k2 hk2) q1.1 (kd_all (P := fun k => kd (k + 1) = 5) 4 (by decide) (by decide +kernel) k hk) (by rw [(kd4_w hk).1, (kd4_w hk2).1]) en (fun i i0 i1 => ef i i0 (by rw [hal] at i1; exact i1)) r c
  have e1 := e 1 (by omega) (by omega)
  have e2 := e 2 (by omega) (by omega)
  have e3 := e 3 (by omega) (by omega)
  have e4 := e 4 (by omega) (by omega)
  have eW : ∀ i : Int, 0 ≤ i → i < 9 → f2 101 (h2 + 5 + i) = f 101 (h + 5 + i) ∧ f2 101 (h2 + 14 + i) = f 101 (h + 14 + i) ∧ f2 101 (h2 + 23 + i) = f 101 (h + 23 + i) ∧ f2 101 (h2 + 32 + i) = f 101 (h + 32 + i) := fun i i0 i1 => by
    have a := ew (5 + i) (by omega) (by omega)
    have b := ew (14 + i) (by omega) (by omega)
    have c := ew (23 + i) (by omega) (by omega)
    have d := ew (32 + i) (by omega) (by omega)
    rw [← Int.add_assoc, ← Int.add_assoc] at a b c d
    exact ⟨a, b, c, d⟩
  refine ⟨⟨⟨?_, by rw [e1]; exact q1.2.1, by rw [e2]; exact q1.2.2.1, by rw [e3]; exact q1.2.2.2.1, by rw [e4]; exact q1.2.2.2.2.1, fun i => ?_⟩, by rw [e3, v14]; exact q2, by rw [e2, g12, en]; exact q3, fun z => by rw [en]; exact q4 (by rw [← v12]; exact z), fun i i0 i1 => ?_⟩, ⟨?_, ?_, ?_, ?_, ?_⟩, fun i i0 i1 => ?_⟩
  · have q := q1.1
    unfold tOK at q ⊢
    rw [en, (kd4_w hk2).2, ← (kd4_w hk).2]; exact q
  · rw [gk, gk, gk, gk, gk]; exact q1.2.2.2.2.2 i
  · rw [en] at i1
    rw [gk, gk, gk, v16, owed_same v16 (vf 17 (by omega))]; exact q5 i i0 i1
  · rw [ew 0 (by omega) (by omega), e3]; exact s1
  · rw [ew 1 (by omega) (by omega), e4]; exact s2
  · rw [ew 2 (by omega) (by omega), e1]; exact s3
  · rw [ew 3 (by omega) (by omega), e2]; exact s4
  · rw [ew 4 (by omega) (by omega), en]; exact s5
  · rw [en] at i1
    obtain ⟨a, b, c, d⟩ := eW i i0 (by omega)
    rw [a, b, c, d, gk, gk, gk, gk]; exact s6 i i0 i1
def TXI (t : uN) (f : uF) : Prop := tOK t 1 ∧ (∀ p, 0 ≤ tget t f 1 p 0 ∧ tget t f 1 p 0 ≤ 255) ∧ t 100 14 = t 1 3 ∧ ∀ p, 0 ≤ p → p < t 1 3 → f 108 p = tget t f 1 p 0
def TLI (t : uN) (f : uF) : Prop := TI t f ∧ t 100 31 = t 96 3 ∧ ∀ i, 0 ≤ i → i < t 96 3 → f 114 i = tget t f 96 i 0 ∧ f 115 i = tget t f 96 i 1
def BKI (t : uN) (f : uF) : Prop := BI t f ∧ t 100 34 = t 98 3 ∧ ∀ i, 0 ≤ i → i < t 98 3 → f 116 i = tget t f 98 i 0
def SDI (t : uN) (f : uF) : Prop := (0 ≤ t 0 11 ∧ t 0 11 ≤ 2147483647) ∧ f 101 41 = t 0 11 ∧ t 100 19 = t 0 10
def rcX (t : uN) (j : Int) : Nat := 23 + 3 * ((t 21 1 - t 21 2 + j) % 20).toNat
def RGI (t : uN) (f : uF) : Prop := PI t f ∧ t 100 2 = t 21 2 ∧ ∀ j, 0 ≤ j → j < t 21 2 → IM t f (rcX t j) (168 + 42 * j)
def KP1 (t : uN) (f : uF) (k : Nat) (i : Int) : Prop := SOK t f (k + 1) ∧ (t k 2 = 0 ∨ t k 2 = 1) ∧ (0 ≤ t k 1 ∧ t k 1 ≤ 2147483647) ∧ f 102 i = t k 2 ∧ (t k 2 = 1 → IM t f (k + 1) (84 + 42 * i) ∧ f 101 (84 + 42 * i + 41) = t k 1)
def KPI (t : uN) (f : uF) : Prop := KP1 t f 83 0 ∧ KP1 t f 87 1
def PLI (t : uN) (f : uF) : Prop := tOK t 94 ∧ (t 91 6 = 0 ∨ t 91 6 = 1) ∧ (t 91 6 = 1 → ∃ b0, PLD (t 14 3 - t 18 3) t f (plS t f (lbpX t f) b0))
def LR (t : uN) (f : uF) : Prop := ML t f t f ∧ TXI t f ∧ TLI t f ∧ BKI t f ∧ SDI t f ∧ RGI t f ∧ KPI t f ∧ PLI t f
theorem TXI.of {t t2 : uN} {f f2 : uF} (h : TXI t f) (a : t2 1 3 = t 1 3) (b : ∀ i, f2 2 i = f 2 i) (c : t2 100 14 = t 100 14) (d : ∀ i, f2 108 i = f 108 i) : TXI t2 f2 := by
  have g : ∀ r c, tget t2 f2 1 r c = tget t f 1 r c := tget_same a b
  refine ⟨?_, fun p => by rw [g]; exact h.2.1 p, by rw [c, a]; exact h.2.2.1, fun p p0 p1 => by rw [d, g]; exact h.2.2.2 p p0 (by rw [← a]; exact p1)⟩
  have q := h.1
  unfold tOK at q ⊢
  rw [a]; exact q
theorem TLI.of {t t2 : uN} {f f2 : uF} (h : TLI t f) (a : t2 96 3 = t 96 3) (b : ∀ i, f2 97 i = f 97 i) (c : t2 100 31 = t 100 31) (d : ∀ k i, k = 114 ∨ k = 115 → f2 k i = f k i) : TLI t2 f2 := by
  have g : ∀ r c, tget t2 f2 96 r c = tget t f 96 r c := tget_same a b
  refine ⟨⟨?_, fun i => by rw [g, g]; exact h.1.2 i⟩, by rw [c, a]; exact h.2.1, fun p p0 p1 => by rw [d 114 p (by omega), d 115 p (by omega), g, g]; exact h.2.2 p p0 (by rw [← a]; exact p1)⟩
  have q := h.1.1
  unfold tOK at q ⊢
  rw [a]; exact q
theorem BKI.of {t t2 : uN} {f f2 : uF} (h : BKI t f) (a : t2 98 3 = t 98 3) (b : ∀ i, f2 99 i = f 99 i) (c : t2 100 34 = t 100 34) (d : ∀ i, f2 116 i = f 116 i) : BKI t2 f2 := by
  have g : ∀ r c, tget t2 f2 98 r c = tget t f 98 r c := tget_same a b
  refine ⟨⟨?_, fun i => by rw [g]; exact h.1.2 i⟩, by rw [c, a]; exact h.2.1, fun p p0 p1 => by rw [d, g]; exact h.2.2 p p0 (by rw [← a]; exact p1)⟩
  have q := h.1.1
  unfold tOK at q ⊢
  rw [a]; exact q
theorem rcX_kd (t : uN) (j : Int) : kd (rcX t j) = 4 := kd_ring (by omega)
theorem IM.same {t t2 : uN} {f f2 : uF} {k : Nat} {h : Int} (hk : kd k = 4) (H : IM t f k h) (v : ∀ c j, c = 12 ∨ c = 14 ∨ c = 16 → t2 c j = t c j) (vf : ∀ c, c = 13 ∨ c = 15 ∨ c = 17 → ∀ i, f2 c i = f c i) (e : ∀ j, t2 k j = t k j) (en : t2 (k + 1) 3 = t (k + 1) 3) (ef : ∀ i : Int, f2 (k + 2) i = f (k + 2) i) (ew : ∀ i : Int, h ≤ i → i < h + 41 → f2 101 i = f 101 i) : IM t2 f2 k h :=
  H.cp hk hk (v 12 3 (by omega)) (v 14 3 (by omega)) (v 16 3 (by omega)) vf (fun j _ _ => e j) en (fun i _ _ => ef i) (fun i i0 i1 => ew _ (by omega) (by omega))
theorem RGI.of {t t2 : uN} {f f2 : uF} (h : RGI t f) (ht : ∀ k j, k = 12 ∨ k = 14 ∨ k = 16 ∨ (21 ≤ k ∧ k < 83) → t2 k j = t k j) (hf : ∀ k i, k = 13 ∨ k = 15 ∨ k = 17 ∨ (21 ≤ k ∧ k < 83) → f2 k i = f k i) (hm : t2 100 2 = t 100 2) (hw : ∀ i : Int, 168 ≤ i → f2 101 i = f 101 i) : RGI t2 f2 := by
  have e1 := ht 21 1 (by omega)
  have e2 := ht 21 2 (by omega)
  have er : ∀ j, rcX t2 j = rcX t j := fun j => by unfold rcX; rw [e1, e2]
  refine ⟨⟨by rw [e1]; exact h.1.1, by rw [e2]; exact h.1.2.1, fun j hj => SOK_off (h.1.2.2 j hj) (fun i => ht _ i (by omega)) (ht _ 3 (by omega)) (fun i => hf _ i (by omega))⟩, by rw [hm, e2]; exact h.2.1, fun j j0 j1 => ?_⟩
  rw [er]
  have hb : 23 ≤ rcX t j ∧ rcX t j ≤ 80 := by unfold rcX; omega
  exact (h.2.2 j j0 (by rw [← e2]; exact j1)).same (rcX_kd t j) (fun c i hc => ht c i (by omega)) (fun c hc i => hf c i (by omega)) (fun i => ht _ i (by omega)) (ht _ 3 (by omega)) (fun i => hf _ i (by omega)) (fun i i0 i1 => hw i (by omega))
theorem KP1.of {t t2 : uN} {f f2 : uF} {k : Nat} {i : Int} (hk : kd (k + 1) = 4) (h : KP1 t f k i) (ht : ∀ q j, q = 12 ∨ q = 14 ∨ q = 16 ∨ q = k ∨ q = k + 1 ∨ q = k + 2 → t2 q j = t q j) (hf : ∀ q j, q = 13 ∨ q = 15 ∨ q = 17 ∨ q = k + 3 → f2 q j = f q j) (hm : f2 102 i = f 102 i) (hw : ∀ j : Int, 84 + 42 * i ≤ j → j < 84 + 42 * i + 42 → f2 101 j = f 101 j) : KP1 t2 f2 k i := by
  obtain ⟨h1, h2, h3, h4, h5⟩ := h
  refine ⟨SOK_off h1 (fun j => ht _ j (by omega)) (ht _ 3 (by omega)) (fun j => hf _ j (by omega)), by rw [ht k 2 (by omega)]; exact h2, by rw [ht k 1 (by omega)]; exact h3, by rw [hm, ht k 2 (by omega)]; exact h4, fun q => ?_⟩
  rw [ht k 2 (by omega)] at q
  obtain ⟨a, b⟩ := h5 q
  refine ⟨a.same hk (fun c j hc => ht c j (by omega)) (fun c hc j => hf c j (by omega)) (fun j => ht _ j (by omega)) (ht _ 3 (by omega)) (fun j => hf _ j (by omega)) (fun j j0 j1 => hw j j0 (by omega)), ?_⟩
  rw [hw _ (by omega) (by omega), ht k 1 (by omega)]; exact b
theorem KPI.of {t t2 : uN} {f f2 : uF} (h : KPI t f) (ht : ∀ q j, q = 12 ∨ q = 14 ∨ q = 16 ∨ (83 ≤ q ∧ q < 91) → t2 q j = t q j) (hf : ∀ q j, q = 13 ∨ q = 15 ∨ q = 17 ∨ q = 86 ∨ q = 90 → f2 q j = f q j) (hm : ∀ i, f2 102 i = f 102 i) (hw : ∀ j : Int, 84 ≤ j → j < 168 → f2 101 j = f 101 j) : KPI t2 f2 :=
  ⟨h.1.of rfl (fun q j hq => ht q j (by omega)) (fun q j hq => hf q j (by omega)) (hm 0) (fun j j0 j1 => hw j (by omega) (by omega)), h.2.of rfl (fun q j hq => ht q j (by omega)) (fun q j hq => hf q j (by omega)) (hm 1) (fun j j0 j1 => hw j (by omega) (by omega))⟩
theorem plS_same {t t2 : uN} {f f2 : uF} (ht : ∀ k j, k = 12 ∨ k = 14 ∨ k = 16 ∨ k = 18 ∨ k = 19 → t2 k j = t k j) (hf : ∀ k i, k = 13 ∨ k = 15 ∨ k = 17 ∨ k = 20 → f2 k i = f k i) (b0 : Int → Int) : plS t2 f2 (lbpX t2 f2) b0 = plS t f (lbpX t f) b0 := by
  have g12 : ∀ r c, tget t2 f2 12 r c = tget t f 12 r c := tget_same (ht 12 3 (by omega)) (fun i => hf 13 i (by omega))
  have g14 : ∀ r c, tget t2 f2 14 r c = tget t f 14 r c := tget_same (ht 14 3 (by omega)) (fun i => hf 15 i (by omega))
  have g19 : ∀ r c, tget t2 f2 19 r c = tget t f 19 r c := tget_same (ht 19 3 (by omega)) (fun i => hf 20 i (by omega))
  have ed : ∀ x y, dueS t2 f2 18 x y = dueS t f 18 x y := fun x y => by
    unfold dueS
    rw [show t2 (18 + 1) 3 = t (18 + 1) 3 from ht 19 3 (by omega)]
    refine sumR_congr fun i _ _ => ?_
    unfold dueX
    rw [g19, g19]
  have el : lbpX t2 f2 = lbpX t f := by
    unfold lbpX smX
    rw [g12, g12, ed, ed, ht 18 2 (by omega)]
  have eo : oddX t2 f2 11 = oddX t f 11 := by funext a b; unfold oddX; rw [g14, g14]
  have ec : (fun j => tget t2 f2 14 j 2) = fun j => tget t f 14 j 2 := by funext a; rw [g14]
  unfold plS
  rw [el, eo, ec, ht 18 3 (by omega), ht 14 3 (by omega), ht 18 1 (by omega), ht 18 2 (by omega)]
theorem PLI.of {t t2 : uN} {f f2 : uF} (h : PLI t f) (ht : ∀ k j, k = 12 ∨ k = 14 ∨ k = 16 ∨ k = 18 ∨ k = 19 ∨ k = 91 ∨ k = 94 → t2 k j = t k j) (hf : ∀ k i, k = 13 ∨ k = 15 ∨ k = 17 ∨ k = 20 ∨ k = 95 → f2 k i = f k i) : PLI t2 f2 := by
  refine ⟨?_, by rw [ht 91 6 (by omega)]; exact h.2.1, fun q => ?_⟩
  · have q := h.1
    unfold tOK at q ⊢
    rw [ht 94 3 (by omega)]; exact q
  · rw [ht 91 6 (by omega)] at q
    obtain ⟨b0, q1, q2, q3⟩ := h.2.2 q
    refine ⟨b0, ?_, ?_, fun i i0 i1 => ?_⟩
    · rw [plS_same (fun k j hk => ht k j (by omega)) (fun k i hk => hf k i (by omega)), ht 91 5 (by omega)]; exact q1
    · rw [plS_same (fun k j hk => ht k j (by omega)) (fun k i hk => hf k i (by omega)), ht 94 3 (by omega)]; exact q2
    · rw [plS_same (fun k j hk => ht k j (by omega)) (fun k i hk => hf k i (by omega)), hf 95 i (by omega)]
      exact q3 i i0 (by rw [← ht 14 3 (by omega), ← ht 18 3 (by omega)]; exact i1)
theorem PLI.off {t t2 : uN} {f f2 : uF} (h : PLI t f) (h94 : t2 94 3 = t 94 3) (h6 : t2 91 6 = 0) : PLI t2 f2 := by
  refine ⟨?_, Or.inl h6, fun q => by omega⟩
  have q := h.1
  unfold tOK at q ⊢
  rw [h94]; exact q
theorem ML.same {t t2 : uN} {f f2 : uF} (L : ML t f t f) (ht : ∀ k j, k = 12 ∨ k = 14 ∨ k = 16 ∨ k = 18 ∨ k = 19 → t2 k j = t k j) (hf : ∀ k i, k = 13 ∨ k = 15 ∨ k = 17 ∨ k = 20 ∨ (103 ≤ k ∧ k ≤ 107) → f2 k i = f k i) (hm : ∀ j, j = 3 ∨ j = 4 ∨ j = 5 ∨ j = 6 ∨ j = 10 → t2 100 j = t 100 j) (hw : ∀ i : Int, 0 ≤ i → i < 41 → f2 101 i = f 101 i) : ML t2 f2 t2 f2 := by
  have hb := L.1.b
  have hk := L.2.1.2.1
  have p := L.p
  exact L.of (ht 12 3 (by omega)) (ht 14 3 (by omega)) (ht 16 3 (by omega)) (ht 19 3 (by omega)) (by rw [ht 18 1 (by omega)]; exact hb.1.1) (by rw [ht 18 2 (by omega)]; omega) (by rw [ht 18 3 (by omega)]; omega) (by rw [ht 18 4 (by omega)]; exact hb.1.2.2.2) (fun c hc i => hf c i (by omega)) hm (fun k i h1 h2 => hf k i (by omega))
    (by rw [hw 0 (by omega) (by omega), ht 18 3 (by omega)]; exact p.1) (by rw [hw 1 (by omega) (by omega), ht 18 4 (by omega)]; exact p.2.1) (by rw [hw 2 (by omega) (by omega), ht 18 1 (by omega)]; exact p.2.2.1) (by rw [hw 3 (by omega) (by omega), ht 18 2 (by omega)]; exact p.2.2.2.1) (fun j h1 h2 => hw j (by omega) h2)
/-- the model's cells are what counts for ML -/
theorem ML.hi {a : uN} {b : uF} {t t2 : uN} {f f2 : uF} (L : ML a b t f) (hm : ∀ j, t2 100 j = t 100 j) (hf : ∀ k i, 101 ≤ k → f2 k i = f k i) : ML a b t2 f2 := by
  have hb := L.1.b
  have hk := L.2.1.2.1
  have p := L.p
  exact L.of rfl rfl rfl rfl hb.1.1 (by omega) (by omega) hb.1.2.2.2 (fun _ _ _ => rfl) (fun j _ => hm j) (fun k i h1 _ => hf k i (by omega)) (by rw [hf 101 0 (by omega)]; exact p.1) (by rw [hf 101 1 (by omega)]; exact p.2.1) (by rw [hf 101 2 (by omega)]; exact p.2.2.1) (by rw [hf 101 3 (by omega)]; exact p.2.2.2.1) (fun j _ _ => hf 101 j (by omega))
/-- scratch changes nothing -/
theorem LR.scr {t t2 : uN} {f f2 : uF} (h : LR t f) (hs : Scr t f t2 f2) : LR t2 f2 := by
  obtain ⟨a, b, c, d, e, g, i, j⟩ := h
  have T : ∀ k j, k ≠ 100 → t2 k j = t k j := fun k j hk => hs.1 k j (by omega)
  have F : ∀ k j, k < 101 → f2 k j = f k j := fun k j hk => hs.2 k j (by omega)
  refine ⟨a.same (fun k j hk => T k j (by omega)) (fun k i hk => hs.2 k i (by omega)) (fun j hj => hs.1 100 j (by omega)) (fun i i0 i1 => hs.2 101 i (by omega)), b.of (T 1 3 (by omega)) (fun i => F 2 i (by omega)) (hs.1 100 14 (by omega)) (fun i => hs.2 108 i (by omega)), c.of (T 96 3 (by omega)) (fun i => F 97 i (by omega)) (hs.1 100 31 (by omega)) (fun k i hk => hs.2 k i (by omega)), d.of (T 98 3 (by omega)) (fun i => F 99 i (by omega)) (hs.1 100 34 (by omega)) (fun i => hs.2 116 i (by omega)), ?_, g.of (fun k j hk => T k j (by omega)) (fun k i hk => F k i (by omega)) (hs.1 100 2 (by omega)) (fun i hi => hs.2 101 i (by omega)), i.of (fun k j hk => T k j (by omega)) (fun k i hk => F k i (by omega)) (fun i => hs.2 102 i (by omega)) (fun i i0 i1 => hs.2 101 i (by omega)), j.of (fun k j hk => T k j (by omega)) (fun k i hk => F k i (by omega))⟩
  exact ⟨by rw [T 0 11 (by omega)]; exact e.1, by rw [hs.2 101 41 (by omega), T 0 11 (by omega)]; exact e.2.1, by rw [hs.1 100 19 (by omega), T 0 10 (by omega)]; exact e.2.2⟩

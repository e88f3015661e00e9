/-! the plan: the search over all ways, port by port; what is cut is no better -/
theorem up2_ne (t : uN) {k k2 j j2 : Nat} (z : Int) (h : ¬ (k2 = k ∧ j2 = j)) : up2 t k j z k2 j2 = t k2 j2 := by
  by_cases h1 : k2 = k
  · subst h1
    exact up2_j _ _ _ (fun q => h ⟨rfl, q⟩)
  · exact up2_k _ _ _ _ h1
theorem up2_up (t : uN) (k j : Nat) (y z : Int) : up2 (up2 t k j y) k j z = up2 t k j z := by
  funext a b
  by_cases h : a = k ∧ b = j
  · rw [h.1, h.2, up2_s, up2_s]
  · rw [up2_ne _ _ h, up2_ne _ _ h, up2_ne _ _ h]
theorem up2_of {t tz : uN} {k j : Nat} {a : Int} (h : tz = up2 t k j a) (b : Int) : up2 tz k j b = up2 t k j b := by rw [h, up2_up]
theorem up2_id (t : uN) (k j : Nat) : up2 t k j (t k j) = t := by
  funext a b
  by_cases h : a = k ∧ b = j
  · rw [h.1, h.2, up2_s]
  · rw [up2_ne _ _ h]
def pl (co : Int → Int) (od : Int → Int → Int) (L fi : Int) : Nat → Int → Int → Int → Int → (Int → Int) → Int × (Int → Int) → Int × (Int → Int)
  | 0, _, _, pu, ch, pre, mb => if (ch * max 0 (L + pu)).tdiv 1000 ≤ mb.1 then mb else ((ch * max 0 (L + pu)).tdiv 1000, pre)
  | n + 1, po, st, pu, ch, pre, mb =>
    (fun mb => if 9 < st + 2 ∨ pu - 2 * co (fi + po) < 0 then mb else pl co od L fi n (po + 1) (max 0 (st + 2 - 1)) (pu - 2 * co (fi + po)) ((ch * (100 - od (fi + po) (st + 2))).tdiv 100) (up1 pre po 2) mb)
      ((fun mb => if 9 < st + 1 ∨ pu - 1 * co (fi + po) < 0 then mb else pl co od L fi n (po + 1) (max 0 (st + 1 - 1)) (pu - 1 * co (fi + po)) ((ch * (100 - od (fi + po) (st + 1))).tdiv 100) (up1 pre po 1) mb)
        ((fun mb => if 9 < st + 0 ∨ pu - 0 * co (fi + po) < 0 then mb else pl co od L fi n (po + 1) (max 0 (st + 0 - 1)) (pu - 0 * co (fi + po)) ((ch * (100 - od (fi + po) (st + 0))).tdiv 100) (up1 pre po 0) mb) mb))
def plk (co : Int → Int) (od : Int → Int → Int) (L fi : Int) (n : Nat) (po st pu ch : Int) (pre : Int → Int) (k : Int) (mb : Int × (Int → Int)) : Int × (Int → Int) :=
  if 9 < st + k ∨ pu - k * co (fi + po) < 0 then mb else pl co od L fi n (po + 1) (max 0 (st + k - 1)) (pu - k * co (fi + po)) ((ch * (100 - od (fi + po) (st + k))).tdiv 100) (up1 pre po k) mb
def plF (co : Int → Int) (od : Int → Int → Int) (L fi : Int) (n : Nat) (po st pu ch : Int) (pre : Int → Int) (mb : Int × (Int → Int)) : Nat → Int × (Int → Int)
  | 0 => mb
  | k + 1 => plk co od L fi n po st pu ch pre k (plF co od L fi n po st pu ch pre mb k)
theorem pl_succ (co : Int → Int) (od : Int → Int → Int) (L fi : Int) (n : Nat) (po st pu ch : Int) (pre : Int → Int) (mb : Int × (Int → Int)) : pl co od L fi (n + 1) po st pu ch pre mb = plF co od L fi n po st pu ch pre mb 3 := rfl
theorem pl_s3 (co : Int → Int) (od : Int → Int → Int) (L fi : Int) (n : Nat) (po st pu ch : Int) (pre : Int → Int) (mb : Int × (Int → Int)) : pl co od L fi (n + 1) po st pu ch pre mb = plk co od L fi n po st pu ch pre 2 (plk co od L fi n po st pu ch pre 1 (plk co od L fi n po st pu ch pre 0 mb)) := rfl
theorem val_le {ch ch2 a b : Int} (h0 : 0 ≤ ch2) (h1 : ch2 ≤ ch) (ha : a ≤ b) : (ch2 * max 0 a).tdiv 1000 ≤ (ch * max 0 b).tdiv 1000 := by
  have m0 : 0 ≤ ch2 * max 0 a := Int.mul_nonneg h0 (by omega)
  have m1 : ch2 * max 0 a ≤ ch * max 0 b := Int.mul_le_mul h1 (by omega) (by omega) (by omega)
  rw [Int.tdiv_eq_ediv_of_nonneg m0, Int.tdiv_eq_ediv_of_nonneg (by omega)]
  omega
theorem pl_cut {co : Int → Int} {od : Int → Int → Int} {L fi : Int} (hc : ∀ l, 0 ≤ co l) (ho : ∀ l s, 0 ≤ s → s ≤ 9 → 0 ≤ od l s ∧ od l s ≤ 100) (n : Nat) : ∀ (po st pu ch : Int) (pre : Int → Int) (mb : Int × (Int → Int)), 0 ≤ st → 0 ≤ ch → ch ≤ 1000000 → (ch * max 0 (L + pu)).tdiv 1000 ≤ mb.1 → pl co od L fi n po st pu ch pre mb = mb := by
  induction n with
  | zero => intro po st pu ch pre mb _ _ _ h; rw [pl, if_pos h]
  | succ n ih =>
    intro po st pu ch pre mb hs h0 h1 h
    have hk : ∀ k : Int, 0 ≤ k → plk co od L fi n po st pu ch pre k mb = mb := by
      intro k hk
      unfold plk
      split
      · rfl
      · next hn =>
        have q := ho (fi + po) (st + k) (by omega) (by omega)
        have r := step_rng h0 h1 q.1 q.2
        have w : 0 ≤ k * co (fi + po) := Int.mul_nonneg hk (hc _)
        exact ih _ _ _ _ _ _ (by omega) r.2.2.1 (by omega) (Int.le_trans (val_le r.2.2.1 r.2.2.2 (by omega)) h)
    rw [pl_s3, hk 0 (by omega), hk 1 (by omega), hk 2 (by omega)]
theorem pl_rng {co : Int → Int} {od : Int → Int → Int} {L fi : Int} (ho : ∀ l s, 0 ≤ s → s ≤ 9 → 0 ≤ od l s ∧ od l s ≤ 100) (hc : ∀ l, 0 ≤ co l) (hL : L ≤ 2000) (n : Nat) : ∀ (po st pu ch : Int) (pre : Int → Int) (mb : Int × (Int → Int)), 0 ≤ st → 0 ≤ ch → ch ≤ 1000000 → pu ≤ 10000 → -1 ≤ mb.1 → mb.1 ≤ 12000000 → -1 ≤ (pl co od L fi n po st pu ch pre mb).1 ∧ (pl co od L fi n po st pu ch pre mb).1 ≤ 12000000 := by
  induction n with
  | zero =>
    intro po st pu ch pre mb _ h0 h1 h2 h3 h4
    rw [pl]
    split
    · exact ⟨h3, h4⟩
    · have m0 : 0 ≤ ch * max 0 (L + pu) := Int.mul_nonneg h0 (by omega)
      have m1 : ch * max 0 (L + pu) ≤ 1000000 * 12000 := Int.mul_le_mul h1 (by omega) (by omega) (by omega)
      show -1 ≤ (ch * max 0 (L + pu)).tdiv 1000 ∧ (ch * max 0 (L + pu)).tdiv 1000 ≤ 12000000
      rw [Int.tdiv_eq_ediv_of_nonneg m0]
      omega
  | succ n ih =>
    intro po st pu ch pre mb hs h0 h1 h2 h3 h4
    have hk : ∀ (k : Int) (mb : Int × (Int → Int)), 0 ≤ k → -1 ≤ mb.1 → mb.1 ≤ 12000000 → -1 ≤ (plk co od L fi n po st pu ch pre k mb).1 ∧ (plk co od L fi n po st pu ch pre k mb).1 ≤ 12000000 := by
      intro k mb hk h3 h4
      unfold plk
      split
      · exact ⟨h3, h4⟩
      · next hn =>
        have q := ho (fi + po) (st + k) (by omega) (by omega)
        have r := step_rng h0 h1 q.1 q.2
        have w : 0 ≤ k * co (fi + po) := Int.mul_nonneg hk (hc _)
        exact ih _ _ _ _ _ _ (by omega) r.2.2.1 (by omega) (by omega) h3 h4
    rw [pl_s3]
    have a := hk 0 mb (by omega) h3 h4
    have b := hk 1 _ (by omega) a.1 a.2
    exact hk 2 _ (by omega) b.1 b.2
def PLE (co : Int → Int) (od : Int → Int → Int) (L fi P : Int) (t : uN) (f : uF) : Prop :=
  (∀ l, tget t f 14 l 2 = co l) ∧ (∀ l s, oddX t f 11 l s = od l s) ∧ t 91 4 = L ∧ t 91 3 = fi ∧ t 92 3 = P ∧ tOK t 94 ∧ VOK t f 11
def PLD (P : Int) (t : uN) (f : uF) (mb : Int × (Int → Int)) : Prop := t 91 5 = mb.1 ∧ t 94 3 = mb.2 (-1) ∧ ∀ i, 0 ≤ i → i < P → f 95 i = mb.2 i
def PLfr (t : uN) (f : uF) (t2 : uN) (f2 : uF) : Prop := (∀ k j, ¬ (k = 91 ∧ j = 5) → ¬ (k = 94 ∧ j = 3) → t2 k j = t k j) ∧ ∀ k i, k ≠ 93 → k ≠ 95 → f2 k i = f k i
def PLB (P : Int) (n : Nat) (po st pu ch L fi : Int) (pre : Int → Int) (mb : Int × (Int → Int)) : Prop := ((n : Int) + po = P ∧ 0 ≤ po ∧ P ≤ 7 ∧ 0 ≤ fi ∧ fi + P ≤ 7) ∧ (0 ≤ st ∧ st ≤ 9) ∧ (0 ≤ pu ∧ pu ≤ 10000) ∧ (0 ≤ ch ∧ ch ≤ 1000000) ∧ (-40000 ≤ L ∧ L ≤ 2000) ∧ pre (-1) = P ∧ (-1 ≤ mb.1 ∧ mb.1 ≤ 12000000)
def PLQ (co : Int → Int) (od : Int → Int → Int) (L fi P : Int) (t : uN) (f : uF) (po : Int) (pre : Int → Int) (mb : Int × (Int → Int)) (t2 : uN) (f2 : uF) : Prop :=
  PLE co od L fi P t2 f2 ∧ PLD P t2 f2 mb ∧ (∀ i, 0 ≤ i → i < po → f2 93 i = pre i) ∧ PLfr t f t2 f2 ∧ (-1 ≤ mb.1 ∧ mb.1 ≤ 12000000)
theorem PLE.fr {co : Int → Int} {od : Int → Int → Int} {L fi P : Int} {t t2 : uN} {f f2 : uF} (h : PLE co od L fi P t f) (hf : PLfr t f t2 f2) (h94 : tOK t2 94) : PLE co od L fi P t2 f2 := by
  have e : ∀ k, k ≠ 91 → k ≠ 94 → t2 k 3 = t k 3 := fun k h1 h2 => hf.1 k 3 (by omega) (by omega)
  have g14 : ∀ r c, tget t2 f2 14 r c = tget t f 14 r c := tget_same (e 14 (by decide) (by decide)) (fun i => hf.2 15 i (by decide) (by decide))
  refine ⟨fun l => by rw [g14]; exact h.1 l, fun l s => ?_, by rw [hf.1 91 4 (by omega) (by omega)]; exact h.2.2.1, by rw [hf.1 91 3 (by omega) (by omega)]; exact h.2.2.2.1, by rw [e 92 (by decide) (by decide)]; exact h.2.2.2.2.1, h94, h.2.2.2.2.2.2.of (e 12 (by decide) (by decide)) (e 14 (by decide) (by decide)) (e 16 (by decide) (by decide)) (fun c hc i => hf.2 c i (by omega) (by omega))⟩
  rw [← h.2.1 l s]
  unfold oddX
  rw [g14, g14]
theorem PLfr.rf {t : uN} {f : uF} : PLfr t f t f := ⟨fun _ _ _ _ => rfl, fun _ _ _ _ => rfl⟩
theorem PLfr.tr {t t2 t3 : uN} {f f2 f3 : uF} (h : PLfr t f t2 f2) (h2 : PLfr t2 f2 t3 f3) : PLfr t f t3 f3 := ⟨fun k j a b => (h2.1 k j a b).trans (h.1 k j a b), fun k i a b => (h2.2 k i a b).trans (h.2 k i a b)⟩
/-- the search from a port on, n ports before the end, by contract -/
def TF (l : Launch) (g : uG) (n : Nat) : Prop := ∀ (co : Int → Int) (od : Int → Int → Int) (L fi P : Int) (t : uN) (f : uF) (po st pu ch : Int) (pre : Int → Int) (mb : Int × (Int → Int)), PLB P n po st pu ch L fi pre mb → PLE co od L fi P t f → PLD P t f mb → (∀ i, 0 ≤ i → i < po → f 93 i = pre i) →
  cR_v l yX2_tryFrom cX2_tryFrom 8 (6 + 2 * n) g [.ref (g.1 + 91), .int (iV po), .int (iV st), .int (iV pu), .int (iV ch)] t f (PLQ co od L fi P t f po pre (pl co od L fi n po st pu ch pre mb))
/-- a new search: what it leaves as it was -/
def FBfr (t : uN) (f : uF) (t2 : uN) (f2 : uF) : Prop := (∀ k j, ¬ (k = 91 ∧ 3 ≤ j) → ¬ (k = 92 ∧ j = 3) → ¬ (k = 94 ∧ j = 3) → t2 k j = t k j) ∧ ∀ k i, k ≠ 93 → k ≠ 95 → f2 k i = f k i
theorem FBfr.tr {t t2 t3 : uN} {f f2 f3 : uF} (h : FBfr t f t2 f2) (h2 : FBfr t2 f2 t3 f3) : FBfr t f t3 f3 := ⟨fun k j a b c => (h2.1 k j a b c).trans (h.1 k j a b c), fun k i a b => (h2.2 k i a b).trans (h.2 k i a b)⟩
/-- the plan that is sought, from what was kept before on -/
def plS (t : uN) (f : uF) (q0 : Int) (b0 : Int → Int) : Int × (Int → Int) := pl (fun j => tget t f 14 j 2) (oddX t f 11) q0 (t 18 3) (t 14 3 - t 18 3).toNat 0 (t 18 1) (t 18 2) 1000000 (fun i => if i = -1 then t 14 3 - t 18 3 else 0) (-1, b0)
def FBQ (t : uN) (f : uF) (q0 : Int) (t2 : uN) (f2 : uF) : Prop := FBfr t f t2 f2 ∧ t2 91 6 = 1 ∧ (tOK t2 94) ∧ ∃ b0, PLD (t 14 3 - t 18 3) t2 f2 (plS t f q0 b0)
theorem FBQ_of {t tz t3 t4 : uN} {f fz f3 : uF} {q0 : Int} (hfr : FBfr t f tz fz) (hv : VOK tz fz 11) (e18 : ∀ j, tz 18 j = t 18 j) (e14 : tz 14 3 = t 14 3) (e5 : tz 91 5 = -1)
    (hq : PLQ (fun j => tget tz fz 14 j 2) (oddX tz fz 11) q0 (t 18 3) (t 14 3 - t 18 3) tz fz 0 (fun i => if i = -1 then t 14 3 - t 18 3 else 0) (pl (fun j => tget tz fz 14 j 2) (oddX tz fz 11) q0 (t 18 3) (t 14 3 - t 18 3).toNat 0 (tz 18 1) (tz 18 2) 1000000 (fun i => if i = -1 then t 14 3 - t 18 3 else 0) (-1, fun i => if i = -1 then tz 94 3 else fz 95 i)) t3 f3) (h4 : t4 = up2 t3 91 6 1) : FBQ t f q0 t4 f3 := by
  obtain ⟨q1, q2, -, q4, -⟩ := hq
  have g14 : ∀ r c, tget tz fz 14 r c = tget t f 14 r c := tget_same e14 (fun i => hfr.2 15 i (by decide) (by decide))
  have eo : oddX tz fz 11 = oddX t f 11 := by funext a b; unfold oddX; rw [g14, g14]
  have ec : (fun j => tget tz fz 14 j 2) = fun j => tget t f 14 j 2 := by funext a; rw [g14]
  have e94 : t4 94 3 = t3 94 3 := by rw [h4, up2_ne _ _ (by omega)]
  refine ⟨hfr.tr ⟨fun k j a b c => ?_, q4.2⟩, by rw [h4, up2_s], ?_, fun i => if i = -1 then tz 94 3 else fz 95 i, ?_, ?_, ?_⟩
  · rw [h4, up2_ne _ _ (by omega)]; exact q4.1 k j (by omega) c
  · have q := q1.2.2.2.2.2.1; unfold tOK at q ⊢; rw [e94]; exact q
  · rw [h4, up2_ne _ _ (by omega), q2.1, ec, eo, e18, e18]; rfl
  · rw [e94, q2.2.1, ec, eo, e18, e18]; rfl
  · intro i h0 h1
    rw [q2.2.2 i h0 h1, ec, eo, e18, e18]; rfl
def PQ (t : uN) (f : uF) (i : Int) (z : Int) (t2 : uN) (f2 : uF) : Prop := (goneX t = 1 ∧ z = -1000000003 ∧ t2 = t ∧ f2 = f) ∨
  (goneX t = 0 ∧ FBfr t f t2 f2 ∧ t2 91 6 = 1 ∧ tOK t2 94 ∧ (∃ b0, PLD (t 14 3 - t 18 3) t2 f2 (plS t f (lbpX t f) b0)) ∧ z = if i = -1 then t2 91 5 else (if thas t2 94 i = 1 then tget t2 f2 94 i 0 else -1))

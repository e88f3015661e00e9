/-! the plan: the search over all codes is the search port by port -/
def pw3 (n : Nat) : Int := ((3 ^ n : Nat) : Int)
theorem p3_s (n : Nat) : pw3 (n + 1) = pw3 n * 3 := by unfold pw3; rw [Nat.pow_succ]; omega
theorem p3_le {n : Nat} (h : n ≤ 7) : 1 ≤ pw3 n ∧ pw3 n ≤ 2187 := by
  have q : ∀ n, n < 8 → 1 ≤ pw3 n ∧ pw3 n ≤ 2187 := by decide +kernel
  exact q n (by omega)
theorem p3_d (n : Nat) : (pw3 (n + 1)).tdiv 3 = pw3 n := by
  have h : 0 ≤ pw3 n := Int.natCast_nonneg _
  rw [p3_s, Int.tdiv_eq_ediv_of_nonneg (by omega)]
  omega
def dg3 (c n : Nat) : Int := ((c / 3 ^ n % 3 : Nat) : Int)
theorem dg3_rng (c n : Nat) : 0 ≤ dg3 c n ∧ dg3 c n ≤ 2 := by unfold dg3; omega
theorem dg3_of {c : Int} (h : 0 ≤ c) (n : Nat) : (c.tdiv (pw3 n)).tmod 3 = dg3 c.toNat n := by
  obtain ⟨k, rfl⟩ : ∃ k : Nat, c = k := ⟨c.toNat, by omega⟩
  unfold dg3 pw3
  rw [Int.tdiv_eq_ediv_of_nonneg (by omega), ← Int.natCast_ediv, Int.tmod_eq_emod_of_nonneg (Int.natCast_nonneg _), Int.toNat_natCast]
  generalize k / 3 ^ n = y
  omega
def foC {β : Type} (h : Nat → β → β) : Nat → β → β
  | 0, x => x
  | n + 1, x => h n (foC h n x)
theorem foC_add {β : Type} (h : Nat → β → β) (m k : Nat) (x : β) : foC h (m + k) x = foC (fun c => h (m + c)) k (foC h m x) := by
  induction k with
  | zero => rfl
  | succ k ih =>
    show h (m + k) (foC h (m + k) x) = h (m + k) (foC (fun c => h (m + c)) k (foC h m x))
    rw [ih]
theorem foC_congr {β : Type} {h h2 : Nat → β → β} (m : Nat) (x : β) (q : ∀ c, c < m → ∀ y, h c y = h2 c y) : foC h m x = foC h2 m x := by
  induction m with
  | zero => rfl
  | succ m ih => rw [foC, foC, ih (fun c hc => q c (by omega)), q m (by omega)]
theorem foC_id {β : Type} (m : Nat) (x : β) : foC (fun _ y => y) m x = x := by
  induction m with
  | zero => rfl
  | succ m ih => rw [foC, ih]
def wy (co : Int → Int) (od : Int → Int → Int) (L fi : Int) : Nat → Int → Int → Int → Int → (Int → Int) → Nat → Int × (Int → Int) → Int × (Int → Int)
  | 0, _, _, pu, ch, pre, _, mb => if (ch * max 0 (L + pu)).tdiv 1000 ≤ mb.1 then mb else ((ch * max 0 (L + pu)).tdiv 1000, pre)
  | n + 1, po, st, pu, ch, pre, c, mb => if 9 < st + ((c / 3 ^ n : Nat) : Int) ∨ pu - ((c / 3 ^ n : Nat) : Int) * co (fi + po) < 0 then mb else wy co od L fi n (po + 1) (max 0 (st + ((c / 3 ^ n : Nat) : Int) - 1)) (pu - ((c / 3 ^ n : Nat) : Int) * co (fi + po)) ((ch * (100 - od (fi + po) (st + ((c / 3 ^ n : Nat) : Int)))).tdiv 100) (up1 pre po ((c / 3 ^ n : Nat) : Int)) (c % 3 ^ n) mb
theorem pl_fo (co : Int → Int) (od : Int → Int → Int) (L fi : Int) (n : Nat) : ∀ (po st pu ch : Int) (pre : Int → Int) (mb : Int × (Int → Int)), pl co od L fi n po st pu ch pre mb = foC (fun c => wy co od L fi n po st pu ch pre c) (3 ^ n) mb := by
  induction n with
  | zero => intro po st pu ch pre mb; rfl
  | succ n ih =>
    intro po st pu ch pre mb
    have hp : 0 < 3 ^ n := by have := (show ∀ n : Nat, 0 < 3 ^ n from fun n => by induction n with | zero => decide | succ n i => rw [Nat.pow_succ]; omega) n; exact this
    have blk : ∀ (k : Nat) (mb : Int × (Int → Int)), plk co od L fi n po st pu ch pre (k : Int) mb = foC (fun c => wy co od L fi (n + 1) po st pu ch pre (k * 3 ^ n + c)) (3 ^ n) mb := by
      intro k mb
      have e : ∀ c, c < 3 ^ n → (k * 3 ^ n + c) / 3 ^ n = k ∧ (k * 3 ^ n + c) % 3 ^ n = c := fun c hc => by
        rw [Nat.add_comm, Nat.add_mul_div_right _ _ hp, Nat.div_eq_of_lt hc, Nat.add_mul_mod_self_right, Nat.mod_eq_of_lt hc]
        omega
      unfold plk
      split
      · next hcut =>
        refine ((foC_congr (h2 := fun _ y => y) _ _ (fun c hc y => ?_)).trans (foC_id _ _)).symm
        show wy co od L fi (n + 1) po st pu ch pre (k * 3 ^ n + c) y = y
        rw [wy, (e c hc).1, if_pos hcut]
      · next hcut =>
        rw [ih]
        refine foC_congr _ _ (fun c hc y => ?_)
        show _ = wy co od L fi (n + 1) po st pu ch pre (k * 3 ^ n + c) y
        rw [wy, (e c hc).1, (e c hc).2, if_neg hcut]
    have h0 : ∀ mb, plk co od L fi n po st pu ch pre 0 mb = foC (fun c => wy co od L fi (n + 1) po st pu ch pre c) (3 ^ n) mb := fun mb => (blk 0 mb).trans (foC_congr _ _ (fun c _ y => by rw [Nat.zero_mul, Nat.zero_add]))
    have h1 : ∀ mb, plk co od L fi n po st pu ch pre 1 mb = foC (fun c => wy co od L fi (n + 1) po st pu ch pre (3 ^ n + c)) (3 ^ n) mb := fun mb => (blk 1 mb).trans (foC_congr _ _ (fun c _ y => by rw [Nat.one_mul]))
    have h2 : ∀ mb, plk co od L fi n po st pu ch pre 2 mb = foC (fun c => wy co od L fi (n + 1) po st pu ch pre (3 ^ n + 3 ^ n + c)) (3 ^ n) mb := fun mb => (blk 2 mb).trans (foC_congr _ _ (fun c _ y => by rw [show 2 * 3 ^ n = 3 ^ n + 3 ^ n by omega]))
    rw [pl_s3, h0, h1, h2, show 3 ^ (n + 1) = 3 ^ n + 3 ^ n + 3 ^ n by rw [Nat.pow_succ]; omega, foC_add, foC_add]
theorem pl_mono (co : Int → Int) (od : Int → Int → Int) (L fi : Int) (n : Nat) : ∀ (po st pu ch : Int) (pre : Int → Int) (mb : Int × (Int → Int)), mb.1 ≤ (pl co od L fi n po st pu ch pre mb).1 := by
  induction n with
  | zero =>
    intro po st pu ch pre mb
    rw [pl]
    split
    · exact Int.le_refl _
    · show mb.1 ≤ (ch * max 0 (L + pu)).tdiv 1000
      omega
  | succ n ih =>
    intro po st pu ch pre mb
    have hk : ∀ k mb, mb.1 ≤ (plk co od L fi n po st pu ch pre k mb).1 := fun k mb => by
      unfold plk
      split
      · exact Int.le_refl _
      · exact ih _ _ _ _ _ _
    rw [pl_s3]
    exact Int.le_trans (hk 0 mb) (Int.le_trans (hk 1 _) (hk 2 _))
theorem pl_pos {co : Int → Int} {od : Int → Int → Int} {L fi : Int} (ho : ∀ l s, 0 ≤ s → s ≤ 9 → 0 ≤ od l s ∧ od l s ≤ 100) (n : Nat) : ∀ (po st pu ch : Int) (pre : Int → Int) (mb : Int × (Int → Int)), 0 ≤ st → st ≤ 9 → 0 ≤ pu → 0 ≤ ch → ch ≤ 1000000 → 0 ≤ (pl co od L fi n po st pu ch pre mb).1 := by
  induction n with
  | zero =>
    intro po st pu ch pre mb _ _ _ h0 h1
    have m0 : 0 ≤ ch * max 0 (L + pu) := Int.mul_nonneg h0 (by omega)
    have m1 : 0 ≤ (ch * max 0 (L + pu)).tdiv 1000 := by rw [Int.tdiv_eq_ediv_of_nonneg m0]; omega
    rw [pl]
    split
    · omega
    · exact m1
  | succ n ih =>
    intro po st pu ch pre mb s0 s1 p0 h0 h1
    have hk : ∀ k mb, mb.1 ≤ (plk co od L fi n po st pu ch pre k mb).1 := fun k mb => by
      unfold plk
      split
      · exact Int.le_refl _
      · exact pl_mono _ _ _ _ _ _ _ _ _ _ _
    have q := ho (fi + po) (st + 0) (by omega) (by omega)
    have r := step_rng h0 h1 q.1 q.2
    have a : 0 ≤ (plk co od L fi n po st pu ch pre 0 mb).1 := by
      unfold plk
      rw [if_neg (by rw [Int.zero_mul]; omega)]
      exact ih _ _ _ _ _ _ (by omega) (by omega) (by rw [Int.zero_mul]; omega) r.2.2.1 (by omega)
    rw [pl_s3]
    exact Int.le_trans a (Int.le_trans (hk 1 _) (hk 2 _))
def preC (a : uN) : Int → Int := fun i => if i = -1 then a 14 3 - a 18 3 else 0
def wyC (a : uN) (b : uF) (c : Nat) (M : Int × (Int → Int)) : Int × (Int → Int) := wy (fun j => tget a b 14 j 2) (oddX a b 11) (lbpX a b) (a 18 3) (a 14 3 - a 18 3).toNat 0 (a 18 1) (a 18 2) 1000000 (preC a) c M
def plC (a : uN) (b : uF) (b0 : Int → Int) (c : Nat) : Int × (Int → Int) := foC (wyC a b) c (-1, b0)
theorem plC_end (a : uN) (b : uF) (b0 : Int → Int) : plC a b b0 (3 ^ (a 14 3 - a 18 3).toNat) = plS a b (lbpX a b) b0 := (pl_fo _ _ _ _ _ _ _ _ _ _ _).symm
/-- along a code -/
def WYA (a : uN) (b : uF) (c : Nat) (M : Int × (Int → Int)) (q x st pu ch : Int) (pre : Int → Int) : Prop :=
  (a 18 3 ≤ q ∧ q ≤ a 14 3) ∧ x = pw3 (a 14 3 - q).toNat ∧ (0 ≤ st ∧ st ≤ 9) ∧ (0 ≤ pu ∧ pu ≤ 10000) ∧ (0 ≤ ch ∧ ch ≤ 1000000) ∧
  wy (fun j => tget a b 14 j 2) (oddX a b 11) (lbpX a b) (a 18 3) (a 14 3 - q).toNat (q - a 18 3) st pu ch pre (c % 3 ^ (a 14 3 - q).toNat) M = wyC a b c M ∧
  (∀ i, 0 ≤ i → i < q - a 18 3 → pre i = dg3 c (a 14 3 - a 18 3 - 1 - i).toNat) ∧ pre (-1) = a 14 3 - a 18 3
theorem WYA_init {a : uN} {b : uF} {c : Nat} {M : Int × (Int → Int)} (h : HI a b) (hle : a 18 3 ≤ a 14 3) (hc : c < 3 ^ (a 14 3 - a 18 3).toNat) : WYA a b c M (a 18 3) (pw3 (a 14 3 - a 18 3).toNat) (a 18 1) (a 18 2) 1000000 (preC a) := by
  have hb := h.b
  refine ⟨⟨by omega, hle⟩, rfl, by omega, by omega, by omega, ?_, fun i i0 i1 => absurd i1 (by omega), if_pos rfl⟩
  rw [Nat.mod_eq_of_lt hc, show a 18 3 - a 18 3 = 0 by omega]
  rfl
theorem wy_dig (c n : Nat) : c % 3 ^ (n + 1) / 3 ^ n = c / 3 ^ n % 3 ∧ c % 3 ^ (n + 1) % 3 ^ n = c % 3 ^ n := by
  rw [Nat.pow_succ]
  exact ⟨Nat.mod_mul_right_div_self c (3 ^ n) 3, Nat.mod_mul_right_mod c (3 ^ n) 3⟩
theorem WYA_cut {a : uN} {b : uF} {c : Nat} {M : Int × (Int → Int)} {q x st pu ch k : Int} {pre : Int → Int} (W : WYA a b c M q x st pu ch pre) (hq : q < a 14 3) (hk : k = dg3 c (a 14 3 - q - 1).toNat) (hcut : 9 < st + k ∨ pu - k * tget a b 14 q 2 < 0) : wyC a b c M = M := by
  obtain ⟨w1, w2, w3, w4, w5, w6, -, -⟩ := W
  rw [← w6, show (a 14 3 - q).toNat = (a 14 3 - q - 1).toNat + 1 by omega, wy, (wy_dig _ _).1]
  rw [if_pos]
  change 9 < st + dg3 c _ ∨ pu - dg3 c _ * tget a b 14 (a 18 3 + (q - a 18 3)) 2 < 0
  rw [← hk, show a 18 3 + (q - a 18 3) = q by omega]
  exact hcut
theorem WYA_step {a : uN} {b : uF} {c : Nat} {M : Int × (Int → Int)} {q x st pu ch k : Int} {pre : Int → Int} (h : HI a b) (W : WYA a b c M q x st pu ch pre) (hq : q < a 14 3) (hk : k = dg3 c (a 14 3 - q - 1).toNat) (hcut : ¬ (9 < st + k ∨ pu - k * tget a b 14 q 2 < 0)) : WYA a b c M (q + 1) (pw3 (a 14 3 - q - 1).toNat) (max 0 (st + k - 1)) (pu - k * tget a b 14 q 2) ((ch * (100 - oddX a b 11 q (st + k))).tdiv 100) (up1 pre (q - a 18 3) k) := by
  obtain ⟨w1, w2, w3, w4, w5, w6, w7, w8⟩ := W
  have kr := dg3_rng c (a 14 3 - q - 1).toNat
  rw [← hk] at kr
  have hl := h.leg q
  have hm : 0 ≤ k * tget a b 14 q 2 := Int.mul_nonneg kr.1 hl.2.2.1
  have ho := oddX_rng h.1 q (st + k) (by omega) (by omega)
  have hs := step_rng w5.1 w5.2 ho.1 ho.2.1
  refine ⟨⟨by omega, by omega⟩, by rw [show a 14 3 - (q + 1) = a 14 3 - q - 1 by omega], by omega, by omega, by omega, ?_, fun i i0 i1 => ?_, ?_⟩
  · rw [← w6, show (a 14 3 - q).toNat = (a 14 3 - q - 1).toNat + 1 by omega]
    conv => rhs; rw [wy, (wy_dig _ _).1, (wy_dig _ _).2]
    have e : ((c / 3 ^ (a 14 3 - q - 1).toNat % 3 : Nat) : Int) = k := hk.symm
    rw [e, show a 18 3 + (q - a 18 3) = q by omega, if_neg hcut, show a 14 3 - (q + 1) = a 14 3 - q - 1 by omega, show q + 1 - a 18 3 = q - a 18 3 + 1 by omega]
  · by_cases g : i = q - a 18 3
    · rw [g, up1_s, hk, show a 14 3 - a 18 3 - 1 - (q - a 18 3) = a 14 3 - q - 1 by omega]
    · rw [up1_ne _ _ g]; exact w7 i i0 (by omega)
  · rw [up1_ne _ _ (by omega)]; exact w8
/-- what has been found so far: the code of the best -/
def RELC (a : uN) (pb : Int) (M : Int × (Int → Int)) : Prop := (M.1 = -1 ∧ pb = 0) ∨ ((0 ≤ M.1 ∧ M.1 ≤ 12000000) ∧ (0 ≤ pb ∧ pb < 2187) ∧ M.2 (-1) = a 14 3 - a 18 3 ∧ ∀ i, 0 ≤ i → i < a 14 3 - a 18 3 → M.2 i = dg3 pb.toNat (a 14 3 - a 18 3 - 1 - i).toNat)
theorem WYA_end {a : uN} {b : uF} {c : Nat} {M : Int × (Int → Int)} {q x st pu ch : Int} {pre : Int → Int} (W : WYA a b c M q x st pu ch pre) (hq : a 14 3 ≤ q) : wyC a b c M = if (ch * max 0 (lbpX a b + pu)).tdiv 1000 ≤ M.1 then M else ((ch * max 0 (lbpX a b + pu)).tdiv 1000, pre) := by
  obtain ⟨w1, w2, w3, w4, w5, w6, -, -⟩ := W
  rw [← w6, show (a 14 3 - q).toNat = 0 by omega]
  rfl
theorem RELC_new {a : uN} {b : uF} {c : Int} {M : Int × (Int → Int)} {q x st pu ch : Int} {pre : Int → Int} (h : HI a b) (W : WYA a b c.toNat M q x st pu ch pre) (hq : a 14 3 ≤ q) (c0 : 0 ≤ c) (c1 : c < 2187) (hM : ¬ (ch * max 0 (lbpX a b + pu)).tdiv 1000 ≤ M.1) : RELC a c (wyC a b c.toNat M) ∧ (wyC a b c.toNat M).1 = (ch * max 0 (lbpX a b + pu)).tdiv 1000 := by
  have e := WYA_end W hq
  rw [if_neg hM] at e
  rw [e]
  obtain ⟨w1, w2, w3, w4, w5, w6, w7, w8⟩ := W
  have lr := lbpX_rng h
  have m0 : 0 ≤ ch * max 0 (lbpX a b + pu) := Int.mul_nonneg w5.1 (by omega)
  have m1 : ch * max 0 (lbpX a b + pu) ≤ 1000000 * 12000 := Int.mul_le_mul w5.2 (by omega) (by omega) (by omega)
  refine ⟨Or.inr ⟨?_, ⟨c0, c1⟩, w8, fun i i0 i1 => w7 i i0 (by omega)⟩, rfl⟩
  show 0 ≤ (ch * max 0 (lbpX a b + pu)).tdiv 1000 ∧ (ch * max 0 (lbpX a b + pu)).tdiv 1000 ≤ 12000000
  rw [Int.tdiv_eq_ediv_of_nonneg m0]
  omega
theorem plC_s (a : uN) (b : uF) (b0 : Int → Int) {c : Int} (h : 0 ≤ c) : plC a b b0 (c + 1).toNat = wyC a b c.toNat (plC a b b0 c.toNat) := by
  rw [show (c + 1).toNat = c.toNat + 1 by omega]; rfl
/-- after all codes -/
theorem RELC_all {a : uN} {b : uF} {b0 : Int → Int} {pb : Int} (h : HI a b) (hr : RELC a pb (plS a b (lbpX a b) b0)) : (0 ≤ (plS a b (lbpX a b) b0).1 ∧ (plS a b (lbpX a b) b0).1 ≤ 12000000) ∧ (0 ≤ pb ∧ pb < 2187) ∧ (plS a b (lbpX a b) b0).2 (-1) = a 14 3 - a 18 3 ∧ ∀ i, 0 ≤ i → i < a 14 3 - a 18 3 → (plS a b (lbpX a b) b0).2 i = dg3 pb.toNat (a 14 3 - a 18 3 - 1 - i).toNat := by
  have hb := h.b
  have q : 0 ≤ (plS a b (lbpX a b) b0).1 := pl_pos (fun l s s0 s1 => ⟨(oddX_rng h.1 l s s0 s1).1, (oddX_rng h.1 l s s0 s1).2.1⟩) _ _ _ _ _ _ _ hb.1.1.1 hb.1.1.2 hb.1.2.1.1 (by omega) (by omega)
  rcases hr with hr | hr
  · omega
  · exact hr
theorem pla_py {a : uN} {b : uF} {t : uN} {f f2 f3 : uF} {pu : Int} (L : ML a b t f) (h2 : f2 = cpW f 0 42) (h3 : f3 = upA f2 101 45 pu) :
    PY f3 42 (fun i => tget a b 19 i 2) (fun i => tget a b 19 i 3) (a 19 3) ∧ f3 101 (42 + 3) = pu ∧ ∀ k j, ¬ (k = 112 ∨ k = 113 ∨ (k = 101 ∧ 42 ≤ j ∧ j < 84)) → f3 k j = f k j := by
  have hb := L.1.b
  have p := L.p
  have c2 : ∀ j, 42 ≤ j → j < 84 → f2 101 j = f 101 (j - 42) := fun j h1 hh => by
    rw [h2]; unfold cpW; rw [if_pos rfl, if_pos (by omega), show 0 + (j - 42) = j - 42 by omega]
  have c2' : ∀ j, ¬ (42 ≤ j ∧ j < 84) → f2 101 j = f 101 j := fun j hh => by
    rw [h2]; unfold cpW; rw [if_pos rfl, if_neg (by omega)]
  have ck : ∀ k j, k ≠ 101 → f3 k j = f k j := fun k j hk => by rw [h3, upA_k _ _ _ _ hk, h2]; unfold cpW; rw [if_neg hk]
  have at3 : ∀ j, j ≠ 45 → f3 101 j = f2 101 j := fun j hj => by rw [h3, upA_i _ _ _ hj]
  refine ⟨⟨Or.inr rfl, ⟨by omega, by omega⟩, ?_, fun i i0 i1 => ?_⟩, by rw [h3]; exact upA_s _ _ _ _, fun k j hkj => ?_⟩
  · rw [at3 _ (by omega), c2 _ (by omega) (by omega)]; exact p.2.2.2.2
  · have e5 : f3 101 (42 + 5 + i) = f 101 (5 + i) := by rw [at3 _ (by omega), c2 _ (by omega) (by omega), show 42 + 5 + i - 42 = 5 + i by omega]
    have e14 : f3 101 (42 + 14 + i) = f 101 (14 + i) := by rw [at3 _ (by omega), c2 _ (by omega) (by omega), show 42 + 14 + i - 42 = 14 + i by omega]
    have e23 : f3 101 (42 + 23 + i) = f 101 (23 + i) := by rw [at3 _ (by omega), c2 _ (by omega) (by omega), show 42 + 23 + i - 42 = 23 + i by omega]
    obtain ⟨⟨o1, o2, o3⟩, o4, o5⟩ := L.o i0 i1
    have lo := L.1.loan i
    have cc := L.c i0 i1
    refine ⟨⟨Or.inr rfl, ⟨by omega, by omega⟩, ?_, ?_, ?_⟩, ?_, ?_, ?_, ?_⟩
    · rw [e14]; omega
    · rw [e5]; omega
    · rw [e5, ck 107 _ (by decide)]; exact o4
    · rw [e23]; exact cc.2.2.1
    · exact lo.2.2.1
    · unfold dueM; rw [e14, e5, ck 107 _ (by decide)]; exact o5
    · exact lo.2.2.2.1
  · by_cases q : k = 101
    · subst q; rw [at3 _ (by omega), c2' j (by omega)]
    · exact ck k j q
theorem pla_rest {a : uN} {b : uF} {t t2 : uN} {f3 f4 : uF} {pu : Int} (h3 : f3 101 (42 + 3) = pu) (h5 : t 100 5 = tget a b 12 0 1) (q : PHQ t f3 42 (fun i => tget a b 19 i 2) (fun i => tget a b 19 i 3) (a 19 3) (tget a b 12 0 0) t2 f4) : t2 100 27 = max 0 (lbpX a b + pu) := by
  rw [q.1, up2_s, h5]
  unfold mnM lbpX smX
  rw [h3]
  show max 0 (tget a b 12 0 0 + pu + max 0 (tget a b 12 0 1 - dueS a b 18 0 1) - dueS a b 18 0 0) = _
  omega
def FPQ (a : uN) (b : uF) (b0 : Int → Int) (t : uN) (f : uF) (t2 : uN) (f2 : uF) : Prop := Scr t f t2 f2 ∧ RELC a (t2 100 29) (plS a b (lbpX a b) b0) ∧ t2 100 30 = (plS a b (lbpX a b) b0).1
def dv3 (c m : Nat) : Int := ((c / 3 ^ m : Nat) : Int)
theorem dv3_rng (c m : Nat) : 0 ≤ dv3 c m ∧ dv3 c m ≤ c := by
  have := Nat.div_le_self c (3 ^ m)
  unfold dv3
  generalize c / 3 ^ m = y at this ⊢
  omega
theorem dv3_s (c m : Nat) : (dv3 c m).tdiv 3 = dv3 c (m + 1) := by
  unfold dv3
  rw [Int.tdiv_eq_ediv_of_nonneg (Int.natCast_nonneg _), Nat.pow_succ, ← Nat.div_div_eq_div_mul]
  generalize c / 3 ^ m = y
  omega
theorem dv3_m (c m : Nat) : (dv3 c m).tmod 3 = dg3 c m := by
  unfold dv3 dg3
  rw [Int.tmod_eq_emod_of_nonneg (Int.natCast_nonneg _)]
  generalize c / 3 ^ m = y
  omega
/-- what the plan says, from what was kept before on -/
def plaM (a : uN) (b : uF) (b0 : Int → Int) (i : Int) : Int := if goneX a = 0 then (if i = -1 then (plS a b (lbpX a b) b0).1 else if 0 ≤ i ∧ i < a 14 3 - a 18 3 then (plS a b (lbpX a b) b0).2 i else -1) else -1000000003

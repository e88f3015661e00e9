/-! the text's reading: x is the letter at a place (0 behind the end) -/
def skN (x : Int → Int) : Nat → Int → Int
  | 0, p => p
  | k + 1, p => if x p = 32 then skN x k (p + 1) else p
def sk (x : Int → Int) (p : Int) : Int := skN x 220 p
def dg (x : Int → Int) : Nat → Int → Int → Int × Int
  | 0, p, v => (p, v)
  | k + 1, p, v => if 48 ≤ x p ∧ x p ≤ 57 then dg x k (p + 1) (min v 999 * 10 + x p - 48) else (p, v)
def dE (x : Int → Int) (p : Int) : Int := (dg x 220 p 0).1
def dV (x : Int → Int) (p : Int) : Int := (dg x 220 p 0).2
/-- a text of n letters -/
def txt (x : Int → Int) (n : Int) : Prop := (0 ≤ n ∧ n ≤ 220) ∧ (∀ p, 0 ≤ x p ∧ x p ≤ 255) ∧ ∀ p, ¬ (0 ≤ p ∧ p < n) → x p = 0
theorem txt_lt {x : Int → Int} {n p : Int} (hx : txt x n) (h0 : 0 ≤ p) (h : x p ≠ 0) : p < n := by
  rcases Int.lt_or_le p n with a | a
  · exact a
  · exact absurd (hx.2.2 p (by omega)) h
theorem skN_rng {x : Int → Int} {n : Int} (hx : txt x n) (k : Nat) : ∀ p, 0 ≤ p → p ≤ n → p ≤ skN x k p ∧ skN x k p ≤ n := by
  induction k with
  | zero => intro p h0 h1; exact ⟨Int.le_refl _, h1⟩
  | succ k ih =>
    intro p h0 h1
    rw [skN]
    split
    · next h =>
      have q : p < n := by
        rcases Int.lt_or_le p n with a | a
        · exact a
        · have := hx.2.2 p (by omega); omega
      have := ih (p + 1) (by omega) (by omega)
      omega
    · exact ⟨Int.le_refl _, h1⟩
theorem skN_end {x : Int → Int} {n : Int} (hx : txt x n) (k : Nat) : ∀ p, 0 ≤ p → p ≤ n → n - p ≤ k → x (skN x k p) ≠ 32 := by
  induction k with
  | zero => intro p h0 h1 h2; rw [skN]; have := hx.2.2 p (by omega); omega
  | succ k ih =>
    intro p h0 h1 h2
    rw [skN]
    split
    · next h =>
      have q : p < n := by
        rcases Int.lt_or_le p n with a | a
        · exact a
        · have := hx.2.2 p (by omega); omega
      exact ih (p + 1) (by omega) (by omega) (by omega)
    · next h => exact h
theorem sk_rng {x : Int → Int} {n : Int} (hx : txt x n) {p : Int} (h0 : 0 ≤ p) (h1 : p ≤ n) : p ≤ sk x p ∧ sk x p ≤ n := skN_rng hx 220 p h0 h1
theorem sk_end {x : Int → Int} {n : Int} (hx : txt x n) {p : Int} (h0 : 0 ≤ p) (h1 : p ≤ n) : x (sk x p) ≠ 32 := skN_end hx 220 p h0 h1 (by have := hx.1; omega)
theorem sk_no {x : Int → Int} {p : Int} (h : x p ≠ 32) : sk x p = p := by unfold sk; rw [skN, if_neg h]
/-- a blank more: the fuel is enough -/
theorem skN_fuel {x : Int → Int} {n : Int} (hx : txt x n) (k : Nat) : ∀ p, 0 ≤ p → p ≤ n → n - p ≤ k → skN x k p = skN x (k + 1) p := by
  induction k with
  | zero => intro p h0 h1 h2; rw [skN, skN, if_neg (by have := hx.2.2 p (by omega); omega)]
  | succ k ih =>
    intro p h0 h1 h2
    rw [skN, skN]
    split
    · next h =>
      have q : p < n := by
        rcases Int.lt_or_le p n with a | a
        · exact a
        · have := hx.2.2 p (by omega); omega
      exact ih (p + 1) (by omega) (by omega) (by omega)
    · rfl
theorem sk_step {x : Int → Int} {n : Int} (hx : txt x n) {p : Int} (h0 : 0 ≤ p) (h1 : p ≤ n) (h : x p = 32) : sk x p = sk x (p + 1) := by
  have q : p < n := by
    rcases Int.lt_or_le p n with a | a
    · exact a
    · have := hx.2.2 p (by omega); omega
  have e : sk x p = skN x 219 (p + 1) := by unfold sk; rw [skN, if_pos h]
  rw [e, skN_fuel hx 219 (p + 1) (by omega) (by omega) (by have := hx.1; omega)]; rfl
theorem dg_rng {x : Int → Int} {n : Int} (hx : txt x n) (k : Nat) : ∀ p v, 0 ≤ p → p ≤ n → 0 ≤ v → v ≤ 9999 → (p ≤ (dg x k p v).1 ∧ (dg x k p v).1 ≤ n) ∧ (0 ≤ (dg x k p v).2 ∧ (dg x k p v).2 ≤ 9999) := by
  induction k with
  | zero => intro p v h0 h1 h2 h3; exact ⟨⟨Int.le_refl _, h1⟩, h2, h3⟩
  | succ k ih =>
    intro p v h0 h1 h2 h3
    rw [dg]
    split
    · next h =>
      have q : p < n := by
        rcases Int.lt_or_le p n with a | a
        · exact a
        · have := hx.2.2 p (by omega); omega
      have := ih (p + 1) (min v 999 * 10 + x p - 48) (by omega) (by omega) (by omega) (by omega)
      omega
    · exact ⟨⟨Int.le_refl _, h1⟩, h2, h3⟩
theorem dE_rng {x : Int → Int} {n : Int} (hx : txt x n) {p : Int} (h0 : 0 ≤ p) (h1 : p ≤ n) : (p ≤ dE x p ∧ dE x p ≤ n) ∧ (0 ≤ dV x p ∧ dV x p ≤ 9999) := dg_rng hx 220 p 0 h0 h1 (by omega) (by omega)
/-- the word: 0 s, 1 l, 2 m, -1 none -/
def wordZ (c : Int) : Int := if c = 115 then 0 else if c = 108 then 1 else if c = 109 then 2 else -1
def wdt (w : Int) : Int := if w = 0 then 4 else if w = 1 then 3 else 2
/-- where number j of a clause is looked for, the clause's word being at p -/
def posN (x : Int → Int) (p : Int) : Nat → Int
  | 0 => p + 1
  | j + 1 => dE x (sk x (posN x p j))
def inB (b v : Int) : Prop := leastT b.toNat ≤ v ∧ v ≤ greatT b.toNat
/-- what is wrong with a number at q, of the bound b -/
def numK (x : Int → Int) (b q : Int) : Int := if dE x q = q then 1 else if dE x q - q ≤ 3 ∧ leastT b.toNat ≤ dV x q ∧ dV x q ≤ greatT b.toNat then 0 else 2
/-- from number j on, r are to come: the fault's kind and place, or the clause's end -/
def fol (x : Int → Int) (w p : Int) : Nat → Nat → Int × Int × Int
  | 0, j => if x (sk x (posN x p j)) = 59 then (0, 0, sk x (posN x p j) + 1) else (1, sk x (posN x p j), 0)
  | r + 1, j => if numK x (w * 4 + j) (sk x (posN x p j)) = 0 then fol x w p r (j + 1) else (numK x (w * 4 + j) (sk x (posN x p j)), sk x (posN x p j), 0)
theorem posN_rng {x : Int → Int} {n : Int} (hx : txt x n) {p : Int} (h0 : 0 ≤ p) (h1 : p < n) (j : Nat) : p + 1 ≤ posN x p j ∧ posN x p j ≤ n := by
  induction j with
  | zero => rw [posN]; omega
  | succ j ih =>
    rw [posN]
    have a := sk_rng hx (p := posN x p j) (by omega) ih.2
    have b := dE_rng hx (p := sk x (posN x p j)) (by omega) a.2
    omega
theorem leastT_rng (j : Nat) : 0 ≤ leastT j ∧ leastT j ≤ 1 := by unfold leastT; split <;> (try split) <;> omega
theorem greatT_rng (j : Nat) : 0 ≤ greatT j ∧ greatT j ≤ 999 := by unfold greatT; split <;> omega
section ROWS5
variable {p : Program} {l : Launch} {e : Env} {R : Room} {s : State} {m : MethodId} {args : Array Value} {below : List Frame} {meth : Method} {c : Code} {H : Heap} {locs : List Loc} {cells slots : Nat} {Q : State → Prop}
variable {cc : ByteArray} {pc d nL : Nat} {own : String} {ls : Array Slot} {rest : List Value} {g : uG} {n : Nat} {E : Nat → va_E}
theorem u_gets (X : uX p d R s m args c cc nL own) (Y : uY g n E s H locs) {nm ds : String} {v : Value} (hZ : va_Z RX3 nm ds v (uA g) s s.heap) {idx : Nat} (hl : Cond.fieldLink own idx RX3 nm ds ∈ T0) (hdg : decode cc pc = .ok (.getstatic idx, 3)) (kk : W p l e R s m args below meth c H locs cells slots Q (F0 m (pc + 3) ls (v :: rest))) : W p l e R s m args below meth c H locs cells slots Q (F0 m pc ls rest) :=
  va_gets X.1 X.2.1 hZ Y.2.2.2.1 X.2.2.2.1 (X.w hl) (fun _ h => h) hdg kk
theorem u_ti (X : uX p d R s m args c cc nL own) (Y : uY g n E s H locs) {t : Nat} {tb : Nat → Int} (hT : va_T .int t 12 (fun j => .int (iV (tb j))) (uA g) s s.heap) {z : Int} (h0 : 0 ≤ z) (h1 : z < 12) (hdg : decode cc pc = .ok (.iaload, 1)) (kk : W p l e R s m args below meth c H locs cells slots Q (F0 m (pc + 1) ls (.int (iV (tb z.toNat)) :: rest))) : W p l e R s m args below meth c H locs cells slots Q (F0 m pc ls (.int (iV z) :: .ref t :: rest)) :=
  va_ti X.1 X.2.1 hT Y.2.2.2.1 (vp_inZ h0 (by omega) (by decide)) (by rw [iV_clamp (by omega)]) hdg kk
theorem u_tlen (X : uX p d R s m args c cc nL own) (Y : uY g n E s H locs) {t : Nat} {tb : Nat → Int} (hT : va_T .int t 12 (fun j => .int (iV (tb j))) (uA g) s s.heap) (hdg : decode cc pc = .ok (.arraylength, 1)) (kk : W p l e R s m args below meth c H locs cells slots Q (F0 m (pc + 1) ls (.int (iV 12) :: rest))) : W p l e R s m args below meth c H locs cells slots Q (F0 m pc ls (.ref t :: rest)) :=
  va_tlen X.1 X.2.1 hT Y.2.2.2.1 rfl hdg kk
theorem r_lookup3 (X : uX p d R s m args c cc nL own) {dflt o1 o2 o3 : Int} {len : Nat} {z : Int} (tgt : Nat) (hdg : decode cc pc = .ok (.lookupswitch dflt #[(108, o1), (109, o2), (115, o3)], len)) (hz : inI z) (off : Int) (ho : off = if z = 108 then o1 else if z = 109 then o2 else if z = 115 then o3 else dflt) (ht : (pc : Int) + off = (tgt : Int)) (k : W p l e R s m args below meth c H locs cells slots Q (F0 m tgt ls rest)) : W p l e R s m args below meth c H locs cells slots Q (F0 m pc ls (.int (iV z) :: rest)) := by
  refine lv_lookup X.1 X.2.1 hdg (by rfl) (off := off) ?_ ht k
  rw [iV_toInt hz, ho]
  show Op.lookupswitch.offset [(108, o1), (109, o2), (115, o3)] dflt z = _
  rw [Op.lookupswitch.offset_cons, Op.lookupswitch.offset_cons, Op.lookupswitch.offset_cons]
  by_cases h1 : z = 108
  · rw [if_pos h1.symm, if_pos h1]
  · rw [if_neg (fun q => h1 q.symm), if_neg h1]
    by_cases h2 : z = 109
    · rw [if_pos h2.symm, if_pos h2]
    · rw [if_neg (fun q => h2 q.symm), if_neg h2]
      by_cases h3 : z = 115
      · rw [if_pos h3.symm, if_pos h3]
      · rw [if_neg (fun q => h3 q.symm), if_neg h3]; rfl
end ROWS5
/-- where the reader's text stands -/
def TX (t : uN) (f : uF) (x : Int → Int) (n : Int) : Prop := txt x n ∧ t 1 3 = n ∧ (∀ p, tget t f 1 p 0 = x p) ∧ (0 ≤ t 3 2 ∧ t 3 2 ≤ n)
theorem TX.tok {t : uN} {f : uF} {x : Int → Int} {n : Int} (h : TX t f x n) : tOK t 1 := show 0 ≤ t 1 3 ∧ t 1 3 ≤ 220 by have := h.1.1; have := h.2.1; omega
theorem TX.of {t t2 : uN} {f f2 : uF} {x : Int → Int} {n : Int} (h : TX t f x n) (h1 : t2 1 3 = t 1 3) (h2 : 0 ≤ t2 3 2 ∧ t2 3 2 ≤ n) (hf : ∀ i, f2 2 i = f 2 i) : TX t2 f2 x n := ⟨h.1, by rw [h1]; exact h.2.1, fun p => by rw [tget_same h1 hf]; exact h.2.2.1 p, h2⟩
/-- where the reader stands behind a number of the bound b -/
def rnT (t : uN) (x : Int → Int) (b : Int) : uN := if dE x (t 3 2) = t 3 2 then up2 (up2 (up2 t 3 2 (dE x (t 3 2))) 3 3 1) 3 4 (t 3 2) else if dE x (t 3 2) - t 3 2 ≤ 3 ∧ leastT b.toNat ≤ dV x (t 3 2) ∧ dV x (t 3 2) ≤ greatT b.toNat then up2 t 3 2 (dE x (t 3 2)) else up2 (up2 (up2 t 3 2 (dE x (t 3 2))) 3 3 2) 3 4 (t 3 2)
theorem rnT_0 {t : uN} {x : Int → Int} {b : Int} (h : numK x b (t 3 2) = 0) : rnT t x b = up2 t 3 2 (dE x (t 3 2)) := by
  unfold numK at h
  unfold rnT
  by_cases h1 : dE x (t 3 2) = t 3 2
  · rw [if_pos h1] at h; omega
  · rw [if_neg h1] at h ⊢
    by_cases h2 : dE x (t 3 2) - t 3 2 ≤ 3 ∧ leastT b.toNat ≤ dV x (t 3 2) ∧ dV x (t 3 2) ≤ greatT b.toNat
    · rw [if_pos h2]
    · rw [if_neg h2] at h; omega
theorem rnT_k {t : uN} {x : Int → Int} {b : Int} (h : ¬ numK x b (t 3 2) = 0) : rnT t x b = up2 (up2 (up2 t 3 2 (dE x (t 3 2))) 3 3 (numK x b (t 3 2))) 3 4 (t 3 2) := by
  unfold numK at h ⊢
  unfold rnT
  by_cases h1 : dE x (t 3 2) = t 3 2
  · rw [if_pos h1, if_pos h1]
  · rw [if_neg h1] at h
    rw [if_neg h1, if_neg h1]
    by_cases h2 : dE x (t 3 2) - t 3 2 ≤ 3 ∧ leastT b.toNat ≤ dV x (t 3 2) ∧ dV x (t 3 2) ≤ greatT b.toNat
    · rw [if_pos h2] at h; omega
    · rw [if_neg h2, if_neg h2]
theorem rnT_2 (t : uN) (x : Int → Int) (b : Int) : rnT t x b 3 2 = dE x (t 3 2) := by
  unfold rnT
  split
  · simp [up2]
  · split <;> simp [up2]
theorem rnT_off {t : uN} {x : Int → Int} {b : Int} {k j : Nat} (h : k ≠ 3) : rnT t x b k j = t k j := by
  unfold rnT
  split
  · simp [up2, h]
  · split <;> simp [up2, h]
def CLfr (t : uN) (f : uF) (t2 : uN) (f2 : uF) : Prop := (∀ a j, a ≠ 3 → ¬ (j = 3 ∧ (a = 5 ∨ a = 7 ∨ a = 9)) → t2 a j = t a j) ∧ ∀ a i, a ≠ 6 → a ≠ 8 → a ≠ 10 → f2 a i = f a i
theorem CLfr.rf {t : uN} {f : uF} : CLfr t f t f := ⟨fun _ _ _ _ => rfl, fun _ _ _ _ _ => rfl⟩
theorem CLfr.tr {t t2 t3 : uN} {f f2 f3 : uF} (h : CLfr t f t2 f2) (h2 : CLfr t2 f2 t3 f3) : CLfr t f t3 f3 := ⟨fun a j x y => (h2.1 a j x y).trans (h.1 a j x y), fun a i x y z => (h2.2 a i x y z).trans (h.2 a i x y z)⟩
def tbC (w : Int) : Nat := if w = 0 then 5 else if w = 1 then 7 else 9
def badW (t : uN) (w : Int) : Prop := w = -1 ∨ (¬ w = 0 ∧ t 5 3 = 0)
/-- a clause's end: the fault's kind and place, or the row that came -/
def CLQ (x : Int → Int) (n : Int) (t : uN) (f : uF) (t2 : uN) (f2 : uF) : Prop :=
  CLfr t f t2 f2 ∧ (0 ≤ t2 3 2 ∧ t2 3 2 ≤ n) ∧ (tOK t2 5 ∧ tOK t2 7 ∧ tOK t2 9) ∧
  ((badW t (wordZ (x (t 3 2))) ∧ t2 3 3 = 1 ∧ t2 3 4 = t 3 2) ∨
   (¬ badW t (wordZ (x (t 3 2))) ∧ tm (tbC (wordZ (x (t 3 2)))) ≤ t (tbC (wordZ (x (t 3 2)))) 3 ∧ t2 3 3 = 3 ∧ t2 3 4 = t 3 2) ∨
   (¬ badW t (wordZ (x (t 3 2))) ∧ t (tbC (wordZ (x (t 3 2)))) 3 < tm (tbC (wordZ (x (t 3 2)))) ∧
    t2 3 3 = (fol x (wordZ (x (t 3 2))) (t 3 2) (wdt (wordZ (x (t 3 2)))).toNat 0).1 ∧
    (¬ t2 3 3 = 0 → t2 3 4 = (fol x (wordZ (x (t 3 2))) (t 3 2) (wdt (wordZ (x (t 3 2)))).toNat 0).2.1) ∧
    (t2 3 3 = 0 → t2 3 4 = t 3 4 ∧ t2 3 2 = (fol x (wordZ (x (t 3 2))) (t 3 2) (wdt (wordZ (x (t 3 2)))).toNat 0).2.2 ∧
      (∀ k, k = 5 ∨ k = 7 ∨ k = 9 → t2 k 3 = if k = tbC (wordZ (x (t 3 2))) then t k 3 + 1 else t k 3) ∧
      (∀ k i, f2 k i = if k = tbC (wordZ (x (t 3 2))) + 1 ∧ t (tbC (wordZ (x (t 3 2)))) 3 * wdt (wordZ (x (t 3 2))) ≤ i ∧ i < t (tbC (wordZ (x (t 3 2)))) 3 * wdt (wordZ (x (t 3 2))) + wdt (wordZ (x (t 3 2))) then dV x (sk x (posN x (t 3 2) (i - t (tbC (wordZ (x (t 3 2)))) 3 * wdt (wordZ (x (t 3 2)))).toNat)) else f k i))))
/-- along the clause's numbers: j are read -/
def CLI (x : Int → Int) (w : Int) (k wd : Nat) (t : uN) (f : uF) (tz : uN) (fz : uF) (j : Int) : Prop :=
  CLfr t f tz fz ∧ (∀ a, a = 5 ∨ a = 7 ∨ a = 9 → tz a 3 = if a = k then t a 3 + 1 else t a 3) ∧
  ((¬ tz 3 3 = 0 ∧ tz 3 3 = (fol x w (t 3 2) wd 0).1 ∧ tz 3 4 = (fol x w (t 3 2) wd 0).2.1) ∨
   (tz 3 3 = 0 ∧ tz 3 4 = t 3 4 ∧ tz 3 2 = posN x (t 3 2) j.toNat ∧ fol x w (t 3 2) (wd - j.toNat) j.toNat = fol x w (t 3 2) wd 0 ∧
    ∀ a i, fz a i = if a = k + 1 ∧ t k 3 * wd ≤ i ∧ i < t k 3 * wd + j then dV x (sk x (posN x (t 3 2) (i - t k 3 * wd).toNat)) else f a i))
theorem CLI_step {x : Int → Int} {w n : Int} {k wd : Nat} {t tz t1 t2 : uN} {f fz f2 : uF} {j v : Int} (hk : k = 5 ∨ k = 7 ∨ k = 9) (hI : CLI x w k wd t f tz fz j) (h0 : tz 3 3 = 0) (hj0 : 0 ≤ j) (hj1 : j < wd)
    (h1 : t1 = up2 tz 3 2 (sk x (tz 3 2))) (h2 : t2 = rnT t1 x (w * 4 + j)) (hv : v = dV x (t1 3 2)) (hf : f2 = upA fz (k + 1) (t k 3 * wd + j) v) : CLI x w k wd t f t2 f2 (j + 1) := by
  obtain ⟨i1, i2, i3⟩ := hI
  rcases i3 with i3 | ⟨a0, a1, a2, a3, a4⟩
  · exact absurd h0 i3.1
  have e12 : t1 3 2 = sk x (posN x (t 3 2) j.toNat) := by rw [h1, up2_s, a2]
  have efr : ∀ a b, a ≠ 3 → t2 a b = tz a b := fun a b q => by rw [h2, rnT_off q, h1, up2_k _ _ _ _ q]
  have est : fol x w (t 3 2) (wd - j.toNat) j.toNat = if numK x (w * 4 + j) (t1 3 2) = 0 then fol x w (t 3 2) (wd - (j + 1).toNat) (j + 1).toNat else (numK x (w * 4 + j) (t1 3 2), t1 3 2, 0) := by
    rw [show wd - j.toNat = (wd - (j + 1).toNat) + 1 by omega, fol, show ((j.toNat : Nat) : Int) = j by omega, ← e12, show j.toNat + 1 = (j + 1).toNat by omega]
  refine ⟨i1.tr ⟨fun a b q _ => efr a b q, fun a i q1 q2 q3 => by rw [hf, upA_k _ _ _ _ (by omega)]⟩, fun a q => by rw [efr a 3 (by omega)]; exact i2 a q, ?_⟩
  by_cases hK : numK x (w * 4 + j) (t1 3 2) = 0
  · refine Or.inr ⟨?_, ?_, ?_, ?_, ?_⟩
    · rw [h2, rnT_0 hK, up2_ne _ _ (by omega), h1, up2_ne _ _ (by omega), a0]
    · rw [h2, rnT_0 hK, up2_ne _ _ (by omega), h1, up2_ne _ _ (by omega), a1]
    · rw [h2, rnT_2, show (j + 1).toNat = j.toNat + 1 by omega, posN, e12]
    · rw [← a3, est, if_pos hK]
    · intro a i
      rw [hf]
      by_cases q : a = k + 1 ∧ i = t k 3 * wd + j
      · rw [q.1, q.2, upA_s, if_pos ⟨rfl, by omega, by omega⟩, hv, e12, show t k 3 * wd + j - t k 3 * wd = j by omega]
      · have e : upA fz (k + 1) (t k 3 * wd + j) v a i = fz a i := by
          by_cases q1 : a = k + 1
          · rw [q1]; exact upA_i _ _ _ (fun z => q ⟨q1, z⟩)
          · exact upA_k _ _ _ _ q1
        rw [e, a4]
        by_cases q2 : a = k + 1 ∧ t k 3 * wd ≤ i ∧ i < t k 3 * wd + j
        · rw [if_pos q2, if_pos (by omega)]
        · rw [if_neg q2, if_neg (by omega)]
  · refine Or.inl ⟨?_, ?_, ?_⟩
    · rw [h2, rnT_k hK, up2_ne _ _ (by omega), up2_s]; exact hK
    · rw [h2, rnT_k hK, up2_ne _ _ (by omega), up2_s, ← a3, est, if_neg hK]
    · rw [h2, rnT_k hK, up2_s, ← a3, est, if_neg hK]
theorem CLQ_bad {x : Int → Int} {n : Int} {t t2 : uN} {f : uF} (ht : 0 ≤ t 3 2 ∧ t 3 2 ≤ n) (ho : tOK t 5 ∧ tOK t 7 ∧ tOK t 9) (hw : badW t (wordZ (x (t 3 2)))) (h : t2 = up2 (up2 t 3 3 1) 3 4 (t 3 2)) : CLQ x n t f t2 f := by
  subst h
  exact ⟨⟨fun a j h1 _ => by rw [up2_k _ _ _ _ h1, up2_k _ _ _ _ h1], fun _ _ _ _ _ => rfl⟩, by rw [up2_ne _ _ (by omega), up2_ne _ _ (by omega)]; exact ht, ⟨tOK_k (by decide) (tOK_k (by decide) ho.1), tOK_k (by decide) (tOK_k (by decide) ho.2.1), tOK_k (by decide) (tOK_k (by decide) ho.2.2)⟩, Or.inl ⟨hw, by rw [up2_ne _ _ (by omega), up2_s], up2_s _ _ _ _⟩⟩
theorem CLQ_full {x : Int → Int} {n : Int} {t t2 : uN} {f : uF} (ht : 0 ≤ t 3 2 ∧ t 3 2 ≤ n) (ho : tOK t 5 ∧ tOK t 7 ∧ tOK t 9) (hw : ¬ badW t (wordZ (x (t 3 2)))) (hm : tm (tbC (wordZ (x (t 3 2)))) ≤ t (tbC (wordZ (x (t 3 2)))) 3) (h : t2 = up2 (up2 t 3 3 3) 3 4 (t 3 2)) : CLQ x n t f t2 f := by
  subst h
  exact ⟨⟨fun a j h1 _ => by rw [up2_k _ _ _ _ h1, up2_k _ _ _ _ h1], fun _ _ _ _ _ => rfl⟩, by rw [up2_ne _ _ (by omega), up2_ne _ _ (by omega)]; exact ht, ⟨tOK_k (by decide) (tOK_k (by decide) ho.1), tOK_k (by decide) (tOK_k (by decide) ho.2.1), tOK_k (by decide) (tOK_k (by decide) ho.2.2)⟩, Or.inr (Or.inl ⟨hw, hm, by rw [up2_ne _ _ (by omega), up2_s], up2_s _ _ _ _⟩)⟩
/-- out of the loop: a number was wrong -/
theorem CLQ_num {x : Int → Int} {n w : Int} {k wd : Nat} {t tz : uN} {f fz : uF} {j : Int} (hw : wordZ (x (t 3 2)) = w) (hkw : k = tbC w) (hd : (wd : Int) = wdt w) (hb : ¬ badW t w) (hm : t k 3 < tm k) (ht : 0 ≤ tz 3 2 ∧ tz 3 2 ≤ n) (ho : tOK tz 5 ∧ tOK tz 7 ∧ tOK tz 9) (hI : CLI x w k wd t f tz fz j) (h0 : ¬ tz 3 3 = 0) : CLQ x n t f tz fz := by
  obtain ⟨i1, i2, i3⟩ := hI
  rcases i3 with ⟨b0, b1, b2⟩ | i3
  · rw [show wd = (wdt w).toNat by omega] at b1 b2
    subst hkw
    unfold CLQ
    rw [hw]
    exact ⟨i1, ht, ho, Or.inr (Or.inr ⟨hb, hm, b1, fun _ => b2, fun q => absurd q b0⟩)⟩
  · exact absurd i3.1 h0
/-- out of the loop: all numbers are there; the end -/
theorem CLQ_end {x : Int → Int} {n w : Int} {k wd : Nat} {t tz t1 t2 : uN} {f fz : uF} {j : Int} (hw : wordZ (x (t 3 2)) = w) (hkw : k = tbC w) (hd : (wd : Int) = wdt w) (hb : ¬ badW t w) (hm : t k 3 < tm k) (ho : tOK tz 5 ∧ tOK tz 7 ∧ tOK tz 9) (hI : CLI x w k wd t f tz fz j) (hj : j = wd) (h0 : tz 3 3 = 0) (h1 : t1 = up2 tz 3 2 (sk x (tz 3 2))) (hr : 0 ≤ t1 3 2 ∧ t1 3 2 ≤ n ∧ (x (t1 3 2) = 59 → t1 3 2 < n))
    (h2 : t2 = if x (t1 3 2) = 59 then up2 t1 3 2 (t1 3 2 + 1) else up2 (up2 t1 3 3 1) 3 4 (t1 3 2)) : CLQ x n t f t2 fz := by
  obtain ⟨i1, i2, i3⟩ := hI
  rcases i3 with i3 | ⟨a0, a1, a2, a3, a4⟩
  · exact absurd h0 i3.1
  subst hkw
  have e12 : t1 3 2 = sk x (posN x (t 3 2) wd) := by rw [h1, up2_s, a2, hj]; rfl
  have ef : fol x w (t 3 2) (wdt w).toNat 0 = if x (t1 3 2) = 59 then (0, 0, t1 3 2 + 1) else (1, t1 3 2, 0) := by
    rw [show (wdt w).toNat = wd by omega, ← a3, show wd - j.toNat = 0 by omega, fol, show j.toNat = wd by omega, ← e12]
  have efr : ∀ a b, a ≠ 3 → t2 a b = tz a b := fun a b q => by
    rw [h2]
    split
    · rw [up2_k _ _ _ _ q, h1, up2_k _ _ _ _ q]
    · rw [up2_k _ _ _ _ q, up2_k _ _ _ _ q, h1, up2_k _ _ _ _ q]
  have eto : ∀ a, a ≠ 3 → tOK tz a → tOK t2 a := fun a q z => by unfold tOK at z ⊢; rw [efr a 3 q]; exact z
  have e3 : t2 3 3 = if x (t1 3 2) = 59 then 0 else 1 := by
    rw [h2]
    split
    · rw [up2_ne _ _ (by omega), h1, up2_ne _ _ (by omega), a0]
    · rw [up2_ne _ _ (by omega), up2_s]
  unfold CLQ
  rw [hw, ef]
  refine ⟨i1.tr ⟨fun a b q _ => efr a b q, fun _ _ _ _ _ => rfl⟩, ?_, ⟨eto 5 (by decide) ho.1, eto 7 (by decide) ho.2.1, eto 9 (by decide) ho.2.2⟩, Or.inr (Or.inr ⟨hb, hm, ?_, ?_, ?_⟩)⟩
  · rw [h2]
    split
    · next q => rw [up2_s]; have := hr.2.2 q; omega
    · rw [up2_ne _ _ (by omega), up2_ne _ _ (by omega)]; exact ⟨hr.1, hr.2.1⟩
  · rw [e3]; split <;> rfl
  · intro q
    rw [e3] at q
    by_cases c : x (t1 3 2) = 59
    · rw [if_pos c] at q; exact absurd rfl q
    · rw [if_neg c, h2, if_neg c, up2_s]
  · intro q
    rw [e3] at q
    by_cases c : x (t1 3 2) = 59
    · rw [if_pos c]
      refine ⟨?_, ?_, fun a hq => by rw [efr a 3 (by omega)]; exact i2 a hq, fun a i => by rw [a4, hj, hd]⟩
      · rw [h2, if_pos c, up2_ne _ _ (by omega), h1, up2_ne _ _ (by omega), a1]
      · rw [h2, if_pos c, up2_s]
    · rw [if_neg c] at q; omega
theorem wordZ_rng (c : Int) : wordZ c = -1 ∨ wordZ c = 0 ∨ wordZ c = 1 ∨ wordZ c = 2 := by
  unfold wordZ
  split
  · omega
  · split
    · omega
    · split <;> omega
theorem wordZ_no {c : Int} (h : ¬ wordZ c = -1) : c ≠ 0 := by
  intro q
  subst q
  exact h rfl
theorem wdt_rng (w : Int) : wdt w = 4 ∨ wdt w = 3 ∨ wdt w = 2 := by
  unfold wdt
  split
  · omega
  · split <;> omega
theorem opn_r {t t1 : uN} {k : Nat} {z : Int} (hk : k = 5 ∨ k = 7 ∨ k = 9) (hm : t k 3 < tm k) (h1 : t1 = up2 t 3 2 z) : topenR t1 k = t k 3 := by
  have e : t1 k 3 = t k 3 := by rw [h1, up2_k _ _ _ _ (by omega)]
  unfold topenR
  rw [e, if_neg (by omega)]
theorem opn_t {t t1 t2 : uN} {k : Nat} {z : Int} (hk : k = 5 ∨ k = 7 ∨ k = 9) (hm : t k 3 < tm k) (h1 : t1 = up2 t 3 2 z) (h2 : t2 = topenT t1 k) : t2 = up2 (up2 t 3 2 z) k 3 (t k 3 + 1) := by
  have e : t1 k 3 = t k 3 := by rw [h1, up2_k _ _ _ _ (by omega)]
  rw [h2]
  unfold topenT
  rw [e, if_neg (by omega), h1]
theorem CLI_init {x : Int → Int} {w : Int} {k wd : Nat} {t t1 t2 : uN} {f : uF} (hk : k = 5 ∨ k = 7 ∨ k = 9) (h0 : t 3 3 = 0) (hm : t k 3 < tm k) (h1 : t1 = up2 t 3 2 (t 3 2 + 1)) (h2 : t2 = topenT t1 k) : CLI x w k wd t f t2 f 0 := by
  have e := opn_t hk hm h1 h2
  subst e
  refine ⟨⟨fun a j q1 q2 => ?_, fun _ _ _ _ _ => rfl⟩, fun a q => ?_, Or.inr ⟨?_, ?_, ?_, rfl, fun a i => ?_⟩⟩
  · rw [up2_ne _ _ (by omega), up2_k _ _ _ _ q1]
  · by_cases c : a = k
    · rw [c, up2_s, if_pos rfl]
    · rw [up2_k _ _ _ _ c, up2_k _ _ _ _ (by omega), if_neg c]
  · rw [up2_k _ _ _ _ (by omega), up2_ne _ _ (by omega), h0]
  · rw [up2_k _ _ _ _ (by omega), up2_ne _ _ (by omega)]
  · rw [up2_k _ _ _ _ (by omega), up2_s]; rfl
  · rw [if_neg (by omega)]
theorem CLI_tx {x : Int → Int} {n : Int} {k : Nat} {t t1 t2 : uN} {f : uF} (h : TX t f x n) (hlt : t 3 2 < n) (hk : k = 5 ∨ k = 7 ∨ k = 9) (hm : t k 3 < tm k) (h1 : t1 = up2 t 3 2 (t 3 2 + 1)) (h2 : t2 = topenT t1 k) : TX t2 f x n := by
  have e := opn_t hk hm h1 h2
  subst e
  exact h.of (by rw [up2_k _ _ _ _ (by omega), up2_k _ _ _ _ (by omega)]) (by rw [up2_k _ _ _ _ (by omega), up2_s]; have := h.2.2.2; omega) (fun _ => rfl)
theorem CLI_ok {k : Nat} {t t1 t2 : uN} {z : Int} (ho : tOK t 5 ∧ tOK t 7 ∧ tOK t 9) (h1 : t1 = up2 t 3 2 z) (h2 : t2 = topenT t1 k) : tOK t2 5 ∧ tOK t2 7 ∧ tOK t2 9 := by
  have e : ∀ a, a ≠ 3 → tOK t a → tOK t2 a := by
    intro a q hq
    have q1 : tOK t1 a := by rw [h1]; exact tOK_k q hq
    rw [h2]
    by_cases c : a = k
    · subst c; exact topenT_ok q1
    · unfold topenT
      split
      · exact q1
      · exact tOK_k c q1
  exact ⟨e 5 (by decide) ho.1, e 7 (by decide) ho.2.1, e 9 (by decide) ho.2.2⟩
theorem tOK_rn {t : uN} {x : Int → Int} {b : Int} {k : Nat} (hk : k ≠ 3) (h : tOK t k) : tOK (rnT t x b) k := by unfold tOK at h ⊢; rw [rnT_off hk]; exact h
def upN (c : Nat → Int) (k : Nat) (z : Int) : Nat → Int := fun a => if a = k then z else c a
/-- the clauses from p on: c the rows, D where each row's clause begins -/
def paS (x : Int → Int) (n : Int) : Nat → Int → (Nat → Int) → uF → (Int × Int) × (Nat → Int) × uF
  | 0, _, c, D => ((0, -1), c, D)
  | k + 1, p, c, D =>
    if n ≤ p then ((0, -1), c, D) else
    if wordZ (x p) = -1 ∨ (¬ wordZ (x p) = 0 ∧ c 0 = 0) then ((1, p), c, D) else
    if tm (tbC (wordZ (x p))) ≤ c (wordZ (x p)).toNat then ((3, p), c, D) else
    if (fol x (wordZ (x p)) p (wdt (wordZ (x p))).toNat 0).1 = 0 then
      paS x n k (sk x (fol x (wordZ (x p)) p (wdt (wordZ (x p))).toNat 0).2.2) (upN c (wordZ (x p)).toNat (c (wordZ (x p)).toNat + 1)) (upA D (wordZ (x p)).toNat (c (wordZ (x p)).toNat) p)
    else (((fol x (wordZ (x p)) p (wdt (wordZ (x p))).toNat 0).1, (fol x (wordZ (x p)) p (wdt (wordZ (x p))).toNat 0).2.1), c, D)
/-- the rows read lie in the draft -/
def CN (x : Int → Int) (c : Nat → Int) (D : uF) (t : uN) (f : uF) : Prop := ∀ w, (w = 0 ∨ w = 1 ∨ w = 2) → t (tbC w) 3 = c w.toNat ∧ ∀ r j, 0 ≤ r → r < c w.toNat → 0 ≤ j → j < wdt w → f (tbC w + 1) (r * wdt w + j) = dV x (sk x (posN x (D w.toNat r) j.toNat))
def RTI (x : Int → Int) (n : Int) (R : (Int × Int) × (Nat → Int) × uF) (t : uN) (f : uF) (i : Int) (tz : uN) (fz : uF) : Prop :=
  (0 ≤ i ∧ i ≤ 220) ∧ TX tz fz x n ∧ (tOK tz 5 ∧ tOK tz 7 ∧ tOK tz 9) ∧ CLfr t f tz fz ∧
  ((tz 3 3 = 0 ∧ tz 3 4 = -1 ∧ ∃ c D, paS x n (220 - i).toNat (tz 3 2) c D = R ∧ CN x c D tz fz) ∨ (¬ tz 3 3 = 0 ∧ R.1 = (tz 3 3, tz 3 4)))
theorem CN_step {x : Int → Int} {c : Nat → Int} {D : uF} {t t2 : uN} {f f2 : uF} {w p : Int} (hw : w = 0 ∨ w = 1 ∨ w = 2) (h : CN x c D t f)
    (h1 : ∀ k, k = 5 ∨ k = 7 ∨ k = 9 → t2 k 3 = if k = tbC w then t k 3 + 1 else t k 3)
    (h2 : ∀ k i, f2 k i = if k = tbC w + 1 ∧ t (tbC w) 3 * wdt w ≤ i ∧ i < t (tbC w) 3 * wdt w + wdt w then dV x (sk x (posN x p (i - t (tbC w) 3 * wdt w).toNat)) else f k i) :
    CN x (upN c w.toNat (c w.toNat + 1)) (upA D w.toNat (c w.toNat) p) t2 f2 := by
  intro v hv
  have hvk : tbC v = 5 ∨ tbC v = 7 ∨ tbC v = 9 := by rcases hv with q | q | q <;> subst q <;> decide
  obtain ⟨a1, a2⟩ := h v hv
  obtain ⟨b1, -⟩ := h w hw
  by_cases e : v = w
  · subst e
    refine ⟨?_, ?_⟩
    · rw [h1 _ hvk, if_pos rfl, a1]; unfold upN; rw [if_pos rfl]
    · intro r j r0 r1 j0 j1
      unfold upN at r1
      rw [if_pos rfl] at r1
      rw [h2, a1]
      by_cases er : r = c v.toNat
      · subst er
        rw [if_pos ⟨rfl, by omega, by omega⟩, upA_s, show c v.toNat * wdt v + j - c v.toNat * wdt v = j by omega]
      · have hlt : r * wdt v + j < c v.toNat * wdt v := by
          rcases wdt_rng v with q | q | q <;> rw [q] at j1 ⊢ <;> omega
        rw [if_neg (by omega), upA_i _ _ _ er]
        exact a2 r j r0 (by omega) j0 j1
  · have hn : v.toNat ≠ w.toNat := by omega
    have hb : tbC v ≠ tbC w := by
      rcases hv with q | q | q <;> rcases hw with q2 | q2 | q2 <;> subst q <;> subst q2 <;> first | exact absurd rfl e | decide
    refine ⟨?_, ?_⟩
    · rw [h1 _ hvk, if_neg hb, a1]; unfold upN; rw [if_neg hn]
    · intro r j r0 r1 j0 j1
      unfold upN at r1
      rw [if_neg hn] at r1
      rw [h2, if_neg (by omega), upA_k _ _ _ _ hn]
      exact a2 r j r0 r1 j0 j1
theorem RT_step {x : Int → Int} {n : Int} {R : (Int × Int) × (Nat → Int) × uF} {t tz t1 t2 : uN} {f fz f1 : uF} {i : Int} (h : RTI x n R t f i tz fz) (hi : i < 220) (h0 : tz 3 3 = 0) (hp : tz 3 2 < n) (hq : CLQ x n tz fz t1 f1) (h2 : t2 = up2 t1 3 2 (sk x (t1 3 2))) : RTI x n R t f (i + 1) t2 f1 := by
  obtain ⟨i1, i2, i3, i4, i5⟩ := h
  rcases i5 with ⟨-, a1, c, D, a2, a3⟩ | i5
  rotate_left
  · exact absurd h0 i5.1
  obtain ⟨q1, q2, q3, q4⟩ := hq
  have e2 : ∀ a j, ¬ (a = 3 ∧ j = 2) → t2 a j = t1 a j := fun a j q => by rw [h2, up2_ne _ _ (by omega)]
  have e32 : t2 3 2 = sk x (t1 3 2) := by rw [h2, up2_s]
  have e33 : t2 3 3 = t1 3 3 := e2 3 3 (by omega)
  have e34 : t2 3 4 = t1 3 4 := e2 3 4 (by omega)
  have ec0 : c 0 = tz 5 3 := (a3 0 (by omega)).1.symm
  have esr := sk_rng i2.1 q2.1 q2.2
  refine ⟨⟨by omega, by omega⟩, ?_, ?_, ?_, ?_⟩
  · exact i2.of (by rw [e2 1 3 (by omega)]; exact q1.1 1 3 (by omega) (by omega)) (by rw [e32]; omega) (fun k => q1.2 2 k (by omega) (by omega) (by omega))
  · have et : ∀ a, a ≠ 3 → tOK t1 a → tOK t2 a := fun a q z => by unfold tOK at z ⊢; rw [e2 a 3 (by omega)]; exact z
    exact ⟨et 5 (by decide) q3.1, et 7 (by decide) q3.2.1, et 9 (by decide) q3.2.2⟩
  · exact i4.tr ⟨fun a j z1 z2 => by rw [e2 a j (by omega)]; exact q1.1 a j z1 z2, q1.2⟩
  · rw [show (220 - i).toNat = (220 - (i + 1)).toNat + 1 by omega, paS, if_neg (by omega), ec0] at a2
    rw [e33, e34]
    unfold badW at q4
    rcases q4 with ⟨b1, b2, b3⟩ | ⟨b1, b2, b3, b4⟩ | ⟨b1, b2, b3, b4, b5⟩
    · refine Or.inr ⟨by omega, ?_⟩
      rw [if_pos b1] at a2
      rw [← a2, b2, b3]
    · refine Or.inr ⟨by omega, ?_⟩
      have hw : wordZ (x (tz 3 2)) = 0 ∨ wordZ (x (tz 3 2)) = 1 ∨ wordZ (x (tz 3 2)) = 2 := by
        have := wordZ_rng (x (tz 3 2)); omega
      rw [if_neg b1, ← (a3 _ hw).1, if_pos b2] at a2
      rw [← a2, b3, b4]
    · have hw : wordZ (x (tz 3 2)) = 0 ∨ wordZ (x (tz 3 2)) = 1 ∨ wordZ (x (tz 3 2)) = 2 := by
        have := wordZ_rng (x (tz 3 2)); omega
      rw [if_neg b1, if_neg (by rw [← (a3 _ hw).1]; omega)] at a2
      by_cases hz : t1 3 3 = 0
      · rw [if_pos (by rw [← b3]; exact hz)] at a2
        obtain ⟨c1, c2, c3, c4⟩ := b5 hz
        refine Or.inl ⟨hz, by rw [c1, a1], _, _, ?_, CN_step hw a3 (t2 := t2) (f2 := f1) (fun k q => by rw [e2 k 3 (by omega)]; exact c3 k q) c4⟩
        rw [e32, c2]
        exact a2
      · refine Or.inr ⟨hz, ?_⟩
        rw [if_neg (by rw [← b3]; exact hz)] at a2
        rw [← a2, b4 hz, b3]
/-- what a reading leaves -/
def RTQ (x : Int → Int) (n : Int) (t : uN) (f : uF) (z : Int) (tz : uN) (fz : uF) : Prop :=
  CLfr t f tz fz ∧ (tOK tz 5 ∧ tOK tz 7 ∧ tOK tz 9) ∧ z = (paS x n 220 (sk x 0) (fun _ => 0) (fun _ _ => 0)).1.1 ∧ tz 3 4 = (paS x n 220 (sk x 0) (fun _ => 0) (fun _ _ => 0)).1.2 ∧
  (z = 0 → CN x (paS x n 220 (sk x 0) (fun _ => 0) (fun _ _ => 0)).2.1 (paS x n 220 (sk x 0) (fun _ => 0) (fun _ _ => 0)).2.2 tz fz)
theorem RT_end {x : Int → Int} {n : Int} {t tz : uN} {f fz : uF} {i : Int} (h : RTI x n (paS x n 220 (sk x 0) (fun _ => 0) (fun _ _ => 0)) t f i tz fz) (he : 220 ≤ i ∨ n ≤ tz 3 2 ∨ ¬ tz 3 3 = 0) : RTQ x n t f (tz 3 3) tz fz := by
  obtain ⟨i1, i2, i3, i4, i5⟩ := h
  refine ⟨i4, i3, ?_⟩
  rcases i5 with ⟨a0, a1, c, D, a2, a3⟩ | ⟨a0, a1⟩
  · have e : paS x n (220 - i).toNat (tz 3 2) c D = ((0, -1), c, D) := by
      by_cases q : 220 ≤ i
      · rw [show (220 - i).toNat = 0 by omega, paS]
      · rw [show (220 - i).toNat = (219 - i).toNat + 1 by omega, paS, if_pos (by omega)]
    rw [← a2, e]
    exact ⟨a0, a1, fun _ => a3⟩
  · rw [a1]
    exact ⟨rfl, rfl, fun q => absurd q a0⟩
theorem RT_init {x : Int → Int} {n : Int} {t t1 t2 t3 t4 t5 : uN} {f : uF} (hx : txt x n) (hn : t 1 3 = n) (hg : ∀ p, tget t f 1 p 0 = x p) (h1 : t1 = up2 t 3 2 0) (h2 : t2 = up2 t1 3 3 0) (h3 : t3 = up2 t2 3 4 (-1)) (h4 : t4 = up2 (up2 (up2 t3 5 3 0) 7 3 0) 9 3 0) (h5 : t5 = up2 t4 3 2 (sk x (t4 3 2))) : RTI x n (paS x n 220 (sk x 0) (fun _ => 0) (fun _ _ => 0)) t f 0 t5 f := by
  have e32 : t4 3 2 = 0 := by subst h4 h3 h2 h1; simp [up2]
  have hs := sk_rng hx (p := 0) (by omega) hx.1.1
  rw [e32] at h5
  refine ⟨⟨by omega, by omega⟩, ⟨hx, ?_, ?_, ?_⟩, ⟨?_, ?_, ?_⟩, ⟨?_, fun _ _ _ _ _ => rfl⟩, Or.inl ⟨?_, ?_, fun _ => 0, fun _ _ => 0, ?_, ?_⟩⟩
  · subst h5 h4 h3 h2 h1; simp [up2, hn]
  · intro p; rw [← hg p]; exact tget_same (show t5 1 3 = t 1 3 by subst h5 h4 h3 h2 h1; simp [up2]) (fun _ => rfl) p 0
  · subst h5; rw [up2_s]; exact hs
  · unfold tOK; subst h5 h4 h3 h2 h1; simp [up2]; decide
  · unfold tOK; subst h5 h4 h3 h2 h1; simp [up2]; decide
  · unfold tOK; subst h5 h4 h3 h2 h1; simp [up2]; decide
  · intro a j q1 q2
    subst h5 h4 h3 h2 h1
    rw [up2_k _ _ _ _ q1, up2_ne _ _ (by omega), up2_ne _ _ (by omega), up2_ne _ _ (by omega), up2_k _ _ _ _ q1, up2_k _ _ _ _ q1, up2_k _ _ _ _ q1]
  · subst h5 h4 h3 h2 h1; simp [up2]
  · subst h5 h4 h3 h2 h1; simp [up2]
  · subst h5; rw [up2_s]; rfl
  · intro w hw
    refine ⟨?_, fun r j r0 r1 => absurd (show r < 0 from r1) (by omega)⟩
    rcases hw with q | q | q <;> subst q <;> subst h5 h4 h3 h2 h1 <;> simp [up2, tbC]
theorem numK_rng (x : Int → Int) (b q : Int) : 0 ≤ numK x b q ∧ numK x b q ≤ 2 := by
  unfold numK
  split
  · omega
  · split <;> omega
theorem fol_rng (x : Int → Int) (w p : Int) (r : Nat) : ∀ j, 0 ≤ (fol x w p r j).1 ∧ (fol x w p r j).1 ≤ 2 := by
  induction r with
  | zero => intro j; rw [fol]; split <;> simp
  | succ r ih =>
    intro j
    rw [fol]
    split
    · exact ih _
    · exact numK_rng _ _ _
theorem CLI_rng {x : Int → Int} {w : Int} {k wd : Nat} {t tz : uN} {f fz : uF} {j : Int} (h : CLI x w k wd t f tz fz j) : 0 ≤ tz 3 3 ∧ tz 3 3 ≤ 2 := by
  rcases h.2.2 with q | q
  · rw [q.2.1]; exact fol_rng _ _ _ _ _
  · rw [q.1]; decide
theorem paS_rng (x : Int → Int) (n : Int) (k : Nat) : ∀ p c D, 0 ≤ (paS x n k p c D).1.1 ∧ (paS x n k p c D).1.1 ≤ 3 := by
  induction k with
  | zero => intro p c D; rw [paS]; simp
  | succ k ih =>
    intro p c D
    rw [paS]
    split
    · simp
    · split
      · simp
      · split
        · simp
        · split
          · exact ih _ _ _
          · have := fol_rng x (wordZ (x p)) p (wdt (wordZ (x p))).toNat 0
            exact ⟨this.1, Int.le_trans this.2 (by decide)⟩
theorem RTI_rng {x : Int → Int} {n : Int} {t tz : uN} {f fz : uF} {i : Int} (h : RTI x n (paS x n 220 (sk x 0) (fun _ => 0) (fun _ _ => 0)) t f i tz fz) : 0 ≤ tz 3 3 ∧ tz 3 3 ≤ 3 := by
  rcases h.2.2.2.2 with q | q
  · rw [q.1]; decide
  · have := paS_rng x n 220 (sk x 0) (fun _ => 0) (fun _ _ => 0)
    rw [q.2] at this
    exact this
def vyT0 (t : uN) : uN := up2 (up2 t 0 10 (t 3 4)) 1 3 0
def vyT1 (t : uN) : uN := (fun t => up2 t 16 3 (t 9 3)) ((fun t => up2 t 14 3 (t 7 3)) (up2 t 12 3 (t 5 3)))
def vyF1 (f : uF) : uF := cpA (cpA (cpA f 6 13 4) 8 15 21) 10 17 10
def vyT2 (t : uN) (f : uF) : uN := (fun t => up2 (up2 (up2 t 18 2 (tget t f 12 0 3)) 18 3 0) 18 4 0) ((fun t => up2 t 18 1 (tget t f 12 0 2)) (up2 t 19 3 0))
def vyT3 (t : uN) : uN := up2 (up2 (up2 (up2 (up2 (up2 t 96 3 0) 98 3 0) 83 2 0) 87 2 0) 21 2 0) 91 6 0
/-- what voyage() leaves -/
def VQ (x : Int → Int) (n : Int) (t : uN) (f : uF) (z : Int) (t2 : uN) (f2 : uF) : Prop :=
  ∃ k tr fr, RTQ x n t f k tr fr ∧ ((¬ k = 0 ∧ z = -10 - k ∧ t2 = vyT0 tr ∧ f2 = fr) ∨ (k = 0 ∧ z = t2 14 3 ∧ t2 = vyT3 (vyT2 (vyT1 (vyT0 tr)) (vyF1 fr)) ∧ f2 = vyF1 fr))
theorem RTQ.rng {x : Int → Int} {n : Int} {t tz : uN} {f fz : uF} {z : Int} (h : RTQ x n t f z tz fz) : 0 ≤ z ∧ z ≤ 3 := by
  rw [h.2.2.1]; exact paS_rng _ _ _ _ _ _

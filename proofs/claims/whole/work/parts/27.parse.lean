/-! the text's reading: x is the letter at a place (0 behind the end) -/
def skN (x : Int → Int) : Nat → Int → Int
  | 0, p => p
  | k + 1, p => if x p = 32 then skN x k (p + 1) else p
def sk (x : Int → Int) (p : Int) : Int := skN x 220 p
def dg (x : Int → Int) : Nat → Int → Int → Int × Int
  | 0, p, v => (p, v)
  | k + 1, p, v => if 48 ≤ x p ∧ x p ≤ 57 then dg x k (p + 1) (min v 999 * 10 + x p - 48) else (p, v)
def dE (x : Int → Int) (p : Int) : Int := (dg x 220 p 0).1
def dV (x : Int → Int) (p : Int) : Int := (dg x 220 p 0).2
/-- a text of n letters -/
def txt (x : Int → Int) (n : Int) : Prop := (0 ≤ n ∧ n ≤ 220) ∧ (∀ p, 0 ≤ x p ∧ x p ≤ 255) ∧ ∀ p, ¬ (0 ≤ p ∧ p < n) → x p = 0
theorem txt_lt {x : Int → Int} {n p : Int} (hx : txt x n) (h0 : 0 ≤ p) (h : x p ≠ 0) : p < n := by
  rcases Int.lt_or_le p n with a | a
  · exact a
  · exact absurd (hx.2.2 p (by omega)) h
theorem skN_rng {x : Int → Int} {n : Int} (hx : txt x n) (k : Nat) : ∀ p, 0 ≤ p → p ≤ n → p ≤ skN x k p ∧ skN x k p ≤ n := by
  induction k with
  | zero => intro p h0 h1; exact ⟨Int.le_refl _, h1⟩
  | succ k ih =>
    intro p h0 h1
    rw [skN]
    split
    · next h =>
      have q : p < n := by
        rcases Int.lt_or_le p n with a | a
        · exact a
        · have := hx.2.2 p (by omega); omega
      have := ih (p + 1) (by omega) (by omega)
      omega
    · exact ⟨Int.le_refl _, h1⟩
theorem skN_end {x : Int → Int} {n : Int} (hx : txt x n) (k : Nat) : ∀ p, 0 ≤ p → p ≤ n → n - p ≤ k → x (skN x k p) ≠ 32 := by
  induction k with
  | zero => intro p h0 h1 h2; rw [skN]; have := hx.2.2 p (by omega); omega
  | succ k ih =>
    intro p h0 h1 h2
    rw [skN]
    split
    · next h =>
      have q : p < n := by
        rcases Int.lt_or_le p n with a | a
        · exact a
        · have := hx.2.2 p (by omega); omega
      exact ih (p + 1) (by omega) (by omega) (by omega)
    · next h => exact h
theorem sk_rng {x : Int → Int} {n : Int} (hx : txt x n) {p : Int} (h0 : 0 ≤ p) (h1 : p ≤ n) : p ≤ sk x p ∧ sk x p ≤ n := skN_rng hx 220 p h0 h1
theorem sk_end {x : Int → Int} {n : Int} (hx : txt x n) {p : Int} (h0 : 0 ≤ p) (h1 : p ≤ n) : x (sk x p) ≠ 32 := skN_end hx 220 p h0 h1 (by have := hx.1; omega)
theorem sk_no {x : Int → Int} {p : Int} (h : x p ≠ 32) : sk x p = p := by unfold sk; rw [skN, if_neg h]
/-- a blank more: the fuel is enough -/
theorem skN_fuel {x : Int → Int} {n : Int} (hx : txt x n) (k : Nat) : ∀ p, 0 ≤ p → p ≤ n → n - p ≤ k → skN x k p = skN x (k + 1) p := by
  induction k with
  | zero => intro p h0 h1 h2; rw [skN, skN, if_neg (by have := hx.2.2 p (by omega); omega)]
  | succ k ih =>
    intro p h0 h1 h2
    rw [skN, skN]
    split
    · next h =>
      have q : p < n := by
        rcases Int.lt_or_le p n with a | a
        · exact a
        · have := hx.2.2 p (by omega); omega
      exact ih (p + 1) (by omega) (by omega) (by omega)
    · rfl
theorem sk_step {x : Int → Int} {n : Int} (hx : txt x n) {p : Int} (h0 : 0 ≤ p) (h1 : p ≤ n) (h : x p = 32) : sk x p = sk x (p + 1) := by
  have q : p < n := by
    rcases Int.lt_or_le p n with a | a
    · exact a
    · have := hx.2.2 p (by omega); omega
  have e : sk x p = skN x 219 (p + 1) := by unfold sk; rw [skN, if_pos h]
  rw [e, skN_fuel hx 219 (p + 1) (by omega) (by omega) (by have := hx.1; omega)]; rfl
theorem dg_rng {x : Int → Int} {n : Int} (hx : txt x n) (k : Nat) : ∀ p v, 0 ≤ p → p ≤ n → 0 ≤ v → v ≤ 9999 → (p ≤ (dg x k p v).1 ∧ (dg x k p v).1 ≤ n) ∧ (0 ≤ (dg x k p v).2 ∧ (dg x k p v).2 ≤ 9999) := by
  induction k with
  | zero => intro p v h0 h1 h2 h3; exact ⟨⟨Int.le_refl _, h1⟩, h2, h3⟩
  | succ k ih =>
    intro p v h0 h1 h2 h3
    rw [dg]
    split
    · next h =>
      have q : p < n := by
        rcases Int.lt_or_le p n with a | a
        · exact a
        · have := hx.2.2 p (by omega); omega
      have := ih (p + 1) (min v 999 * 10 + x p - 48) (by omega) (by omega) (by omega) (by omega)
      omega
    · exact ⟨⟨Int.le_refl _, h1⟩, h2, h3⟩
theorem dE_rng {x : Int → Int} {n : Int} (hx : txt x n) {p : Int} (h0 : 0 ≤ p) (h1 : p ≤ n) : (p ≤ dE x p ∧ dE x p ≤ n) ∧ (0 ≤ dV x p ∧ dV x p ≤ 9999) := dg_rng hx 220 p 0 h0 h1 (by omega) (by omega)
/-- the word: 0 s, 1 l, 2 m, -1 none -/
def wordZ (c : Int) : Int := if c = 115 then 0 else if c = 108 then 1 else if c = 109 then 2 else -1
def wdt (w : Int) : Int := if w = 0 then 4 else if w = 1 then 3 else 2
/-- where number j of a clause is looked for, the clause's word being at p -/
def posN (x : Int → Int) (p : Int) : Nat → Int
  | 0 => p + 1
  | j + 1 => dE x (sk x (posN x p j))
def inB (b v : Int) : Prop := leastT b.toNat ≤ v ∧ v ≤ greatT b.toNat
/-- what is wrong with a number at q, of the bound b -/
def numK (x : Int → Int) (b q : Int) : Int := if dE x q = q then 1 else if dE x q - q ≤ 3 ∧ leastT b.toNat ≤ dV x q ∧ dV x q ≤ greatT b.toNat then 0 else 2
/-- from number j on, r are to come: the fault's kind and place, or the clause's end -/
def fol (x : Int → Int) (w p : Int) : Nat → Nat → Int × Int × Int
  | 0, j => if x (sk x (posN x p j)) = 59 then (0, 0, sk x (posN x p j) + 1) else (1, sk x (posN x p j), 0)
  | r + 1, j => if numK x (w * 4 + j) (sk x (posN x p j)) = 0 then fol x w p r (j + 1) else (numK x (w * 4 + j) (sk x (posN x p j)), sk x (posN x p j), 0)
theorem posN_rng {x : Int → Int} {n : Int} (hx : txt x n) {p : Int} (h0 : 0 ≤ p) (h1 : p < n) (j : Nat) : p + 1 ≤ posN x p j ∧ posN x p j ≤ n := by
  induction j with
  | zero => rw [posN]; omega
  | succ j ih =>
    rw [posN]
    have a := sk_rng hx (p := posN x p j) (by omega) ih.2
    have b := dE_rng hx (p := sk x (posN x p j)) (by omega) a.2
    omega
theorem leastT_rng (j : Nat) : 0 ≤ leastT j ∧ leastT j ≤ 1 := by unfold leastT; split <;> (try split) <;> omega
theorem greatT_rng (j : Nat) : 0 ≤ greatT j ∧ greatT j ≤ 999 := by unfold greatT; split <;> omega
section ROWS5
variable {p : Program} {l : Launch} {e : Env} {R : Room} {s : State} {m : MethodId} {args : Array Value} {below : List Frame} {meth : Method} {c : Code} {H : Heap} {locs : List Loc} {cells slots : Nat} {Q : State → Prop}
variable {cc : ByteArray} {pc d nL : Nat} {own : String} {ls : Array Slot} {rest : List Value} {g : uG} {n : Nat} {E : Nat → va_E}
theorem u_gets (X : uX p d R s m args c cc nL own) (Y : uY g n E s H locs) {nm ds : String} {v : Value} (hZ : va_Z RX3 nm ds v (uA g) s s.heap) {idx : Nat} (hl : Cond.fieldLink own idx RX3 nm ds ∈ T0) (hdg : decode cc pc = .ok (.getstatic idx, 3)) (kk : W p l e R s m args below meth c H locs cells slots Q (F0 m (pc + 3) ls (v :: rest))) : W p l e R s m args below meth c H locs cells slots Q (F0 m pc ls rest) :=
  va_gets X.1 X.2.1 hZ Y.2.2.2.1 X.2.2.2.1 (X.w hl) (fun _ h => h) hdg kk
theorem u_ti (X : uX p d R s m args c cc nL own) (Y : uY g n E s H locs) {t : Nat} {tb : Nat → Int} (hT : va_T .int t 12 (fun j => .int (iV (tb j))) (uA g) s s.heap) {z : Int} (h0 : 0 ≤ z) (h1 : z < 12) (hdg : decode cc pc = .ok (.iaload, 1)) (kk : W p l e R s m args below meth c H locs cells slots Q (F0 m (pc + 1) ls (.int (iV (tb z.toNat)) :: rest))) : W p l e R s m args below meth c H locs cells slots Q (F0 m pc ls (.int (iV z) :: .ref t :: rest)) :=
  va_ti X.1 X.2.1 hT Y.2.2.2.1 (vp_inZ h0 (by omega) (by decide)) (by rw [iV_clamp (by omega)]) hdg kk
theorem u_tlen (X : uX p d R s m args c cc nL own) (Y : uY g n E s H locs) {t : Nat} {tb : Nat → Int} (hT : va_T .int t 12 (fun j => .int (iV (tb j))) (uA g) s s.heap) (hdg : decode cc pc = .ok (.arraylength, 1)) (kk : W p l e R s m args below meth c H locs cells slots Q (F0 m (pc + 1) ls (.int (iV 12) :: rest))) : W p l e R s m args below meth c H locs cells slots Q (F0 m pc ls (.ref t :: rest)) :=
  va_tlen X.1 X.2.1 hT Y.2.2.2.1 rfl hdg kk
theorem r_lookup3 (X : uX p d R s m args c cc nL own) {dflt o1 o2 o3 : Int} {len : Nat} {z : Int} (tgt : Nat) (hdg : decode cc pc = .ok (.lookupswitch dflt #[(108, o1), (109, o2), (115, o3)], len)) (hz : inI z) (off : Int) (ho : off = if z = 108 then o1 else if z = 109 then o2 else if z = 115 then o3 else dflt) (ht : (pc : Int) + off = (tgt : Int)) (k : W p l e R s m args below meth c H locs cells slots Q (F0 m tgt ls rest)) : W p l e R s m args below meth c H locs cells slots Q (F0 m pc ls (.int (iV z) :: rest)) := by
  refine lv_lookup X.1 X.2.1 hdg (by rfl) (off := off) ?_ ht k
  rw [iV_toInt hz, ho]
  show Op.lookupswitch.offset [(108, o1), (109, o2), (115, o3)] dflt z = _
  rw [Op.lookupswitch.offset_cons, Op.lookupswitch.offset_cons, Op.lookupswitch.offset_cons]
  by_cases h1 : z = 108
  · rw [if_pos h1.symm, if_pos h1]
  · rw [if_neg (fun q => h1 q.symm), if_neg h1]
    by_cases h2 : z = 109
    · rw [if_pos h2.symm, if_pos h2]
    · rw [if_neg (fun q => h2 q.symm), if_neg h2]
      by_cases h3 : z = 115
      · rw [if_pos h3.symm, if_pos h3]
      · rw [if_neg (fun q => h3 q.symm), if_neg h3]; rfl
end ROWS5
/-- where the reader's text stands -/
def TX (t : uN) (f : uF) (x : Int → Int) (n : Int) : Prop := txt x n ∧ t 1 3 = n ∧ (∀ p, tget t f 1 p 0 = x p) ∧ (0 ≤ t 3 2 ∧ t 3 2 ≤ n)
theorem TX.tok {t : uN} {f : uF} {x : Int → Int} {n : Int} (h : TX t f x n) : tOK t 1 := show 0 ≤ t 1 3 ∧ t 1 3 ≤ 220 by have := h.1.1; have := h.2.1; omega
theorem TX.of {t t2 : uN} {f f2 : uF} {x : Int → Int} {n : Int} (h : TX t f x n) (h1 : t2 1 3 = t 1 3) (h2 : 0 ≤ t2 3 2 ∧ t2 3 2 ≤ n) (hf : ∀ i, f2 2 i = f 2 i) : TX t2 f2 x n := ⟨h.1, by rw [h1]; exact h.2.1, fun p => by rw [tget_same h1 hf]; exact h.2.2.1 p, h2⟩
/-- where the reader stands behind a number of the bound b -/
def rnT (t : uN) (x : Int → Int) (b : Int) : uN := if dE x (t 3 2) = t 3 2 then up2 (up2 (up2 t 3 2 (dE x (t 3 2))) 3 3 1) 3 4 (t 3 2) else if dE x (t 3 2) - t 3 2 ≤ 3 ∧ leastT b.toNat ≤ dV x (t 3 2) ∧ dV x (t 3 2) ≤ greatT b.toNat then up2 t 3 2 (dE x (t 3 2)) else up2 (up2 (up2 t 3 2 (dE x (t 3 2))) 3 3 2) 3 4 (t 3 2)
theorem rnT_0 {t : uN} {x : Int → Int} {b : Int} (h : numK x b (t 3 2) = 0) : rnT t x b = up2 t 3 2 (dE x (t 3 2)) := by
  unfold numK at h
  unfold rnT
  by_cases h1 : dE x (t 3 2) = t 3 2
  · rw [if_pos h1] at h; omega
  · rw [if_neg h1] at h ⊢
    by_cases h2 : dE x (t 3 2) - t 3 2 ≤ 3 ∧ leastT b.toNat ≤ dV x (t 3 2) ∧ dV x (t 3 2) ≤ greatT b.toNat
    · rw [if_pos h2]
    · rw [if_neg h2] at h; omega
theorem rnT_k {t : uN} {x : Int → Int} {b : Int} (h : ¬ numK x b (t 3 2) = 0) : rnT t x b = up2 (up2 (up2 t 3 2 (dE x (t 3 2))) 3 3 (numK x b (t 3 2))) 3 4 (t 3 2) := by
  unfold numK at h ⊢
  unfold rnT
  by_cases h1 : dE x (t 3 2) = t 3 2
  · rw [if_pos h1, if_pos h1]
  · rw [if_neg h1] at h
    rw [if_neg h1, if_neg h1]
    by_cases h2 : dE x (t 3 2) - t 3 2 ≤ 3 ∧ leastT b.toNat ≤ dV x (t 3 2) ∧ dV x (t 3 2) ≤ greatT b.toNat
    · rw [if_pos h2] at h; omega
    · rw [if_neg h2, if_neg h2]
theorem rnT_2 (t : uN) (x : Int → Int) (b : Int) : rnT t x b 3 2 = dE x (t 3 2) := by
  unfold rnT
  split
  · simp [up2]
  · split <;> simp [up2]
theorem rnT_off {t : uN} {x : Int → Int} {b : Int} {k j : Nat} (h : k ≠ 3) : rnT t x b k j = t k j := by
  unfold rnT
  split
  · simp [up2, h]
  · split <;> simp [up2, h]
def CLfr (t : uN) (f : uF) (t2 : uN) (f2 : uF) : Prop := (∀ a j, a ≠ 3 → ¬ (j = 3 ∧ (a = 5 ∨ a = 7 ∨ a = 9)) → t2 a j = t a j) ∧ ∀ a i, a ≠ 6 → a ≠ 8 → a ≠ 10 → f2 a i = f a i
theorem CLfr.rf {t : uN} {f : uF} : CLfr t f t f := ⟨fun _ _ _ _ => rfl, fun _ _ _ _ _ => rfl⟩
theorem CLfr.tr {t t2 t3 : uN} {f f2 f3 : uF} (h : CLfr t f t2 f2) (h2 : CLfr t2 f2 t3 f3) : CLfr t f t3 f3 := ⟨fun a j x y => (h2.1 a j x y).trans (h.1 a j x y), fun a i x y z => (h2.2 a i x y z).trans (h.2 a i x y z)⟩
def tbC (w : Int) : Nat := if w = 0 then 5 else if w = 1 then 7 else 9
def badW (t : uN) (w : Int) : Prop := w = -1 ∨ (¬ w = 0 ∧ t 5 3 = 0)
/-- a clause's end: the fault's kind and place, or the row that came -/
def CLQ (x : Int → Int) (n : Int) (t : uN) (f : uF) (t2 : uN) (f2 : uF) : Prop :=
  CLfr t f t2 f2 ∧ (0 ≤ t2 3 2 ∧ t2 3 2 ≤ n) ∧ (tOK t2 5 ∧ tOK t2 7 ∧ tOK t2 9) ∧
  ((badW t (wordZ (x (t 3 2))) ∧ t2 3 3 = 1 ∧ t2 3 4 = t 3 2) ∨
   (¬ badW t (wordZ (x (t 3 2))) ∧ tm (tbC (wordZ (x (t 3 2)))) ≤ t (tbC (wordZ (x (t 3 2)))) 3 ∧ t2 3 3 = 3 ∧ t2 3 4 = t 3 2) ∨
   (¬ badW t (wordZ (x (t 3 2))) ∧ t (tbC (wordZ (x (t 3 2)))) 3 < tm (tbC (wordZ (x (t 3 2)))) ∧
    t2 3 3 = (fol x (wordZ (x (t 3 2))) (t 3 2) (wdt (wordZ (x (t 3 2)))).toNat 0).1 ∧
    (¬ t2 3 3 = 0 → t2 3 4 = (fol x (wordZ (x (t 3 2))) (t 3 2) (wdt (wordZ (x (t 3 2)))).toNat 0).2.1) ∧
    (t2 3 3 = 0 → t2 3 4 = t 3 4 ∧ t2 3 2 = (fol x (wordZ (x (t 3 2))) (t 3 2) (wdt (wordZ (x (t 3 2)))).toNat 0).2.2 ∧
      (∀ k, k = 5 ∨ k = 7 ∨ k = 9 → t2 k 3 = if k = tbC (wordZ (x (t 3 2))) then t k 3 + 1 else t k 3) ∧
      (∀ k i, f2 k i = if k = tbC (wordZ (x (t 3 2))) + 1 ∧ t (tbC (wordZ (x (t 3 2)))) 3 * wdt (wordZ (x (t 3 2))) ≤ i ∧ i < t (tbC (wordZ (x (t 3 2)))) 3 * wdt (wordZ (x (t 3 2))) + wdt (wordZ (x (t 3 2))) then dV x (sk x (posN x (t 3 2) (i - t (tbC (wordZ (x (t 3 2)))) 3 * wdt (wordZ (x (t 3 2)))).toNat)) else f k i))))
/-- along the clause's numbers: j are read -/
def CLI (x : Int → Int) (w : Int) (k wd : Nat) (t : uN) (f : uF) (tz : uN) (fz : uF) (j : Int) : Prop :=
  CLfr t f tz fz ∧ (∀ a, a = 5 ∨ a = 7 ∨ a = 9 → tz a 3 = if a = k then t a 3 + 1 else t a 3) ∧
  ((¬ tz 3 3 = 0 ∧ tz 3 3 = (fol x w (t 3 2) wd 0).1 ∧ tz 3 4 = (fol x w (t 3 2) wd 0).2.1) ∨
   (tz 3 3 = 0 ∧ tz 3 4 = t 3 4 ∧ tz 3 2 = posN x (t 3 2) j.toNat ∧ fol x w (t 3 2) (wd - j.toNat) j.toNat = fol x w (t 3 2) wd 0 ∧
    ∀ a i, fz a i = if a = k + 1 ∧ t k 3 * wd ≤ i ∧ i < t k 3 * wd + j then dV x (sk x (posN x (t 3 2) (i - t k 3 * wd).toNat)) else f a i))
theorem CLI_step {x : Int → Int} {w n : Int} {k wd : Nat} {t tz t1 t2 : uN} {f fz f2 : uF} {j v : Int} (hk : k = 5 ∨ k = 7 ∨ k = 9) (hI : CLI x w k wd t f tz fz j) (h0 : tz 3 3 = 0) (hj0 : 0 ≤ j) (hj1 : j < wd)
    (h1 : t1 = up2 tz 3 2 (sk x (tz 3 2))) (h2 : t2 = rnT t1 x (w * 4 + j)) (hv : v = dV x (t1 3 2)) (hf : f2 = upA fz (k + 1) (t k 3 * wd + j) v) : CLI x w k wd t f t2 f2 (j + 1) := by
  obtain ⟨i1, i2, i3⟩ := hI
  rcases i3 with i3 | ⟨a0, a1, a2, a3, a4⟩
  · exact absurd h0 i3.1
  have e12 : t1 3 2 = sk x (posN x (t 3 2) j.toNat) := by rw [h1, up2_s, a2]
  have efr : ∀ a b, a ≠ 3 → t2 a b = tz a b := fun a b q => by rw [h2, rnT_off q, h1, up2_k _ _ _ _ q]
  have est : fol x w (t 3 2) (wd - j.toNat) j.toNat = if numK x (w * 4 + j) (t1 3 2) = 0 then fol x w (t 3 2) (wd - (j + 1).toNat) (j + 1).toNat else (numK x (w * 4 + j) (t1 3 2), t1 3 2, 0) := by
    rw [show wd - j.toNat = (wd - (j + 1).toNat) + 1 by omega, fol, show ((j.toNat : Nat) : Int) = j by omega, ← e12, show j.toNat + 1 = (j + 1).toNat by omega]
  refine ⟨i1.tr ⟨fun a b q _ => efr a b q, fun a i q1 q2 q3 => by rw [hf, upA_k _ _ _ _ (by omega)]⟩, fun a q => by rw [efr a 3 (by omega)]; exact i2 a q, ?_⟩
  by_cases hK : numK x (w * 4 + j) (t1 3 2) = 0
  · refine Or.inr ⟨?_, ?_, ?_, ?_, ?_⟩
    · rw [h2, rnT_0 hK, up2_ne _ _ (by omega), h1, up2_ne _ _ (by omega), a0]
    · rw [h2, rnT_0 hK, up2_ne _ _ (by omega), h1, up2_ne _ _ (by omega), a1]
    · rw [h2, rnT_2, show (j + 1).toNat = j.toNat + 1 by omega, posN, e12]
    · rw [← a3, est, if_pos hK]
    · intro a i
      rw [hf]
      by_cases q : a = k + 1 ∧ i = t k 3 * wd + j
      · rw [q.1, q.2, upA_s, if_pos ⟨rfl, by omega, by omega⟩, hv, e12, show t k 3 * wd + j - t k 3 * wd = j by omega]
      · have e : upA fz (k + 1) (t k 3 * wd + j) v a i = fz a i := by
          by_cases q1 : a = k + 1
          · rw [q1]; exact upA_i _ _ _ (fun z => q ⟨q1, z⟩)
          · exact upA_k _ _ _ _ q1
        rw [e, a4]
        by_cases q2 : a = k + 1 ∧ t k 3 * wd ≤ i ∧ i < t k 3 * wd + j
        · rw [if_pos q2, if_pos (by omega)]
        · rw [if_neg q2, if_neg (by omega)]
  · refine Or.inl ⟨?_, ?_, ?_⟩
    · rw [h2, rnT_k hK, up2_ne _ _ (by omega), up2_s]; exact hK
    · rw [h2, rnT_k hK, up2_ne _ _ (by omega), up2_s, ← a3, est, if_neg hK]
    · rw [h2, rnT_k hK, up2_s, ← a3, est, if_neg hK]
theorem CLQ_bad {x : Int → Int} {n : Int} {t t2 : uN} {f : uF} (ht : 0 ≤ t 3 2 ∧ t 3 2 ≤ n) (ho : tOK t 5 ∧ tOK t 7 ∧ tOK t 9) (hw : badW t (wordZ (x (t 3 2)))) (h : t2 = up2 (up2 t 3 3 1) 3 4 (t 3 2)) : CLQ x n t f t2 f := by
  subst h
  exact ⟨⟨fun a j h1 _ => by rw [up2_k _ _ _ _ h1, up2_k _ _ _ _ h1], fun _ _ _ _ _ => rfl⟩, by rw [up2_ne _ _ (by omega), up2_ne _ _ (by omega)]; exact ht, ⟨tOK_k (by decide) (tOK_k (by decide) ho.1), tOK_k (by decide) (tOK_k (by decide) ho.2.1), tOK_k (by decide) (tOK_k (by decide) ho.2.2)⟩, Or.inl ⟨hw, by rw [up2_ne _ _ (by omega), up2_s], up2_s _ _ _ _⟩⟩
theorem CLQ_full {x : Int → Int} {n : Int} {t t2 : uN} {f : uF} (ht : 0 ≤ t 3 2 ∧ t 3 2 ≤ n) (ho : tOK t 5 ∧ tOK t 7 ∧ tOK t 9) (hw : ¬ badW t (wordZ (x (t 3 2)))) (hm : tm (tbC (wordZ (x (t 3 2)))) ≤ t (tbC (wordZ (x (t 3 2)))) 3) (h : t2 = up2 (up2 t 3 3 3) 3 4 (t 3 2)) : CLQ x n t f t2 f := by
  subst h
  exact ⟨⟨fun a j h1 _ => by rw [up2_k _ _ _ _ h1, up2_k _ _ _ _ h1], fun _ _ _ _ _ => rfl⟩, by rw [up2_ne _ _ (by omega), up2_ne _ _ (by omega)]; exact ht, ⟨tOK_k (by decide) (tOK_k (by decide) ho.1), tOK_k (by decide) (tOK_k (by decide) ho.2.1), tOK_k (by decide) (tOK_k (by decide) ho.2.2)⟩, Or.inr (Or.inl ⟨hw, hm, by rw [up2_ne _ _ (by omega), up2_s], up2_s _ _ _ _⟩)⟩
/-- out of the loop: a number was wrong -/
theorem CLQ_num {x : Int → Int} {n w : Int} {k wd : Nat} {t tz : uN} {f fz : uF} {j : Int} (hw : wordZ (x (t 3 2)) = w) (hkw : k = tbC w) (hd : (wd : Int) = wdt w) (hb : ¬ badW t w) (hm : t k 3 < tm k) (ht : 0 ≤ tz 3 2 ∧ tz 3 2 ≤ n) (ho : tOK tz 5 ∧ tOK tz 7 ∧ tOK tz 9) (hI : CLI x w k wd t f tz fz j) (h0 : ¬ tz 3 3 = 0) : CLQ x n t f tz fz := by
  obtain ⟨i1, i2, i3⟩ := hI
  rcases i3 with ⟨b0, b1, b2⟩ | i3
  · rw [show wd = (wdt w).toNat by omega] at b1 b2
    subst hkw
    unfold CLQ
    rw [hw]
    exact ⟨i1, ht, ho, Or.inr (Or.inr ⟨hb, hm, b1, fun _ => b2, fun q => absurd q b0⟩)⟩
  · exact absurd i3.1 h0
/-- out of the loop: all numbers are there; the end -/
theorem CLQ_end {x : Int → Int} {n w : Int} {k wd : Nat} {t tz t1 t2 : uN} {f fz : uF} {j : Int} (hw : wordZ (x (t 3 2)) = w) (hkw : k = tbC w) (hd : (wd : Int) = wdt w) (hb : ¬ badW t w) (hm : t k 3 < tm k) (ho : tOK tz 5 ∧ tOK tz 7 ∧ tOK tz 9) (hI : CLI x w k wd t f tz fz j) (hj : j = wd) (h0 : tz 3 3 = 0) (h1 : t1 = up2 tz 3 2 (sk x (tz 3 2))) (hr : 0 ≤ t1 3 2 ∧ t1 3 2 ≤ n ∧ (x (t1 3 2) = 59 → t1 3 2 < n))
    (h2 : t2 = if x (t1 3 2) = 59 then up2 t1 3 2 (t1 3 2 + 1) else up2 (up2 t1 3 3 1) 3 4 (t1 3 2)) : CLQ x n t f t2 fz := by
  obtain ⟨i1, i2, i3⟩ := hI
  rcases i3 with i3 | ⟨a0, a1, a2, a3, a4⟩
  · exact absurd h0 i3.1
  subst hkw
  have e12 : t1 3 2 = sk x (posN x (t 3 2) wd) := by rw [h1, up2_s, a2, hj]; rfl
  have ef : fol x w (t 3 2) (wdt w).toNat 0 = if x (t1 3 2) = 59 then (0, 0, t1 3 2 + 1) else (1, t1 3 2, 0) := by
    rw [show (wdt w).toNat = wd by omega, ← a3, show wd - j.toNat = 0 by omega, fol, show j.toNat = wd by omega, ← e12]
  have efr : ∀ a b, a ≠ 3 → t2 a b = tz a b := fun a b q => by
    rw [h2]
    split
    · rw [up2_k _ _ _ _ q, h1, up2_k _ _ _ _ q]
    · rw [up2_k _ _ _ _ q, up2_k _ _ _ _ q, h1, up2_k _ _ _ _ q]
  have eto : ∀ a, a ≠ 3 → tOK tz a → tOK t2 a := fun a q z => by unfold tOK at z ⊢; rw [efr a 3 q]; exact z
  have e3 : t2 3 3 = if x (t1 3 2) = 59 then 0 else 1 := by
    rw [h2]
    split
    · rw [up2_ne _ _ (by omega), h1, up2_ne _ _ (by omega), a0]
    · rw [up2_ne _ _ (by omega), up2_s]
  unfold CLQ
  rw [hw, ef]
  refine ⟨i1.tr ⟨fun a b q _ => efr a b q, fun _ _ _ _ _ => rfl⟩, ?_, ⟨eto 5 (by decide) ho.1, eto 7 (by decide) ho.2.1, eto 9 (by decide) ho.2.2⟩, Or.inr (Or.inr ⟨hb, hm, ?_, ?_, ?_⟩)⟩
  · rw [h2]
    split
    · next q => rw [up2_s]; have := hr.2.2 q; omega
    · rw [up2_ne _ _ (by omega), up2_ne _ _ (by omega)]; exact ⟨hr.1, hr.2.1⟩
  · rw [e3]; split <;> rfl
  · intro q
    rw [e3] at q
    by_cases c : x (t1 3 2) = 59
    · rw [if_pos c] at q; exact absurd rfl q
    · rw [if_neg c, h2, if_neg c, up2_s]
  · intro q
    rw [e3] at q
    by_cases c : x (t1 3 2) = 59
    · rw [if_pos c]
      refine ⟨?_, ?_, fun a hq => by rw [efr a 3 (by omega)]; exact i2 a hq, fun a i => by rw [a4, hj, hd]⟩
      · rw [h2, if_pos c, up2_ne _ _ (by omega), h1, up2_ne _ _ (by omega), a1]
      · rw [h2, if_pos c, up2_s]
    · rw [if_neg c] at q; omega

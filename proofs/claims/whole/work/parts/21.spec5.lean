/-! what the class's calls answer -/
theorem or_tab : ∀ m, m < 9 → ∀ s, s < 2 ^ m → iV (s : Nat) ||| iV (2 ^ m : Nat) = iV (s + 2 ^ m : Nat) := by decide +kernel
theorem shl_tab : ∀ m, m < 9 → iV 1 <<< (iV (m : Nat) &&& 31) = iV (2 ^ m : Nat) := by decide +kernel
def pow2 (m : Int) : Int := ((2 ^ m.toNat : Nat) : Int)
theorem iV_shl {m : Int} (h0 : 0 ≤ m) (h1 : m < 9) : iV 1 <<< (iV m &&& 31) = iV (pow2 m) := by
  have h := shl_tab m.toNat (by omega)
  rw [show ((m.toNat : Nat) : Int) = m by omega] at h
  exact h
theorem iV_or {m s : Int} (h0 : 0 ≤ m) (h1 : m < 9) (h2 : 0 ≤ s) (h3 : s < pow2 m) : iV s ||| iV (pow2 m) = iV (s + pow2 m) := by
  unfold pow2 at h3
  have h := or_tab m.toNat (by omega) s.toNat (by omega)
  rw [show ((s.toNat : Nat) : Int) = s by omega] at h
  rw [show (((s.toNat + 2 ^ m.toNat : Nat)) : Int) = s + pow2 m by unfold pow2; omega] at h
  exact h
theorem iV_or0 (s : Int) : iV s ||| iV 0 = iV s := by rw [show iV 0 = 0 from rfl]; simp
section ROWS4
variable {p : Program} {l : Launch} {e : Env} {R : Room} {s : State} {m : MethodId} {args : Array Value} {below : List Frame} {meth : Method} {c : Code} {H : Heap} {locs : List Loc} {cells slots : Nat} {Q : State → Prop}
variable {cc : ByteArray} {pc d nL : Nat} {own : String} {ls : Array Slot} {rest : List Value}
theorem r_shl (X : uX p d R s m args c cc nL own) {i : Int} (hdg : decode cc pc = .ok (.ishl, 1)) (h0 : 0 ≤ i) (h1 : i < 9) (k : W p l e R s m args below meth c H locs cells slots Q (F0 m (pc + 1) ls (.int (iV (pow2 i)) :: rest))) : W p l e R s m args below meth c H locs cells slots Q (F0 m pc ls (.int (iV i) :: .int (iV 1) :: rest)) := lv_ishl X.1 X.2.1 hdg (by rw [iV_shl h0 h1]; exact k)
theorem r_orp (X : uX p d R s m args c cc nL own) {i z : Int} (hdg : decode cc pc = .ok (.ior, 1)) (h0 : 0 ≤ i) (h1 : i < 9) (h2 : 0 ≤ z) (h3 : z < pow2 i) (k : W p l e R s m args below meth c H locs cells slots Q (F0 m (pc + 1) ls (.int (iV (z + pow2 i)) :: rest))) : W p l e R s m args below meth c H locs cells slots Q (F0 m pc ls (.int (iV (pow2 i)) :: .int (iV z) :: rest)) := lv_ior X.1 X.2.1 hdg (by rw [iV_or h0 h1 h2 h3]; exact k)
theorem r_or0 (X : uX p d R s m args c cc nL own) {z : Int} (hdg : decode cc pc = .ok (.ior, 1)) (k : W p l e R s m args below meth c H locs cells slots Q (F0 m (pc + 1) ls (.int (iV z) :: rest))) : W p l e R s m args below meth c H locs cells slots Q (F0 m pc ls (.int (iV 0) :: .int (iV z) :: rest)) := lv_ior X.1 X.2.1 hdg (by rw [iV_or0]; exact k)
end ROWS4
def bitN (c : Int → Int) : Nat → Int
  | 0 => 0
  | n + 1 => bitN c n + (if c n = 1 then pow2 n else 0)
theorem bitN_rng (c : Int → Int) (n : Nat) : 0 ≤ bitN c n ∧ bitN c n < pow2 n := by
  induction n with
  | zero => simp [bitN, pow2]
  | succ n ih =>
    have e : pow2 ((n + 1 : Nat) : Int) = pow2 (n : Int) + pow2 (n : Int) := by
      unfold pow2
      rw [show (((n + 1 : Nat) : Int)).toNat = n + 1 by omega, show ((n : Int)).toNat = n by omega, Nat.pow_succ]
      omega
    rw [bitN, e]
    split <;> omega
theorem bitN_1 {c : Int → Int} {i : Int} (h : 0 ≤ i) (hc : c i = 1) : bitN c (i + 1).toNat = bitN c i.toNat + pow2 i := by
  rw [show (i + 1).toNat = i.toNat + 1 by omega, bitN, show ((i.toNat : Nat) : Int) = i by omega, if_pos hc]
theorem bitN_0 {c : Int → Int} {i : Int} (h : 0 ≤ i) (hc : ¬ c i = 1) : bitN c (i + 1).toNat = bitN c i.toNat := by
  rw [show (i + 1).toNat = i.toNat + 1 by omega, bitN, show ((i.toNat : Nat) : Int) = i by omega, if_neg hc]; omega
theorem bitN_r {c : Int → Int} {i : Int} (h : 0 ≤ i) : 0 ≤ bitN c i.toNat ∧ bitN c i.toNat < pow2 i := by
  have := bitN_rng c i.toNat
  rw [show ((i.toNat : Nat) : Int) = i by omega] at this
  exact this
def homeX (t : uN) (f : uF) : Int := thru (oddX t f 11) (t 18 3) (t 14 3) (t 18 1) 1000000
theorem thruX_rng {o : Int → Int → Int} (ho : ∀ l s, 0 ≤ s → s ≤ 9 → 0 ≤ o l s ∧ o l s ≤ 100) (n : Nat) : ∀ (l s v : Int), 0 ≤ s → s ≤ 9 → 0 ≤ v → v ≤ 1000000 → 0 ≤ thruX o n l s v ∧ thruX o n l s v ≤ 1000000 := by
  induction n with
  | zero => intro l s v _ _ h0 h1; exact ⟨h0, h1⟩
  | succ n ih =>
    intro l s v s0 s1 h0 h1
    have h2 := ho l s s0 s1
    have h3 := step_rng h0 h1 h2.1 h2.2
    exact ih (l + 1) (max 0 (s - 1)) _ (by omega) (by omega) h3.2.2.1 (by omega)
theorem homeX_rng {t : uN} {f : uF} (h : HI t f) : 0 ≤ homeX t f ∧ homeX t f ≤ 1000000 := by
  have hb := h.b
  exact thruX_rng (fun l s s0 s1 => ⟨(oddX_rng h.1 l s s0 s1).1, (oddX_rng h.1 l s s0 s1).2.1⟩) _ _ _ _ hb.1.1.1 hb.1.1.2 (by omega) (by omega)
theorem rateX_rng (c : Int) (h0 : 0 ≤ c) (h1 : c ≤ 1000000) : -1 ≤ rateX c ∧ rateX c ≤ 999 := by
  unfold rateX
  split
  · split
    · next h h2 =>
      have e : (100000000 + c - 1).tdiv c = (100000000 + c - 1) / c := Int.tdiv_eq_ediv_of_nonneg (by omega)
      have q : 100 ≤ (100000000 + c - 1) / c := Int.le_ediv_of_mul_le (by omega) (by omega)
      omega
    · omega
  · omega
def toldX (t : uN) (f : uF) (w : Int) : Int :=
  if w = 0 then tget t f 12 0 0 else if w = 1 then tget t f 12 0 1 else if w = 2 then t 18 1 else if w = 3 then t 18 2 else if w = 4 then t 14 3 else if w = 5 then t 16 3 else if w = 6 then t 19 3 else if w = 7 then t 1 3 else if w = 8 then t 18 3 else if w = 9 then whereX t else if w = 10 then dueS t f 18 0 1 + dueS t f 18 0 0 else if w = 11 then (if goneX t = 0 then max 0 (lbpX t f + t 18 2) else 0) else if w = 12 then t 96 3 else if w = 13 then t 98 3 else if w = 14 then t 21 2 else -1000000002
def legX (t : uN) (f : uF) (l w : Int) : Int := if thas t 14 l = 0 then -1000000001 else if w < 0 ∨ 3 < w then -1000000002 else if w = 3 then oddX t f 11 l (t 18 1) else tget t f 14 l w
def lenX (t : uN) (f : uF) (m w : Int) : Int := if thas t 16 m = 0 then -1000000001 else if w < 0 ∨ 2 < w then -1000000002 else if w = 2 then yetX t f m else tget t f 16 m w
def loaX (t : uN) (f : uF) (i w : Int) : Int := if thas t 19 i = 0 then -1000000001 else if w < 0 ∨ 5 < w then -1000000002 else if w = 5 then rankS t f 18 i else tget t f 19 i w
def cohX (t : uN) (f : uF) : Int := if goneX t = 0 then homeX t f else -1000000003
def ratX (t : uN) (f : uF) : Int := if goneX t = 0 then rateX (homeX t f) else -1000000003
def wilC (t : uN) (f : uF) : Int → Int := fun m => if ¬ rateX (homeX t f) = -1 ∧ rateX (homeX t f) ≤ tget t f 16 m 1 then 1 else 0
def wilX (t : uN) (f : uF) : Int := if goneX t = 0 then bitN (wilC t f) (t 16 3).toNat else -1000000003
def paiX (t : uN) (f : uF) (i : Int) : Int := if thas t 19 i = 0 then -1000000001 else if goneX t = 0 then paidX t f i else -1000000003
def hurFr (t : uN) (f : uF) (m v fr : Int) : Int := tget t f 12 0 1 - (if fr = 0 then 0 else owedX t f 11 m v)
def hurSh (t : uN) (f : uF) (m v fr : Int) : Int := smX t f (hurFr t f m v fr) + v - (if fr = 0 then owedX t f 11 m v else 0)
def hurC (t : uN) (f : uF) (m v fr : Int) : Int → Int := fun i => if paidS t f 18 i (hurSh t f m v fr) (hurFr t f m v fr) < paidX t f i then 1 else 0
def hurX (t : uN) (f : uF) (m v fr : Int) : Int := if thas t 16 m = 0 then -1000000001 else if v < 1 ∨ 999 < v then -1000000002 else if goneX t = 0 then bitN (hurC t f m v fr) (t 19 3).toNat else -1000000003
def shaX (t : uN) (f : uF) (i v : Int) : Int := if thas t 19 i = 0 then -1000000001 else if v < 0 ∨ 999 < v then -1000000002 else paidS t f 18 i v 0
def belX (t : uN) (f : uF) (a q : Int) : Int := if a < 0 ∨ 7 < a ∨ q < 0 ∨ 9 < q then -1000000002 else thru (oddX t f 11) (max 0 (t 18 3 - a)) (t 18 3) q 1000000
def lacX (t : uN) (f : uF) (q : Int) : Int := max 0 (max 0 (q - t 18 1) * costX t f - t 18 2)
def neeX (t : uN) (f : uF) (q w : Int) : Int := if q < 0 ∨ 9 < q ∨ w < 0 ∨ 1 < w then -1000000002 else if inPortX t = 0 then -1000000003 else if w = 0 then lacX t f q else bestN (yetX t f) (fun j => tget t f 16 j 1) (lacX t f q) (t 16 3).toNat
def telX (t : uN) (i v : Int) : Int := if thas t 19 i = 0 then -1000000001 else if v < 0 ∨ 9999 < v then -1000000002 else if tfull t 96 = 0 then t 96 3 + 1 else -1000000004
def leaN (t : uN) (f : uF) : Nat → Int
  | 0 => 0
  | n + 1 => max (leaN t f n) (leastX t f n)
def greN (t : uN) (f : uF) : Nat → Int
  | 0 => 999
  | n + 1 => min (greN t f n) (greatX t f n)
def worX (t : uN) (f : uF) (w : Int) : Int := if w < 0 ∨ 2 < w then -1000000002 else if goneX t = 0 then (if w = 0 then max 0 (greN t f (t 96 3).toNat - leaN t f (t 96 3).toNat + 1) else if max 0 (greN t f (t 96 3).toNat - leaN t f (t 96 3).toNat + 1) = 0 then -1 else if w = 1 then leaN t f (t 96 3).toNat else greN t f (t 96 3).toNat) else -1000000003
def wriX (t : uN) (v : Int) : Int := if v < 0 ∨ 9999 < v then -1000000002 else if tfull t 98 = 0 then t 98 3 + 1 else -1000000004
def feeX (t : uN) (v : Int) : Int := if v < 0 ∨ 255 < v then -1000000002 else if tfull t 1 = 0 then t 1 3 + 1 else -1000000004
def judN (b : Int → Int) (p : Int) : Nat → Int → Int
  | 0, _ => -1
  | n + 1, i => if b i = p then judN b p n (i + 1) else i
def judX (t : uN) (f : uF) : Int := judN (fun n => tget t f 98 n 0) (t 18 2) (t 98 3).toNat 0
/-- the book's entries are within their bounds -/
def BI (t : uN) (f : uF) : Prop := tOK t 98 ∧ ∀ i, 0 ≤ tget t f 98 i 0 ∧ tget t f 98 i 0 ≤ 9999
theorem leaN_rng {t : uN} {f : uF} (h : HI t f) (hT : TI t f) (n : Nat) : 0 ≤ leaN t f n ∧ leaN t f n ≤ 40000 := by
  induction n with
  | zero => simp [leaN]
  | succ n ih => have := leastX_rng h hT n; rw [leaN]; omega
theorem greN_rng {t : uN} {f : uF} (h : HI t f) (hT : TI t f) (n : Nat) : -20000 ≤ greN t f n ∧ greN t f n ≤ 999 := by
  induction n with
  | zero => simp [greN]
  | succ n ih => have := greatX_rng h hT n; rw [greN]; omega

/-! what the class's own helpers say -/
theorem lV_and {a : Int} (h0 : 0 ≤ a) (h1 : a ≤ 9223372036854775807) : lV a &&& lV 2147483647 = lV (a % 2147483648) := by
  apply Int64.toBitVec_inj.mp
  apply BitVec.eq_of_toNat_eq
  have e : ∀ z : Int, 0 ≤ z → z ≤ 9223372036854775807 → (lV z).toBitVec.toNat = z.toNat := by
    intro z z0 z1
    show (BitVec.ofInt 64 z).toNat = _
    rw [BitVec.toNat_ofInt, Int.emod_eq_of_lt z0 (by omega)]
  rw [Int64.toBitVec_and, BitVec.toNat_and, e a h0 h1, e _ (by omega) (by omega), e _ (by omega) (by omega), show ((2147483647 : Int)).toNat = 2 ^ 31 - 1 by rfl, Nat.and_two_pow_sub_one_eq_mod]
  omega
section ROWS3
variable {p : Program} {l : Launch} {e : Env} {R : Room} {s : State} {m : MethodId} {args : Array Value} {below : List Frame} {meth : Method} {c : Code} {H : Heap} {locs : List Loc} {cells slots : Nat} {Q : State → Prop}
variable {cc : ByteArray} {pc d nL : Nat} {own : String} {ls : Array Slot} {rest : List Value}
theorem r_ldc_w (X : uX p d R s m args c cc nL own) (z : Int) {i : Nat} {v : Int32} (hc : Cond.constant own i v ∈ T0) (hv : v = iV z) (hdg : decode cc pc = .ok (.ldc_w i, 3)) (k : W p l e R s m args below meth c H locs cells slots Q (F0 m (pc + 3) ls (.int (iV z) :: rest))) : W p l e R s m args below meth c H locs cells slots Q (F0 m pc ls rest) := lv_ldcw X.1 X.2.1 X.2.2.2.1 (X.w hc) hdg (hv ▸ k)
theorem r_land31 (X : uX p d R s m args c cc nL own) {a : Int} (hdg : decode cc pc = .ok (.land, 1)) (h0 : 0 ≤ a) (h1 : a ≤ 9223372036854775807) (k : W p l e R s m args below meth c H locs cells slots Q (F0 m (pc + 1) ls (.long (lV (a % 2147483648)) :: rest))) : W p l e R s m args below meth c H locs cells slots Q (F0 m pc ls (.long (lV 2147483647) :: .long (lV a) :: rest)) := lv_land X.1 X.2.1 hdg (by rw [lV_and h0 h1]; exact k)
end ROWS3
def HI (t : uN) (f : uF) : Prop := VOK t f 11 ∧ SOK t f 18
def TI (t : uN) (f : uF) : Prop := tOK t 96 ∧ ∀ i, (0 ≤ tget t f 96 i 0 ∧ tget t f 96 i 0 ≤ 7) ∧ (0 ≤ tget t f 96 i 1 ∧ tget t f 96 i 1 ≤ 9999)
/-- the plain bounds out of HI -/
theorem HI.b {t : uN} {f : uF} (h : HI t f) : ((0 ≤ t 18 1 ∧ t 18 1 ≤ 9) ∧ (0 ≤ t 18 2 ∧ t 18 2 ≤ 10000) ∧ (0 ≤ t 18 3 ∧ t 18 3 ≤ 7) ∧ (t 18 4 = 0 ∨ t 18 4 = 1)) ∧ (0 ≤ t 19 3 ∧ t 19 3 ≤ 8) ∧ ((0 ≤ t 12 3 ∧ t 12 3 ≤ 1) ∧ (0 ≤ t 14 3 ∧ t 14 3 ≤ 7) ∧ (0 ≤ t 16 3 ∧ t 16 3 ≤ 5)) ∧
    ((0 ≤ tget t f 12 0 0 ∧ tget t f 12 0 0 ≤ 999) ∧ (0 ≤ tget t f 12 0 1 ∧ tget t f 12 0 1 ≤ 999)) :=
  ⟨⟨h.2.2.1, h.2.2.2.1, h.2.2.2.2.1, h.2.2.2.2.2.1⟩, h.2.n rfl, h.1.n rfl, h.1.2.2.2.1, h.1.2.2.2.2.1⟩
theorem HI.len {t : uN} {f : uF} (h : HI t f) (m : Int) : (0 ≤ tget t f 16 m 0 ∧ tget t f 16 m 0 ≤ 999) ∧ (0 ≤ tget t f 16 m 1 ∧ tget t f 16 m 1 ≤ 200) := h.1.2.2.1 m
theorem HI.leg {t : uN} {f : uF} (h : HI t f) (i : Int) : (0 ≤ tget t f 14 i 0 ∧ tget t f 14 i 0 ≤ 99) ∧ (0 ≤ tget t f 14 i 1 ∧ tget t f 14 i 1 ≤ 9) ∧ (0 ≤ tget t f 14 i 2 ∧ tget t f 14 i 2 ≤ 99) := h.1.2.1 i
theorem HI.loan {t : uN} {f : uF} (h : HI t f) (i : Int) : (0 ≤ tget t f 19 i 0 ∧ tget t f 19 i 0 ≤ 4) ∧ (0 ≤ tget t f 19 i 1 ∧ tget t f 19 i 1 ≤ 999) ∧ (0 ≤ tget t f 19 i 2 ∧ tget t f 19 i 2 ≤ 1) ∧ (0 ≤ tget t f 19 i 3 ∧ tget t f 19 i 3 ≤ 2997) ∧ (0 ≤ tget t f 19 i 4 ∧ tget t f 19 i 4 ≤ 7) := h.2.2.2.2.2.2 i
def whereX (t : uN) : Int := if t 18 4 = 0 then (if t 18 3 < t 14 3 then 0 else 1) else 2
def inPortX (t : uN) : Int := if whereX t = 0 then 1 else 0
def goneX (t : uN) : Int := if t 18 4 = 0 ∧ ¬ t 12 3 = 0 then 0 else 1
def costX (t : uN) (f : uF) : Int := tget t f 14 (t 18 3) 2
def yetX (t : uN) (f : uF) (m : Int) : Int := tget t f 16 m 0 - lentS t f 18 m
def rateX (c : Int) : Int := if 0 < c then (if (100000000 + c - 1).tdiv c - 100 ≤ 999 then (100000000 + c - 1).tdiv c - 100 else -1) else -1
def smX (t : uN) (f : uF) (fr : Int) : Int := tget t f 12 0 0 + t 18 2 + max 0 (fr - dueS t f 18 0 1)
def paidX (t : uN) (f : uF) (i : Int) : Int := paidS t f 18 i (smX t f (tget t f 12 0 1)) (tget t f 12 0 1)
def lbpX (t : uN) (f : uF) : Int := smX t f (tget t f 12 0 1) - t 18 2 - dueS t f 18 0 0
def frTX (t : uN) (f : uF) (n : Int) : Int := if tget t f 19 (tget t f 96 n 0) 2 = 1 then 1 else 0
def canX (t : uN) (f : uF) (n : Int) : Int := if thas t 19 (tget t f 96 n 0) = 0 then 0 else if frTX t f n = 0 then (if tget t f 96 n 1 ≤ tget t f 19 (tget t f 96 n 0) 3 then 1 else 0) else (if paidS t f 18 (tget t f 96 n 0) 0 (tget t f 12 0 1) = tget t f 96 n 1 then 1 else 0)
def justX (t : uN) (f : uF) (n : Int) : Int := tget t f 96 n 1 + dueS t f 18 (tget t f 96 n 0 + 1) 0 - (smX t f (tget t f 12 0 1) - tget t f 12 0 0)
def leastX (t : uN) (f : uF) (n : Int) : Int := if canX t f n = 0 then 1000 else if frTX t f n = 0 ∧ ¬ tget t f 96 n 1 = 0 then justX t f n else 0
def greatX (t : uN) (f : uF) (n : Int) : Int := if canX t f n = 0 then -1 else if frTX t f n = 0 ∧ ¬ tget t f 96 n 1 = tget t f 19 (tget t f 96 n 0) 3 then justX t f n else 999
def bestN (y a : Int → Int) (need : Int) : Nat → Int
  | 0 => -1
  | n + 1 => if need ≤ y n ∧ (bestN y a need n = -1 ∨ a n < a (bestN y a need n)) then n else bestN y a need n
theorem bestN_rng (y a : Int → Int) (need : Int) (n : Nat) : -1 ≤ bestN y a need n ∧ bestN y a need n < n := by
  induction n with
  | zero => simp [bestN]
  | succ n ih => rw [bestN]; split <;> omega
def nextS (s : Int) : Int := (s * 1103515245 + 12345) % 2147483648
theorem nextS_rng (s : Int) : 0 ≤ nextS s ∧ nextS s ≤ 2147483647 := by unfold nextS; omega
theorem whereX_b {t : uN} (h : t 18 4 = 0 ∨ t 18 4 = 1) : (whereX t = 0 ∧ t 18 4 = 0 ∧ t 18 3 < t 14 3) ∨ (whereX t = 1 ∧ t 18 4 = 0 ∧ t 14 3 ≤ t 18 3) ∨ (whereX t = 2 ∧ t 18 4 = 1) := by
  unfold whereX
  split
  · split <;> omega
  · omega
theorem inPortX_b (t : uN) : (inPortX t = 1 ∧ whereX t = 0) ∨ (inPortX t = 0 ∧ ¬ whereX t = 0) := by unfold inPortX; split <;> simp_all
theorem goneX_b {t : uN} (h : t 18 4 = 0 ∨ t 18 4 = 1) : (goneX t = 0 ∧ t 18 4 = 0 ∧ ¬ t 12 3 = 0) ∨ (goneX t = 1 ∧ (t 18 4 = 1 ∨ t 12 3 = 0)) := by
  unfold goneX
  split <;> omega
theorem yetX_rng {t : uN} {f : uF} (h : HI t f) (m : Int) : -7992 ≤ yetX t f m ∧ yetX t f m ≤ 999 := by
  have h1 := lentS_rng (k := 18) rfl h.2 m
  have h2 := h.len m
  unfold yetX
  omega
theorem smX_rng {t : uN} {f : uF} (h : HI t f) (fr : Int) (h0 : -2000000 ≤ fr) (h1 : fr ≤ 999) : 0 ≤ smX t f fr ∧ smX t f fr ≤ 11998 := by
  have h3 := dueS_rng (k := 18) rfl h.2 0 1 (by omega)
  have hb := h.b
  unfold smX
  omega
theorem lbpX_rng {t : uN} {f : uF} (h : HI t f) : -34000 ≤ lbpX t f ∧ lbpX t f ≤ 1998 := by
  have h3 := dueS_rng (k := 18) rfl h.2 0 0 (by omega)
  have h4 := dueS_rng (k := 18) rfl h.2 0 1 (by omega)
  have hb := h.b
  unfold lbpX smX
  omega
theorem paidS_rng {t : uN} {f : uF} {k : Nat} (h : SOK t f k) (i sm fm : Int) : 0 ≤ paidS t f k i sm fm ∧ paidS t f k i sm fm ≤ 2997 := by
  have := h.2.2.2.2.2 i
  unfold paidS
  omega
theorem justX_rng {t : uN} {f : uF} (h : HI t f) (hT : TI t f) (n : Int) : -20000 ≤ justX t f n ∧ justX t f n ≤ 40000 := by
  have h3 := hT.2 n
  have h4 := dueS_rng (k := 18) rfl h.2 (tget t f 96 n 0 + 1) 0 (by omega)
  have h5 := smX_rng h (tget t f 12 0 1) (by have := h.b; omega) (by have := h.b; omega)
  have hb := h.b
  unfold justX
  omega
theorem canX_b (t : uN) (f : uF) (n : Int) : canX t f n = 0 ∨ canX t f n = 1 := by unfold canX; split <;> (try split) <;> (try split) <;> simp
theorem frTX_b (t : uN) (f : uF) (n : Int) : (frTX t f n = 1 ∧ tget t f 19 (tget t f 96 n 0) 2 = 1) ∨ (frTX t f n = 0 ∧ ¬ tget t f 19 (tget t f 96 n 0) 2 = 1) := by unfold frTX; split <;> simp_all
theorem leastX_rng {t : uN} {f : uF} (h : HI t f) (hT : TI t f) (n : Int) : -20000 ≤ leastX t f n ∧ leastX t f n ≤ 40000 := by
  have := justX_rng h hT n
  unfold leastX
  split <;> (try split) <;> omega
theorem greatX_rng {t : uN} {f : uF} (h : HI t f) (hT : TI t f) (n : Int) : -20000 ≤ greatX t f n ∧ greatX t f n ≤ 40000 := by
  have := justX_rng h hT n
  unfold greatX
  split <;> (try split) <;> omega

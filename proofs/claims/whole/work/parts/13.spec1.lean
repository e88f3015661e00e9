/-! rests of divisions; what the tables' methods say -/
theorem tmod_as (a b : Int) : a - a.tdiv b * b = a.tmod b := by rw [Int.tmod_def, Int.mul_comm]
section ROWS2
variable {p : Program} {l : Launch} {e : Env} {R : Room} {s : State} {m : MethodId} {args : Array Value} {below : List Frame} {meth : Method} {c : Code} {H : Heap} {locs : List Loc} {cells slots : Nat} {Q : State → Prop}
variable {cc : ByteArray} {pc d nL : Nat} {own : String} {ls : Array Slot} {rest : List Value}
theorem r_irem (X : uX p d R s m args c cc nL own) {a b : Int} (hdg : decode cc pc = .ok (.irem, 1)) (ha : inI a) (hb : inI b) (h0 : 0 < b) (k : W p l e R s m args below meth c H locs cells slots Q (F0 m (pc + 1) ls (.int (iV (a.tmod b)) :: rest))) : W p l e R s m args below meth c H locs cells slots Q (F0 m pc ls (.int (iV b) :: .int (iV a) :: rest)) := lv_irem X.1 X.2.1 hdg (by rw [iV_0, iV_inj hb (by omega)]; omega) (by rw [iV_div ha hb (by omega), iV_mul, iV_sub, tmod_as]; exact k)
theorem r_lrem (X : uX p d R s m args c cc nL own) {a b : Int} (hdg : decode cc pc = .ok (.lrem, 1)) (ha : inL a) (hb : inL b) (h0 : 0 < b) (k : W p l e R s m args below meth c H locs cells slots Q (F0 m (pc + 1) ls (.long (lV (a.tmod b)) :: rest))) : W p l e R s m args below meth c H locs cells slots Q (F0 m pc ls (.long (lV b) :: .long (lV a) :: rest)) := lv_lrem X.1 X.2.1 hdg (by rw [show (0 : Int64) = lV 0 from rfl, lV_inj hb (by omega)]; omega) (by rw [lV_div ha hb h0, lV_mul, lV_sub, tmod_as]; exact k)
end ROWS2
def cellZ (t : uN) (k : Nat) (row col : Int) : Int := if 0 ≤ row ∧ row < t k 3 ∧ 0 ≤ col ∧ col < tw k then row * tw k + col else -1
def tget (t : uN) (f : uF) (k : Nat) (row col : Int) : Int := if 0 ≤ row ∧ row < t k 3 ∧ 0 ≤ col ∧ col < tw k then f (k + 1) (row * tw k + col) else 0
def tset (t : uN) (f : uF) (k : Nat) (row col v : Int) : uF := if 0 ≤ row ∧ row < t k 3 ∧ 0 ≤ col ∧ col < tw k then upA f (k + 1) (row * tw k + col) v else f
def tOK (t : uN) (k : Nat) : Prop := 0 ≤ t k 3 ∧ t k 3 ≤ tm k
theorem cell_rng {t : uN} {k : Nat} (hk : kd k = 5) (ht : tOK t k) {row col : Int} (h : 0 ≤ row ∧ row < t k 3 ∧ 0 ≤ col ∧ col < tw k) : 0 ≤ row * tw k + col ∧ row * tw k + col < (al (k + 1) : Nat) ∧ row * tw k + col < 220 := by
  obtain ⟨h1, h2, h3, h4⟩ := h
  obtain ⟨w1, w2, w3, w4, w5⟩ := kd5_w hk
  have e := kd5_al hk
  have m1 : 0 ≤ row * tw k := Int.mul_nonneg h1 (by omega)
  have m2 : (row + 1) * tw k ≤ tm k * tw k := Int.mul_le_mul_of_nonneg_right (by have := ht.2; omega) (by omega)
  rw [Int.add_mul, Int.one_mul, Int.mul_comm (tm k)] at m2
  omega
theorem cellZ_rng {t : uN} {k : Nat} (hk : kd k = 5) (ht : tOK t k) (row col : Int) : -1 ≤ cellZ t k row col ∧ cellZ t k row col < (al (k + 1) : Nat) ∧ cellZ t k row col < 220 := by
  unfold cellZ
  split
  · next h => have := cell_rng hk ht h; omega
  · omega
/-- rows of a table -/
def trows (t : uN) (k : Nat) : Int := t k 3
def tfull (t : uN) (k : Nat) : Int := if tm k ≤ t k 3 then 1 else 0
def thas (t : uN) (k : Nat) (row : Int) : Int := if 0 ≤ row ∧ row < t k 3 then 1 else 0

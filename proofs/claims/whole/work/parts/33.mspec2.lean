/-! the model's acts: what they leave -/
def shW (f : uF) : uF := fun k i => if k = 101 ∧ 168 ≤ i ∧ i < 966 then f 101 (i + 42) else f k i
def shI (f : uF) (n : Int) (f2 : uF) : Prop := (∀ k i, k ≠ 101 → f2 k i = f k i) ∧ ∀ i, f2 101 i = if 168 ≤ i ∧ i < 168 + n then f 101 (i + 42) else f 101 i
theorem shI.done {f f2 : uF} (h : shI f 798 f2) : f2 = shW f := by
  funext k i
  unfold shW
  by_cases q : k = 101
  · subst q
    rw [h.2]
    by_cases c : 168 ≤ i ∧ i < 168 + 798
    · rw [if_pos c, if_pos ⟨rfl, c.1, by omega⟩]
    · rw [if_neg c, if_neg (by omega)]
  · rw [if_neg (fun z => q z.1)]; exact h.1 k i q
theorem shI.step {f f2 f3 : uF} {n v : Int} (h : shI f n f2) (h0 : 0 ≤ n) (h3 : f3 = upA f2 101 (168 + n) v) (hv : v = f2 101 (168 + n + 42)) : shI f (n + 1) f3 := by
  subst h3
  refine ⟨fun k i q => by rw [upA_k _ _ _ _ q]; exact h.1 k i q, fun i => ?_⟩
  by_cases q : i = 168 + n
  · subst q; rw [upA_s, if_pos (by omega), hv, h.2, if_neg (by omega)]
  · rw [upA_i _ _ _ q, h.2]
    by_cases c : 168 ≤ i ∧ i < 168 + n
    · rw [if_pos c, if_pos (by omega)]
    · rw [if_neg c, if_neg (by omega)]
def minT (t : uN) : uN := up2 t 100 2 (min 20 (t 100 2 + 1))
def minF (t : uN) (f : uF) : uF := if t 100 2 = 20 then cpW (shW f) 0 966 else cpW f 0 (168 + 42 * t 100 2)
def takL (f : uF) (h m v fr : Int) : uF := upA (upA (upA (upA (upA (upA f 101 (h + 5 + f 101 (h + 4)) m) 101 (h + 14 + f 101 (h + 4)) v) 101 (h + 23 + f 101 (h + 4)) fr) 101 (h + 32 + f 101 (h + 4)) (f 101 (h + 0))) 101 (h + 4) (f 101 (h + 4) + 1)) 101 (h + 3) (f 101 (h + 3) + v)
def saiF (f : uF) (c : Int) : uF := if c = 0 then upA f 101 1 1 else upA (upA f 101 0 (f 101 0 + 1)) 101 2 (max 0 (f 101 2 - 1))
theorem minF_lo {t : uN} {f : uF} (h0 : 0 ≤ t 100 2) {i : Int} (hi : i < 168) : minF t f 101 i = f 101 i := by
  unfold minF
  split
  · show (if (966 : Int) ≤ i ∧ i < 966 + 42 then _ else shW f 101 i) = _
    rw [if_neg (by omega)]
    unfold shW
    rw [if_neg (by omega)]
  · show (if 168 + 42 * t 100 2 ≤ i ∧ i < 168 + 42 * t 100 2 + 42 then _ else f 101 i) = _
    rw [if_neg (by omega)]
theorem minF_k {t : uN} {f : uF} {k : Nat} (hk : k ≠ 101) (i : Int) : minF t f k i = f k i := by
  unfold minF
  split
  · show (if k = 101 then _ else shW f k i) = _
    rw [if_neg hk]
    unfold shW
    rw [if_neg (fun q => hk q.1)]
  · show (if k = 101 then _ else f k i) = _
    rw [if_neg hk]
theorem takL_4 (f : uF) (m v fr : Int) : takL f 0 m v fr 101 4 = f 101 4 + 1 := by
  unfold takL
  rw [upA_i _ _ _ (by omega)]
  exact upA_s _ _ (0 + 4) _
theorem saiF_0 (f : uF) {c : Int} (hc : c = 0 ∨ c = 1) : saiF f c 101 0 = if c = 0 then f 101 0 else f 101 0 + 1 := by
  unfold saiF
  split
  · exact upA_i _ _ _ (by omega)
  · rw [upA_i _ _ _ (by omega), upA_s]
def undF (t : uN) (f : uF) : uF := upA (cpW f (168 + 42 * (t 100 2 - 1)) 0) 101 41 (f 101 41)
def kepF (f : uF) (i : Int) : uF := upA (cpW f 0 (84 + 42 * i)) 102 i 1
theorem nextS_tmod {s : Int} (h : 0 ≤ s) : (s * 1103515245 + 12345).tmod 2147483648 = nextS s := by
  unfold nextS
  rw [Int.tmod_eq_emod_of_nonneg (by omega)]

/-! what is new: objects, arrays; the constructors' contracts -/
section NEW
variable {p : Program} {l : Launch} {e : Env} {R : Room} {s : State} {m : MethodId} {args : Array Value} {below : List Frame} {meth : Method} {c : Code} {H : Heap} {locs : List Loc} {cells slots : Nat} {Q : State → Prop}
variable {cc : ByteArray} {pc d nL : Nat} {own : String} {ls : Array Slot} {rest : List Value} {g : uG} {n : Nat} {E : Nat → va_E}
theorem u_new (X : uX p d R s m args c cc nL own) (Y : uY g n E s H locs) {C : String} {T : u_T} {N ci index : Nat} (hin : ∀ w ∈ u_ws C T N, w ∈ T0) (ty : Nat → FieldType) (hty : ∀ k, k < N → parseFieldDescriptor (T k).2.2.1 = some (ty k)) (hcl : Cond.classLink own index C ∈ T0) (hinst : Cond.instantiable C N ∈ T0) (hini : Cond.initialized C ∈ T0) (hc : vwCl[ci]? = some (C, T, N)) {fs : List Value} (hfs : ∀ j, j < N → defaultValue (ty j) = vp_V fs j) (hcells : cells + 1 ≤ R.cells) (hslots : slots + N ≤ R.slots) (hdg : decode cc pc = .ok (.new index, 3))
    (kk : ∀ (H1 : Heap), uY g (n + 1) (va_up E n (.inr (ci, fs))) s H1 locs → W p l e R s m args below meth c H1 locs (cells + 1) (slots + N) Q (F0 m (pc + 3) ls (.ref (g.1 + n) :: rest))) : W p l e R s m args below meth c H locs cells slots Q (F0 m pc ls rest) := by
  have hKn := Y.2.1.1 ci _ hc
  refine W.newcK X.1 X.2.1 X.2.2.2.1 (X.w hcl) (X.w hinst) (X.w hini) rfl hdg hcells hslots hKn.2.1 rfl fun H1 kC hkC e1 z1 o1 => ?_
  have Y1 : uY g (n + 1) (va_up E n (.inr (ci, fs))) s H1 locs := Y.nw (e := .inr (ci, fs)) ⟨_, hc, by rw [← Y.2.2.1]; exact (u_born ty X.2.2.2.2.1 hin hKn hkC e1 hty).to hfs⟩ z1 o1
  have h := kk H1 Y1
  rw [← Y.2.2.1] at h
  exact h
theorem u_newa (X : uX p d R s m args c cc nL own) (Y : uY g n E s H locs) (hT : Cond.arrayClass .int ∈ T0) {z : Int} {N : Nat} (hz : z = N) (hN : N ≤ 2000) (hcells : cells + 1 ≤ R.cells) (hslots : slots + N ≤ R.slots) (hdg : decode cc pc = .ok (.newarray .int, 2))
    (kk : ∀ (H1 : Heap), uY g (n + 1) (va_up E n (aV g.2.2.1 N (fun _ => 0))) s H1 locs → W p l e R s m args below meth c H1 locs (cells + 1) (slots + N) Q (F0 m (pc + 2) ls (.ref (g.1 + n) :: rest))) : W p l e R s m args below meth c H locs cells slots Q (F0 m pc ls (.int (iV z) :: rest)) := by
  subst hz
  refine va_newaK (atype := .int) (N := N) X.1 X.2.1 (X.w hT) rfl hdg rfl (by rw [iV_0, iV_lt (by omega) (by omega)]; omega) (by rw [iV_clamp (by omega)]; omega) (by show N * 4 ≤ _; omega) hcells hslots Y.2.2.1 fun H1 cA e1 z1 o1 hAr hNm => ?_
  have hcA : cA = g.2.2.1 := Option.some.inj (hNm.symm.trans (Y.2.1.2 0 _ rfl).2)
  subst hcA
  exact kk H1 (Y.nw (e := aV g.2.2.1 N (fun _ => 0)) e1 (by rw [z1, Y.2.2.1]) (fun q hq => o1 q (by rw [← Y.2.2.1]; exact hq)))
theorem u_newz (X : uX p d R s m args c cc nL own) (Y : uY g n E s H locs) (hT : Cond.arrayClass .boolean ∈ T0) {z : Int} {N : Nat} (hz : z = N) (hN : N ≤ 2000) (hcells : cells + 1 ≤ R.cells) (hslots : slots + N ≤ R.slots) (hdg : decode cc pc = .ok (.newarray .boolean, 2))
    (kk : ∀ (H1 : Heap), uY g (n + 1) (va_up E n (aV g.2.2.2.1 N (fun _ => 0))) s H1 locs → W p l e R s m args below meth c H1 locs (cells + 1) (slots + N) Q (F0 m (pc + 2) ls (.ref (g.1 + n) :: rest))) : W p l e R s m args below meth c H locs cells slots Q (F0 m pc ls (.int (iV z) :: rest)) := by
  subst hz
  refine va_newaK (atype := .boolean) (N := N) X.1 X.2.1 (X.w hT) rfl hdg rfl (by rw [iV_0, iV_lt (by omega) (by omega)]; omega) (by rw [iV_clamp (by omega)]; omega) (by show N * 1 ≤ _; omega) hcells hslots Y.2.2.1 fun H1 cA e1 z1 o1 hAr hNm => ?_
  have hcA : cA = g.2.2.2.1 := Option.some.inj (hNm.symm.trans (Y.2.1.2 1 _ rfl).2)
  subst hcA
  exact kk H1 (Y.nw (e := aV g.2.2.2.1 N (fun _ => 0)) e1 (by rw [z1, Y.2.2.1]) (fun q hq => o1 q (by rw [← Y.2.2.1]; exact hq)))
theorem u_newq (X : uX p d R s m args c cc nL own) (Y : uY g n E s H locs) {index : Nat} (hcl : Cond.classLink own index RX4 ∈ T0) (hcells : cells + 1 ≤ R.cells) (hslots : slots + 20 ≤ R.slots) (hdg : decode cc pc = .ok (.anewarray index, 3))
    (kk : ∀ (H1 : Heap), uY g (n + 1) (va_up E n (qV g.2.2.2.2 20 (fun _ => none))) s H1 locs → W p l e R s m args below meth c H1 locs (cells + 1) (slots + 20) Q (F0 m (pc + 3) ls (.ref (g.1 + n) :: rest))) : W p l e R s m args below meth c H locs cells slots Q (F0 m pc ls (.int (iV 20) :: rest)) := by
  refine W.anew X.1 X.2.1 X.2.2.2.1 (X.w hcl) (va_AO.use Y.2.2.2.2.2.2.2.2.2.2.2.2) rfl hdg rfl (by decide) (by decide) hcells hslots fun cA kA comp f1 f2 f3 f4 => ?_
  have hcA : cA = g.2.2.2.2 := by
    obtain ⟨kA2, comp2, k1, k2, k3, k4⟩ := (Y.2.1.2 2 _ rfl).2
    exact Option.some.inj (f1.symm.trans k4)
  subst hcA
  generalize hH1 : H.push _ = H1
  have z1 : H1.size = H.size + 1 := by rw [← hH1, Array.size_push]
  have e1 : H1[H.size]? = some (arrV g.2.2.2.2 20 (fun _ => .null)) := by rw [← hH1, Array.getElem?_push_size, ← arrV_new]; rfl
  have o1 : ∀ q : Nat, q < H.size → H1[q]? = H[q]? := fun q hq => by rw [← hH1, Array.getElem?_push, if_neg (Nat.ne_of_lt hq)]
  have h := kk H1 (Y.nw (e := qV g.2.2.2.2 20 (fun _ => none)) (by
    show H1[g.1 + n]? = some (vp_cell _ _)
    rw [vp_cell_q, ← Y.2.2.1]
    exact e1) z1 o1)
  rw [← Y.2.2.1] at h
  exact h
theorem u_aast (X : uX p d R s m args c cc nL own) (Y : uY g n E s H locs) {k kv : Nat} (hk : k < n) (hkv : kv < n) {f : Nat → Option Nat} (he : E k = qV g.2.2.2.2 20 f) {fs : List Value} (hev : E kv = .inr (4, fs)) {z : Int} (h0 : 0 ≤ z) (h1 : z < 20) (hdg : decode cc pc = .ok (.aastore, 1))
    (kk : ∀ (H1 : Heap) (locs1 : List Loc), uY g n (va_up E k (qV g.2.2.2.2 20 (va_up f z.toNat (some (g.1 + kv))))) s H1 locs1 → W p l e R s m args below meth c H1 locs1 cells slots Q (F0 m (pc + 1) ls rest)) : W p l e R s m args below meth c H locs cells slots Q (F0 m pc ls (.ref (g.1 + kv) :: .int (iV z) :: .ref (g.1 + k) :: rest)) := by
  have hcl : (iV z).toNatClampNeg = z.toNat := iV_clamp (by omega)
  have hz0 : ¬ iV z < 0 := by rw [iV_0, iV_lt ⟨by omega, by omega⟩ ⟨by omega, by omega⟩]; omega
  have hz1 : (iV z).toNatClampNeg < 20 := by rw [hcl]; omega
  obtain ⟨r', hr', cellV, g1, g2, g3, -⟩ := Y.1 kv _ (by rw [uW_get g.1 E hkv, hev])
  have hcls := (Y.2.1.1 4 _ rfl).2
  obtain ⟨kA, comp, k1, k2, k3, -⟩ := (Y.2.1.2 2 _ rfl).2
  have hcomp : comp = g.2.1.1 4 := Option.some.inj (k3.symm.trans hcls.1)
  subst hcomp
  obtain ⟨kC, hkC, -⟩ := hcls.2
  have hP := Y.1 k _ (by rw [uW_get g.1 E hk, he])
  refine W.aast X.1 X.2.1 hP (fun q h => by cases h) (fun h => by cases h) k1 k2 rfl hkC ⟨hz0, by show _ < (arrV _ _ _).slots.size; rw [arrV_size]; exact hz1⟩ g1 (fun q h => by rw [g3] at h; cases h) (by rw [g2]; exact hkC) (by rw [g2]; exact va_assign hcls) rfl rfl hdg fun H1 e z1 oq => ?_
  refine kk H1 _ (Y.wr hk (iV z).toNatClampNeg ?_ z1 oq)
  show H1[g.1 + k]? = some (vp_cell _ _)
  rw [e]
  rw [vp_cell_q, vp_cell_q, arrV_store, hcl]
  congr 2
  funext q
  by_cases hq : q = z.toNat
  · subst hq
    simp [updV, va_up, va_rf]
  · simp [updV, va_up, hq]
end NEW
/-- the numbers that the two constructors leave -/
def t0N : uN := fun k j => if (k = 0 ∧ j = 10) ∨ (k = 3 ∧ j = 4) ∨ (k = 91 ∧ j = 5) ∨ (k = 100 ∧ j = 19) then -1 else 0
def c0 (g : uG) : Nat → va_E := cX g t0N (fun _ _ => 0)
theorem t0N_z {k : Nat} (h : k ≠ 0 ∧ k ≠ 3 ∧ k ≠ 91 ∧ k ≠ 100) (j : Nat) : t0N k j = 0 := by unfold t0N; rw [if_neg (by omega)]
theorem kd_n0 {k c : Nat} (h : kd k = c) (hc : c = 0 ∨ c = 4 ∨ c = 5 ∨ c = 6) : k ≠ 0 ∧ k ≠ 3 ∧ k ≠ 91 ∧ k ≠ 100 := by
  refine ⟨?_, ?_, ?_, ?_⟩ <;> intro q <;> subst q <;> (have : c = _ := h.symm; subst this; revert hc; decide)
/-- along a constructor of the cell kp: the cells ahead as they were, the cells behind as they are to be -/
def uPI (g : uG) (E0 : Nat → va_E) (kp : Nat) (e : va_E) (n : Nat) (E : Nat → va_E) : Prop := kp < n ∧ (∀ j, j < kp → E j = E0 j) ∧ E kp = e ∧ ∀ j, kp < j → j < n → E j = c0 g j
theorem uPI.init (g : uG) (E0 : Nat → va_E) (kp : Nat) {e : va_E} (h : E0 kp = e) : uPI g E0 kp e (kp + 1) E0 := ⟨Nat.lt_succ_self _, fun _ _ => rfl, h, fun j h1 h2 => absurd h2 (by omega)⟩
theorem uPI.put {g : uG} {E0 E : Nat → va_E} {kp n : Nat} {e : va_E} (h : uPI g E0 kp e n E) (e2 : va_E) : uPI g E0 kp e2 n (va_up E kp e2) :=
  ⟨h.1, fun j hj => by rw [va_up_ne _ _ (by omega)]; exact h.2.1 j hj, va_up_self _ _ _, fun j h1 h2 => by rw [va_up_ne _ _ (by omega)]; exact h.2.2.2 j h1 h2⟩
theorem uPI.call {g : uG} {E0 E u : Nat → va_E} {kp n n' : Nat} {e e2 : va_E} (h : uPI g E0 kp e n E) (hn : n ≤ n') (hu : (∀ j, j < n → u j = va_up E n e2 j) ∧ ∀ j, n ≤ j → j < n' → u j = c0 g j) : uPI g E0 kp e n' u := by
  obtain ⟨h1, h2, h3, h4⟩ := h
  refine ⟨by omega, fun j hj => ?_, ?_, fun j j1 j2 => ?_⟩
  · rw [hu.1 j (by omega), va_up_ne _ _ (by omega)]; exact h2 j hj
  · rw [hu.1 kp h1, va_up_ne _ _ (by omega)]; exact h3
  · rcases Nat.lt_or_ge j n with q | q
    · rw [hu.1 j q, va_up_ne _ _ (by omega)]; exact h4 j j1 q
    · exact hu.2 j q j2
theorem uPI.new {g : uG} {E0 E : Nat → va_E} {kp n : Nat} {e e2 : va_E} (h : uPI g E0 kp e n E) (he : e2 = c0 g n) : uPI g E0 kp e (n + 1) (va_up E n e2) := by
  obtain ⟨h1, h2, h3, h4⟩ := h
  refine ⟨by omega, fun j hj => ?_, ?_, fun j j1 j2 => ?_⟩
  · rw [va_up_ne _ _ (by omega)]; exact h2 j hj
  · rw [va_up_ne _ _ (by omega)]; exact h3
  · by_cases q : j = n
    · subst q; rw [va_up_self]; exact he
    · rw [va_up_ne _ _ q]; exact h4 j j1 (by omega)
theorem uPI.done {g : uG} {E0 E : Nat → va_E} {kp n : Nat} {e : va_E} (h : uPI g E0 kp e n E) (he : e = c0 g kp) : (∀ j, j < kp → E j = E0 j) ∧ ∀ j, kp ≤ j → j < n → E j = c0 g j := by
  refine ⟨h.2.1, fun j j1 j2 => ?_⟩
  by_cases q : j = kp
  · subst q; rw [h.2.2.1]; exact he
  · exact h.2.2.2 j (by omega) j2
/-- a constructor of the cell k, the newest: behind it the cells from k to n' are as they are to be -/
def cC (l : Launch) (y : MethodName) (cc : ByteArray) (mL d mc ms : Nat) (g : uG) (As : List Value) (k : Nat) (e0 : va_E) (n' : Nat) : Prop :=
  ∀ E : Nat → va_E, E k = e0 → uM l y cc mL none d mc ms g (.ref (g.1 + k) :: As) (k + 1) E (uQv g (fun _ : Nat → va_E => n') (fun u => u) (fun u => (∀ j, j < k → u j = E j) ∧ ∀ j, k ≤ j → j < n' → u j = c0 g j))
/-- along the past's constructor: i ships are made -/
def uPV (g : uG) (E0 : Nat → va_E) (i : Nat) (fs : List Value) (E : Nat → va_E) : Prop := (∀ j, j < 21 → E j = E0 j) ∧ E 21 = .inr (1, fs) ∧ E 22 = qV g.2.2.2.2 20 (fun j => if j < i then some (g.1 + (23 + 3 * j)) else none) ∧ ∀ j, 23 ≤ j → j < 23 + 3 * i → E j = c0 g j
theorem uPV.ini {g : uG} {E0 : Nat → va_E} {fs : List Value} (h : E0 21 = .inr (1, fs)) : uPV g E0 0 fs (va_up E0 22 (qV g.2.2.2.2 20 (fun _ => none))) :=
  ⟨fun j hj => va_up_ne _ _ (by omega), (va_up_ne _ _ (by omega)).trans h, (va_up_self _ _ _).trans (by congr 1), fun j h1 h2 => absurd h2 (by omega)⟩
theorem uPV.put {g : uG} {E0 E : Nat → va_E} {i : Nat} {fs : List Value} (h : uPV g E0 i fs E) (f2 : List Value) : uPV g E0 i f2 (va_up E 21 (.inr (1, f2))) :=
  ⟨fun j hj => (va_up_ne _ _ (by omega)).trans (h.1 j hj), va_up_self _ _ _, (va_up_ne _ _ (by omega)).trans h.2.2.1, fun j h1 h2 => (va_up_ne _ _ (by omega)).trans (h.2.2.2 j h1 h2)⟩
theorem uPV.step {g : uG} {E0 E u : Nat → va_E} {i : Nat} {fs : List Value} {e2 : va_E} (h : uPV g E0 i fs E) (hu : (∀ j, j < 23 + 3 * i → u j = va_up E (23 + 3 * i) e2 j) ∧ ∀ j, 23 + 3 * i ≤ j → j < 23 + 3 * i + 3 → u j = c0 g j) :
    (u 21 = .inr (1, fs) ∧ u 22 = qV g.2.2.2.2 20 (fun j => if j < i then some (g.1 + (23 + 3 * j)) else none)) ∧ uPV g E0 (i + 1) fs (va_up u 22 (qV g.2.2.2.2 20 (va_up (fun j => if j < i then some (g.1 + (23 + 3 * j)) else none) i (some (g.1 + (23 + 3 * i)))))) := by
  have e : ∀ j, j < 23 + 3 * i → u j = E j := fun j hj => (hu.1 j hj).trans (va_up_ne _ _ (by omega))
  refine ⟨⟨(e 21 (by omega)).trans h.2.1, (e 22 (by omega)).trans h.2.2.1⟩, fun j hj => ?_, ?_, ?_, fun j h1 h2 => ?_⟩
  · rw [va_up_ne _ _ (by omega), e j (by omega)]; exact h.1 j hj
  · rw [va_up_ne _ _ (by omega), e 21 (by omega)]; exact h.2.1
  · rw [va_up_self]
    congr 1
    funext j
    by_cases q : j = i
    · subst q; rw [va_up_self, if_pos (by omega)]
    · rw [va_up_ne _ _ q]
      by_cases q2 : j < i
      · rw [if_pos q2, if_pos (by omega)]
      · rw [if_neg q2, if_neg (by omega)]
  · rw [va_up_ne _ _ (by omega)]
    rcases Nat.lt_or_ge j (23 + 3 * i) with q | q
    · rw [e j q]; exact h.2.2.2 j h1 q
    · exact hu.2 j q (by omega)
theorem arrV_same (cI : ClassId) {N : Nat} {f f2 : Nat → Value} (h : ∀ j, j < N → f j = f2 j) : arrV cI N f = arrV cI N f2 := by
  unfold arrV
  congr 1
  congr 1
  funext j
  exact h j.val j.isLt
theorem uY.ring {g : uG} {n : Nat} {E : Nat → va_E} {s : State} {H : Heap} {locs : List Loc} (Y : uY g n E s H locs) {k : Nat} (hk : k < n) {f f2 : Nat → Option Nat} (he : E k = qV g.2.2.2.2 20 f) (hf : ∀ j, j < 20 → f j = f2 j) : uY g n (va_up E k (qV g.2.2.2.2 20 f2)) s H locs := by
  obtain ⟨h1, h2⟩ := Y
  refine ⟨fun i q hq => ?_, h2⟩
  obtain ⟨hi, rfl⟩ := uW_inv hq
  by_cases c : i = k
  · subst c
    have h := h1 i _ (uW_get g.1 E hk)
    rw [he] at h
    rw [va_up_self]
    show H[g.1 + i]? = some (vp_cell _ _)
    have h : H[g.1 + i]? = some (vp_cell _ _) := h
    rw [vp_cell_q] at h ⊢
    rw [← arrV_same (f := fun j => va_rf (f j)) g.2.2.2.2 (N := 20) (fun j hj => congrArg va_rf (hf j hj))]
    exact h
  · rw [va_up_ne _ _ c]
    exact h1 i _ (uW_get g.1 E hi)
theorem uPV.done {g : uG} {E0 E : Nat → va_E} (h : uPV g E0 20 [.ref (g.1 + 22), .int (iV 0), .int (iV 0)] E) : (∀ j, j < 21 → va_up E 22 (c0 g 22) j = E0 j) ∧ ∀ j, 21 ≤ j → j < 83 → va_up E 22 (c0 g 22) j = c0 g j := by
  refine ⟨fun j hj => (va_up_ne _ _ (by omega)).trans (h.1 j hj), fun j h1 h2 => ?_⟩
  by_cases q : j = 22
  · subst q; exact va_up_self _ _ _
  · rw [va_up_ne _ _ q]
    by_cases q2 : j = 21
    · subst q2; rw [h.2.1]; rfl
    · exact h.2.2.2 j (by omega) (by omega)

/-! numbers: iV z, lV z are the machine's int and long of a whole number -/
def iV (z : Int) : Int32 := Int32.ofInt z
def lV (z : Int) : Int64 := Int64.ofInt z
abbrev inI (z : Int) : Prop := -2147483648 ≤ z ∧ z ≤ 2147483647
abbrev inL (z : Int) : Prop := -9223372036854775808 ≤ z ∧ z ≤ 9223372036854775807
theorem iV_toInt {z : Int} (h : inI z) : (iV z).toInt = z := Int32.toInt_ofInt_of_le (by omega) (by omega)
theorem lV_toInt {z : Int} (h : inL z) : (lV z).toInt = z := Int64.toInt_ofInt_of_le (by omega) (by omega)
theorem iV_clamp {z : Int} (h : inI z) : (iV z).toNatClampNeg = z.toNat := Int32.toNatClampNeg_ofInt_of_le (by omega) (by omega)
theorem iV_of (x : Int32) : x = iV x.toInt := (Int32.ofInt_toInt x).symm
theorem iV_rng (x : Int32) : inI x.toInt := ⟨by have := Int32.le_toInt x; omega, by have := Int32.toInt_lt x; omega⟩
theorem iV_add (a b : Int) : iV a + iV b = iV (a + b) := (Int32.ofInt_add a b).symm
theorem iV_sub (a b : Int) : iV a - iV b = iV (a - b) := (Int32.ofInt_sub a b).symm
theorem iV_mul (a b : Int) : iV a * iV b = iV (a * b) := (Int32.ofInt_mul a b).symm
theorem iV_neg (a : Int) : - iV a = iV (-a) := (Int32.ofInt_neg a).symm
theorem iV_inj {a b : Int} (ha : inI a) (hb : inI b) : iV a = iV b ↔ a = b := ⟨fun h => by rw [← iV_toInt ha, ← iV_toInt hb, h], fun h => by rw [h]⟩
theorem iV_lt {a b : Int} (ha : inI a) (hb : inI b) : iV a < iV b ↔ a < b := by rw [Int32.lt_iff_toInt_lt, iV_toInt ha, iV_toInt hb]
theorem iV_le {a b : Int} (ha : inI a) (hb : inI b) : iV a ≤ iV b ↔ a ≤ b := by rw [Int32.le_iff_toInt_le, iV_toInt ha, iV_toInt hb]
theorem iV_0 : (0 : Int32) = iV 0 := rfl
theorem iV_div {a b : Int} (ha : inI a) (hb : inI b) (h1 : b ≠ -1) : iV a / iV b = iV (a.tdiv b) := by
  apply Int32.toInt_inj.mp
  rw [Int32.toInt_div_of_ne_right _ _ (fun h => h1 (by rw [← iV_toInt hb, h]; rfl)), iV_toInt ha, iV_toInt hb, iV_toInt]
  have h : (a.tdiv b).natAbs ≤ a.natAbs := Int.natAbs_tdiv_le_natAbs a b
  by_cases hm : a = -2147483648
  · subst hm
    by_cases hb1 : b = 1
    · subst hb1; decide
    · by_cases hb0 : b = 0
      · subst hb0; decide
      · have h2 : ((-2147483648 : Int).tdiv b).natAbs ≤ 2147483648 / 2 := by
          rw [Int.natAbs_tdiv]
          exact Nat.div_le_div_left (by omega) (by decide)
        omega
  · omega
theorem iV_i2l {a : Int} (h : inI a) : (iV a).toInt64 = lV a := Int32.toInt64_ofInt h.1 h.2
theorem iV_l2i (a : Int) : (lV a).toInt32 = iV a := Int64.toInt32_ofInt
theorem lV_add (a b : Int) : lV a + lV b = lV (a + b) := (Int64.ofInt_add a b).symm
theorem lV_sub (a b : Int) : lV a - lV b = lV (a - b) := (Int64.ofInt_sub a b).symm
theorem lV_mul (a b : Int) : lV a * lV b = lV (a * b) := (Int64.ofInt_mul a b).symm
theorem lV_inj {a b : Int} (ha : inL a) (hb : inL b) : lV a = lV b ↔ a = b := ⟨fun h => by rw [← lV_toInt ha, ← lV_toInt hb, h], fun h => by rw [h]⟩
theorem lV_lt {a b : Int} (ha : inL a) (hb : inL b) : lV a < lV b ↔ a < b := by rw [Int64.lt_iff_toInt_lt, lV_toInt ha, lV_toInt hb]
theorem lV_div {a b : Int} (ha : inL a) (hb : inL b) (h1 : 0 < b) : lV a / lV b = lV (a.tdiv b) := by
  apply Int64.toInt_inj.mp
  rw [Int64.toInt_div_of_ne_right _ _ (fun h => by have h2 : b = -1 := by rw [← lV_toInt hb, h]; rfl
                                                   omega), lV_toInt ha, lV_toInt hb, lV_toInt]
  have h : (a.tdiv b).natAbs ≤ a.natAbs := Int.natAbs_tdiv_le_natAbs a b
  by_cases hm : a = -9223372036854775808
  · have h3 : a.tdiv b ≤ 0 := by
      have h4 : (0 : Int) ≤ (9223372036854775808 : Int).tdiv b := Int.tdiv_nonneg (by omega) (by omega)
      have h5 : a.tdiv b = -((9223372036854775808 : Int).tdiv b) := by rw [hm]; exact Int.neg_tdiv 9223372036854775808 b
      omega
    omega
  · omega
/-! the universe: cell k lies at the address b0 + k -/
abbrev uG : Type := Nat × va_G × ClassId × ClassId × ClassId
def uW (b0 n : Nat) (E : Nat → va_E) : va_W := (List.range n).map (fun k => (b0 + k, E k))
theorem uW_get (b0 : Nat) {n : Nat} (E : Nat → va_E) {k : Nat} (h : k < n) : (uW b0 n E)[k]? = some (b0 + k, E k) := by simp [uW, h]
theorem uW_len (b0 n : Nat) (E : Nat → va_E) : (uW b0 n E).length = n := by simp [uW]
theorem uW_inv {b0 n : Nat} {E : Nat → va_E} {k : Nat} {q : Nat × va_E} (h : (uW b0 n E)[k]? = some q) : k < n ∧ q = (b0 + k, E k) := by
  have hk : k < n := by have := (List.getElem?_eq_some_iff.mp h).1; rwa [uW_len] at this
  rw [uW_get b0 E hk] at h
  exact ⟨hk, (Option.some.inj h).symm⟩
theorem uW_set (b0 : Nat) {n : Nat} (E : Nat → va_E) {k : Nat} (h : k < n) (e : va_E) : (uW b0 n E).set k (b0 + k, e) = uW b0 n (va_up E k e) := by
  apply List.ext_getElem?
  intro j
  by_cases hj : j = k
  · subst hj
    rw [List.getElem?_set_self (by rw [uW_len]; exact h), uW_get b0 _ h, va_up_self]
  · rw [List.getElem?_set_ne (Ne.symm hj)]
    by_cases hn : j < n
    · rw [uW_get b0 _ hn, uW_get b0 _ hn, va_up_ne _ _ hj]
    · rw [List.getElem?_eq_none (by rw [uW_len]; omega), List.getElem?_eq_none (by rw [uW_len]; omega)]
theorem uW_push (b0 n : Nat) (E : Nat → va_E) (e : va_E) : uW b0 n E ++ [(b0 + n, e)] = uW b0 (n + 1) (va_up E n e) := by
  apply List.ext_getElem?
  intro j
  by_cases hn : j < n
  · rw [List.getElem?_append_left (by rw [uW_len]; exact hn), uW_get b0 _ hn, uW_get b0 _ (by omega), va_up_ne _ _ (by omega)]
  · by_cases hj : j = n
    · subst hj
      rw [List.getElem?_append_right (by rw [uW_len]; omega), uW_len, uW_get b0 _ (by omega), va_up_self]
      simp
    · rw [List.getElem?_eq_none (by simp [uW_len]; omega), List.getElem?_eq_none (by rw [uW_len]; omega)]
theorem uW_D (b0 n : Nat) (E : Nat → va_E) : va_D (fun q => b0 ≤ q) (uW b0 n E) := by
  refine ⟨fun i j p q hi hj h => ?_, fun k q h => ?_⟩
  · obtain ⟨-, rfl⟩ := uW_inv hi
    obtain ⟨-, rfl⟩ := uW_inv hj
    have h : b0 + i = b0 + j := h
    omega
  · obtain ⟨-, rfl⟩ := uW_inv h
    exact Nat.le_add_right _ _
def uA (g : uG) : Nat → Prop := fun q => g.1 ≤ q
def uT (g : uG) : List (ClassId × FieldType) := [(g.2.2.1, .int), (g.2.2.2.1, .boolean), (g.2.2.2.2, .object RX4)]
/-- the reader's two tables, which nobody writes -/
def leastT : Nat → Int := fun j => if j = 0 then 1 else if j = 6 then 1 else 0
def greatT : Nat → Int := fun j => match j with
  | 0 => 999
  | 1 => 999
  | 2 => 9
  | 3 => 999
  | 4 => 99
  | 5 => 9
  | 6 => 99
  | 8 => 999
  | 9 => 200
  | _ => 0
def uSt (g : uG) (U : State) (H : Heap) : Prop :=
  (∃ t : Nat, va_Z RX3 "LEAST" "[I" (.ref t) (uA g) U H ∧ va_T .int t 12 (fun j => .int (iV (leastT j))) (uA g) U H) ∧
  (∃ t : Nat, va_Z RX3 "GREATEST" "[I" (.ref t) (uA g) U H ∧ va_T .int t 12 (fun j => .int (iV (greatT j))) (uA g) U H)
theorem uSt.moved {g : uG} {u U : State} {H : Heap} (hvm : u.vm.Alike U.vm) (h : uSt g u H) : uSt g U H := by
  obtain ⟨⟨t, a, b⟩, t2, a2, b2⟩ := h
  exact ⟨⟨t, a.moved hvm, b.moved hvm⟩, t2, a2.moved hvm, b2.moved hvm⟩
theorem uSt.kept {g : uG} {U : State} {H H1 : Heap} (h : uSt g U H) (hq : ∀ a : Nat, a < H.size → ¬ uA g a → H1[a]? = H[a]?) : uSt g U H1 := by
  obtain ⟨⟨t, a, b⟩, t2, a2, b2⟩ := h
  exact ⟨⟨t, a.kept hq, b.kept hq⟩, t2, a2.kept hq, b2.kept hq⟩
/-- the words that a state hands on as they are -/
def uNs (U : State) : Prop := va_Nw (.methodLinkNest RX3 11 yX6_init RX7) U ∧ va_Nw (.methodLinkNest RX7 29 yX6_init RX7) U ∧ va_Nw (.methodLinkNest RX7 36 yX4_init RX7) U ∧ va_Nw (.methodLinkNest RX1 24 yX4_init RX7) U ∧ va_Nw (.methodLinkNest RX7 50 yX0_init RX7) U ∧ va_Nw (.methodLinkNest RX0 9 yX4_init RX7) U ∧ va_AO RX4 U
theorem uNs.warm {s U : State} (hW : s.WarmedH U.vm) (h : uNs s) : uNs U := ⟨va_Nw.warmM hW h.1, va_Nw.warmM hW h.2.1, va_Nw.warmM hW h.2.2.1, va_Nw.warmM hW h.2.2.2.1, va_Nw.warmM hW h.2.2.2.2.1, va_Nw.warmM hW h.2.2.2.2.2.1, va_AO.moved hW.alike h.2.2.2.2.2.2⟩
theorem uNs.same {s U : State} (hW : s.vm = U.vm) (h : uNs s) : uNs U := ⟨va_Nw.same rfl hW h.1, va_Nw.same rfl hW h.2.1, va_Nw.same rfl hW h.2.2.1, va_Nw.same rfl hW h.2.2.2.1, va_Nw.same rfl hW h.2.2.2.2.1, va_Nw.same rfl hW h.2.2.2.2.2.1, va_AO.moved (by rw [hW]; exact Vm.Alike.refl _) h.2.2.2.2.2.2⟩
/-- a state's heap is this universe of n cells -/
def uB (g : uG) (n : Nat) (E : Nat → va_E) (U : State) : Prop := va_P g.2.1 vwCl (uW g.1 n E) U.heap ∧ va_K g.2.1 vwCl (uT g) U ∧ U.heap.size = g.1 + n ∧ uSt g U U.heap ∧ uNs U
/-- the same along a method's walk that began at s -/
def uY (g : uG) (n : Nat) (E : Nat → va_E) (s : State) (H : Heap) (locs : List Loc) : Prop :=
  va_P g.2.1 vwCl (uW g.1 n E) H ∧ va_K g.2.1 vwCl (uT g) s ∧ H.size = g.1 + n ∧ va_S (uA g) s.heap H locs ∧ g.1 ≤ s.heap.size ∧ uSt g s s.heap ∧ uNs s
theorem uY.D {g : uG} {n : Nat} {E : Nat → va_E} : va_D (uA g) (uW g.1 n E) := uW_D g.1 n E
theorem uY.A {g : uG} {n : Nat} {E : Nat → va_E} {s : State} {H : Heap} {locs : List Loc} (Y : uY g n E s H locs) : ∀ q, s.heap.size ≤ q → uA g q := fun q h => Nat.le_trans Y.2.2.2.2.1 h
theorem uY.ent {g : uG} {n : Nat} {E : Nat → va_E} {s : State} (h : uB g n E s) : uY g n E s s.heap [] := ⟨h.1, h.2.1, h.2.2.1, va_S.rf, by have := h.2.2.1; omega, h.2.2.2⟩
theorem uB.calling {g : uG} {n : Nat} {E : Nat → va_E} (a : Array Value) (U : State) (f : JFrame) (mk : MethodId) (h : uB g n E U) : uB g n E (U.calling f mk a) :=
  ⟨h.1, va_K.moved (u := U) (U := U.calling f mk a) (Vm.Alike.refl U.vm) h.2.1, h.2.2.1, uSt.moved (u := U) (U := U.calling f mk a) (Vm.Alike.refl U.vm) h.2.2.2.1, uNs.same (s := U) (U := U.calling f mk a) rfl h.2.2.2.2⟩
theorem uY.out {g : uG} {n : Nat} {E : Nat → va_E} {s : State} {H : Heap} {locs : List Loc} (Y : uY g n E s H locs) {t : State} (ht : t.heap = H) (hW : s.WarmedH t.vm) : uB g n E t ∧ va_F (uA g) s t := by
  obtain ⟨h1, h2, h3, h4, h5, h6, h7⟩ := Y
  refine ⟨⟨by rw [ht]; exact h1, va_K.moved hW.alike h2, by rw [ht]; exact h3, ?_, h7.warm hW⟩, h4.F ht⟩
  rw [ht]
  exact uSt.kept (uSt.moved hW.alike h6) (fun a h7 h8 => h4.2.1 a h7 h8)
theorem uY.back {g : uG} {n n1 : Nat} {E E1 : Nat → va_E} {s t : State} {H H1 : Heap} {locs locs1 : List Loc} (Y : uY g n E s H locs) (B : uB g n1 E1 t) (ht : t.heap = H1) (hvm : s.vm.Alike t.vm) (hS : va_S (uA g) s.heap H1 locs1) : uY g n1 E1 s H1 locs1 := by
  obtain ⟨h1, h2, h3, h4, h5, h6⟩ := Y
  obtain ⟨b1, b2, b3, b4⟩ := B
  subst ht
  exact ⟨b1, va_K.moved hvm.symm b2, b3, hS, h5, h6⟩
theorem uY.pre {g : uG} {n : Nat} {E : Nat → va_E} {s : State} {H : Heap} {locs : List Loc} (Y : uY g n E s H locs) {U : State} (hU : U.heap = H) (hW : s.WarmedH U.vm) : uB g n E U := (Y.out hU hW).1
theorem uY.wr {g : uG} {n : Nat} {E : Nat → va_E} {s : State} {H : Heap} {locs : List Loc} (Y : uY g n E s H locs) {k : Nat} (hk : k < n) {e : va_E} {H1 : Heap} (j : Nat) (hat : va_at g.2.1 vwCl (g.1 + k, e) H1) (z : H1.size = H.size) (oq : ∀ q : Nat, q ≠ g.1 + k → H1[q]? = H[q]?) : uY g n (va_up E k e) s H1 (locs ++ [⟨g.1 + k, j⟩]) := by
  obtain ⟨h1, h2, h3, h4, h5⟩ := Y
  refine ⟨?_, h2, by rw [z]; exact h3, h4.put z oq (Nat.le_add_right _ _), h5⟩
  rw [← uW_set g.1 E hk]
  exact h1.set (uW_D g.1 n E) (uW_get g.1 E hk) hat oq
theorem uY.nw {g : uG} {n : Nat} {E : Nat → va_E} {s : State} {H : Heap} {locs : List Loc} (Y : uY g n E s H locs) {e : va_E} {H1 : Heap} (hat : va_at g.2.1 vwCl (g.1 + n, e) H1) (z : H1.size = H.size + 1) (oq : ∀ q : Nat, q < H.size → H1[q]? = H[q]?) : uY g (n + 1) (va_up E n e) s H1 locs := by
  obtain ⟨h1, h2, h3, h4, h5⟩ := Y
  refine ⟨?_, h2, by rw [z, h3]; omega, ⟨by have := h4.1; omega, fun q g1 g2 => (oq q (Nat.lt_of_lt_of_le g1 h4.1)).trans (h4.2.1 q g1 g2), h4.2.2⟩, h5⟩
  rw [← uW_push g.1 n E]
  refine (h1.kept fun k q hq => oq q.1 ((h1 k q hq).lt)).app fun k q hq => ?_
  have hz : k < 1 := (List.getElem?_eq_some_iff.mp hq).1
  rw [show k = 0 by omega] at hq
  cases hq
  exact hat
/-- the rooms: by depth -/
def uR (d mc ms : Nat) : Room := { frames := d, cells := mc, slots := ms, locals := 40 * d }
def uU (y : MethodName) (cc : ByteArray) (mL : Nat) (ret : Option FieldType) : List Cond := .code y cc mL ret :: T0
/-- what a walk stands on -/
def uX (p : Program) (d : Nat) (R : Room) (s : State) (m : MethodId) (args : Array Value) (c : Code) (cc : ByteArray) (nL : Nat) (own : String) : Prop :=
  p.tables.exec = Jvm.exec ∧ c.code = cc ∧ c.maxLocals = nL ∧ s.vm.findClass own = some m.cls ∧ (∀ w ∈ T0, w.before args s = true) ∧ d ≤ R.frames ∧ 40 * d ≤ R.locals
/-- what the tables say of a method -/
def uK (y : MethodName) (C : String) (cc : ByteArray) (mL : Nat) (ret : Option FieldType) (np : Nat) : Prop :=
  (Cond.initialized C ∈ T0 ∧ Cond.code y cc mL ret ∈ T0) ∧ y.cls = C ∧ (y.cls ≠ "java/lang/invoke/MethodHandle" ∧ y.cls ≠ "java/lang/invoke/VarHandle" ∧ (parseMethodDescriptor y.desc).map (fun d => d.parameters.length) = some np) ∧ mL ≤ 21
theorem uU_good {y : MethodName} {cc : ByteArray} {mL : Nat} {ret : Option FieldType} (h : Cond.code y cc mL ret ∈ T0) : GoodIn T0 (uU y cc mL ret) := by
  intro w hw
  rcases List.mem_cons.mp hw with rfl | hw
  · exact ⟨h, T0_good h⟩
  · exact ⟨hw, T0_good hw⟩
section ROWS
variable {p : Program} {l : Launch} {e : Env} {R : Room} {s : State} {m : MethodId} {args : Array Value} {below : List Frame} {meth : Method} {c : Code} {H : Heap} {locs : List Loc} {cells slots : Nat} {Q : State → Prop}
variable {cc : ByteArray} {pc d nL : Nat} {own : String} {ls : Array Slot} {lv lv' : List (Nat × Value)} {rest : List Value} {g : uG} {n : Nat} {E : Nat → va_E}
theorem uX.hb (X : uX p d R s m args c cc nL own) : c.code = cc := X.2.1
theorem uX.w (X : uX p d R s m args c cc nL own) {w : Cond} (h : w ∈ T0) : w.before args s = true := X.2.2.2.2.1 w h
theorem uX.fix (X : uX p d R s m args c cc nL own) : CallFix p m c cc nL s args T0 own := ⟨X.1, X.2.1, X.2.2.1, X.2.2.2.1, X.2.2.2.2.1⟩
-- constants, locals, stack
theorem r_iconst (X : uX p d R s m args c cc nL own) {z : Int} (hdg : decode cc pc = .ok (.iconst z, 1)) (k : W p l e R s m args below meth c H locs cells slots Q (F0 m (pc + 1) ls (.int (iV z) :: rest))) : W p l e R s m args below meth c H locs cells slots Q (F0 m pc ls rest) := lv_iconst X.1 X.2.1 hdg rfl k
theorem r_bipush (X : uX p d R s m args c cc nL own) (z : Int) (hdg : decode cc pc = .ok (.bipush z, 2)) (hv : (Int8.ofInt z).toInt32 = iV z) (k : W p l e R s m args below meth c H locs cells slots Q (F0 m (pc + 2) ls (.int (iV z) :: rest))) : W p l e R s m args below meth c H locs cells slots Q (F0 m pc ls rest) := lv_bipush X.1 X.2.1 hdg hv k
theorem r_sipush (X : uX p d R s m args c cc nL own) (z : Int) (hdg : decode cc pc = .ok (.sipush z, 3)) (hv : (Int16.ofInt z).toInt32 = iV z) (k : W p l e R s m args below meth c H locs cells slots Q (F0 m (pc + 3) ls (.int (iV z) :: rest))) : W p l e R s m args below meth c H locs cells slots Q (F0 m pc ls rest) := lv_sipush X.1 X.2.1 hdg hv k
theorem r_ldc (X : uX p d R s m args c cc nL own) (z : Int) {i : Nat} {v : Int32} (hc : Cond.constant own i v ∈ T0) (hv : v = iV z) (hdg : decode cc pc = .ok (.ldc i, 2)) (k : W p l e R s m args below meth c H locs cells slots Q (F0 m (pc + 2) ls (.int (iV z) :: rest))) : W p l e R s m args below meth c H locs cells slots Q (F0 m pc ls rest) := lv_ldc X.1 X.2.1 X.2.2.2.1 (X.w hc) hdg (hv ▸ k)
theorem r_lconst (X : uX p d R s m args c cc nL own) (z : Int) {k0 : Fin 2} (hdg : decode cc pc = .ok (.lconst k0, 1)) (hv : Int64.ofNat (k0 : Nat) = lV z) (k : W p l e R s m args below meth c H locs cells slots Q (F0 m (pc + 1) ls (.long (lV z) :: rest))) : W p l e R s m args below meth c H locs cells slots Q (F0 m pc ls rest) := lv_lconst X.1 X.2.1 hdg hv k
theorem r_ldc2 (X : uX p d R s m args c cc nL own) (z : Int) {i : Nat} {v : Int64} (hc : Cond.constantLong own i v ∈ T0) (hv : v = lV z) (hdg : decode cc pc = .ok (.ldc2_w i, 3)) (k : W p l e R s m args below meth c H locs cells slots Q (F0 m (pc + 3) ls (.long (lV z) :: rest))) : W p l e R s m args below meth c H locs cells slots Q (F0 m pc ls rest) := lv_ldc2 X.1 X.2.1 X.2.2.2.1 (X.w hc) hdg (hv ▸ k)
theorem r_iload_n (X : uX p d R s m args c cc nL own) {k0 : Fin 4} {x : Int32} (hdg : decode cc pc = .ok (.iload_n k0, 1)) (hl : lv_has ls nL lv) (i : Nat) (hi : lv[i]? = some ((k0 : Nat), .int x)) (k : W p l e R s m args below meth c H locs cells slots Q (F0 m (pc + 1) ls (.int x :: rest))) : W p l e R s m args below meth c H locs cells slots Q (F0 m pc ls rest) := lv_iload_n X.1 X.2.1 hdg rfl (lv_at hl i hi) k
theorem r_iload (X : uX p d R s m args c cc nL own) {k0 : Nat} {x : Int32} (hdg : decode cc pc = .ok (.iload k0, 2)) (hl : lv_has ls nL lv) (i : Nat) (hi : lv[i]? = some (k0, .int x)) (k : W p l e R s m args below meth c H locs cells slots Q (F0 m (pc + 2) ls (.int x :: rest))) : W p l e R s m args below meth c H locs cells slots Q (F0 m pc ls rest) := lv_iload X.1 X.2.1 hdg (lv_at hl i hi) k
theorem r_lload_n (X : uX p d R s m args c cc nL own) {k0 : Fin 4} {x : Int64} (hdg : decode cc pc = .ok (.lload_n k0, 1)) (hl : lv_has ls nL lv) (i : Nat) (hi : lv[i]? = some ((k0 : Nat), .long x)) (k : W p l e R s m args below meth c H locs cells slots Q (F0 m (pc + 1) ls (.long x :: rest))) : W p l e R s m args below meth c H locs cells slots Q (F0 m pc ls rest) := lv_lload_n X.1 X.2.1 hdg rfl (lv_at hl i hi) k
theorem r_lload (X : uX p d R s m args c cc nL own) {k0 : Nat} {x : Int64} (hdg : decode cc pc = .ok (.lload k0, 2)) (hl : lv_has ls nL lv) (i : Nat) (hi : lv[i]? = some (k0, .long x)) (k : W p l e R s m args below meth c H locs cells slots Q (F0 m (pc + 2) ls (.long x :: rest))) : W p l e R s m args below meth c H locs cells slots Q (F0 m pc ls rest) := lv_lload X.1 X.2.1 hdg (lv_at hl i hi) k
theorem r_aload_n (X : uX p d R s m args c cc nL own) {k0 : Fin 4} {x : Nat} (hdg : decode cc pc = .ok (.aload_n k0, 1)) (hl : lv_has ls nL lv) (i : Nat) (hi : lv[i]? = some ((k0 : Nat), .ref x)) (k : W p l e R s m args below meth c H locs cells slots Q (F0 m (pc + 1) ls (.ref x :: rest))) : W p l e R s m args below meth c H locs cells slots Q (F0 m pc ls rest) := lv_aload_n X.1 X.2.1 hdg rfl (lv_at hl i hi) k
theorem r_aload_nN (X : uX p d R s m args c cc nL own) {k0 : Fin 4} (hdg : decode cc pc = .ok (.aload_n k0, 1)) (hl : lv_has ls nL lv) (i : Nat) (hi : lv[i]? = some ((k0 : Nat), .null)) (k : W p l e R s m args below meth c H locs cells slots Q (F0 m (pc + 1) ls (.null :: rest))) : W p l e R s m args below meth c H locs cells slots Q (F0 m pc ls rest) := lv_aload_nN X.1 X.2.1 hdg rfl (lv_at hl i hi) k
theorem r_istore_n (X : uX p d R s m args c cc nL own) {k0 : Fin 4} {x : Int32} (hdg : decode cc pc = .ok (.istore_n k0, 1)) (h : lv_has ls nL lv) (lv' : List (Nat × Value)) (hn : (k0 : Nat) < nL) (hl : ((k0 : Nat), Value.int x) :: lv.filter (fun q => !(q.1 == (k0 : Nat)) && !(q.1 + 1 == (k0 : Nat) && q.2.category == 2)) = lv')
    (k : ∀ ls' : Array Slot, lv_has ls' nL lv' → W p l e R s m args below meth c H locs cells slots Q (F0 m (pc + 1) ls' rest)) : W p l e R s m args below meth c H locs cells slots Q (F0 m pc ls (.int x :: rest)) := lv_istore_n X.1 X.2.1 hdg rfl h hn hl k
theorem r_istore (X : uX p d R s m args c cc nL own) {k0 : Nat} {x : Int32} (hdg : decode cc pc = .ok (.istore k0, 2)) (h : lv_has ls nL lv) (lv' : List (Nat × Value)) (hn : k0 < nL) (hl : (k0, Value.int x) :: lv.filter (fun q => !(q.1 == k0) && !(q.1 + 1 == k0 && q.2.category == 2)) = lv')
    (k : ∀ ls' : Array Slot, lv_has ls' nL lv' → W p l e R s m args below meth c H locs cells slots Q (F0 m (pc + 2) ls' rest)) : W p l e R s m args below meth c H locs cells slots Q (F0 m pc ls (.int x :: rest)) := lv_istore X.1 X.2.1 hdg h hn hl k
theorem r_astore_n (X : uX p d R s m args c cc nL own) {k0 : Fin 4} {x : Nat} (hdg : decode cc pc = .ok (.astore_n k0, 1)) (h : lv_has ls nL lv) (lv' : List (Nat × Value)) (hn : (k0 : Nat) < nL) (hl : ((k0 : Nat), Value.ref x) :: lv.filter (fun q => !(q.1 == (k0 : Nat)) && !(q.1 + 1 == (k0 : Nat) && q.2.category == 2)) = lv')
    (k : ∀ ls' : Array Slot, lv_has ls' nL lv' → W p l e R s m args below meth c H locs cells slots Q (F0 m (pc + 1) ls' rest)) : W p l e R s m args below meth c H locs cells slots Q (F0 m pc ls (.ref x :: rest)) := lv_astore_n X.1 X.2.1 hdg rfl h hn hl k
theorem r_astore_nN (X : uX p d R s m args c cc nL own) {k0 : Fin 4} (hdg : decode cc pc = .ok (.astore_n k0, 1)) (h : lv_has ls nL lv) (lv' : List (Nat × Value)) (hn : (k0 : Nat) < nL) (hl : ((k0 : Nat), Value.null) :: lv.filter (fun q => !(q.1 == (k0 : Nat)) && !(q.1 + 1 == (k0 : Nat) && q.2.category == 2)) = lv')
    (k : ∀ ls' : Array Slot, lv_has ls' nL lv' → W p l e R s m args below meth c H locs cells slots Q (F0 m (pc + 1) ls' rest)) : W p l e R s m args below meth c H locs cells slots Q (F0 m pc ls (.null :: rest)) := lv_astore_nN X.1 X.2.1 hdg rfl h hn hl k
theorem r_lstore_n (X : uX p d R s m args c cc nL own) {k0 : Fin 4} {x : Int64} (hdg : decode cc pc = .ok (.lstore_n k0, 1)) (h : lv_has ls nL lv) (lv' : List (Nat × Value)) (hn : (k0 : Nat) + 1 < nL) (hl : ((k0 : Nat), Value.long x) :: lv.filter (fun q => !(q.1 == (k0 : Nat)) && (!(q.1 == (k0 : Nat) + 1) && !(q.1 + 1 == (k0 : Nat) && q.2.category == 2))) = lv')
    (k : ∀ ls' : Array Slot, lv_has ls' nL lv' → W p l e R s m args below meth c H locs cells slots Q (F0 m (pc + 1) ls' rest)) : W p l e R s m args below meth c H locs cells slots Q (F0 m pc ls (.long x :: rest)) := lv_lstore_n X.1 X.2.1 hdg rfl h hn hl k
theorem r_lstore (X : uX p d R s m args c cc nL own) {k0 : Nat} {x : Int64} (hdg : decode cc pc = .ok (.lstore k0, 2)) (h : lv_has ls nL lv) (lv' : List (Nat × Value)) (hn : k0 + 1 < nL) (hl : (k0, Value.long x) :: lv.filter (fun q => !(q.1 == k0) && (!(q.1 == k0 + 1) && !(q.1 + 1 == k0 && q.2.category == 2))) = lv')
    (k : ∀ ls' : Array Slot, lv_has ls' nL lv' → W p l e R s m args below meth c H locs cells slots Q (F0 m (pc + 2) ls' rest)) : W p l e R s m args below meth c H locs cells slots Q (F0 m pc ls (.long x :: rest)) := lv_lstore X.1 X.2.1 hdg h hn hl k
theorem r_iinc (X : uX p d R s m args c cc nL own) {k0 : Nat} {q z : Int} (hdg : decode cc pc = .ok (.iinc k0 q, 3)) (h : lv_has ls nL lv) (i : Nat) (hi : lv[i]? = some (k0, .int (iV z))) (lv' : List (Nat × Value)) (hn : k0 < nL) (hl : (k0, Value.int (iV (z + q))) :: lv.filter (fun q => !(q.1 == k0) && !(q.1 + 1 == k0 && q.2.category == 2)) = lv')
    (k : ∀ ls' : Array Slot, lv_has ls' nL lv' → W p l e R s m args below meth c H locs cells slots Q (F0 m (pc + 3) ls' rest)) : W p l e R s m args below meth c H locs cells slots Q (F0 m pc ls rest) := lv_iinc X.1 X.2.1 hdg h hi (iV_add z q) hn hl k
theorem r_dup (X : uX p d R s m args c cc nL own) {va : Value} (hdg : decode cc pc = .ok (.dup, 1)) (hva : va.category = 1) (k : W p l e R s m args below meth c H locs cells slots Q (F0 m (pc + 1) ls (va :: va :: rest))) : W p l e R s m args below meth c H locs cells slots Q (F0 m pc ls (va :: rest)) := lv_dup X.1 X.2.1 hdg hva k
theorem r_pop (X : uX p d R s m args c cc nL own) {va : Value} (hdg : decode cc pc = .ok (.pop, 1)) (hva : va.category = 1) (k : W p l e R s m args below meth c H locs cells slots Q (F0 m (pc + 1) ls rest)) : W p l e R s m args below meth c H locs cells slots Q (F0 m pc ls (va :: rest)) := lv_pop X.1 X.2.1 hdg hva k
theorem r_dup_x1 (X : uX p d R s m args c cc nL own) {va vb : Value} (hdg : decode cc pc = .ok (.dup_x1, 1)) (hva : va.category = 1) (hvb : vb.category = 1) (k : W p l e R s m args below meth c H locs cells slots Q (F0 m (pc + 1) ls (va :: vb :: va :: rest))) : W p l e R s m args below meth c H locs cells slots Q (F0 m pc ls (va :: vb :: rest)) := lv_dup_x1 X.1 X.2.1 hdg hva hvb k
theorem r_dup2 (X : uX p d R s m args c cc nL own) {va vb : Value} (hdg : decode cc pc = .ok (.dup2, 1)) (hva : va.category = 1) (hvb : vb.category = 1) (k : W p l e R s m args below meth c H locs cells slots Q (F0 m (pc + 1) ls (va :: vb :: va :: vb :: rest))) : W p l e R s m args below meth c H locs cells slots Q (F0 m pc ls (va :: vb :: rest)) := lv_dup2_11 X.1 X.2.1 hdg hva hvb k
-- arithmetic
theorem r_iadd (X : uX p d R s m args c cc nL own) {a b : Int} (hdg : decode cc pc = .ok (.iadd, 1)) (k : W p l e R s m args below meth c H locs cells slots Q (F0 m (pc + 1) ls (.int (iV (a + b)) :: rest))) : W p l e R s m args below meth c H locs cells slots Q (F0 m pc ls (.int (iV b) :: .int (iV a) :: rest)) := lv_iadd X.1 X.2.1 hdg (by rw [iV_add]; exact k)
theorem r_isub (X : uX p d R s m args c cc nL own) {a b : Int} (hdg : decode cc pc = .ok (.isub, 1)) (k : W p l e R s m args below meth c H locs cells slots Q (F0 m (pc + 1) ls (.int (iV (a - b)) :: rest))) : W p l e R s m args below meth c H locs cells slots Q (F0 m pc ls (.int (iV b) :: .int (iV a) :: rest)) := lv_isub X.1 X.2.1 hdg (by rw [iV_sub]; exact k)
theorem r_imul (X : uX p d R s m args c cc nL own) {a b : Int} (hdg : decode cc pc = .ok (.imul, 1)) (k : W p l e R s m args below meth c H locs cells slots Q (F0 m (pc + 1) ls (.int (iV (a * b)) :: rest))) : W p l e R s m args below meth c H locs cells slots Q (F0 m pc ls (.int (iV b) :: .int (iV a) :: rest)) := lv_imul X.1 X.2.1 hdg (by rw [iV_mul]; exact k)
theorem r_idiv (X : uX p d R s m args c cc nL own) {a b : Int} (hdg : decode cc pc = .ok (.idiv, 1)) (ha : inI a) (hb : inI b) (h0 : 0 < b) (k : W p l e R s m args below meth c H locs cells slots Q (F0 m (pc + 1) ls (.int (iV (a.tdiv b)) :: rest))) : W p l e R s m args below meth c H locs cells slots Q (F0 m pc ls (.int (iV b) :: .int (iV a) :: rest)) := lv_idiv X.1 X.2.1 hdg (by rw [iV_0, iV_inj hb (by omega)]; omega) (by rw [iV_div ha hb (by omega)]; exact k)
theorem r_i2l (X : uX p d R s m args c cc nL own) {a : Int} (hdg : decode cc pc = .ok (.i2l, 1)) (ha : inI a) (k : W p l e R s m args below meth c H locs cells slots Q (F0 m (pc + 1) ls (.long (lV a) :: rest))) : W p l e R s m args below meth c H locs cells slots Q (F0 m pc ls (.int (iV a) :: rest)) := lv_i2l X.1 X.2.1 hdg (iV_i2l ha) k
theorem r_l2i (X : uX p d R s m args c cc nL own) {a : Int} (hdg : decode cc pc = .ok (.l2i, 1)) (k : W p l e R s m args below meth c H locs cells slots Q (F0 m (pc + 1) ls (.int (iV a) :: rest))) : W p l e R s m args below meth c H locs cells slots Q (F0 m pc ls (.long (lV a) :: rest)) := lv_l2i X.1 X.2.1 hdg (iV_l2i a) k
theorem r_ladd (X : uX p d R s m args c cc nL own) {a b : Int} (hdg : decode cc pc = .ok (.ladd, 1)) (k : W p l e R s m args below meth c H locs cells slots Q (F0 m (pc + 1) ls (.long (lV (a + b)) :: rest))) : W p l e R s m args below meth c H locs cells slots Q (F0 m pc ls (.long (lV b) :: .long (lV a) :: rest)) := lv_ladd X.1 X.2.1 hdg (by rw [lV_add]; exact k)
theorem r_lsub (X : uX p d R s m args c cc nL own) {a b : Int} (hdg : decode cc pc = .ok (.lsub, 1)) (k : W p l e R s m args below meth c H locs cells slots Q (F0 m (pc + 1) ls (.long (lV (a - b)) :: rest))) : W p l e R s m args below meth c H locs cells slots Q (F0 m pc ls (.long (lV b) :: .long (lV a) :: rest)) := lv_lsub X.1 X.2.1 hdg (by rw [lV_sub]; exact k)
theorem r_lmul (X : uX p d R s m args c cc nL own) {a b : Int} (hdg : decode cc pc = .ok (.lmul, 1)) (k : W p l e R s m args below meth c H locs cells slots Q (F0 m (pc + 1) ls (.long (lV (a * b)) :: rest))) : W p l e R s m args below meth c H locs cells slots Q (F0 m pc ls (.long (lV b) :: .long (lV a) :: rest)) := lv_lmul X.1 X.2.1 hdg (by rw [lV_mul]; exact k)
theorem r_ldiv (X : uX p d R s m args c cc nL own) {a b : Int} (hdg : decode cc pc = .ok (.ldiv, 1)) (ha : inL a) (hb : inL b) (h0 : 0 < b) (k : W p l e R s m args below meth c H locs cells slots Q (F0 m (pc + 1) ls (.long (lV (a.tdiv b)) :: rest))) : W p l e R s m args below meth c H locs cells slots Q (F0 m pc ls (.long (lV b) :: .long (lV a) :: rest)) := lv_ldiv X.1 X.2.1 hdg (by rw [show (0 : Int64) = lV 0 from rfl, lV_inj hb (by omega)]; omega) (by rw [lV_div ha hb h0]; exact k)
/-- another name of the number on top -/
theorem r_eq {z z' : Int} (h : z = z') (k : W p l e R s m args below meth c H locs cells slots Q (F0 m pc ls (.int (iV z') :: rest))) : W p l e R s m args below meth c H locs cells slots Q (F0 m pc ls (.int (iV z) :: rest)) := h ▸ k
theorem r_eql {z z' : Int} (h : z = z') (k : W p l e R s m args below meth c H locs cells slots Q (F0 m pc ls (.long (lV z') :: rest))) : W p l e R s m args below meth c H locs cells slots Q (F0 m pc ls (.long (lV z) :: rest)) := h ▸ k
/-- a fresh name of the number on top -/
theorem r_nm {z : Int} (k : ∀ z' : Int, z' = z → W p l e R s m args below meth c H locs cells slots Q (F0 m pc ls (.int (iV z') :: rest))) : W p l e R s m args below meth c H locs cells slots Q (F0 m pc ls (.int (iV z) :: rest)) := k z rfl
-- branches
theorem r_if_eq (X : uX p d R s m args c cc nL own) {z : Int} {off : Int} {tgt : Nat} (hdg : decode cc pc = .ok (.ifCond .eq off, 3)) (ht : (pc : Int) + off = (tgt : Int)) (hz : inI z) (kt : z = 0 → W p l e R s m args below meth c H locs cells slots Q (F0 m tgt ls rest)) (kf : ¬ z = 0 → W p l e R s m args below meth c H locs cells slots Q (F0 m (pc + 3) ls rest)) : W p l e R s m args below meth c H locs cells slots Q (F0 m pc ls (.int (iV z) :: rest)) := lv_if_eq X.1 X.2.1 hdg ht (fun h => kt ((iV_inj hz (by decide)).mp h)) (fun h => kf (fun q => h ((iV_inj hz (by decide)).mpr q)))
theorem r_if_ne (X : uX p d R s m args c cc nL own) {z : Int} {off : Int} {tgt : Nat} (hdg : decode cc pc = .ok (.ifCond .ne off, 3)) (ht : (pc : Int) + off = (tgt : Int)) (hz : inI z) (kt : ¬ z = 0 → W p l e R s m args below meth c H locs cells slots Q (F0 m tgt ls rest)) (kf : z = 0 → W p l e R s m args below meth c H locs cells slots Q (F0 m (pc + 3) ls rest)) : W p l e R s m args below meth c H locs cells slots Q (F0 m pc ls (.int (iV z) :: rest)) := lv_if_ne X.1 X.2.1 hdg ht (fun h => kt (fun q => h ((iV_inj hz (by decide)).mpr q))) (fun h => kf ((iV_inj hz (by decide)).mp h))
theorem r_if_lt (X : uX p d R s m args c cc nL own) {z : Int} {off : Int} {tgt : Nat} (hdg : decode cc pc = .ok (.ifCond .lt off, 3)) (ht : (pc : Int) + off = (tgt : Int)) (hz : inI z) (kt : z < 0 → W p l e R s m args below meth c H locs cells slots Q (F0 m tgt ls rest)) (kf : ¬ z < 0 → W p l e R s m args below meth c H locs cells slots Q (F0 m (pc + 3) ls rest)) : W p l e R s m args below meth c H locs cells slots Q (F0 m pc ls (.int (iV z) :: rest)) := lv_if_lt X.1 X.2.1 hdg ht (fun h => kt ((iV_lt hz (by decide)).mp h)) (fun h => kf (fun q => h ((iV_lt hz (by decide)).mpr q)))
theorem r_if_le (X : uX p d R s m args c cc nL own) {z : Int} {off : Int} {tgt : Nat} (hdg : decode cc pc = .ok (.ifCond .le off, 3)) (ht : (pc : Int) + off = (tgt : Int)) (hz : inI z) (kt : z ≤ 0 → W p l e R s m args below meth c H locs cells slots Q (F0 m tgt ls rest)) (kf : ¬ z ≤ 0 → W p l e R s m args below meth c H locs cells slots Q (F0 m (pc + 3) ls rest)) : W p l e R s m args below meth c H locs cells slots Q (F0 m pc ls (.int (iV z) :: rest)) := lv_if_le X.1 X.2.1 hdg ht (fun h => kt ((iV_le hz (by decide)).mp h)) (fun h => kf (fun q => h ((iV_le hz (by decide)).mpr q)))
theorem r_if_ge (X : uX p d R s m args c cc nL own) {z : Int} {off : Int} {tgt : Nat} (hdg : decode cc pc = .ok (.ifCond .ge off, 3)) (ht : (pc : Int) + off = (tgt : Int)) (hz : inI z) (kt : 0 ≤ z → W p l e R s m args below meth c H locs cells slots Q (F0 m tgt ls rest)) (kf : ¬ 0 ≤ z → W p l e R s m args below meth c H locs cells slots Q (F0 m (pc + 3) ls rest)) : W p l e R s m args below meth c H locs cells slots Q (F0 m pc ls (.int (iV z) :: rest)) := lv_if_ge X.1 X.2.1 hdg ht (fun h => kt ((iV_le (by decide) hz).mp h)) (fun h => kf (fun q => h ((iV_le (by decide) hz).mpr q)))
theorem r_if_gt (X : uX p d R s m args c cc nL own) {z : Int} {off : Int} {tgt : Nat} (hdg : decode cc pc = .ok (.ifCond .gt off, 3)) (ht : (pc : Int) + off = (tgt : Int)) (hz : inI z) (kt : 0 < z → W p l e R s m args below meth c H locs cells slots Q (F0 m tgt ls rest)) (kf : ¬ 0 < z → W p l e R s m args below meth c H locs cells slots Q (F0 m (pc + 3) ls rest)) : W p l e R s m args below meth c H locs cells slots Q (F0 m pc ls (.int (iV z) :: rest)) := lv_if_gt X.1 X.2.1 hdg ht (fun h => kt ((iV_lt (by decide) hz).mp h)) (fun h => kf (fun q => h ((iV_lt (by decide) hz).mpr q)))
theorem r_icmp_eq (X : uX p d R s m args c cc nL own) {a b : Int} {off : Int} {tgt : Nat} (hdg : decode cc pc = .ok (.if_icmp .eq off, 3)) (ht : (pc : Int) + off = (tgt : Int)) (ha : inI a) (hb : inI b) (kt : a = b → W p l e R s m args below meth c H locs cells slots Q (F0 m tgt ls rest)) (kf : ¬ a = b → W p l e R s m args below meth c H locs cells slots Q (F0 m (pc + 3) ls rest)) : W p l e R s m args below meth c H locs cells slots Q (F0 m pc ls (.int (iV b) :: .int (iV a) :: rest)) := lv_icmp_eq X.1 X.2.1 hdg ht (fun h => kt ((iV_inj ha hb).mp h)) (fun h => kf (fun q => h ((iV_inj ha hb).mpr q)))
theorem r_icmp_ne (X : uX p d R s m args c cc nL own) {a b : Int} {off : Int} {tgt : Nat} (hdg : decode cc pc = .ok (.if_icmp .ne off, 3)) (ht : (pc : Int) + off = (tgt : Int)) (ha : inI a) (hb : inI b) (kt : ¬ a = b → W p l e R s m args below meth c H locs cells slots Q (F0 m tgt ls rest)) (kf : a = b → W p l e R s m args below meth c H locs cells slots Q (F0 m (pc + 3) ls rest)) : W p l e R s m args below meth c H locs cells slots Q (F0 m pc ls (.int (iV b) :: .int (iV a) :: rest)) := lv_icmp_ne X.1 X.2.1 hdg ht (fun h => kt (fun q => h ((iV_inj ha hb).mpr q))) (fun h => kf ((iV_inj ha hb).mp h))
theorem r_icmp_lt (X : uX p d R s m args c cc nL own) {a b : Int} {off : Int} {tgt : Nat} (hdg : decode cc pc = .ok (.if_icmp .lt off, 3)) (ht : (pc : Int) + off = (tgt : Int)) (ha : inI a) (hb : inI b) (kt : a < b → W p l e R s m args below meth c H locs cells slots Q (F0 m tgt ls rest)) (kf : ¬ a < b → W p l e R s m args below meth c H locs cells slots Q (F0 m (pc + 3) ls rest)) : W p l e R s m args below meth c H locs cells slots Q (F0 m pc ls (.int (iV b) :: .int (iV a) :: rest)) := lv_icmp_lt X.1 X.2.1 hdg ht (fun h => kt ((iV_lt ha hb).mp h)) (fun h => kf (fun q => h ((iV_lt ha hb).mpr q)))
theorem r_icmp_le (X : uX p d R s m args c cc nL own) {a b : Int} {off : Int} {tgt : Nat} (hdg : decode cc pc = .ok (.if_icmp .le off, 3)) (ht : (pc : Int) + off = (tgt : Int)) (ha : inI a) (hb : inI b) (kt : a ≤ b → W p l e R s m args below meth c H locs cells slots Q (F0 m tgt ls rest)) (kf : ¬ a ≤ b → W p l e R s m args below meth c H locs cells slots Q (F0 m (pc + 3) ls rest)) : W p l e R s m args below meth c H locs cells slots Q (F0 m pc ls (.int (iV b) :: .int (iV a) :: rest)) := lv_icmp_le X.1 X.2.1 hdg ht (fun h => kt ((iV_le ha hb).mp h)) (fun h => kf (fun q => h ((iV_le ha hb).mpr q)))
theorem r_icmp_ge (X : uX p d R s m args c cc nL own) {a b : Int} {off : Int} {tgt : Nat} (hdg : decode cc pc = .ok (.if_icmp .ge off, 3)) (ht : (pc : Int) + off = (tgt : Int)) (ha : inI a) (hb : inI b) (kt : b ≤ a → W p l e R s m args below meth c H locs cells slots Q (F0 m tgt ls rest)) (kf : ¬ b ≤ a → W p l e R s m args below meth c H locs cells slots Q (F0 m (pc + 3) ls rest)) : W p l e R s m args below meth c H locs cells slots Q (F0 m pc ls (.int (iV b) :: .int (iV a) :: rest)) := lv_icmp_ge X.1 X.2.1 hdg ht (fun h => kt ((iV_le hb ha).mp h)) (fun h => kf (fun q => h ((iV_le hb ha).mpr q)))
theorem r_icmp_gt (X : uX p d R s m args c cc nL own) {a b : Int} {off : Int} {tgt : Nat} (hdg : decode cc pc = .ok (.if_icmp .gt off, 3)) (ht : (pc : Int) + off = (tgt : Int)) (ha : inI a) (hb : inI b) (kt : b < a → W p l e R s m args below meth c H locs cells slots Q (F0 m tgt ls rest)) (kf : ¬ b < a → W p l e R s m args below meth c H locs cells slots Q (F0 m (pc + 3) ls rest)) : W p l e R s m args below meth c H locs cells slots Q (F0 m pc ls (.int (iV b) :: .int (iV a) :: rest)) := lv_icmp_gt X.1 X.2.1 hdg ht (fun h => kt ((iV_lt hb ha).mp h)) (fun h => kf (fun q => h ((iV_lt hb ha).mpr q)))
theorem r_goto (X : uX p d R s m args c cc nL own) {off : Int} (tgt : Nat) (hdg : decode cc pc = .ok (.goto off, 3)) (ht : (pc : Int) + off = (tgt : Int)) (k : W p l e R s m args below meth c H locs cells slots Q (F0 m tgt ls rest)) : W p l e R s m args below meth c H locs cells slots Q (F0 m pc ls rest) := lv_goto X.1 X.2.1 hdg ht k
/-- the compare of two longs, as a number -/
def cmpZ (a b : Int) : Int := if b < a then 1 else if a = b then 0 else -1
theorem r_lcmp (X : uX p d R s m args c cc nL own) {a b : Int} (hdg : decode cc pc = .ok (.lcmp, 1)) (ha : inL a) (hb : inL b) (k : W p l e R s m args below meth c H locs cells slots Q (F0 m (pc + 1) ls (.int (iV (cmpZ a b)) :: rest))) : W p l e R s m args below meth c H locs cells slots Q (F0 m pc ls (.long (lV b) :: .long (lV a) :: rest)) := by
  refine W.lcmp X.1 X.2.1 hdg ?_
  have h : lg_cmp (lV a) (lV b) = iV (cmpZ a b) := by
    unfold lg_cmp cmpZ
    have h1 : (lV a > lV b) ↔ b < a := lV_lt hb ha
    by_cases q1 : b < a
    · rw [if_pos (h1.mpr q1), if_pos q1]; rfl
    · rw [if_neg (fun z => q1 (h1.mp z)), if_neg q1]
      by_cases q2 : a = b
      · rw [if_pos ((lV_inj ha hb).mpr q2), if_pos q2]; rfl
      · rw [if_neg (fun z => q2 ((lV_inj ha hb).mp z)), if_neg q2]; rfl
  rw [h]
  exact k
theorem r_tabIn (X : uX p d R s m args c cc nL own) {dflt lo hi : Int} {offs : Array Int} {len : Nat} {z : Int} (off : Int) (tgt : Nat) (hdg : decode cc pc = .ok (.tableswitch dflt lo hi offs, len)) (hz : inI z) (h1 : ¬ z < lo) (h2 : ¬ hi < z) (ho : offs[(z - lo).toNat]? = some off) (ht : (pc : Int) + off = (tgt : Int)) (k : W p l e R s m args below meth c H locs cells slots Q (F0 m tgt ls rest)) : W p l e R s m args below meth c H locs cells slots Q (F0 m pc ls (.int (iV z) :: rest)) := lv_tableIn X.1 X.2.1 hdg (by rw [iV_toInt hz]; exact h1) (by rw [iV_toInt hz]; exact h2) (by rw [iV_toInt hz]; exact ho) ht k
theorem r_tabOut (X : uX p d R s m args c cc nL own) {dflt lo hi : Int} {offs : Array Int} {len : Nat} {z : Int} (tgt : Nat) (hdg : decode cc pc = .ok (.tableswitch dflt lo hi offs, len)) (hz : inI z) (h : z < lo ∨ hi < z) (ht : (pc : Int) + dflt = (tgt : Int)) (k : W p l e R s m args below meth c H locs cells slots Q (F0 m tgt ls rest)) : W p l e R s m args below meth c H locs cells slots Q (F0 m pc ls (.int (iV z) :: rest)) := lv_tableOut X.1 X.2.1 hdg (by rw [iV_toInt hz]; exact h) ht k
theorem r_ifnull (X : uX p d R s m args c cc nL own) {x : Nat} {off : Int} (hdg : decode cc pc = .ok (.ifnull off, 3)) (k : W p l e R s m args below meth c H locs cells slots Q (F0 m (pc + 3) ls rest)) : W p l e R s m args below meth c H locs cells slots Q (F0 m pc ls (.ref x :: rest)) := lv_ifnull X.1 X.2.1 hdg k
theorem r_ifnonnull (X : uX p d R s m args c cc nL own) {x : Nat} {off : Int} (tgt : Nat) (hdg : decode cc pc = .ok (.ifnonnull off, 3)) (ht : (pc : Int) + off = (tgt : Int)) (k : W p l e R s m args below meth c H locs cells slots Q (F0 m tgt ls rest)) : W p l e R s m args below meth c H locs cells slots Q (F0 m pc ls (.ref x :: rest)) := lv_ifnonnull X.1 X.2.1 hdg ht k
theorem r_ifnullN (X : uX p d R s m args c cc nL own) {off : Int} (tgt : Nat) (hdg : decode cc pc = .ok (.ifnull off, 3)) (ht : (pc : Int) + off = (tgt : Int)) (k : W p l e R s m args below meth c H locs cells slots Q (F0 m tgt ls rest)) : W p l e R s m args below meth c H locs cells slots Q (F0 m pc ls (.null :: rest)) := lv_ifnullN X.1 X.2.1 hdg ht k
theorem r_ifnonnullN (X : uX p d R s m args c cc nL own) {off : Int} (hdg : decode cc pc = .ok (.ifnonnull off, 3)) (k : W p l e R s m args below meth c H locs cells slots Q (F0 m (pc + 3) ls rest)) : W p l e R s m args below meth c H locs cells slots Q (F0 m pc ls (.null :: rest)) := lv_ifnonnullN X.1 X.2.1 hdg k
theorem r_null (X : uX p d R s m args c cc nL own) (hdg : decode cc pc = .ok (.aconst_null, 1)) (k : W p l e R s m args below meth c H locs cells slots Q (F0 m (pc + 1) ls (.null :: rest))) : W p l e R s m args below meth c H locs cells slots Q (F0 m pc ls rest) := lv_null X.1 X.2.1 hdg k
-- fields
theorem u_get (X : uX p d R s m args c cc nL own) (Y : uY g n E s H locs) {k : Nat} (hk : k < n) {ci : Nat} {fs : List Value} (he : E k = .inr (ci, fs)) {C : String} {T : u_T} {N : Nat} (hin : ∀ w ∈ u_ws C T N, w ∈ T0) (hc : vwCl[ci]? = some (C, T, N)) (j : Nat) (hj : j < N) {index : Nat} (hlink : Cond.fieldLink own index C (T j).2.1 (T j).2.2.1 ∈ T0) (ho : (T j).1 = C) {v : Value} (hv : fs[j]? = some v) (hdg : decode cc pc = .ok (.getfield index, 3))
    (kk : W p l e R s m args below meth c H locs cells slots Q (F0 m (pc + 3) ls (v :: rest))) : W p l e R s m args below meth c H locs cells slots Q (F0 m pc ls (.ref (g.1 + k) :: rest)) :=
  va_get X.1 X.2.1 X.2.2.2.2.1 hin X.2.2.2.1 Y.2.1 Y.1 k (by rw [uW_get g.1 E hk, he]) hc j hj (X.w hlink) (fun x h => by rw [ho] at h; exact h) hv hdg kk
theorem u_put (X : uX p d R s m args c cc nL own) (Y : uY g n E s H locs) {k : Nat} (hk : k < n) {ci : Nat} {fs : List Value} (he : E k = .inr (ci, fs)) {C : String} {T : u_T} {N : Nat} (hin : ∀ w ∈ u_ws C T N, w ∈ T0) (ty0 : Nat → FieldType) (hty : ∀ k, k < N → parseFieldDescriptor (T k).2.2.1 = some (ty0 k)) (hnm : ∀ a, a < N → ∀ b, b < N → a ≠ b → (T a).2.1 ≠ (T b).2.1) (hc : vwCl[ci]? = some (C, T, N)) (j : Nat) (hj : j < N) {index : Nat} (hlink : Cond.fieldLink own index C (T j).2.1 (T j).2.2.1 ∈ T0) (ho : (T j).1 = C) (hfin : (T j).2.2.2 = false) {v : Value} (hn : narrow (ty0 j) v = v) (hfit : fits (ty0 j) v = true) (hl : j < fs.length) (hdg : decode cc pc = .ok (.putfield index, 3))
    (kk : ∀ (H1 : Heap) (locs1 : List Loc), uY g n (va_up E k (.inr (ci, fs.set j v))) s H1 locs1 → W p l e R s m args below meth c H1 locs1 cells slots Q (F0 m (pc + 3) ls rest)) : W p l e R s m args below meth c H locs cells slots Q (F0 m pc ls (v :: .ref (g.1 + k) :: rest)) := by
  have hap := va_apart (own := own) X.2.2.2.2.1 hin ty0 hty hnm Y.2.1 hc
  obtain ⟨r, h1, cell, q1, q2, q3, q4⟩ := Y.1 k _ (by rw [uW_get g.1 E hk, he])
  have hr : r = (C, T, N) := Option.some.inj (h1.symm.trans hc)
  subst hr
  obtain ⟨hS, hfc, kC, hkC, hkind⟩ := Y.2.1.1 ci _ hc
  obtain ⟨cf, kf, fi, f, hi, hsl⟩ := hS j hj
  have hlay := X.2.2.2.2.1 _ (hin _ (u_in_lay hj))
  unfold u_lay at hlay
  rw [if_neg (by rw [hfin]; decide)] at hlay
  have hst := (u_facts hfc hkC (u_lays X.2.2.2.2.1 hin hj) hi).1
  have h6 := u_store hfc hkC hkind hlay hi (hty j hj) hn hfit
  refine W.putK X.1 X.2.1 (f := f) ⟨X.2.2.2.1, X.w hlink, ⟨_, _, _, by rw [ho] at hi; exact hi⟩, hst⟩ (by rw [q2]; exact h6) q1 q3 (by rw [hsl]; exact k2_hasslot (q4 j hj)) rfl rfl hdg fun H' e1 e2 e3 => ?_
  rw [hsl] at e1 ⊢
  exact kk H' _ (Y.wr hk _ ⟨_, hc, t_OB.to (V := updV (vp_V fs) j v) ⟨_, e1, q2, q3, t_set q4 hap hj v⟩ (fun i _ => vp_updV_set hl v i)⟩ e2 e3)
theorem u_putF (X : uX p d R s m args c cc nL own) (Y : uY g n E s H locs) {k : Nat} (hk : k < n) {ci : Nat} {fs : List Value} (he : E k = .inr (ci, fs)) {C : String} {T : u_T} {N : Nat} (hin : ∀ w ∈ u_ws C T N, w ∈ T0) (ty0 : Nat → FieldType) (hty : ∀ k, k < N → parseFieldDescriptor (T k).2.2.1 = some (ty0 k)) (hnm : ∀ a, a < N → ∀ b, b < N → a ≠ b → (T a).2.1 ≠ (T b).2.1) (hc : vwCl[ci]? = some (C, T, N)) (j : Nat) (hj : j < N) {index : Nat} (hlink : Cond.fieldLink own index C (T j).2.1 (T j).2.2.1 ∈ T0) (ho : (T j).1 = C) (hfin : (T j).2.2.2 = true) (hoC : own = C) (hin2 : meth.name = "<init>") {v : Value} (hn : narrow (ty0 j) v = v) (hfit : fits (ty0 j) v = true) (hl : j < fs.length) (hdg : decode cc pc = .ok (.putfield index, 3))
    (kk : ∀ (H1 : Heap) (locs1 : List Loc), uY g n (va_up E k (.inr (ci, fs.set j v))) s H1 locs1 → W p l e R s m args below meth c H1 locs1 cells slots Q (F0 m (pc + 3) ls rest)) : W p l e R s m args below meth c H locs cells slots Q (F0 m pc ls (v :: .ref (g.1 + k) :: rest)) := by
  have hap := va_apart (own := own) X.2.2.2.2.1 hin ty0 hty hnm Y.2.1 hc
  obtain ⟨r, h1, cell, q1, q2, q3, q4⟩ := Y.1 k _ (by rw [uW_get g.1 E hk, he])
  have hr : r = (C, T, N) := Option.some.inj (h1.symm.trans hc)
  subst hr
  obtain ⟨hS, hfc, kC, hkC, hkind⟩ := Y.2.1.1 ci _ hc
  obtain ⟨cf, kf, fi, f, hi, hsl⟩ := hS j hj
  have hlay := X.2.2.2.2.1 _ (hin _ (u_in_lay hj))
  unfold u_lay at hlay
  rw [if_pos hfin] at hlay
  have hst := (u_facts hfc hkC (u_lays X.2.2.2.2.1 hin hj) hi).1
  have hcf : m.cls = cf := by
    obtain ⟨_, _, c', _, _, _, -, -, hf', -, -, -, hown2, -⟩ := Cond.laysFinal_spec hlay
    have e1 : c' = cf := by have := hi.symm.trans hf'; simp at this; exact this.1.symm
    rw [ho, ← hoC] at hown2
    rw [← e1]; exact Option.some.inj (X.2.2.2.1.symm.trans hown2)
  have h6 := u_fits hfc hkC hkind (Or.inr hlay) hi (hty j hj) hn hfit
  refine W.putFinK X.1 X.2.1 (f := f) X.2.2.2.1 (X.w hlink) (by rw [ho] at hi; exact hi) hst hcf hin2 (by rw [q2]; exact h6) q1 q3 (by rw [hsl]; exact k2_hasslot (q4 j hj)) rfl rfl hdg fun H' e1 e2 e3 => ?_
  rw [hsl] at e1 ⊢
  exact kk H' _ (Y.wr hk _ ⟨_, hc, t_OB.to (V := updV (vp_V fs) j v) ⟨_, e1, q2, q3, t_set q4 hap hj v⟩ (fun i _ => vp_updV_set hl v i)⟩ e2 e3)
-- arrays: their numbers are a function of a whole number
/-- an array of n ints (or booleans) of the class cA, that holds f -/
def aV (cA : ClassId) (n : Nat) (f : Int → Int) : va_E := .inl (cA, n, .inl (fun j => iV (f j)))
def up1 (f : Int → Int) (i z : Int) : Int → Int := fun j => if j = i then z else f j
theorem vp_inZ {z : Int} {n : Nat} (h0 : 0 ≤ z) (h1 : z < n) (hn : (n : Int) ≤ 2147483647) : vp_in (iV z) n := by
  rintro (h | h)
  · rw [iV_0, iV_lt (by omega) (by decide)] at h; omega
  · rw [iV_clamp (by omega)] at h; omega
theorem u_iald (X : uX p d R s m args c cc nL own) (Y : uY g n E s H locs) {k : Nat} (hk : k < n) {N : Nat} {f : Int → Int} (he : E k = aV g.2.2.1 N f) {z : Int} (h0 : 0 ≤ z) (h1 : z < N) (hN : (N : Int) ≤ 2147483647) (hdg : decode cc pc = .ok (.iaload, 1))
    (kk : W p l e R s m args below meth c H locs cells slots Q (F0 m (pc + 1) ls (.int (iV (f z)) :: rest))) : W p l e R s m args below meth c H locs cells slots Q (F0 m pc ls (.int (iV z) :: .ref (g.1 + k) :: rest)) := by
  refine va_iald X.1 X.2.1 Y.2.1 Y.1 k 0 (by rw [uW_get g.1 E hk, he]; rfl) rfl (vp_inZ h0 h1 hN) hdg ?_
  have e : (((iV z).toNatClampNeg : Nat) : Int) = z := by rw [iV_clamp (by omega)]; omega
  rw [e]
  exact kk
theorem u_zald (X : uX p d R s m args c cc nL own) (Y : uY g n E s H locs) {k : Nat} (hk : k < n) {N : Nat} {f : Int → Int} (he : E k = aV g.2.2.2.1 N f) {z : Int} (h0 : 0 ≤ z) (h1 : z < N) (hN : (N : Int) ≤ 2147483647) (hdg : decode cc pc = .ok (.baload, 1))
    (kk : W p l e R s m args below meth c H locs cells slots Q (F0 m (pc + 1) ls (.int (iV (f z)) :: rest))) : W p l e R s m args below meth c H locs cells slots Q (F0 m pc ls (.int (iV z) :: .ref (g.1 + k) :: rest)) := by
  refine va_zald X.1 X.2.1 Y.2.1 Y.1 k 1 (by rw [uW_get g.1 E hk, he]; rfl) rfl (vp_inZ h0 h1 hN) hdg ?_
  have e : (((iV z).toNatClampNeg : Nat) : Int) = z := by rw [iV_clamp (by omega)]; omega
  rw [e]
  exact kk
theorem aV_at {g : uG} {a : Nat} {cA : ClassId} {N : Nat} {f : Int → Int} {H H1 : Heap} {i : Nat} {z : Int} (h1 : H1[a]? = some ((vp_cell cA (N, .inl (fun j => iV (f j)))).setSlot i (.int (iV z)))) : va_at g.2.1 vwCl (a, aV cA N (up1 f (i : Int) z)) H1 := by
  show H1[a]? = some (vp_cell _ _)
  rw [h1, vp_cell_i, vp_cell_i, arrV_store]
  congr 2
  funext q
  by_cases hq : q = i
  · subst hq
    simp [updV, up1]
  · have hq' : ¬ ((q : Int) = (i : Int)) := by omega
    simp [updV, up1, hq, hq']
theorem u_iast (X : uX p d R s m args c cc nL own) (Y : uY g n E s H locs) {k : Nat} (hk : k < n) {N : Nat} {f : Int → Int} (he : E k = aV g.2.2.1 N f) {z x : Int} (h0 : 0 ≤ z) (h1 : z < N) (hN : (N : Int) ≤ 2147483647) (hdg : decode cc pc = .ok (.iastore, 1))
    (kk : ∀ (H1 : Heap) (locs1 : List Loc), uY g n (va_up E k (aV g.2.2.1 N (up1 f z x))) s H1 locs1 → W p l e R s m args below meth c H1 locs1 cells slots Q (F0 m (pc + 1) ls rest)) : W p l e R s m args below meth c H locs cells slots Q (F0 m pc ls (.int (iV x) :: .int (iV z) :: .ref (g.1 + k) :: rest)) := by
  have hin := vp_inZ h0 h1 hN
  have e0 : (((iV z).toNatClampNeg : Nat) : Int) = z := by rw [iV_clamp (by omega)]; omega
  refine W.iast X.1 X.2.1 (show H[g.1 + k]? = some (vp_cell g.2.2.1 (N, .inl (fun j => iV (f j)))) from Y.1 k (g.1 + k, .inl (g.2.2.1, N, .inl (fun j => iV (f j)))) (by rw [uW_get g.1 E hk, he]; rfl)) ((Y.2.1.2 0 (g.2.2.1, .int) rfl).1 N (fun j => .int (iV (f j)))) (fun q => by cases q) (by show ¬ (_ ∨ (arrV _ _ _).slots.size ≤ _); rw [arrV_size]; exact hin) rfl rfl hdg fun H1 e z2 oq => ?_
  refine kk H1 _ (Y.wr hk _ ?_ z2 oq)
  have h := aV_at (g := g) (H := H) e
  rw [e0] at h
  exact h
theorem u_zast (X : uX p d R s m args c cc nL own) (Y : uY g n E s H locs) {k : Nat} (hk : k < n) {N : Nat} {f : Int → Int} (he : E k = aV g.2.2.2.1 N f) {z x : Int} (hx : narrow .boolean (.int (iV x)) = .int (iV x)) (h0 : 0 ≤ z) (h1 : z < N) (hN : (N : Int) ≤ 2147483647) (hdg : decode cc pc = .ok (.bastore, 1))
    (kk : ∀ (H1 : Heap) (locs1 : List Loc), uY g n (va_up E k (aV g.2.2.2.1 N (up1 f z x))) s H1 locs1 → W p l e R s m args below meth c H1 locs1 cells slots Q (F0 m (pc + 1) ls rest)) : W p l e R s m args below meth c H locs cells slots Q (F0 m pc ls (.int (iV x) :: .int (iV z) :: .ref (g.1 + k) :: rest)) := by
  have hin := vp_inZ h0 h1 hN
  have e0 : (((iV z).toNatClampNeg : Nat) : Int) = z := by rw [iV_clamp (by omega)]; omega
  refine W.zast X.1 X.2.1 (show H[g.1 + k]? = some (vp_cell g.2.2.2.1 (N, .inl (fun j => iV (f j)))) from Y.1 k (g.1 + k, .inl (g.2.2.2.1, N, .inl (fun j => iV (f j)))) (by rw [uW_get g.1 E hk, he]; rfl)) ((Y.2.1.2 1 (g.2.2.2.1, .boolean) rfl).1 N (fun j => .int (iV (f j)))) (fun q => by cases q) (by show ¬ (_ ∨ (arrV _ _ _).slots.size ≤ _); rw [arrV_size]; exact hin) rfl rfl hdg fun H1 e z2 oq => ?_
  refine kk H1 _ (Y.wr hk _ ?_ z2 oq)
  rw [hx] at e
  have h := aV_at (g := g) (H := H) e
  rw [e0] at h
  exact h
theorem u_ilen (X : uX p d R s m args c cc nL own) (Y : uY g n E s H locs) {k : Nat} (hk : k < n) {N : Nat} {f : Int → Int} (he : E k = aV g.2.2.1 N f) (hdg : decode cc pc = .ok (.arraylength, 1))
    (kk : W p l e R s m args below meth c H locs cells slots Q (F0 m (pc + 1) ls (.int (iV N) :: rest))) : W p l e R s m args below meth c H locs cells slots Q (F0 m pc ls (.ref (g.1 + k) :: rest)) :=
  va_alen X.1 X.2.1 Y.2.1 Y.1 k 0 (show (uW g.1 n E)[k]? = some (g.1 + k, .inl (g.2.2.1, N, .inl (fun j => iV (f j)))) by rw [uW_get g.1 E hk, he]; rfl) rfl (Int32.ofInt_eq_ofNat).symm hdg kk
/-- an array of references -/
def qV (cA : ClassId) (n : Nat) (f : Nat → Option Nat) : va_E := .inl (cA, n, .inr (.inr (.inr (.inr f))))
theorem u_aald (X : uX p d R s m args c cc nL own) (Y : uY g n E s H locs) {k : Nat} (hk : k < n) {N : Nat} {f : Nat → Option Nat} (he : E k = qV g.2.2.2.2 N f) {z : Int} (h0 : 0 ≤ z) (h1 : z < N) (hN : (N : Int) ≤ 2147483647) {v : Nat} (hv : f z.toNat = some v) (hdg : decode cc pc = .ok (.aaload, 1))
    (kk : W p l e R s m args below meth c H locs cells slots Q (F0 m (pc + 1) ls (.ref v :: rest))) : W p l e R s m args below meth c H locs cells slots Q (F0 m pc ls (.int (iV z) :: .ref (g.1 + k) :: rest)) := by
  refine va_aldq X.1 X.2.1 Y.2.1 Y.1 k 2 (by rw [uW_get g.1 E hk, he]; rfl) rfl (vp_inZ h0 h1 hN) hdg ?_
  rw [iV_clamp (by omega), hv]
  exact kk
theorem u_alen (X : uX p d R s m args c cc nL own) (Y : uY g n E s H locs) {k : Nat} (hk : k < n) {N : Nat} {f : Nat → Option Nat} (he : E k = qV g.2.2.2.2 N f) (hdg : decode cc pc = .ok (.arraylength, 1))
    (kk : W p l e R s m args below meth c H locs cells slots Q (F0 m (pc + 1) ls (.int (iV N) :: rest))) : W p l e R s m args below meth c H locs cells slots Q (F0 m pc ls (.ref (g.1 + k) :: rest)) :=
  va_alen X.1 X.2.1 Y.2.1 Y.1 k 2 (show (uW g.1 n E)[k]? = some (g.1 + k, .inl (g.2.2.2.2, N, .inr (.inr (.inr (.inr f))))) by rw [uW_get g.1 E hk, he]; rfl) rfl (Int32.ofInt_eq_ofNat).symm hdg kk
-- Math
theorem if_lt_max {a b : Int} (ha : inI a) (hb : inI b) : (if iV a < iV b then iV b else iV a) = iV (max a b) := by
  by_cases h : a < b
  · rw [if_pos ((iV_lt ha hb).mpr h), show max a b = b by omega]
  · rw [if_neg (fun q => h ((iV_lt ha hb).mp q)), show max a b = a by omega]
theorem if_lt_min {a b : Int} (ha : inI a) (hb : inI b) : (if iV b < iV a then iV b else iV a) = iV (min a b) := by
  by_cases h : b < a
  · rw [if_pos ((iV_lt hb ha).mpr h), show min a b = b by omega]
  · rw [if_neg (fun q => h ((iV_lt hb ha).mp q)), show min a b = a by omega]
theorem r_max (X : uX p d R s m args c cc nL own) (hl : lv_has ls nL lv) (hd : 1 ≤ d) (hc : cells ≤ R.cells) (hs : slots ≤ R.slots) {index : Nat} (hlink : Cond.methodLink own index Lib.Math.max.name ∈ T0) (hr : (rest.map fun v => v.category).sum ≤ 8) {a b : Int} (hdg : decode cc pc = .ok (.invokestatic index, 3)) (ha : inI a) (hb : inI b)
    (kk : W p l e R s m args below meth c H locs cells slots Q (F0 m (pc + 3) ls (.int (iV (max a b)) :: rest))) : W p l e R s m args below meth c H locs cells slots Q (F0 m pc ls (.int (iV b) :: .int (iV a) :: rest)) :=
  va_mmax X.1 X.2.1 (X.2.2.1.trans hl.1.symm) X.2.2.2.1 (X.w hlink) (X.w wm_87) (X.w wm_63) (X.w wm_88) (by have := X.2.2.2.2.2.1; omega) (by have := X.2.2.2.2.2.2; omega) hc hs hdg (by rw [if_lt_max ha hb]; exact kk)
theorem r_min (X : uX p d R s m args c cc nL own) (hl : lv_has ls nL lv) (hd : 1 ≤ d) (hc : cells ≤ R.cells) (hs : slots ≤ R.slots) {index : Nat} (hlink : Cond.methodLink own index Lib.Math.min.name ∈ T0) (hr : (rest.map fun v => v.category).sum ≤ 8) {a b : Int} (hdg : decode cc pc = .ok (.invokestatic index, 3)) (ha : inI a) (hb : inI b)
    (kk : W p l e R s m args below meth c H locs cells slots Q (F0 m (pc + 3) ls (.int (iV (min a b)) :: rest))) : W p l e R s m args below meth c H locs cells slots Q (F0 m pc ls (.int (iV b) :: .int (iV a) :: rest)) :=
  va_mmin X.1 X.2.1 (X.2.2.1.trans hl.1.symm) X.2.2.2.1 (X.w hlink) (X.w wm_379) (X.w wm_63) (X.w wm_380) (by have := X.2.2.2.2.2.1; omega) (by have := X.2.2.2.2.2.2; omega) hc hs hdg (by rw [if_lt_min ha hb]; exact kk)
end ROWS

/-! contracts: what a method's end says; its entry; calls -/
def uQi {S : Type} (g : uG) (n' : S → Nat) (w : S → Nat → va_E) (post : Int → S → Prop) : Array Value → State → Outcome → State → Prop := va_Qi (fun (r : Int32) (u : S) => ∃ z : Int, r = iV z ∧ post z u) (fun u t => uB g (n' u) (w u) t) (uA g)
def uQl {S : Type} (g : uG) (n' : S → Nat) (w : S → Nat → va_E) (post : Int → S → Prop) : Array Value → State → Outcome → State → Prop := va_Ql (fun (r : Int64) (u : S) => ∃ z : Int, r = lV z ∧ post z u) (fun u t => uB g (n' u) (w u) t) (uA g)
def uQv {S : Type} (g : uG) (n' : S → Nat) (w : S → Nat → va_E) (post : S → Prop) : Array Value → State → Outcome → State → Prop := va_Qv post (fun u t => uB g (n' u) (w u) t) (uA g)
def uQq {S : Type} (g : uG) (n' : S → Nat) (w : S → Nat → va_E) (post : Option Nat → S → Prop) : Array Value → State → Outcome → State → Prop := va_Qq post (fun u t => uB g (n' u) (w u) t) (uA g)
/-- a contract: the depth d, the arguments, the universe (n, E), the end -/
def uM (l : Launch) (y : MethodName) (cc : ByteArray) (mL : Nat) (ret : Option FieldType) (d mc ms : Nat) (g : uG) (argv : List Value) (n : Nat) (E : Nat → va_E) (Qc : Array Value → State → Outcome → State → Prop) : Prop := Met l y (uU y cc mL ret) (uR d mc ms) (va_Pc argv (uB g n E)) Qc mc ms (uA g)
theorem u_blind (g : uG) (n : Nat) (E : Nat → va_E) (argv : List Value) : FrameBlind (va_Pc argv (uB g n E)) := fun a U f mk q => ⟨q.1, uB.calling a U f mk q.2⟩
theorem u_ent {l : Launch} {y : MethodName} {cc : ByteArray} {mL : Nat} {ret : Option FieldType} {d mc ms : Nat} {g : uG} {argv : List Value} {n : Nat} {E : Nat → va_E} {Qc : Array Value → State → Outcome → State → Prop}
    (hy : plainName y.cls = true) (hlen : (lg_sl argv).length ≤ mL)
    (body : ∀ (p : Program) (e : Env) (s : State) (m : MethodId) (below : List Frame) (meth : Method) (c : Code) (ls : Array Slot), uX p d (uR d mc ms) s m argv.toArray c cc mL y.cls → meth.sig.returnType = ret → meth.locks = false → meth.name = y.name → uY g n E s s.heap [] → lv_has ls mL (lv_args 0 argv) → W p l e (uR d mc ms) s m argv.toArray below meth c s.heap [] 0 0 (MQ below Qc argv.toArray s mc ms (uA g)) (F0 m 0 ls [])) :
    uM l y cc mL ret d mc ms g argv n E Qc := by
  refine Met.ofW (cc := cc) (maxL := mL) (ret := ret) hy rfl ?_
  intro p e s m args below meth c s₁ B hml hv
  obtain ⟨rfl, hB⟩ := hv
  have hts := atoms_spec (ws := uU y cc mL ret) B.pre
  have hown : s.vm.findClass y.cls = some m.cls := findClass_of_methodNamed B.named
  have hnm : meth.name = y.name := (name_of_methodNamed B.named B.method).1
  have hl := lv_entry argv (n := mL) hlen
  rw [lg_entry_eq]
  exact body p e s m below meth c _ ⟨B.exec, B.bytes, hml, hown, fun w h => hts w (List.mem_cons_of_mem _ h), Nat.le_refl _, Nat.le_refl _⟩ B.returns B.notSynchronized hnm (uY.ent hB) hl
section ENT
variable {l : Launch} {y : MethodName} {cc : ByteArray} {mL : Nat} {d mc ms : Nat} {g : uG} {argv : List Value} {n : Nat} {E : Nat → va_E} {S : Type} {n' : S → Nat} {w : S → Nat → va_E}
theorem u_ent_i {post : Int → S → Prop} (hy : plainName y.cls = true) (hlen : (lg_sl argv).length ≤ mL)
    (body : ∀ (p : Program) (e : Env) (R : Room) (s : State) (m : MethodId) (args : Array Value) (below : List Frame) (meth : Method) (c : Code) (Q : State → Prop) (ls : Array Slot), uX p d R s m args c cc mL y.cls → uY g n E s s.heap [] → lv_has ls mL (lv_args 0 argv) →
      (∀ (pc : Nat) (H : Heap) (locs : List Loc) (ls : Array Slot) (z : Int) (u : S), decode cc pc = .ok (.ireturn, 1) → uY g (n' u) (w u) s H locs → post z u → W p l e R s m args below meth c H locs 0 0 Q (F0 m pc ls [.int (iV z)])) →
      W p l e R s m args below meth c s.heap [] 0 0 Q (F0 m 0 ls [])) : uM l y cc mL (some .int) d 0 0 g argv n E (uQi g n' w post) := by
  refine u_ent hy hlen fun p e s m below meth c ls X hr hlocks hnm Y hl => body p e _ s m _ below meth c _ ls X Y hl fun pc H locs ls z u hdg Y2 hp => ?_
  exact W.iret X.1 X.2.1 hr (fun t ht hW => ⟨⟨iV z, u, rfl, ⟨z, rfl, hp⟩, (Y2.out ht hW).1⟩, (Y2.out ht hW).2⟩) Y2.2.2.2.1.2.2 hdg
theorem u_ent_z {post : Int → S → Prop} (hy : plainName y.cls = true) (hlen : (lg_sl argv).length ≤ mL)
    (body : ∀ (p : Program) (e : Env) (R : Room) (s : State) (m : MethodId) (args : Array Value) (below : List Frame) (meth : Method) (c : Code) (Q : State → Prop) (ls : Array Slot), uX p d R s m args c cc mL y.cls → uY g n E s s.heap [] → lv_has ls mL (lv_args 0 argv) →
      (∀ (pc : Nat) (H : Heap) (locs : List Loc) (ls : Array Slot) (z : Int) (u : S), decode cc pc = .ok (.ireturn, 1) → uY g (n' u) (w u) s H locs → (z = 0 ∨ z = 1) → post z u → W p l e R s m args below meth c H locs 0 0 Q (F0 m pc ls [.int (iV z)])) →
      W p l e R s m args below meth c s.heap [] 0 0 Q (F0 m 0 ls [])) : uM l y cc mL (some .boolean) d 0 0 g argv n E (uQi g n' w post) := by
  refine u_ent hy hlen fun p e s m below meth c ls X hr hlocks hnm Y hl => body p e _ s m _ below meth c _ ls X Y hl fun pc H locs ls z u hdg Y2 hz hp => ?_
  exact W.zret X.1 X.2.1 hr (by rcases hz with rfl | rfl <;> rfl) (fun t ht hW => ⟨⟨iV z, u, rfl, ⟨z, rfl, hp⟩, (Y2.out ht hW).1⟩, (Y2.out ht hW).2⟩) Y2.2.2.2.1.2.2 hdg
theorem u_ent_l {post : Int → S → Prop} (hy : plainName y.cls = true) (hlen : (lg_sl argv).length ≤ mL)
    (body : ∀ (p : Program) (e : Env) (R : Room) (s : State) (m : MethodId) (args : Array Value) (below : List Frame) (meth : Method) (c : Code) (Q : State → Prop) (ls : Array Slot), uX p d R s m args c cc mL y.cls → uY g n E s s.heap [] → lv_has ls mL (lv_args 0 argv) →
      (∀ (pc : Nat) (H : Heap) (locs : List Loc) (ls : Array Slot) (z : Int) (u : S), decode cc pc = .ok (.lreturn, 1) → uY g (n' u) (w u) s H locs → post z u → W p l e R s m args below meth c H locs 0 0 Q (F0 m pc ls [.long (lV z)])) →
      W p l e R s m args below meth c s.heap [] 0 0 Q (F0 m 0 ls [])) : uM l y cc mL (some .long) d 0 0 g argv n E (uQl g n' w post) := by
  refine u_ent hy hlen fun p e s m below meth c ls X hr hlocks hnm Y hl => body p e _ s m _ below meth c _ ls X Y hl fun pc H locs ls z u hdg Y2 hp => ?_
  exact W.lret X.1 X.2.1 hr (fun t ht hW => ⟨⟨lV z, u, rfl, ⟨z, rfl, hp⟩, (Y2.out ht hW).1⟩, (Y2.out ht hW).2⟩) Y2.2.2.2.1.2.2 hdg
theorem u_ent_v {post : S → Prop} (hy : plainName y.cls = true) (hlen : (lg_sl argv).length ≤ mL)
    (body : ∀ (p : Program) (e : Env) (R : Room) (s : State) (m : MethodId) (args : Array Value) (below : List Frame) (meth : Method) (c : Code) (Q : State → Prop) (ls : Array Slot), uX p d R s m args c cc mL y.cls → mc ≤ R.cells ∧ ms ≤ R.slots → meth.name = y.name → uY g n E s s.heap [] → lv_has ls mL (lv_args 0 argv) →
      (∀ (pc : Nat) (H : Heap) (locs : List Loc) (ls : Array Slot) (u : S), decode cc pc = .ok (.return_, 1) → uY g (n' u) (w u) s H locs → post u → W p l e R s m args below meth c H locs mc ms Q (F0 m pc ls [])) →
      W p l e R s m args below meth c s.heap [] 0 0 Q (F0 m 0 ls [])) : uM l y cc mL none d mc ms g argv n E (uQv g n' w post) := by
  refine u_ent hy hlen fun p e s m below meth c ls X hr hlocks hnm Y hl => body p e _ s m _ below meth c _ ls X ⟨Nat.le_refl _, Nat.le_refl _⟩ hnm Y hl fun pc H locs ls u hdg Y2 hp => ?_
  exact W.vret X.1 X.2.1 hr (fun t ht hW => ⟨⟨u, rfl, hp, (Y2.out ht hW).1⟩, (Y2.out ht hW).2⟩) Y2.2.2.2.1.2.2 hdg
theorem u_ent_q {C : String} {post : Option Nat → S → Prop} (hy : plainName y.cls = true) (hlen : (lg_sl argv).length ≤ mL)
    (body : ∀ (p : Program) (e : Env) (R : Room) (s : State) (m : MethodId) (args : Array Value) (below : List Frame) (meth : Method) (c : Code) (Q : State → Prop) (ls : Array Slot), uX p d R s m args c cc mL y.cls → uY g n E s s.heap [] → lv_has ls mL (lv_args 0 argv) →
      (∀ (pc : Nat) (H : Heap) (locs : List Loc) (ls : Array Slot) (r : Option Nat) (v : Value) (u : S), decode cc pc = .ok (.areturn, 1) → v = va_rf r → uY g (n' u) (w u) s H locs → post r u → W p l e R s m args below meth c H locs 0 0 Q (F0 m pc ls [v])) →
      W p l e R s m args below meth c s.heap [] 0 0 Q (F0 m 0 ls [])) : uM l y cc mL (some (.object C)) d 0 0 g argv n E (uQq g n' w post) := by
  refine u_ent hy hlen fun p e s m below meth c ls X hr hlocks hnm Y hl => body p e _ s m _ below meth c _ ls X Y hl fun pc H locs ls r v u hdg hv Y2 hp => ?_
  subst hv
  exact W.aret X.1 X.2.1 hr (Or.inl ⟨_, rfl⟩) (by cases r with
    | none => exact Or.inl rfl
    | some a => exact Or.inr ⟨a, rfl⟩) (fun t ht hW => ⟨⟨r, u, rfl, hp, (Y2.out ht hW).1⟩, (Y2.out ht hW).2⟩) Y2.2.2.2.1.2.2 hdg
end ENT
section CALLS
variable {p : Program} {l : Launch} {e : Env} {R : Room} {s : State} {m : MethodId} {args : Array Value} {below : List Frame} {meth : Method} {c : Code} {H : Heap} {locs : List Loc} {cells slots : Nat} {Q : State → Prop}
variable {cc : ByteArray} {pc d nL : Nat} {own : String} {ls : Array Slot} {lv : List (Nat × Value)} {rest : List Value} {g : uG} {n : Nat} {E : Nat → va_E}
variable {S : Type} {n' : S → Nat} {w : S → Nat → va_E} {y : MethodName} {C : String} {cc2 : ByteArray} {mL np idx d2 mc ms : Nat} {ret : Option FieldType} {b : Nat} {As : List Value} {Qc : Array Value → State → Outcome → State → Prop}
theorem u_recv (Y : uY g n E s H locs) {k : Nat} (hk : k < n) {ci : Nat} {fs : List Value} (he : E k = .inr (ci, fs)) {T : u_T} {N : Nat} (hc : vwCl[ci]? = some (C, T, N)) : ∃ cell : Cell, H[g.1 + k]? = some cell ∧ cell.vm.isStatics = false ∧ s.vm.findClass C = some cell.cls :=
  va_recv (q0 := k) Y.2.1 Y.1 hc (by rw [uW_get g.1 E hk, he])
theorem u_runV (X : uX p d R s m args c cc nL own) (Y : uY g n E s H locs) (hM : uM l y cc2 mL ret d2 mc ms g (.ref b :: As) n E Qc) (K : uK y C cc2 mL ret np) (hi : Cond.instanceMethod y ∈ T0 ∧ Cond.selects C y y ∈ T0) (hl : Cond.methodLink own idx y ∈ T0) (hd : d2 + 1 ≤ d) (hrecv : ∃ cell : Cell, H[b]? = some cell ∧ cell.vm.isStatics = false ∧ s.vm.findClass C = some cell.cls) (hn : As.length = np) (hlv : lv_has ls nL lv) (hW : (rest.map fun v => v.category).sum ≤ 8) {st : List Value} (hst : st = As.reverse ++ .ref b :: rest) (hdg : decode cc pc = .ok (.invokevirtual idx, 3)) (hf : cells + mc ≤ R.cells ∧ slots + ms ≤ R.slots) :
    va_Run p l e R s m args below meth c H locs cells slots mc ms (F0 m pc ls st) rest (Qc (Value.ref b :: As).toArray) (uA g) := by
  obtain ⟨⟨k2, k4⟩, k5, k6, k7⟩ := K
  have hX1 := X.2.2.2.2.2.1
  have hX2 := X.2.2.2.2.2.2
  exact va_runV X.fix hM ⟨callB_of np X.fix.2.2.2.2 (uU_good k4) rfl rfl rfl (X.w (by rw [k5]; exact k2)) (X.w hl) k6 ⟨by show d2 + 1 ≤ _; omega, by show 8 + (mL + 11) + 40 * d2 ≤ _; omega⟩, X.w hi.1, X.w hi.2⟩ ⟨u_blind _ _ _ _, hrecv, fun U hU hW => ⟨rfl, Y.pre hU hW⟩⟩ rfl hn hlv.1 hst (lv_room hW) hdg hf
theorem u_runS (X : uX p d R s m args c cc nL own) (Y : uY g n E s H locs) (hM : uM l y cc2 mL ret d2 mc ms g As n E Qc) (K : uK y C cc2 mL ret np) (hi : Cond.static y ∈ T0) (hl : Cond.methodLink own idx y ∈ T0) (hd : d2 + 1 ≤ d) (hn : As.length = np) (hlv : lv_has ls nL lv) (hW : (rest.map fun v => v.category).sum ≤ 8) {st : List Value} (hst : st = As.reverse ++ rest) (hdg : decode cc pc = .ok (.invokestatic idx, 3)) (hf : cells + mc ≤ R.cells ∧ slots + ms ≤ R.slots) :
    va_Run p l e R s m args below meth c H locs cells slots mc ms (F0 m pc ls st) rest (Qc As.toArray) (uA g) := by
  obtain ⟨⟨k2, k4⟩, k5, k6, k7⟩ := K
  have hX1 := X.2.2.2.2.2.1
  have hX2 := X.2.2.2.2.2.2
  exact va_runS X.fix hM ⟨callB_of np X.fix.2.2.2.2 (uU_good k4) rfl rfl rfl (X.w (by rw [k5]; exact k2)) (X.w hl) k6 ⟨by show d2 + 1 ≤ _; omega, by show 8 + (mL + 11) + 40 * d2 ≤ _; omega⟩, X.w hi⟩ ⟨u_blind _ _ _ _, fun U hU hW => ⟨rfl, Y.pre hU hW⟩⟩ rfl hn hlv.1 hst (lv_room hW) hdg hf
theorem u_runI (X : uX p d R s m args c cc nL own) (Y : uY g n E s H locs) (hM : uM l y cc2 mL none d2 mc ms g (.ref b :: As) n E Qc) (K : uK y C cc2 mL none np) (hi : Cond.instanceMethod y ∈ T0) (hy : y.name = "<init>") (hl : Cond.methodLink own idx y ∈ T0) (hd : d2 + 1 ≤ d) (hn : As.length = np) (hlv : lv_has ls nL lv) (hW : (rest.map fun v => v.category).sum ≤ 8) {st : List Value} (hst : st = As.reverse ++ .ref b :: rest) (hdg : decode cc pc = .ok (.invokespecial idx, 3)) (hf : cells + mc ≤ R.cells ∧ slots + ms ≤ R.slots) :
    va_Run p l e R s m args below meth c H locs cells slots mc ms (F0 m pc ls st) rest (Qc (Value.ref b :: As).toArray) (uA g) := by
  obtain ⟨⟨k2, k4⟩, k5, k6, k7⟩ := K
  have hX1 := X.2.2.2.2.2.1
  have hX2 := X.2.2.2.2.2.2
  exact va_runI X.fix hM ⟨callB_of np X.fix.2.2.2.2 (uU_good k4) rfl rfl rfl (X.w (by rw [k5]; exact k2)) (X.w hl) k6 ⟨by show d2 + 1 ≤ _; omega, by show 8 + (mL + 11) + 40 * d2 ≤ _; omega⟩, hy, X.w hi⟩ ⟨u_blind _ _ _ _, fun U hU hW => ⟨rfl, Y.pre hU hW⟩⟩ rfl hn hlv.1 hst (lv_room hW) hdg hf
theorem u_runIN (X : uX p d R s m args c cc nL own) (Y : uY g n E s H locs) (hM : uM l y cc2 mL none d2 mc ms g (.ref b :: As) n E Qc) (K : uK y C cc2 mL none np) (hi : Cond.instanceMethod y ∈ T0) (hy : y.name = "<init>") {host : String} (hl : va_Nw (.methodLinkNest own idx y host) s) (hd : d2 + 1 ≤ d) (hn : As.length = np) (hlv : lv_has ls nL lv) (hW : (rest.map fun v => v.category).sum ≤ 8) {st : List Value} (hst : st = As.reverse ++ .ref b :: rest) (hdg : decode cc pc = .ok (.invokespecial idx, 3)) (hf : cells + mc ≤ R.cells ∧ slots + ms ≤ R.slots) :
    va_Run p l e R s m args below meth c H locs cells slots mc ms (F0 m pc ls st) rest (Qc (Value.ref b :: As).toArray) (uA g) := by
  obtain ⟨⟨k2, k4⟩, k5, k6, k7⟩ := K
  have hX1 := X.2.2.2.2.2.1
  have hX2 := X.2.2.2.2.2.2
  exact va_runIN X.fix hM ⟨va_cnB np X.fix.2.2.2.2 (uU_good k4) rfl rfl rfl hl (X.w (by rw [k5]; exact k2)) k6 ⟨by show d2 + 1 ≤ _; omega, by show 8 + (mL + 11) + 40 * d2 ≤ _; omega⟩, hy, X.w hi⟩ ⟨u_blind _ _ _ _, fun U hU hW => ⟨rfl, Y.pre hU hW⟩⟩ rfl hn hlv.1 hst (lv_room hW) hdg hf
/-- behind a call -/
theorem u_bi {post : Int → S → Prop} (Y : uY g n E s H locs) {a : Array Value} {st : List Value} (hr : va_Run p l e R s m args below meth c H locs cells slots mc ms (F0 m pc ls st) rest (uQi g n' w post a) (uA g))
    (kk : ∀ (z : Int) (u : S) (H1 : Heap) (locs1 : List Loc), post z u → uY g (n' u) (w u) s H1 locs1 → W p l e R s m args below meth c H1 locs1 (cells + mc) (slots + ms) Q (F0 m (pc + 3) ls (.int (iV z) :: rest))) : W p l e R s m args below meth c H locs cells slots Q (F0 m pc ls st) :=
  va_calli hr Y.2.2.2.1 (fun q _ h => h) (fun q h => h) fun r u t H1 locs1 ht hvm hp hB hz hk hS => by
    obtain ⟨z, rfl, hp⟩ := hp
    exact kk z u H1 locs1 hp (Y.back hB ht hvm hS)
theorem u_bl {post : Int → S → Prop} (Y : uY g n E s H locs) {a : Array Value} {st : List Value} (hr : va_Run p l e R s m args below meth c H locs cells slots mc ms (F0 m pc ls st) rest (uQl g n' w post a) (uA g))
    (kk : ∀ (z : Int) (u : S) (H1 : Heap) (locs1 : List Loc), post z u → uY g (n' u) (w u) s H1 locs1 → W p l e R s m args below meth c H1 locs1 (cells + mc) (slots + ms) Q (F0 m (pc + 3) ls (.long (lV z) :: rest))) : W p l e R s m args below meth c H locs cells slots Q (F0 m pc ls st) :=
  va_calll hr Y.2.2.2.1 (fun q _ h => h) (fun q h => h) fun r u t H1 locs1 ht hvm hp hB hz hk hS => by
    obtain ⟨z, rfl, hp⟩ := hp
    exact kk z u H1 locs1 hp (Y.back hB ht hvm hS)
theorem u_bv {post : S → Prop} (Y : uY g n E s H locs) {a : Array Value} {st : List Value} (hr : va_Run p l e R s m args below meth c H locs cells slots mc ms (F0 m pc ls st) rest (uQv g n' w post a) (uA g))
    (kk : ∀ (u : S) (H1 : Heap) (locs1 : List Loc), post u → uY g (n' u) (w u) s H1 locs1 → W p l e R s m args below meth c H1 locs1 (cells + mc) (slots + ms) Q (F0 m (pc + 3) ls rest)) : W p l e R s m args below meth c H locs cells slots Q (F0 m pc ls st) :=
  va_callv hr Y.2.2.2.1 (fun q _ h => h) (fun q h => h) fun u t H1 locs1 ht hvm hp hB hz hk hS => kk u H1 locs1 hp (Y.back hB ht hvm hS)
theorem u_bq {post : Option Nat → S → Prop} (Y : uY g n E s H locs) {a : Array Value} {st : List Value} (hr : va_Run p l e R s m args below meth c H locs cells slots mc ms (F0 m pc ls st) rest (uQq g n' w post a) (uA g))
    (kk : ∀ (r : Option Nat) (u : S) (H1 : Heap) (locs1 : List Loc), post r u → uY g (n' u) (w u) s H1 locs1 → W p l e R s m args below meth c H1 locs1 (cells + mc) (slots + ms) Q (F0 m (pc + 3) ls (va_rf r :: rest))) : W p l e R s m args below meth c H locs cells slots Q (F0 m pc ls st) :=
  va_callq hr Y.2.2.2.1 (fun q _ h => h) (fun q h => h) fun r u t H1 locs1 ht hvm hp hB hz hk hS => kk r u H1 locs1 hp (Y.back hB ht hvm hS)
/-- Object's own constructor -/
theorem u_obj (X : uX p d R s m args c cc nL own) (hlv : lv_has ls nL lv) (hd : 1 ≤ d) (hl : Cond.methodLink own idx objectInit ∈ T0) {a : Nat} (hr : (rest.map fun v => v.category).sum ≤ 8) (hdg : decode cc pc = .ok (.invokespecial idx, 3))
    (kk : W p l e R s m args below meth c H locs cells slots Q (F0 m (pc + 3) ls rest)) : W p l e R s m args below meth c H locs cells slots Q (F0 m pc ls (.ref a :: rest)) :=
  W.objInit X.1 X.2.1 X.2.2.2.1 (X.w hl) (X.w wm_78) (X.w wm_79) rfl (hlv.1.trans X.2.2.1.symm) rfl hdg (by have := X.2.2.2.2.2.1; omega) (by have := X.2.2.2.2.2.2; show 2 * 0 + _ + 12 ≤ _; omega) kk
end CALLS

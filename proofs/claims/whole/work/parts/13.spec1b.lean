/-! a copy of the first cells of one row into another -/
def cpA (f : uF) (a b : Nat) (n : Int) : uF := fun c i => if c = b then (if 0 ≤ i ∧ i < n then f a i else f b i) else f c i
section COPY
variable {p : Program} {l : Launch} {e : Env} {R : Room} {s : State} {m : MethodId} {args : Array Value} {below : List Frame} {meth : Method} {c : Code} {H : Heap} {locs : List Loc} {cells slots : Nat} {Q : State → Prop}
variable {cc : ByteArray} {pc d nL : Nat} {own : String} {ls : Array Slot} {lv : List (Nat × Value)} {rest : List Value} {g : uG} {t : uN} {f : uF}
theorem r_copy (X : uX p d R s m args c cc nL own) (Y : uY g 117 (cX g t f) s H locs) (hl : lv_has ls nL lv) (hd : 1 ≤ d) {idx : Nat} (hlink : Cond.methodLink own idx arraycopyName ∈ T0) {a b : Nat} (ha : kd a = 10) (hb : kd b = 10) {n : Int} (h0 : 0 ≤ n) (h1 : n ≤ (al a : Nat)) (h2 : n ≤ (al b : Nat)) (hr : (rest.map fun v => v.category).sum ≤ 8) (hdg : decode cc pc = .ok (.invokestatic idx, 3))
    (kk : ∀ (H1 : Heap) (locs1 : List Loc), uY g 117 (cX g t (cpA f a b n)) s H1 locs1 → W p l e R s m args below meth c H1 locs1 cells slots Q (F0 m (pc + 3) ls rest)) : W p l e R s m args below meth c H locs cells slots Q (F0 m pc ls (.int (iV n) :: .int (iV 0) :: .ref (g.1 + b) :: .int (iV 0) :: .ref (g.1 + a) :: rest)) := by
  have hka := kd_lt ha (by decide)
  have hkb := kd_lt hb (by decide)
  have hla := al_le a
  have hlb := al_le b
  intro T hT X0
  have hca : H[g.1 + a]? = some (vp_cell g.2.2.1 (al a, .inl (fun j => iV (f a j)))) := Y.1 a (g.1 + a, .inl (g.2.2.1, al a, .inl (fun j => iV (f a j)))) (by rw [uW_get g.1 _ hka]; show some (g.1 + a, cXk g a (t a) (f a)) = _; rw [cX_10 ha]; rfl)
  have hcb : H[g.1 + b]? = some (vp_cell g.2.2.1 (al b, .inl (fun j => iV (f b j)))) := Y.1 b (g.1 + b, .inl (g.2.2.1, al b, .inl (fun j => iV (f b j)))) (by rw [uW_get g.1 _ hkb]; show some (g.1 + b, cXk g b (t b) (f b)) = _; rw [cX_10 hb]; rfl)
  obtain ⟨-, k0, hk0, cm0, hkk0⟩ := (Y.2.1.2 0 (g.2.2.1, .int) rfl).1 (al a) (fun j => .int (iV (f a j)))
  have nI : ¬ iV n < 0 := by rw [iV_0, iV_lt (by omega) (by decide)]; omega
  have n0 : ¬ iV 0 < 0 := by decide
  have nT : (iV n).toInt = n := iV_toInt (by omega)
  have nC : (iV n).toNatClampNeg = n.toNat := iV_clamp (by omega)
  have zC : (iV 0).toNatClampNeg = 0 := rfl
  obtain ⟨vm', X', step⟩ := X0.arraycopy X.1 X.2.2.2.1 (X.w hlink) (X.w wm_413) (X.w wm_412) (X.w wm_71) (src := g.1 + a) (dst := g.1 + b) (cs := vp_cell g.2.2.1 (al a, .inl (fun j => iV (f a j)))) (cd := vp_cell g.2.2.1 (al b, .inl (fun j => iV (f b j)))) (srcPos := iV 0) (destPos := iV 0) (n := iV n) (by rw [hT]; exact hca) (by rw [hT]; exact hcb)
    (fun _ h => by cases h) (fun _ h => by cases h) (fun h => by cases h) (fun h => by cases h) hk0 hk0 hkk0 hkk0 (by simp [refKind]) n0 n0 nI
    (by rw [nT]; show ¬ (iV 0).toInt + n > ((arrV _ _ _).slots.size : Int); rw [arrV_size, iV_toInt (by decide)]; omega)
    (by rw [nT]; show ¬ (iV 0).toInt + n > ((arrV _ _ _).slots.size : Int); rw [arrV_size, iV_toInt (by decide)]; omega)
    (fun vm₁ _ i hi => by
      rw [nC] at hi
      have q : (vp_cell g.2.2.1 (al a, .inl (fun j => iV (f a j)))).slots.getD ((iV 0).toNatClampNeg + i) .null = .int (iV (f a i)) := by
        show (arrV _ _ (fun j => .int (iV (f a j)))).slots.getD _ _ = _
        rw [zC, Nat.zero_add, Array.getD_eq_getD_getElem?, arrV_read _ _ (by omega)]
        rfl
      refine ⟨?_, ?_⟩
      · rw [q]; rfl
      · rw [q]; exact trivial)
    (g := F0 m pc ls (.int (iV n) :: .int (iV 0) :: .ref (g.1 + b) :: .int (iV 0) :: .ref (g.1 + a) :: rest)) rfl (by rw [X.2.2.1]; exact hl.1) (rest := rest) rfl (by rw [X.2.1]; exact hdg) (by have := X.2.2.2.2.2.1; omega) (by
      have h9 : nativeFrameWords "java/lang/System" "arraycopy" 5 + 11 ≤ 30 := by decide +kernel
      have := X.2.2.2.2.2.2
      show 2 * 0 + _ + _ ≤ _
      omega)
  have e1 : copied (vp_cell g.2.2.1 (al a, .inl (fun j => iV (f a j)))) (vp_cell g.2.2.1 (al b, .inl (fun j => iV (f b j)))) (iV 0) (iV 0) (iV n) = vp_cell g.2.2.1 (al b, .inl (fun j => iV (cpA f a b n b j))) := by
    have q := va_copied (fun z : Int32 => Value.int z) g.2.2.1 g.2.2.1 (n0 := al a) (n1 := al b) (sp := (iV 0).toNatClampNeg) (dp := (iV 0).toNatClampNeg) (n := (iV n).toNatClampNeg) (fun j => iV (f a j)) (fun j => iV (f b j)) (by rw [zC, nC]; omega)
    refine q.trans ?_
    rw [vp_cell_i]
    congr 1
    funext j
    rw [zC, nC]
    show Value.int _ = Value.int _
    congr 1
    simp only [va_cpy, cpA]
    by_cases hj : j < n.toNat
    · have h3 : (j : Int) < n := by omega
      simp [hj, h3]
    · have h3 : ¬ (j : Int) < n := by omega
      simp [hj, h3]
  rw [e1] at X' step
  have hl2 : g.1 + b < H.size := (Array.getElem?_eq_some_iff.mp hcb).1
  generalize hce : vp_cell g.2.2.1 (al b, .inl (fun j => iV (cpA f a b n b j))) = ce at X' step
  have hheap : ((T.setVm vm').setCell (g.1 + b) ce).heap = H.setIfInBounds (g.1 + b) ce := by rw [← hT]; rfl
  have oq : ∀ q : Nat, q ≠ g.1 + b → (H.setIfInBounds (g.1 + b) ce)[q]? = H[q]? := fun q hq => by simp [Array.getElem?_setIfInBounds, Ne.symm hq]
  have Y1 := Y.wr hkb (e := aV g.2.2.1 (al b) (cpA f a b n b)) (H1 := H.setIfInBounds (g.1 + b) ce) 0 (by show (H.setIfInBounds (g.1 + b) ce)[g.1 + b]? = _; rw [← hce]; simp [Array.getElem?_setIfInBounds, hl2]) (by simp) oq
  rw [cX_up t (cpA f a b n) (fun _ _ => rfl) (fun i hi => by funext q; simp [cpA, hi]) (by rw [cX_10 hb])] at Y1
  obtain ⟨z1, z2, z3, z4, z5⟩ := Y1
  obtain ⟨t2, a1, b1⟩ := kk _ _ ⟨z1, z2, z3, ⟨z4.1, z4.2.1, fun q hq => by
      rcases List.mem_append.mp hq with h | h
      · exact Y.2.2.2.1.2.2 q h
      · obtain ⟨z, -, hz⟩ := List.mem_map.mp h
        rw [← hz]
        exact Nat.le_add_right _ _⟩, z5⟩ _ hheap X'
  exact ⟨t2, step t2 a1, b1⟩
end COPY

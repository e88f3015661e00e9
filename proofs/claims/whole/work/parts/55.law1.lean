/-! the law's own rows; the beginning of the universe -/
section LAWROWS
variable {p : Program} {l : Launch} {e : Env} {R : Room} {s : State} {m : MethodId} {args : Array Value} {below : List Frame} {meth : Method} {c : Code} {H : Heap} {locs : List Loc} {cells slots : Nat} {Q : State → Prop}
variable {cc : ByteArray} {pc d nL : Nat} {own : String} {ls : Array Slot} {rest : List Value} {g : uG} {n : Nat} {E : Nat → va_E}
theorem r_slen (X : uX p d R s m args c cc nL own) (Y : uY g n E s H locs) {b L : Nat} {xs : Nat → Int32} (hX : va_X b L xs s s.heap) (hbl : b < s.heap.size) (hg : g.1 = s.heap.size) (hdg : decode cc pc = .ok (.arraylength, 1)) (kk : W p l e R s m args below meth c H locs cells slots Q (F0 m (pc + 1) ls (.int (iV (L : Int)) :: rest))) : W p l e R s m args below meth c H locs cells slots Q (F0 m pc ls (.ref b :: rest)) :=
  va_slen X.1 X.2.1 hX hbl (show ¬ g.1 ≤ b by omega) Y.2.2.2.1 hdg (by rw [← Int32.ofInt_eq_ofNat]; exact kk)
theorem r_sld (X : uX p d R s m args c cc nL own) (Y : uY g n E s H locs) {b L : Nat} {xs : Nat → Int32} (hX : va_X b L xs s s.heap) (hbl : b < s.heap.size) (hg : g.1 = s.heap.size) {z v : Int} (h0 : 0 ≤ z) (h1 : z < L) (hL : L ≤ 256) (hv : (xs z.toNat).toInt = v) (hdg : decode cc pc = .ok (.iaload, 1)) (kk : W p l e R s m args below meth c H locs cells slots Q (F0 m (pc + 1) ls (.int (iV v) :: rest))) : W p l e R s m args below meth c H locs cells slots Q (F0 m pc ls (.int (iV z) :: .ref b :: rest)) := by
  refine va_sld X.1 X.2.1 hX hbl (show ¬ g.1 ≤ b by omega) Y.2.2.2.1 (vp_inZ h0 h1 (by omega)) hdg ?_
  have e : (iV z).toNatClampNeg = z.toNat := iV_clamp ⟨by omega, by omega⟩
  rw [e, iV_of (xs z.toNat), hv]
  exact kk
theorem and31 (x : Int32) : ∃ w : Int, (0 ≤ w ∧ w ≤ 31) ∧ x &&& iV 31 = iV w := by
  refine ⟨(x &&& iV 31).toInt, ?_, iV_of _⟩
  have h : (x &&& iV 31).toBitVec.toNat ≤ 31 := by
    rw [Int32.toBitVec_and, BitVec.toNat_and]
    exact Nat.and_le_right
  have e : (x &&& iV 31).toInt = ((x &&& iV 31).toBitVec.toNat : Int) := by
    show (x &&& iV 31).toBitVec.toInt = _
    rw [BitVec.toInt_eq_toNat_cond, if_pos (by omega)]
  omega
theorem r_and31 (X : uX p d R s m args c cc nL own) {x : Int} (hdg : decode cc pc = .ok (.iand, 1)) (kk : ∀ w : Int, 0 ≤ w → w ≤ 31 → W p l e R s m args below meth c H locs cells slots Q (F0 m (pc + 1) ls (.int (iV w) :: rest))) : W p l e R s m args below meth c H locs cells slots Q (F0 m pc ls (.int (iV 31) :: .int (iV x) :: rest)) := by
  obtain ⟨w, ⟨h0, h1⟩, h2⟩ := and31 (iV x)
  exact lv_iand X.1 X.2.1 hdg (by rw [h2]; exact kk w h0 h1)
theorem r_eqq (X : uX p d R s m args c cc nL own) {a b : Int} {off : Int} {tgt : Nat} (hdg : decode cc pc = .ok (.if_icmp .eq off, 3)) (ht : (pc : Int) + off = (tgt : Int)) (h : a = b) (k : W p l e R s m args below meth c H locs cells slots Q (F0 m tgt ls rest)) : W p l e R s m args below meth c H locs cells slots Q (F0 m pc ls (.int (iV b) :: .int (iV a) :: rest)) :=
  lv_icmp_eq X.1 X.2.1 hdg ht (fun _ => k) (fun q => absurd (by rw [h]) q)
theorem uY.congr {E2 : Nat → va_E} (Y : uY g n E s H locs) (h : ∀ j, j < n → E j = E2 j) : uY g n E2 s H locs := by
  obtain ⟨y1, y2⟩ := Y
  refine ⟨?_, y2⟩
  have e : uW g.1 n E = uW g.1 n E2 := List.map_congr_left (fun k hk => by rw [h k (List.mem_range.mp hk)])
  rw [← e]; exact y1
end LAWROWS
set_option maxRecDepth 100000 in
theorem law_uY {p : Program} {s : State} {m : MethodId} {meth : Method} {c : Code} {b L : Nat} {xs : Nat → Int32} (C0 : lw_At p s m meth c b L xs) : ∃ g : uG, g.1 = s.heap.size ∧ uY g 0 (fun _ => .inr (99, [])) s s.heap [] := by
  obtain ⟨hx, hb, hr, hml, hown, hts, hX, hbl, hlocks, hgv⟩ := C0
  have hT : ∀ w ∈ T0, w.before #[Value.ref b] s = true := fun w hw => hts w (T0_lw hw)
  have hs := flat_of_before _ hgv
  obtain ⟨a0, i0, k0⟩ := u_known (C := RX0) (T := TX0) (N := 3) (n := 3) hT fw_X0 (hT _ wm_205)
  obtain ⟨a1, i1, k1⟩ := u_known (C := RX1) (T := TX1) (N := 3) (n := 3) hT fw_X1 (hT _ wm_186)
  obtain ⟨a2, i2, k2⟩ := u_known (C := RX2) (T := TX2) (N := 7) (n := 7) hT fw_X2 (hT _ wm_226)
  obtain ⟨a3, i3, k3⟩ := u_known (C := RX3) (T := TX3) (N := 5) (n := 5) hT fw_X3 (hT _ wm_104)
  obtain ⟨a4, i4, k4⟩ := u_known (C := RX4) (T := TX4) (N := 5) (n := 5) hT fw_X4 (hT _ wm_154)
  obtain ⟨a5, i5, k5⟩ := u_known (C := RX5) (T := TX5) (N := 4) (n := 4) hT fw_X5 (hT _ wm_81)
  obtain ⟨a6, i6, k6⟩ := u_known (C := RX6) (T := TX6) (N := 3) (n := 3) hT fw_X6 (hT _ wm_110)
  obtain ⟨a7, i7, k7⟩ := u_known (C := RX7) (T := TX7) (N := 12) (n := 12) hT fw_X7 (hT _ wm_73)
  obtain ⟨a8, i8, k8⟩ := u_known (C := RX8) (T := TX8) (N := 36) (n := 36) hT fw_X8 (hT _ wm_732)
  obtain ⟨dC, dI, hK⟩ : ∃ (dC : Nat → ClassId) (dI : Nat → Nat → Nat), ∀ (k : Nat) (q : vw_C), vwCl[k]? = some q → u_Kn s q.1 q.2.1 q.2.2 (dC k) (dI k) := by
    refine ⟨fun k => if k = 0 then a0 else if k = 1 then a1 else if k = 2 then a2 else if k = 3 then a3 else if k = 4 then a4 else if k = 5 then a5 else if k = 6 then a6 else if k = 7 then a7 else a8, fun k => if k = 0 then i0 else if k = 1 then i1 else if k = 2 then i2 else if k = 3 then i3 else if k = 4 then i4 else if k = 5 then i5 else if k = 6 then i6 else if k = 7 then i7 else i8, ?_⟩
    intro k q hq
    match k, hq with
    | 0, hq => cases hq; exact k0
    | 1, hq => cases hq; exact k1
    | 2, hq => cases hq; exact k2
    | 3, hq => cases hq; exact k3
    | 4, hq => cases hq; exact k4
    | 5, hq => cases hq; exact k5
    | 6, hq => cases hq; exact k6
    | 7, hq => cases hq; exact k7
    | 8, hq => cases hq; exact k8
    | k + 9, hq => exact absurd hq (by simp [vwCl])
  obtain ⟨cI, kI, pI, e1, e2, e3⟩ := Cond.arrayClass_spec (hT _ wm_102)
  obtain ⟨cZ, kZ, pZ, z1, z2, z3⟩ := Cond.arrayClass_spec (hT _ wm_846)
  obtain ⟨pQ, cQ, kQ, q1, q2, q3, q4, q5⟩ := Cond.arrayOver_spec (n := RX4) (hts _ wn_192)
  have hA : ∀ a : Nat, a < s.heap.size → ¬ s.heap.size ≤ a := fun a h => Nat.not_le.mpr h
  have hini : (Cond.initialized RX3).before #[Value.ref b] s = true := hT _ wm_64
  refine ⟨(s.heap.size, (dC, dI), cI, cZ, cQ), rfl, fun k q h => by simp [uW] at h, ⟨hK, fun k q hk => ?_⟩, rfl, va_S.rf, Nat.le_refl _, ⟨?_, ?_⟩, ?_⟩
  · match k, hk with
    | 0, hk => cases hk; exact ⟨fun N z => ⟨(fun k h => by cases h), kI, e2, pI, e3⟩, e1⟩
    | 1, hk => cases hk; exact ⟨fun N z => ⟨(fun k h => by cases h), kZ, z2, pZ, z3⟩, z1⟩
    | 2, hk => cases hk; exact ⟨fun N z => ⟨(fun k h => by cases h), kQ, q3, pQ, q4⟩, kQ, pQ, q3, q4, q1, q5⟩
    | k + 3, hk => exact absurd hk (by simp [uT])
  · have el : ∀ j, j < 12 → (Cond.eq (.elem (.static RX3 "LEAST" "[I") (.int (Int32.ofNat j))) (.int (iV (leastT j)))).before #[Value.ref b] s = true := fun j hj => hs _ (by revert j; decide +kernel)
    obtain ⟨t, t1, t2⟩ := va_Tof (tm := .static RX3 "LEAST" "[I") (ty := .int) (N := 12) (f := fun j => .int (iV (leastT j))) (A := fun q => s.heap.size ≤ q) (by decide) (hs (.arrayOf (.static RX3 "LEAST" "[I") .int) (by decide +kernel)) (va_eqt (hs (.eq (.length (.static RX3 "LEAST" "[I")) (.int 12)) (by decide +kernel))) (fun j hj => va_eqt (el j hj)) hA
    exact ⟨t, va_Zref (hts _ wn_385) hini t1 hA, t2⟩
  · have el : ∀ j, j < 12 → (Cond.eq (.elem (.static RX3 "GREATEST" "[I") (.int (Int32.ofNat j))) (.int (iV (greatT j)))).before #[Value.ref b] s = true := fun j hj => hs _ (by revert j; decide +kernel)
    obtain ⟨t, t1, t2⟩ := va_Tof (tm := .static RX3 "GREATEST" "[I") (ty := .int) (N := 12) (f := fun j => .int (iV (greatT j))) (A := fun q => s.heap.size ≤ q) (by decide) (hs (.arrayOf (.static RX3 "GREATEST" "[I") .int) (by decide +kernel)) (va_eqt (hs (.eq (.length (.static RX3 "GREATEST" "[I")) (.int 12)) (by decide +kernel))) (fun j hj => va_eqt (el j hj)) hA
    exact ⟨t, va_Zref (hts _ wn_387) hini t1 hA, t2⟩
  · exact ⟨va_Nw.of rfl (hts _ wn_111), va_Nw.of rfl (hts _ wn_152), va_Nw.of rfl (hts _ wn_155), va_Nw.of rfl (hts _ wn_193), va_Nw.of rfl (hts _ wn_206), va_Nw.of rfl (hts _ wn_211), va_AO.of (hts _ wn_192)⟩

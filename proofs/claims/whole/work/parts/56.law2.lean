/-! what the class's calls leave of the model's cells: all -/
def KH (t : uN) (f : uF) (t1 : uN) (f1 : uF) : Prop := (∀ j, t1 100 j = t 100 j) ∧ ∀ k i, 101 ≤ k → f1 k i = f k i
theorem KH.rf (t : uN) (f : uF) : KH t f t f := ⟨fun _ => rfl, fun _ _ _ => rfl⟩
theorem ML.kh {t t1 : uN} {f f1 : uF} (L : ML t f t f) (h : KH t f t1 f1) : ML t f t1 f1 := L.hi h.1 h.2
theorem kh_feed {t t1 : uN} {f f1 : uF} {v : Int} (h1 : t1 = if feeX t v < 0 then t else up2 t 1 3 (t 1 3 + 1)) (h2 : f1 = if feeX t v < 0 then f else upA f 2 (t 1 3) v) : KH t f t1 f1 := by
  subst h1 h2
  split
  · exact KH.rf t f
  · exact ⟨fun j => up2_ne _ _ (by omega), fun k i hk => upA_ne _ _ (by omega)⟩
theorem kh_write {t t1 : uN} {f f1 : uF} {v : Int} (h1 : t1 = if wriX t v < 0 then t else up2 t 98 3 (t 98 3 + 1)) (h2 : f1 = if wriX t v < 0 then f else upA f 99 (t 98 3) v) : KH t f t1 f1 := by
  subst h1 h2
  split
  · exact KH.rf t f
  · exact ⟨fun j => up2_ne _ _ (by omega), fun k i hk => upA_ne _ _ (by omega)⟩
theorem kh_tell {t t1 : uN} {f f1 : uF} {u v : Int} (h1 : t1 = if telX t u v < 0 then t else up2 t 96 3 (t 96 3 + 1)) (h2 : f1 = if telX t u v < 0 then f else upA (upA f 97 (t 96 3 * 2 + 0) u) 97 (t 96 3 * 2 + 1) v) : KH t f t1 f1 := by
  subst h1 h2
  split
  · exact KH.rf t f
  · exact ⟨fun j => up2_ne _ _ (by omega), fun k i hk => by rw [upA_ne _ _ (by omega), upA_ne _ _ (by omega)]⟩
theorem kh_rem {t : uN} {f : uF} (hP : 0 ≤ t 21 1 ∧ t 21 1 < 20) : KH t f (remT t) (putF t f) := ⟨fun j => remT_off hP (by omega) (by omega) j, fun k i hk => putF_off hP (by omega) i⟩
theorem kh_borrow {t t1 : uN} {f f1 : uF} {m v fr : Int} (hP : 0 ≤ t 21 1 ∧ t 21 1 < 20) (h1 : t1 = if borX t f m v < 0 then t else borT t v) (h2 : f1 = if borX t f m v < 0 then f else borF t f m v fr) : KH t f t1 f1 := by
  subst h1 h2
  split
  · exact KH.rf t f
  · refine ⟨fun j => ?_, fun k i hk => ?_⟩
    · unfold borT; rw [up2_ne _ _ (by omega), up2_ne _ _ (by omega)]; exact (kh_rem (f := f) hP).1 j
    · unfold borF; rw [upA_ne _ _ (by omega), upA_ne _ _ (by omega), upA_ne _ _ (by omega), upA_ne _ _ (by omega), upA_ne _ _ (by omega)]; exact (kh_rem hP).2 k i hk
theorem kh_repair {t t1 : uN} {f f1 : uF} {k : Int} (hP : 0 ≤ t 21 1 ∧ t 21 1 < 20) (h1 : t1 = if repX t f k < 0 then t else repT t f k) (h2 : f1 = if repX t f k < 0 then f else putF t f) : KH t f t1 f1 := by
  subst h1 h2
  split
  · exact KH.rf t f
  · refine ⟨fun j => ?_, (kh_rem hP).2⟩
    unfold repT; rw [up2_ne _ _ (by omega), up2_ne _ _ (by omega)]; exact (kh_rem (f := f) hP).1 j
theorem kh_sail {t t1 : uN} {f f1 : uF} {c : Int} (hP : 0 ≤ t 21 1 ∧ t 21 1 < 20) (h1 : t1 = if saiX t c < 0 then t else sailT (remT t) 18 c) (h2 : f1 = if saiX t c < 0 then f else putF t f) : KH t f t1 f1 := by
  subst h1 h2
  split
  · exact KH.rf t f
  · refine ⟨fun j => ?_, (kh_rem hP).2⟩
    rw [sailT_off (by decide)]; exact (kh_rem (f := f) hP).1 j
theorem kh_drift {t t1 : uN} {f f1 : uF} {n : Int} (hP : 0 ≤ t 21 1 ∧ t 21 1 < 20) (hs : 0 ≤ t 0 11 ∧ t 0 11 ≤ 2147483647) (h1 : t1 = if driX t f n < 0 then t else driN (putF t f) n.toNat (remT t)) (h2 : f1 = if driX t f n < 0 then f else putF t f) : KH t f t1 f1 := by
  subst h1 h2
  split
  · exact KH.rf t f
  · refine ⟨fun j => ?_, (kh_rem hP).2⟩
    rw [(driN_fr (putF t f) n.toNat (remT t) (by rw [remT_off hP (by omega) (by omega)]; exact hs)).1 100 j (by decide) (by decide)]
    exact (kh_rem (f := f) hP).1 j
theorem kh_undo {t t1 : uN} {f f1 : uF} (h1 : t1 = if undX t < 0 then t else undT t) (h2 : f1 = if undX t < 0 then f else takF t f) : KH t f t1 f1 := by
  subst h1 h2
  split
  · exact KH.rf t f
  · refine ⟨fun j => ?_, fun k i hk => ?_⟩
    · unfold undT takT
      simp only []
      rw [up2_k _ _ _ _ (by decide), up2_k _ _ _ _ (by decide), up2_k _ _ _ _ (by decide), sheCp_off (by decide) (by decide)]
    · unfold takF; rw [cpA_off (by omega)]
theorem kh_plan {t t1 : uN} {f f1 : uF} {i z : Int} (h : PQ t f i z t1 f1) : KH t f t1 f1 := by
  rcases h with ⟨-, -, a, b⟩ | ⟨-, q1, -⟩
  · rw [a, b]; exact KH.rf t f
  · exact ⟨fun j => q1.1 100 j (by omega) (by omega) (by omega), fun k i hk => q1.2 k i (by omega) (by omega)⟩
/-- the text, as the reader takes it -/
theorem TXI.txt {t : uN} {f : uF} (h : TXI t f) : txt (fun p => tget t f 1 p 0) (t 1 3) := by
  have hb : 0 ≤ t 1 3 ∧ t 1 3 ≤ 220 := h.1
  refine ⟨hb, h.2.1, fun p hp => ?_⟩
  show tget t f 1 p 0 = 0
  unfold tget
  rw [if_neg (by omega)]
theorem goB_hyp {t : uN} {f : uF} (h : KPI t f) : (SOK t f 84 ∧ SOK t f 88) ∧ (t 83 2 = 0 ∨ t 83 2 = 1) ∧ (t 87 2 = 0 ∨ t 87 2 = 1) ∧ f 102 0 = t 83 2 ∧ f 102 1 = t 87 2 := ⟨⟨h.1.1, h.2.1⟩, h.1.2.1, h.2.2.1, h.1.2.2.2.1, h.2.2.2.2.1⟩
theorem kh_goBack {t t1 : uN} {f f1 : uF} {i : Int} (h1 : t1 = if gobX t i < 0 then t else if i = 0 then gobT t 83 else gobT t 87) (h2 : f1 = if gobX t i < 0 then f else if i = 0 then cpA f 86 20 40 else cpA f 90 20 40) : KH t f t1 f1 := by
  subst h1 h2
  have e : ∀ c, ∀ j, gobT t c 100 j = t 100 j := fun c j => by
    unfold gobT; rw [up2_ne _ _ (by omega), up2_ne _ _ (by omega), up2_ne _ _ (by omega), sheCp_off (by decide) (by decide)]
  split
  · exact KH.rf t f
  · split
    · exact ⟨e 83, fun k i hk => cpA_off (by omega) i⟩
    · exact ⟨e 87, fun k i hk => cpA_off (by omega) i⟩
theorem kh_voyage {t t1 : uN} {f f1 : uF} {x : Int → Int} {n z : Int} (h : VQ x n t f z t1 f1) : KH t f t1 f1 := by
  obtain ⟨k, tr, fr, ⟨q1, -⟩, q6⟩ := h
  have e : ∀ j, tr 100 j = t 100 j := fun j => q1.1 100 j (by decide) (by omega)
  have e2 : ∀ k i, 101 ≤ k → fr k i = f k i := fun k i hk => q1.2 k i (by omega) (by omega) (by omega)
  rcases q6 with ⟨-, -, a3, a4⟩ | ⟨-, -, a3, a4⟩
  · subst a3 a4
    refine ⟨fun j => ?_, e2⟩
    unfold vyT0; rw [up2_ne _ _ (by omega), up2_ne _ _ (by omega)]; exact e j
  · subst a3 a4
    refine ⟨fun j => ?_, fun k i hk => ?_⟩
    · unfold vyT3
      rw [up2_ne _ _ (by omega), up2_ne _ _ (by omega), up2_ne _ _ (by omega), up2_ne _ _ (by omega), up2_ne _ _ (by omega), up2_ne _ _ (by omega)]
      unfold vyT2
      simp only []
      rw [up2_ne _ _ (by omega), up2_ne _ _ (by omega), up2_ne _ _ (by omega), up2_ne _ _ (by omega), up2_ne _ _ (by omega)]
      unfold vyT1
      simp only []
      rw [up2_ne _ _ (by omega), up2_ne _ _ (by omega), up2_ne _ _ (by omega)]
      unfold vyT0
      rw [up2_ne _ _ (by omega), up2_ne _ _ (by omega)]
      exact e j
    · unfold vyF1
      rw [cpA_off (by omega), cpA_off (by omega), cpA_off (by omega)]; exact e2 k i hk

/-! the model's clause by contract -/
set_option maxHeartbeats 4000000 in
set_option maxRecDepth 100000 in
theorem ct_X8_takesClause (l : Launch) (g : uG) (t : uN) (f : uF) (x : Int → Int) (n : Int) (pp w0 : Int) (HT : TM x n t f) (hpp : pp = sk x (t 100 15)) (hw : w0 = wordZ (x pp)) (hpn : pp < n) (h20 : t 100 20 = 0 ∨ t 100 20 = 1) (h22 : 0 ≤ t 100 22 ∧ t 100 22 ≤ 7) (h24 : 0 ≤ t 100 24 ∧ t 100 24 ≤ 5) : cR_i l yX8_takesClause cX8_takesClause 5 (some .boolean) 5 g [.ref (g.1 + 100)] t f (CQ8 x n t f pp w0) := by
  refine eR_z (by decide +kernel) (Nat.le_of_ble_eq_true rfl) ?_
  intro p e R s m args below meth c Q ls H locs X Y hl ret
  have X : uX p 5 R s m args c cX8_takesClause 5 RX8 := X
  have hl : lv_has ls 5 [(0, .ref (g.1 + 100))] := hl
  have hx := HT.1
  have hn := hx.1
  have h14 := HT.2.1
  have h8 := HT.2.2.1
  have hat := HT.2.2.2
  have hpr := sk_rng hx hat.1 hat.2
  rw [← hpp] at hpr
  have hxp := hx.2.1 pp
  have hlp : ltA x n pp = x pp := if_pos hpn
  have hwb := wordZ_b (x pp)
  rw [← hw] at hwb
  refine r_aload_n X dX8_takesClause_0 hl 0 rfl ?_
  refine vF_i X Y [] [] (ct_X8_here l g t f x n HT) mk_X8_here mi_X8_here wm_861 (by decide) (rv_8 Y rfl) rfl hl (Nat.le_of_ble_eq_true rfl) rfl dX8_takesClause_1 (Nat.zero_le _) (Nat.zero_le _) (fun H locs Y => ?_)
  obtain ⟨tq1, htq1⟩ : ∃ q, q = up2 (up2 t 100 15 (sk x (t 100 15))) 100 16 (sk x (t 100 15)) := ⟨_, rfl⟩
  have Y : uY g 117 (cX g tq1 f) s H locs := by rw [htq1]; exact Y
  rw [← hpp] at htq1
  refine r_eq (z' := x pp) (by rw [← hpp]; exact hlp) ?_
  have g16 : tq1 100 16 = pp := by rw [htq1, up2_s]
  have g15 : tq1 100 15 = pp := by rw [htq1, up2_ne _ _ (by omega), up2_s]
  have gfr : RDf t tq1 := by rw [htq1]; exact ((RDf.rf t).up _ (Or.inl rfl)).up _ (Or.inr (Or.inl rfl))
  have g18 : tq1 100 18 = t 100 18 := by rw [htq1, up2_ne _ _ (by omega), up2_ne _ _ (by omega)]
  have g19 : tq1 100 19 = t 100 19 := by rw [htq1, up2_ne _ _ (by omega), up2_ne _ _ (by omega)]
  have g14 : tq1 100 14 = t 100 14 := gfr 100 14 (by unfold rdj; omega)
  have g20 : tq1 100 20 = t 100 20 := gfr 100 20 (by unfold rdj; omega)
  have g22 : tq1 100 22 = t 100 22 := gfr 100 22 (by unfold rdj; omega)
  have g24 : tq1 100 24 = t 100 24 := gfr 100 24 (by unfold rdj; omega)
  refine r_istore_n X dX8_takesClause_4 hl [(1, .int (iV (x pp))), (0, .ref (g.1 + 100))] (by decide) rfl (fun ls hl => ?_)
  refine r_iload_n X dX8_takesClause_5 hl 0 rfl ?_
  refine r_bipush X 115 dX8_takesClause_6 (by decide) ?_
  refine r_icmp_eq X (tgt := 30) dX8_takesClause_8 (by decide) ⟨by omega, by omega⟩ ⟨by omega, by omega⟩ (fun c8 => ?_) (fun c8 => ?_)
  · refine r_iconst X dX8_takesClause_30 ?_
    refine r_goto X 35 dX8_takesClause_31 (by decide) ?_
    refine r_istore_n X dX8_takesClause_35 hl [(2, .int (iV (1))), (1, .int (iV (x pp))), (0, .ref (g.1 + 100))] (by decide) rfl (fun ls hl => ?_)
    refine r_iload_n X dX8_takesClause_36 hl 0 rfl ?_
    refine r_if_ne X (tgt := 50) dX8_takesClause_37 (by decide) ⟨by omega, by omega⟩ (fun c37 => ?_) (fun c37 => ?_)
    · refine r_iload_n X dX8_takesClause_50 hl 1 rfl ?_
      refine r_bipush X 115 dX8_takesClause_51 (by decide) ?_
      refine r_icmp_ne X (tgt := 63) dX8_takesClause_53 (by decide) ⟨by omega, by omega⟩ ⟨by omega, by omega⟩ (fun c53 => ?_) (fun c53 => ?_)
      · exact absurd c53 (by omega)
      · refine r_aload_n X dX8_takesClause_56 hl 2 rfl ?_
        refine g_8_20 (k := 100) X Y rfl wm_757 dX8_takesClause_57 ?_
        refine r_goto X 99 dX8_takesClause_60 (by decide) ?_
        refine r_istore_n X dX8_takesClause_99 hl [(3, .int (iV (tq1 100 20))), (2, .int (iV (1))), (1, .int (iV (x pp))), (0, .ref (g.1 + 100))] (by decide) rfl (fun ls hl => ?_)
        refine r_iload_n X dX8_takesClause_100 hl 0 rfl ?_
        refine r_if_eq X (tgt := 114) dX8_takesClause_101 (by decide) ⟨by omega, by omega⟩ (fun c101 => ?_) (fun c101 => ?_)
        · refine r_aload_n X dX8_takesClause_114 hl 3 rfl ?_
          refine r_dup X dX8_takesClause_115 rfl ?_
          refine g_8_15 (k := 100) X Y rfl wm_752 dX8_takesClause_116 ?_
          refine r_eq (z' := pp) g15 ?_
          refine r_iconst X dX8_takesClause_119 ?_
          refine r_iadd X dX8_takesClause_120 ?_
          refine p_8_15 (k := 100) X Y rfl wm_752 dX8_takesClause_121 (fun H locs Y => ?_)
          obtain ⟨tq2, htq2⟩ : ∃ q, q = up2 tq1 100 15 (pp + 1) := ⟨_, rfl⟩
          have Y : uY g 117 (cX g tq2 f) s H locs := by rw [htq2]; exact Y
          have gf2 : RDf t tq2 := by rw [htq2]; exact gfr.up _ (Or.inl rfl)
          have h18b : tq2 100 18 = t 100 18 ∧ tq2 100 19 = t 100 19 := by rw [htq2, up2_ne _ _ (by omega), up2_ne _ _ (by omega)]; exact ⟨g18, g19⟩
          have hp15 : tq2 100 15 = pp + 1 := by rw [htq2, up2_s]
          have HT1 : TM x n tq2 f := HT.of (gf2 100 14 (by unfold rdj; omega)) (by omega) (fun _ => rfl)
          have hcap := cap8 t (w := w0) (by omega)
          have hnb : ¬ (w0 = -1 ∨ (¬ w0 = 0 ∧ t 100 20 = 0)) := by omega
          have hlt : cn8 t w0 < tm (tbC w0) := by omega
          have g22b : tq2 100 22 = t 100 22 := gf2 100 22 (by unfold rdj; omega)
          have g24b : tq2 100 24 = t 100 24 := gf2 100 24 (by unfold rdj; omega)
          refine r_iload_n X dX8_takesClause_124 hl 2 rfl ?_
          refine r_bipush X 115 dX8_takesClause_125 (by decide) ?_
          refine r_icmp_ne X (tgt := 137) dX8_takesClause_127 (by decide) ⟨by omega, by omega⟩ ⟨by omega, by omega⟩ (fun c127 => ?_) (fun c127 => ?_)
          · exact absurd c127 (by omega)
          · refine r_aload_n X dX8_takesClause_130 hl 3 rfl ?_
            refine vR_i X Y [] [] (ct_X8_takesShip l g tq2 f x n pp HT1 hp15) mk_X8_takesShip mi_X8_takesShip wm_877 (by decide) (rv_8 Y rfl) rfl hl (Nat.le_of_ble_eq_true rfl) rfl dX8_takesClause_131 (Nat.zero_le _) (Nat.zero_le _) (fun zq3 tq3 fq3 H locs hq3 Y => ?_)
            refine r_goto X 154 dX8_takesClause_134 (by decide) ?_
            have hW : WQ8 x n w0 pp t f zq3 tq3 fq3 := by rw [show w0 = 0 by omega]; exact WQ8_s (by omega) gf2 h18b hq3
            have hzr : zq3 = 0 ∨ zq3 = 1 := by rcases hW.2.2 with h9 | h9; exact Or.inl h9.1; exact Or.inr h9.1
            refine r_istore X dX8_takesClause_154 hl [(4, .int (iV (zq3))), (3, .int (iV (tq1 100 20))), (2, .int (iV (1))), (1, .int (iV (x pp))), (0, .ref (g.1 + 100))] (by decide) rfl (fun ls hl => ?_)
            refine r_iload X dX8_takesClause_156 hl 0 rfl ?_
            refine r_if_eq X (tgt := 174) dX8_takesClause_158 (by decide) ⟨by omega, by omega⟩ (fun c158 => ?_) (fun c158 => ?_)
            · refine r_iconst X dX8_takesClause_174 ?_
              exact ret _ _ _ _ _ _ _ dX8_takesClause_175 Y (by first | exact Or.inl rfl | exact Or.inr rfl | omega) (CQ8_bad hnb hlt hW (by omega))
            · have HT2 := hW.tm HT c158
              refine r_aload_n X dX8_takesClause_161 hl 4 rfl ?_
              refine r_bipush X 59 dX8_takesClause_162 (by decide) ?_
              refine vR_i X Y [.int (iV (59))] [] (ct_X8_takes l g tq3 fq3 x n HT2) mk_X8_takes mi_X8_takes wm_895 (by decide) (rv_8 Y rfl) rfl hl (Nat.le_of_ble_eq_true rfl) rfl dX8_takesClause_164 (Nat.zero_le _) (Nat.zero_le _) (fun zq4 tq4 fq4 H locs hq4 Y => ?_)
              have hzr2 : zq4 = 0 ∨ zq4 = 1 := by rcases hq4.2.2 with h9 | h9; exact Or.inr h9.2.1; exact Or.inl h9.2.1
              refine r_if_eq X (tgt := 174) dX8_takesClause_167 (by decide) ⟨by omega, by omega⟩ (fun c167 => ?_) (fun c167 => ?_)
              · refine r_iconst X dX8_takesClause_174 ?_
                exact ret _ _ _ _ _ _ _ dX8_takesClause_175 Y (by first | exact Or.inl rfl | exact Or.inr rfl | omega) (by have h9 := CQ8_end hx (by omega) hpn hnb hlt hW c158 hq4; rw [show zq4 = 0 by omega] at h9; exact h9)
              · refine r_iconst X dX8_takesClause_170 ?_
                refine r_goto X 175 dX8_takesClause_171 (by decide) ?_
                exact ret _ _ _ _ _ _ _ dX8_takesClause_175 Y (by first | exact Or.inl rfl | exact Or.inr rfl | omega) (by have h9 := CQ8_end hx (by omega) hpn hnb hlt hW c158 hq4; rw [show zq4 = 1 by omega] at h9; exact h9)
        · refine r_aload_n X dX8_takesClause_104 hl 3 rfl ?_
          refine r_iconst X dX8_takesClause_105 ?_
          refine r_aload_n X dX8_takesClause_106 hl 3 rfl ?_
          refine g_8_16 (k := 100) X Y rfl wm_753 dX8_takesClause_107 ?_
          refine r_eq (z' := pp) g16 ?_
          refine vF_i X Y [.int (iV (3)), .int (iV (pp))] [] (ct_X8_fails l g tq1 f 3 pp ⟨by omega, by omega⟩ ⟨by omega, by omega⟩) mk_X8_fails mi_X8_fails wm_873 (by decide) (rv_8 Y rfl) rfl hl (Nat.le_of_ble_eq_true rfl) rfl dX8_takesClause_110 (Nat.zero_le _) (Nat.zero_le _) (fun H locs Y => ?_)
          obtain ⟨tq2, htq2⟩ : ∃ q, q = up2 (up2 tq1 100 18 3) 100 19 pp := ⟨_, rfl⟩
          have Y : uY g 117 (cX g tq2 f) s H locs := by rw [htq2]; exact Y
          exact ret _ _ _ _ _ _ _ dX8_takesClause_113 Y (by first | exact Or.inl rfl | exact Or.inr rfl | omega) ⟨by rw [htq2]; exact ((gfr.up _ (Or.inr (Or.inr (Or.inr (Or.inl rfl))))).up _ (Or.inr (Or.inr (Or.inr (Or.inr rfl))))).c, fun _ _ _ => rfl, Or.inr (Or.inl ⟨by omega, by have hcap := cap8 t (w := w0) (by omega); omega, rfl, by rw [htq2, up2_ne _ _ (by omega), up2_s], by rw [htq2, up2_s]⟩)⟩
    · exact absurd c37 (by omega)
  · refine r_aload_n X dX8_takesClause_11 hl 1 rfl ?_
    refine g_8_20 (k := 100) X Y rfl wm_757 dX8_takesClause_12 ?_
    refine r_if_eq X (tgt := 34) dX8_takesClause_15 (by decide) ⟨by omega, by omega⟩ (fun c15 => ?_) (fun c15 => ?_)
    · refine r_iconst X dX8_takesClause_34 ?_
      refine r_istore_n X dX8_takesClause_35 hl [(2, .int (iV (0))), (1, .int (iV (x pp))), (0, .ref (g.1 + 100))] (by decide) rfl (fun ls hl => ?_)
      refine r_iload_n X dX8_takesClause_36 hl 0 rfl ?_
      refine r_if_ne X (tgt := 50) dX8_takesClause_37 (by decide) ⟨by omega, by omega⟩ (fun c37 => ?_) (fun c37 => ?_)
      · exact absurd c37 (by omega)
      · refine r_aload_n X dX8_takesClause_40 hl 2 rfl ?_
        refine r_iconst X dX8_takesClause_41 ?_
        refine r_aload_n X dX8_takesClause_42 hl 2 rfl ?_
        refine g_8_16 (k := 100) X Y rfl wm_753 dX8_takesClause_43 ?_
        refine r_eq (z' := pp) g16 ?_
        refine vF_i X Y [.int (iV (1)), .int (iV (pp))] [] (ct_X8_fails l g tq1 f 1 pp ⟨by omega, by omega⟩ ⟨by omega, by omega⟩) mk_X8_fails mi_X8_fails wm_873 (by decide) (rv_8 Y rfl) rfl hl (Nat.le_of_ble_eq_true rfl) rfl dX8_takesClause_46 (Nat.zero_le _) (Nat.zero_le _) (fun H locs Y => ?_)
        obtain ⟨tq2, htq2⟩ : ∃ q, q = up2 (up2 tq1 100 18 1) 100 19 pp := ⟨_, rfl⟩
        have Y : uY g 117 (cX g tq2 f) s H locs := by rw [htq2]; exact Y
        exact ret _ _ _ _ _ _ _ dX8_takesClause_49 Y (by first | exact Or.inl rfl | exact Or.inr rfl | omega) ⟨by rw [htq2]; exact ((gfr.up _ (Or.inr (Or.inr (Or.inr (Or.inl rfl))))).up _ (Or.inr (Or.inr (Or.inr (Or.inr rfl))))).c, fun _ _ _ => rfl, Or.inl ⟨by omega, rfl, by rw [htq2, up2_ne _ _ (by omega), up2_s], by rw [htq2, up2_s]⟩⟩
    · refine r_iload_n X dX8_takesClause_18 hl 0 rfl ?_
      refine r_bipush X 108 dX8_takesClause_19 (by decide) ?_
      refine r_icmp_eq X (tgt := 30) dX8_takesClause_21 (by decide) ⟨by omega, by omega⟩ ⟨by omega, by omega⟩ (fun c21 => ?_) (fun c21 => ?_)
      · refine r_iconst X dX8_takesClause_30 ?_
        refine r_goto X 35 dX8_takesClause_31 (by decide) ?_
        refine r_istore_n X dX8_takesClause_35 hl [(2, .int (iV (1))), (1, .int (iV (x pp))), (0, .ref (g.1 + 100))] (by decide) rfl (fun ls hl => ?_)
        refine r_iload_n X dX8_takesClause_36 hl 0 rfl ?_
        refine r_if_ne X (tgt := 50) dX8_takesClause_37 (by decide) ⟨by omega, by omega⟩ (fun c37 => ?_) (fun c37 => ?_)
        · refine r_iload_n X dX8_takesClause_50 hl 1 rfl ?_
          refine r_bipush X 115 dX8_takesClause_51 (by decide) ?_
          refine r_icmp_ne X (tgt := 63) dX8_takesClause_53 (by decide) ⟨by omega, by omega⟩ ⟨by omega, by omega⟩ (fun c53 => ?_) (fun c53 => ?_)
          · refine r_iload_n X dX8_takesClause_63 hl 1 rfl ?_
            refine r_bipush X 108 dX8_takesClause_64 (by decide) ?_
            refine r_icmp_ne X (tgt := 86) dX8_takesClause_66 (by decide) ⟨by omega, by omega⟩ ⟨by omega, by omega⟩ (fun c66 => ?_) (fun c66 => ?_)
            · exact absurd c66 (by omega)
            · refine r_aload_n X dX8_takesClause_69 hl 2 rfl ?_
              refine g_8_22 (k := 100) X Y rfl wm_759 dX8_takesClause_70 ?_
              refine r_bipush X 7 dX8_takesClause_73 (by decide) ?_
              refine r_icmp_ne X (tgt := 82) dX8_takesClause_75 (by decide) ⟨by omega, by omega⟩ ⟨by omega, by omega⟩ (fun c75 => ?_) (fun c75 => ?_)
              · refine r_iconst X dX8_takesClause_82 ?_
                refine r_goto X 99 dX8_takesClause_83 (by decide) ?_
                refine r_istore_n X dX8_takesClause_99 hl [(3, .int (iV (0))), (2, .int (iV (1))), (1, .int (iV (x pp))), (0, .ref (g.1 + 100))] (by decide) rfl (fun ls hl => ?_)
                refine r_iload_n X dX8_takesClause_100 hl 0 rfl ?_
                refine r_if_eq X (tgt := 114) dX8_takesClause_101 (by decide) ⟨by omega, by omega⟩ (fun c101 => ?_) (fun c101 => ?_)
                · refine r_aload_n X dX8_takesClause_114 hl 3 rfl ?_
                  refine r_dup X dX8_takesClause_115 rfl ?_
                  refine g_8_15 (k := 100) X Y rfl wm_752 dX8_takesClause_116 ?_
                  refine r_eq (z' := pp) g15 ?_
                  refine r_iconst X dX8_takesClause_119 ?_
                  refine r_iadd X dX8_takesClause_120 ?_
                  refine p_8_15 (k := 100) X Y rfl wm_752 dX8_takesClause_121 (fun H locs Y => ?_)
                  obtain ⟨tq2, htq2⟩ : ∃ q, q = up2 tq1 100 15 (pp + 1) := ⟨_, rfl⟩
                  have Y : uY g 117 (cX g tq2 f) s H locs := by rw [htq2]; exact Y
                  have gf2 : RDf t tq2 := by rw [htq2]; exact gfr.up _ (Or.inl rfl)
                  have h18b : tq2 100 18 = t 100 18 ∧ tq2 100 19 = t 100 19 := by rw [htq2, up2_ne _ _ (by omega), up2_ne _ _ (by omega)]; exact ⟨g18, g19⟩
                  have hp15 : tq2 100 15 = pp + 1 := by rw [htq2, up2_s]
                  have HT1 : TM x n tq2 f := HT.of (gf2 100 14 (by unfold rdj; omega)) (by omega) (fun _ => rfl)
                  have hcap := cap8 t (w := w0) (by omega)
                  have hnb : ¬ (w0 = -1 ∨ (¬ w0 = 0 ∧ t 100 20 = 0)) := by omega
                  have hlt : cn8 t w0 < tm (tbC w0) := by omega
                  have g22b : tq2 100 22 = t 100 22 := gf2 100 22 (by unfold rdj; omega)
                  have g24b : tq2 100 24 = t 100 24 := gf2 100 24 (by unfold rdj; omega)
                  refine r_iload_n X dX8_takesClause_124 hl 2 rfl ?_
                  refine r_bipush X 115 dX8_takesClause_125 (by decide) ?_
                  refine r_icmp_ne X (tgt := 137) dX8_takesClause_127 (by decide) ⟨by omega, by omega⟩ ⟨by omega, by omega⟩ (fun c127 => ?_) (fun c127 => ?_)
                  · refine r_iload_n X dX8_takesClause_137 hl 2 rfl ?_
                    refine r_bipush X 108 dX8_takesClause_138 (by decide) ?_
                    refine r_icmp_ne X (tgt := 150) dX8_takesClause_140 (by decide) ⟨by omega, by omega⟩ ⟨by omega, by omega⟩ (fun c140 => ?_) (fun c140 => ?_)
                    · exact absurd c140 (by omega)
                    · refine r_aload_n X dX8_takesClause_143 hl 3 rfl ?_
                      refine vR_i X Y [] [] (ct_X8_takesLeg l g tq2 f x n pp HT1 hp15 (by omega) (by omega)) mk_X8_takesLeg mi_X8_takesLeg wm_887 (by decide) (rv_8 Y rfl) rfl hl (Nat.le_of_ble_eq_true rfl) rfl dX8_takesClause_144 (Nat.zero_le _) (Nat.zero_le _) (fun zq3 tq3 fq3 H locs hq3 Y => ?_)
                      refine r_goto X 154 dX8_takesClause_147 (by decide) ?_
                      rw [g22b] at hq3
                      have hW : WQ8 x n w0 pp t f zq3 tq3 fq3 := by rw [show w0 = 1 by omega]; exact WQ8_l gf2 h18b hq3
                      have hzr : zq3 = 0 ∨ zq3 = 1 := by rcases hW.2.2 with h9 | h9; exact Or.inl h9.1; exact Or.inr h9.1
                      refine r_istore X dX8_takesClause_154 hl [(4, .int (iV (zq3))), (3, .int (iV (0))), (2, .int (iV (1))), (1, .int (iV (x pp))), (0, .ref (g.1 + 100))] (by decide) rfl (fun ls hl => ?_)
                      refine r_iload X dX8_takesClause_156 hl 0 rfl ?_
                      refine r_if_eq X (tgt := 174) dX8_takesClause_158 (by decide) ⟨by omega, by omega⟩ (fun c158 => ?_) (fun c158 => ?_)
                      · refine r_iconst X dX8_takesClause_174 ?_
                        exact ret _ _ _ _ _ _ _ dX8_takesClause_175 Y (by first | exact Or.inl rfl | exact Or.inr rfl | omega) (CQ8_bad hnb hlt hW (by omega))
                      · have HT2 := hW.tm HT c158
                        refine r_aload_n X dX8_takesClause_161 hl 4 rfl ?_
                        refine r_bipush X 59 dX8_takesClause_162 (by decide) ?_
                        refine vR_i X Y [.int (iV (59))] [] (ct_X8_takes l g tq3 fq3 x n HT2) mk_X8_takes mi_X8_takes wm_895 (by decide) (rv_8 Y rfl) rfl hl (Nat.le_of_ble_eq_true rfl) rfl dX8_takesClause_164 (Nat.zero_le _) (Nat.zero_le _) (fun zq4 tq4 fq4 H locs hq4 Y => ?_)
                        have hzr2 : zq4 = 0 ∨ zq4 = 1 := by rcases hq4.2.2 with h9 | h9; exact Or.inr h9.2.1; exact Or.inl h9.2.1
                        refine r_if_eq X (tgt := 174) dX8_takesClause_167 (by decide) ⟨by omega, by omega⟩ (fun c167 => ?_) (fun c167 => ?_)
                        · refine r_iconst X dX8_takesClause_174 ?_
                          exact ret _ _ _ _ _ _ _ dX8_takesClause_175 Y (by first | exact Or.inl rfl | exact Or.inr rfl | omega) (by have h9 := CQ8_end hx (by omega) hpn hnb hlt hW c158 hq4; rw [show zq4 = 0 by omega] at h9; exact h9)
                        · refine r_iconst X dX8_takesClause_170 ?_
                          refine r_goto X 175 dX8_takesClause_171 (by decide) ?_
                          exact ret _ _ _ _ _ _ _ dX8_takesClause_175 Y (by first | exact Or.inl rfl | exact Or.inr rfl | omega) (by have h9 := CQ8_end hx (by omega) hpn hnb hlt hW c158 hq4; rw [show zq4 = 1 by omega] at h9; exact h9)
                  · exact absurd c127 (by omega)
                · exact absurd c101 (by omega)
              · refine r_iconst X dX8_takesClause_78 ?_
                refine r_goto X 99 dX8_takesClause_79 (by decide) ?_
                refine r_istore_n X dX8_takesClause_99 hl [(3, .int (iV (1))), (2, .int (iV (1))), (1, .int (iV (x pp))), (0, .ref (g.1 + 100))] (by decide) rfl (fun ls hl => ?_)
                refine r_iload_n X dX8_takesClause_100 hl 0 rfl ?_
                refine r_if_eq X (tgt := 114) dX8_takesClause_101 (by decide) ⟨by omega, by omega⟩ (fun c101 => ?_) (fun c101 => ?_)
                · exact absurd c101 (by omega)
                · refine r_aload_n X dX8_takesClause_104 hl 3 rfl ?_
                  refine r_iconst X dX8_takesClause_105 ?_
                  refine r_aload_n X dX8_takesClause_106 hl 3 rfl ?_
                  refine g_8_16 (k := 100) X Y rfl wm_753 dX8_takesClause_107 ?_
                  refine r_eq (z' := pp) g16 ?_
                  refine vF_i X Y [.int (iV (3)), .int (iV (pp))] [] (ct_X8_fails l g tq1 f 3 pp ⟨by omega, by omega⟩ ⟨by omega, by omega⟩) mk_X8_fails mi_X8_fails wm_873 (by decide) (rv_8 Y rfl) rfl hl (Nat.le_of_ble_eq_true rfl) rfl dX8_takesClause_110 (Nat.zero_le _) (Nat.zero_le _) (fun H locs Y => ?_)
                  obtain ⟨tq2, htq2⟩ : ∃ q, q = up2 (up2 tq1 100 18 3) 100 19 pp := ⟨_, rfl⟩
                  have Y : uY g 117 (cX g tq2 f) s H locs := by rw [htq2]; exact Y
                  exact ret _ _ _ _ _ _ _ dX8_takesClause_113 Y (by first | exact Or.inl rfl | exact Or.inr rfl | omega) ⟨by rw [htq2]; exact ((gfr.up _ (Or.inr (Or.inr (Or.inr (Or.inl rfl))))).up _ (Or.inr (Or.inr (Or.inr (Or.inr rfl))))).c, fun _ _ _ => rfl, Or.inr (Or.inl ⟨by omega, by have hcap := cap8 t (w := w0) (by omega); omega, rfl, by rw [htq2, up2_ne _ _ (by omega), up2_s], by rw [htq2, up2_s]⟩)⟩
          · exact absurd c53 (by omega)
        · exact absurd c37 (by omega)
      · refine r_iload_n X dX8_takesClause_24 hl 0 rfl ?_
        refine r_bipush X 109 dX8_takesClause_25 (by decide) ?_
        refine r_icmp_ne X (tgt := 34) dX8_takesClause_27 (by decide) ⟨by omega, by omega⟩ ⟨by omega, by omega⟩ (fun c27 => ?_) (fun c27 => ?_)
        · refine r_iconst X dX8_takesClause_34 ?_
          refine r_istore_n X dX8_takesClause_35 hl [(2, .int (iV (0))), (1, .int (iV (x pp))), (0, .ref (g.1 + 100))] (by decide) rfl (fun ls hl => ?_)
          refine r_iload_n X dX8_takesClause_36 hl 0 rfl ?_
          refine r_if_ne X (tgt := 50) dX8_takesClause_37 (by decide) ⟨by omega, by omega⟩ (fun c37 => ?_) (fun c37 => ?_)
          · exact absurd c37 (by omega)
          · refine r_aload_n X dX8_takesClause_40 hl 2 rfl ?_
            refine r_iconst X dX8_takesClause_41 ?_
            refine r_aload_n X dX8_takesClause_42 hl 2 rfl ?_
            refine g_8_16 (k := 100) X Y rfl wm_753 dX8_takesClause_43 ?_
            refine r_eq (z' := pp) g16 ?_
            refine vF_i X Y [.int (iV (1)), .int (iV (pp))] [] (ct_X8_fails l g tq1 f 1 pp ⟨by omega, by omega⟩ ⟨by omega, by omega⟩) mk_X8_fails mi_X8_fails wm_873 (by decide) (rv_8 Y rfl) rfl hl (Nat.le_of_ble_eq_true rfl) rfl dX8_takesClause_46 (Nat.zero_le _) (Nat.zero_le _) (fun H locs Y => ?_)
            obtain ⟨tq2, htq2⟩ : ∃ q, q = up2 (up2 tq1 100 18 1) 100 19 pp := ⟨_, rfl⟩
            have Y : uY g 117 (cX g tq2 f) s H locs := by rw [htq2]; exact Y
            exact ret _ _ _ _ _ _ _ dX8_takesClause_49 Y (by first | exact Or.inl rfl | exact Or.inr rfl | omega) ⟨by rw [htq2]; exact ((gfr.up _ (Or.inr (Or.inr (Or.inr (Or.inl rfl))))).up _ (Or.inr (Or.inr (Or.inr (Or.inr rfl))))).c, fun _ _ _ => rfl, Or.inl ⟨by omega, rfl, by rw [htq2, up2_ne _ _ (by omega), up2_s], by rw [htq2, up2_s]⟩⟩
        · refine r_iconst X dX8_takesClause_30 ?_
          refine r_goto X 35 dX8_takesClause_31 (by decide) ?_
          refine r_istore_n X dX8_takesClause_35 hl [(2, .int (iV (1))), (1, .int (iV (x pp))), (0, .ref (g.1 + 100))] (by decide) rfl (fun ls hl => ?_)
          refine r_iload_n X dX8_takesClause_36 hl 0 rfl ?_
          refine r_if_ne X (tgt := 50) dX8_takesClause_37 (by decide) ⟨by omega, by omega⟩ (fun c37 => ?_) (fun c37 => ?_)
          · refine r_iload_n X dX8_takesClause_50 hl 1 rfl ?_
            refine r_bipush X 115 dX8_takesClause_51 (by decide) ?_
            refine r_icmp_ne X (tgt := 63) dX8_takesClause_53 (by decide) ⟨by omega, by omega⟩ ⟨by omega, by omega⟩ (fun c53 => ?_) (fun c53 => ?_)
            · refine r_iload_n X dX8_takesClause_63 hl 1 rfl ?_
              refine r_bipush X 108 dX8_takesClause_64 (by decide) ?_
              refine r_icmp_ne X (tgt := 86) dX8_takesClause_66 (by decide) ⟨by omega, by omega⟩ ⟨by omega, by omega⟩ (fun c66 => ?_) (fun c66 => ?_)
              · refine r_aload_n X dX8_takesClause_86 hl 2 rfl ?_
                refine g_8_24 (k := 100) X Y rfl wm_761 dX8_takesClause_87 ?_
                refine r_iconst X dX8_takesClause_90 ?_
                refine r_icmp_ne X (tgt := 98) dX8_takesClause_91 (by decide) ⟨by omega, by omega⟩ ⟨by omega, by omega⟩ (fun c91 => ?_) (fun c91 => ?_)
                · refine r_iconst X dX8_takesClause_98 ?_
                  refine r_istore_n X dX8_takesClause_99 hl [(3, .int (iV (0))), (2, .int (iV (1))), (1, .int (iV (x pp))), (0, .ref (g.1 + 100))] (by decide) rfl (fun ls hl => ?_)
                  refine r_iload_n X dX8_takesClause_100 hl 0 rfl ?_
                  refine r_if_eq X (tgt := 114) dX8_takesClause_101 (by decide) ⟨by omega, by omega⟩ (fun c101 => ?_) (fun c101 => ?_)
                  · refine r_aload_n X dX8_takesClause_114 hl 3 rfl ?_
                    refine r_dup X dX8_takesClause_115 rfl ?_
                    refine g_8_15 (k := 100) X Y rfl wm_752 dX8_takesClause_116 ?_
                    refine r_eq (z' := pp) g15 ?_
                    refine r_iconst X dX8_takesClause_119 ?_
                    refine r_iadd X dX8_takesClause_120 ?_
                    refine p_8_15 (k := 100) X Y rfl wm_752 dX8_takesClause_121 (fun H locs Y => ?_)
                    obtain ⟨tq2, htq2⟩ : ∃ q, q = up2 tq1 100 15 (pp + 1) := ⟨_, rfl⟩
                    have Y : uY g 117 (cX g tq2 f) s H locs := by rw [htq2]; exact Y
                    have gf2 : RDf t tq2 := by rw [htq2]; exact gfr.up _ (Or.inl rfl)
                    have h18b : tq2 100 18 = t 100 18 ∧ tq2 100 19 = t 100 19 := by rw [htq2, up2_ne _ _ (by omega), up2_ne _ _ (by omega)]; exact ⟨g18, g19⟩
                    have hp15 : tq2 100 15 = pp + 1 := by rw [htq2, up2_s]
                    have HT1 : TM x n tq2 f := HT.of (gf2 100 14 (by unfold rdj; omega)) (by omega) (fun _ => rfl)
                    have hcap := cap8 t (w := w0) (by omega)
                    have hnb : ¬ (w0 = -1 ∨ (¬ w0 = 0 ∧ t 100 20 = 0)) := by omega
                    have hlt : cn8 t w0 < tm (tbC w0) := by omega
                    have g22b : tq2 100 22 = t 100 22 := gf2 100 22 (by unfold rdj; omega)
                    have g24b : tq2 100 24 = t 100 24 := gf2 100 24 (by unfold rdj; omega)
                    refine r_iload_n X dX8_takesClause_124 hl 2 rfl ?_
                    refine r_bipush X 115 dX8_takesClause_125 (by decide) ?_
                    refine r_icmp_ne X (tgt := 137) dX8_takesClause_127 (by decide) ⟨by omega, by omega⟩ ⟨by omega, by omega⟩ (fun c127 => ?_) (fun c127 => ?_)
                    · refine r_iload_n X dX8_takesClause_137 hl 2 rfl ?_
                      refine r_bipush X 108 dX8_takesClause_138 (by decide) ?_
                      refine r_icmp_ne X (tgt := 150) dX8_takesClause_140 (by decide) ⟨by omega, by omega⟩ ⟨by omega, by omega⟩ (fun c140 => ?_) (fun c140 => ?_)
                      · refine r_aload_n X dX8_takesClause_150 hl 3 rfl ?_
                        refine vR_i X Y [] [] (ct_X8_takesLender l g tq2 f x n pp HT1 hp15 (by omega) (by omega)) mk_X8_takesLender mi_X8_takesLender wm_891 (by decide) (rv_8 Y rfl) rfl hl (Nat.le_of_ble_eq_true rfl) rfl dX8_takesClause_151 (Nat.zero_le _) (Nat.zero_le _) (fun zq3 tq3 fq3 H locs hq3 Y => ?_)
                        rw [g24b] at hq3
                        have hW : WQ8 x n w0 pp t f zq3 tq3 fq3 := by rw [show w0 = 2 by omega]; exact WQ8_m gf2 h18b hq3
                        have hzr : zq3 = 0 ∨ zq3 = 1 := by rcases hW.2.2 with h9 | h9; exact Or.inl h9.1; exact Or.inr h9.1
                        refine r_istore X dX8_takesClause_154 hl [(4, .int (iV (zq3))), (3, .int (iV (0))), (2, .int (iV (1))), (1, .int (iV (x pp))), (0, .ref (g.1 + 100))] (by decide) rfl (fun ls hl => ?_)
                        refine r_iload X dX8_takesClause_156 hl 0 rfl ?_
                        refine r_if_eq X (tgt := 174) dX8_takesClause_158 (by decide) ⟨by omega, by omega⟩ (fun c158 => ?_) (fun c158 => ?_)
                        · refine r_iconst X dX8_takesClause_174 ?_
                          exact ret _ _ _ _ _ _ _ dX8_takesClause_175 Y (by first | exact Or.inl rfl | exact Or.inr rfl | omega) (CQ8_bad hnb hlt hW (by omega))
                        · have HT2 := hW.tm HT c158
                          refine r_aload_n X dX8_takesClause_161 hl 4 rfl ?_
                          refine r_bipush X 59 dX8_takesClause_162 (by decide) ?_
                          refine vR_i X Y [.int (iV (59))] [] (ct_X8_takes l g tq3 fq3 x n HT2) mk_X8_takes mi_X8_takes wm_895 (by decide) (rv_8 Y rfl) rfl hl (Nat.le_of_ble_eq_true rfl) rfl dX8_takesClause_164 (Nat.zero_le _) (Nat.zero_le _) (fun zq4 tq4 fq4 H locs hq4 Y => ?_)
                          have hzr2 : zq4 = 0 ∨ zq4 = 1 := by rcases hq4.2.2 with h9 | h9; exact Or.inr h9.2.1; exact Or.inl h9.2.1
                          refine r_if_eq X (tgt := 174) dX8_takesClause_167 (by decide) ⟨by omega, by omega⟩ (fun c167 => ?_) (fun c167 => ?_)
                          · refine r_iconst X dX8_takesClause_174 ?_
                            exact ret _ _ _ _ _ _ _ dX8_takesClause_175 Y (by first | exact Or.inl rfl | exact Or.inr rfl | omega) (by have h9 := CQ8_end hx (by omega) hpn hnb hlt hW c158 hq4; rw [show zq4 = 0 by omega] at h9; exact h9)
                          · refine r_iconst X dX8_takesClause_170 ?_
                            refine r_goto X 175 dX8_takesClause_171 (by decide) ?_
                            exact ret _ _ _ _ _ _ _ dX8_takesClause_175 Y (by first | exact Or.inl rfl | exact Or.inr rfl | omega) (by have h9 := CQ8_end hx (by omega) hpn hnb hlt hW c158 hq4; rw [show zq4 = 1 by omega] at h9; exact h9)
                      · exact absurd c140 (by omega)
                    · exact absurd c127 (by omega)
                  · exact absurd c101 (by omega)
                · refine r_iconst X dX8_takesClause_94 ?_
                  refine r_goto X 99 dX8_takesClause_95 (by decide) ?_
                  refine r_istore_n X dX8_takesClause_99 hl [(3, .int (iV (1))), (2, .int (iV (1))), (1, .int (iV (x pp))), (0, .ref (g.1 + 100))] (by decide) rfl (fun ls hl => ?_)
                  refine r_iload_n X dX8_takesClause_100 hl 0 rfl ?_
                  refine r_if_eq X (tgt := 114) dX8_takesClause_101 (by decide) ⟨by omega, by omega⟩ (fun c101 => ?_) (fun c101 => ?_)
                  · exact absurd c101 (by omega)
                  · refine r_aload_n X dX8_takesClause_104 hl 3 rfl ?_
                    refine r_iconst X dX8_takesClause_105 ?_
                    refine r_aload_n X dX8_takesClause_106 hl 3 rfl ?_
                    refine g_8_16 (k := 100) X Y rfl wm_753 dX8_takesClause_107 ?_
                    refine r_eq (z' := pp) g16 ?_
                    refine vF_i X Y [.int (iV (3)), .int (iV (pp))] [] (ct_X8_fails l g tq1 f 3 pp ⟨by omega, by omega⟩ ⟨by omega, by omega⟩) mk_X8_fails mi_X8_fails wm_873 (by decide) (rv_8 Y rfl) rfl hl (Nat.le_of_ble_eq_true rfl) rfl dX8_takesClause_110 (Nat.zero_le _) (Nat.zero_le _) (fun H locs Y => ?_)
                    obtain ⟨tq2, htq2⟩ : ∃ q, q = up2 (up2 tq1 100 18 3) 100 19 pp := ⟨_, rfl⟩
                    have Y : uY g 117 (cX g tq2 f) s H locs := by rw [htq2]; exact Y
                    exact ret _ _ _ _ _ _ _ dX8_takesClause_113 Y (by first | exact Or.inl rfl | exact Or.inr rfl | omega) ⟨by rw [htq2]; exact ((gfr.up _ (Or.inr (Or.inr (Or.inr (Or.inl rfl))))).up _ (Or.inr (Or.inr (Or.inr (Or.inr rfl))))).c, fun _ _ _ => rfl, Or.inr (Or.inl ⟨by omega, by have hcap := cap8 t (w := w0) (by omega); omega, rfl, by rw [htq2, up2_ne _ _ (by omega), up2_s], by rw [htq2, up2_s]⟩)⟩
              · exact absurd c66 (by omega)
            · exact absurd c53 (by omega)
          · exact absurd c37 (by omega)

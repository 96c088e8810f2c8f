theorem fail_fin {S T : St} {n nl nc : Nat} {c cl : Nat → Nat} (h : RelS S T n c nl cl nc) (e : Int32) (he : ¬ e = 15 ∧ ¬ e = 16) (e21 : gI T 21 = 0) (e22 : gI T 22 = 0) : ∃ r S2 T2, ((x_Report_begin S).bind fun q4 => (x_Report_fail q4 e (-1) (-1)).bind fun q5 => (x_Row_empty 5 q5).bind fun q6 => some ((-e), q6)) = some (r, S2) ∧ ((m_M_without T e).bind fun q => some (q.1, q.2)) = some (r, T2) ∧ RelN S2 T2 n c nl cl nc := by
  refine ⟨-e, sI (sI (sI (sI (sI (sI (sI (sI (sI (sI (sI (sI S 13 0) 14 0) 15 0) 16 0) 30 (-1)) 31 0) 32 (-1)) 33 (-1)) 31 e) 32 (-1)) 33 (-1)) 5 0, sI (sI (sI (sI (sI T 16 0) 18 e) 19 (-1)) 20 (-1)) 5 0, rfl, rfl, ?_, ⟨0, by omega, rfl, rfl, rfl, rfl, fun k hk => absurd hk (by omega), fun k hk => absurd hk (by omega), fun k hk => absurd hk (by omega)⟩, rfl, rfl, rfl, Or.inl ⟨e21, he.1, he.2⟩, Or.inl ⟨rfl, e22⟩, Or.inl rfl⟩
  have f : FrX S (sI (sI (sI (sI (sI (sI (sI (sI (sI (sI (sI S 13 0) 14 0) 15 0) 16 0) 30 (-1)) 31 0) 32 (-1)) 33 (-1)) 31 e) 32 (-1)) 33 (-1)) := ((((((((((Fr.rf.sI rfl).sI rfl).sI rfl).sI rfl).sI rfl).sI rfl).sI rfl).sI rfl).sI rfl).sI rfl).sI rfl
  have g : FrY T (sI (sI (sI (sI T 16 0) 18 e) 19 (-1)) 20 (-1)) := (((Fr.rf.sI rfl).sI rfl).sI rfl).sI rfl
  exact (h.frx f g).clear
theorem cmd_fin {S T : St} {n nl nc : Nat} {c cl : Nat → Nat} (h : RelS S T n c nl cl nc) (h1 : 1 ≤ nc) (e17 : gI T 17 = 1) (e21 : gI T 21 = 0) (e22 : gI T 22 = 0) : ∃ r S2 T2, ((x_G_tryCommand S).bind fun q7 => some (q7.1, q7.2)) = some (r, S2) ∧ ((m_M_isTried T).bind fun q => some (q.1, q.2)) = some (r, T2) ∧ RelN S2 T2 n c nl cl nc := by
  obtain ⟨r, S2, T2, a1, a2, a3⟩ := cmd_step h h1 e17 e21 e22
  exact ⟨r, S2, T2, by rw [a1, bind_s], by rw [a2, bind_s], a3⟩
theorem x_choose {S : St} {e : Nat} (g7 : gI S 7 = nI e) (he : e ≤ 60) (to : Int32) : x_G_chooseCommand S to = if e = 1 ∧ gA S 7 0 = 5 then x_G_chooseCommand_b105 S to 1 0 else if e = 2 ∧ gA S 7 0 = 6 then x_G_chooseCommand_b58 S to 0 1 else x_G_chooseCommand_b140 S to 0 0 := by
  have hat : ∀ j : Nat, j < e → x_Row_at 7 S (nI j) = some (gA S 7 j, S) := by
    intro j hj
    rw [x_at (r := 7) g7 (show e ≤ 60 from he) (by decide), rat_nI hj (by omega)]
  have h27 : ¬ (e = 1 ∧ gA S 7 0 = 5) → x_G_chooseCommand_b27 S to = if e = 2 ∧ gA S 7 0 = 6 then x_G_chooseCommand_b58 S to 0 1 else x_G_chooseCommand_b140 S to 0 0 := by
    intro _
    have h57 : x_G_chooseCommand_b57 S to 0 = x_G_chooseCommand_b140 S to 0 0 := by
      unfold x_G_chooseCommand_b57 x_G_chooseCommand_b58 x_G_chooseCommand_b105
      rw [if_pos rfl, if_pos rfl]
    unfold x_G_chooseCommand_b27 x_G_chooseCommand_b28
    rw [x_size, bind_s]
    dsimp only
    rw [g7]
    by_cases h2 : e = 2
    · rw [if_pos (show nI e = 2 by rw [h2]; rfl), show x_Row_at 7 S 0 = some (gA S 7 0, S) from hat 0 (by omega), bind_s]
      dsimp only
      by_cases h6 : gA S 7 0 = 6
      · rw [if_pos h6, if_pos ⟨h2, h6⟩]
      · rw [if_neg h6, if_neg (fun z => h6 z.2), h57]
    · rw [if_neg (n_2 h2 (by omega)), if_neg (fun z => h2 z.1), h57]
  unfold x_G_chooseCommand
  rw [x_size, bind_s]
  dsimp only
  rw [g7]
  by_cases h1 : e = 1
  · rw [if_pos (show nI e = 1 by rw [h1]; rfl), show x_Row_at 7 S 0 = some (gA S 7 0, S) from hat 0 (by omega), bind_s]
    dsimp only
    by_cases h5 : gA S 7 0 = 5
    · rw [if_pos h5, if_pos ⟨h1, h5⟩]
      unfold x_G_chooseCommand_b28
      rw [x_size, bind_s]
      dsimp only
      rw [g7, if_neg (n_2 (show ¬ e = 2 by omega) (by omega))]
      unfold x_G_chooseCommand_b57 x_G_chooseCommand_b58
      rw [if_pos rfl]
    · rw [if_neg h5, if_neg (fun z => h5 z.2)]
      exact h27 (fun z => h5 z.2)
  · rw [if_neg (n_1 h1 (by omega)), if_neg (fun z => h1 z.1)]
    exact h27 (fun z => h1 z.1)
theorem x_b140 {S S4 : St} {e : Nat} (he : e ≤ 60) (hb : x_Row_become 6 7 S = some S4) (g : gI S4 7 = nI e) (to x2 x3 : Int32) : x_G_chooseCommand_b140 S to x2 x3 = if e = 0 then some (1, sI S4 35 to) else if x2 = 0 then (if x3 = 0 then some (0, sI S4 35 to) else some (4, sI S4 35 to)) else some (3, sI S4 35 to) := by
  unfold x_G_chooseCommand_b140
  rw [hb, bind_s, x_size, bind_s]
  dsimp only
  rw [show gI (sI S4 35 to) 7 = nI e from g]
  by_cases h0 : e = 0
  · rw [if_pos h0, if_pos (show nI e = 0 by rw [h0]; rfl)]
  · rw [if_neg h0, if_neg (nI_ne0 (by omega) (by omega))]
theorem parse_step {S T : St} {n nl nc : Nat} {c cl : Nat → Nat} (h : RelN S T n c nl cl nc) : ∃ r S2 T2 nc2, x_G_parse S = some (r, S2) ∧ m_M_parse T = some (r, T2) ∧ RelN S2 T2 n c nl cl nc2 := by
  obtain ⟨hS, hT, r31, r32, r33, hA, hAc, hPl⟩ := h
  obtain ⟨to, S1, T1, o1, o2, o3, o4, o5, o6, o7, o8, o9, -⟩ := order_step hS
  obtain ⟨hV, hTh, hL, hP, hO, ⟨ni, i0, i1, i2, i3, i4⟩, ⟨c0, c1, c2, c3, c4⟩, hD, hW⟩ := id o3
  have hIN : INn (sI S1 7 0) T1 ni := ⟨i0, i1, i2, i3, i4⟩
  have hPC : PlC T1 (gI T 17) := by
    unfold PlC
    rw [o8, o9, ← r31, ← r32]
    exact hPl
  obtain ⟨e, S2, k1, k2, k3, k4, k5, k6⟩ := take_l (T := T1) (gI T 17) (gI T 15) ni fu fu 0 (sI S1 7 0) hV hIN (by omega) rfl (fun k hk => absurd hk (by omega)) (show ni < 100000 by omega) (show ni < 100000 by omega)
  have hIN2 : INn S2 T1 ni := ⟨i0, (k4.1 5 rfl).trans i1, i2, by rw [k4.2.2.1 5 rfl]; exact i3, by rw [k4.2.2.1 5 rfl]; exact i4⟩
  obtain ⟨S3, d1, d2, d3⟩ := x_drop (m := e + 1) hIN2 (by omega)
  obtain ⟨d, hd⟩ : ∃ d, (if ni < e + 1 then ni else e + 1) = d := ⟨_, rfl⟩
  rw [hd] at d3
  have hdn : d ≤ ni := by
    rw [← hd]
    by_cases hz : ni < e + 1
    · rw [if_pos hz]; omega
    · rw [if_neg hz]; omega
  have htc : x_G_takeCommand S1 = some S3 := by
    unfold x_G_takeCommand
    rw [x_empty, bind_s]
    show x_G_takeCommand_b9 fu (sI S1 7 0) (nI 0) = _
    rw [k2]
    unfold x_G_takeCommand_b49
    rw [show nI e + (1 : Int32) = nI (e + 1) from nI_1 e, d1, bind_s]
  have hx : x_G_parse S = (x_G_chooseCommand S3 to).bind fun q3 => if q3.1 = 0 then (x_G_tryCommand q3.2).bind fun q7 => some (q7.1, q7.2) else (x_Report_begin q3.2).bind fun q4 => (x_Report_fail q4 q3.1 (-1) (-1)).bind fun q5 => (x_Row_empty 5 q5).bind fun q6 => some ((-q3.1), q6) := by
    unfold x_G_parse
    rw [o1, bind_s]
    dsimp only
    rw [htc, bind_s]
  have hm : m_M_parse T = m_M_parse_b87 T1 (gI T 17) (gI T 15) (nI e) := by
    unfold m_M_parse
    rw [o2, bind_s]
    exact k3
  have he60 : e ≤ 60 := by omega
  have g7 : gI S3 7 = nI e := (d2.1 7 rfl).trans k5
  have w7 : ∀ k, k < e → gA S3 7 k = gA T1 14 k := by
    intro k hk
    rw [d2.2.2.1 7 rfl, k6 k hk]
    exact i3 k (by omega)
  have w7b : ∀ k, k < e → 0 < gA S3 7 k ∧ gA S3 7 k ≤ 19999 := by
    intro k hk
    rw [d2.2.2.1 7 rfl, k6 k hk]
    exact i4 k (by omega)
  have f13 : FrU S1 S3 := ((Fr.rf.sI rfl : FrU S1 (sI S1 7 0)).tr (FrW.u k4 rfl rfl)).tr (FrW.u d2 rfl rfl)
  have f03 : FrU (sI S1 35 to) S3 := (Fr.rf.sI rfl : FrU S1 (sI S1 35 to)).sym.tr f13
  have s6 : gI S3 6 = gI S1 6 := (d2.1 6 rfl).trans (k4.1 6 rfl)
  have a6 : gA S3 6 = gA S1 6 := (d2.2.2.1 6 rfl).trans (k4.2.2.1 6 rfl)
  have s8 : gI S3 8 = gI S1 8 := (d2.1 8 rfl).trans (k4.1 8 rfl)
  have a8 : gA S3 8 = gA S1 8 := (d2.2.2.1 8 rfl).trans (k4.2.2.1 8 rfl)
  have s36 : gI S3 36 = gI S1 36 := (d2.1 36 rfl).trans (k4.1 36 rfl)
  have s35 : gI S3 35 = gI T 15 := ((d2.1 35 rfl).trans (k4.1 35 rfl)).trans (o6.trans hS.2.2.2.2.2.2.2.2)
  have s32 : gI S3 32 = gI T1 19 := ((d2.1 32 rfl).trans (k4.1 32 rfl)).trans (o5.trans (r32.trans o9.symm))
  have gB0 : FrZ T1 (TBg T1) := ((Fr.rf.sI rfl).sI rfl).sI rfl
  have plain : ∀ x4 : Int32, ∃ S4 T2 T3, x_Row_become 6 7 S3 = some S4 ∧ gI S4 7 = nI e ∧ m_M_parse_b240 (TBg T1) (nI e) x4 = m_M_parse_b290 T2 (nI e) x4 (nI d) ∧ m_M_off T2 (nI d) = some T3 ∧ RelS (sI S4 35 to) T3 n c nl cl e ∧ gI T3 17 = 1 ∧ gI T3 21 = 0 ∧ gI T3 22 = 0 ∧ (∀ k, k < e → gA T3 24 k = gA T1 14 k) ∧ IR S3 T3 ∧ DR S3 T3 := by
    intro x4
    obtain ⟨S4, b1, b2, b3, b4⟩ := x_bec (r := 6) (r1 := 7) (n := e) (by decide) (show e ≤ 60 from he60) (show e ≤ 60 from he60) (by decide) (by decide) S3 g7
    obtain ⟨T2, m1, m2⟩ := m_b243_l (n := e) he60 x4 e fu 0 (TBg T1) (by omega) (show e < 100000 by omega)
    have hIN3 : INn S2 (sI T2 14 (nI e)) ni := ⟨i0, hIN2.2.1, (m2.1.1 5 rfl).trans i2, by show EqN ni (gA S2 5) (gA T2 14); rw [m2.1.2.2.1 14 rfl]; exact hIN2.2.2.2.1, hIN2.2.2.2.2⟩
    obtain ⟨T3, q1, q2, q3⟩ := m_off hIN3 hdn d3
    have gZ : FrZ T1 T3 := ((gB0.tr (m2.z rfl)).sI rfl).tr (FrJ.z q2)
    have hDR : DR S3 T3 := by
      unfold DR at hD ⊢
      rw [s8, a8, s36, q2.1 23 rfl, q2.2.2.1 28 rfl, q2.1 24 rfl, show gI (sI T2 14 (nI e)) 23 = gI T1 23 from m2.1.1 23 rfl, show gA (sI T2 14 (nI e)) 28 = gA T1 28 from m2.1.2.2.1 28 rfl, show gI (sI T2 14 (nI e)) 24 = gI T1 24 from m2.1.1 24 rfl]
      exact hD
    refine ⟨S4, sI T2 14 (nI e), T3, b1, (b2.1 7 rfl).trans g7, ?_, q1, ?_, ?_, ?_, ?_, ?_, q3, hDR⟩
    · unfold m_M_parse_b240
      refine (show m_M_parse_b243 fu (TBg T1) (nI e) x4 0 = _ from m1).trans ?_
      unfold m243E
      rw [show gI (sI T2 14 (nI e)) 5 = nI ni from hIN3.2.2.1]
      by_cases hz : ni ≤ e
      · rw [if_pos (nI_le hz (by omega)), ← hd, if_pos (show ni < e + 1 by omega), show ni = e by omega]
      · rw [if_neg (nI_ge (show e < ni by omega) (by omega)), ← hd, if_neg (show ¬ ni < e + 1 by omega), show nI e + (1 : Int32) = nI (e + 1) from nI_1 e]
    · refine o3.gen ((f03.tr (FrW.u b2 rfl rfl)).sI rfl) gZ ?_ ?_ ?_ ?_
      · unfold IR at q3 ⊢
        rw [show gI (sI S4 35 to) 5 = gI S3 5 from b2.1 5 rfl, show gA (sI S4 35 to) 5 = gA S3 5 from b2.2.2.1 5 rfl]
        exact q3
      · refine ⟨he60, b3, q2.1 14 rfl, ?_, ?_⟩
        · intro k hk
          rw [show gA (sI S4 35 to) 6 = gA S4 6 from rfl, b4 k hk, w7 k hk, q2.2.2.1 24 rfl]
          exact (m2.2.2 k (by omega) hk).symm
        · intro k hk
          rw [show gA (sI S4 35 to) 6 = gA S4 6 from rfl, b4 k hk]
          exact w7b k hk
      · unfold DR at hDR ⊢
        rw [show gI (sI S4 35 to) 8 = gI S3 8 from b2.1 8 rfl, show gA (sI S4 35 to) 8 = gA S3 8 from b2.2.2.1 8 rfl, show gI (sI S4 35 to) 36 = gI S3 36 from b2.1 36 rfl]
        exact hDR
      · exact hW.trans ((q2.1 15 rfl).trans (m2.1.1 15 rfl)).symm
    · exact (q2.1 17 rfl).trans ((m2.1.1 17 rfl).trans rfl)
    · exact (q2.1 21 rfl).trans ((m2.1.1 21 rfl).trans rfl)
    · exact (q2.1 22 rfl).trans ((m2.1.1 22 rfl).trans rfl)
    · intro k hk
      rw [q2.2.2.1 24 rfl]
      exact m2.2.2 k (by omega) hk
  rw [hx, hm, x_choose g7 he60]
  by_cases hag : e = 1 ∧ gA S3 7 0 = 5
  · have ho : ¬ (e = 2 ∧ gA T1 14 0 = 6) := fun z => by omega
    have h10 : gA T1 14 0 = 5 := by rw [← w7 0 (by omega)]; exact hag.2
    obtain ⟨S4, T2, T3, p1, p2, p3, p4, p5, p6, p7, p8, p9, p10, p11⟩ := plain 0
    have hmm : m_M_parse_b290 T2 (nI e) 0 (nI d) = if gI T3 23 = (-1) then ((m_M_without T3 3).bind fun q5 => some (q5.1, q5.2)) else m_M_parse_b362 fu (sI (sI T3 14 (gI T3 23)) 15 (gI (sI T3 14 (gI T3 23)) 24)) 0 := by
      unfold m_M_parse_b290
      rw [p4, bind_s, if_neg (nI_ne0 (by omega) (by omega)), if_pos rfl, if_pos (show nI e = 1 by rw [hag.1]; rfl), gd_t _ (by decide), if_pos (show gA T3 24 (Int32.toNatClampNeg 0) = 5 from (p9 0 (by omega)).trans h10)]
    rw [if_pos hag, b87_n c2 c0 he60 ho hPC, p3, hmm]
    unfold x_G_chooseCommand_b105
    rw [if_neg one_ne0, x_size, bind_s]
    dsimp only
    rcases id p11 with ⟨q1, q2⟩ | ⟨nd, q1, q2, q3, q4, q5, q6, q7⟩
    · rw [q1, if_pos (by decide), if_pos q2, x_b140 he60 p1 p2, if_neg (show ¬ e = 0 by omega), if_neg one_ne0, bind_s]
      dsimp only
      rw [if_neg (by decide)]
      obtain ⟨r, S5, T5, z1, z2, z3⟩ := fail_fin p5 3 ⟨by decide, by decide⟩ p7 p8
      exact ⟨r, S5, T5, e, z1, z2, z3⟩
    · obtain ⟨S5, b1, b2, b3, b4⟩ := x_bec (r := 6) (r1 := 8) (n := nd) (by decide) (show nd ≤ 60 from q2) (show nd ≤ 60 from q2) (by decide) (by decide) S3 q3
      obtain ⟨T5, m1, m2⟩ := m_b362_l (n := nd) q2 nd fu 0 (sI (sI T3 14 (nI nd)) 15 (gI T3 24)) q4 (by omega) (show nd < 100000 by omega)
      rw [q3, if_neg (nI_nle (by omega) (by omega)), b1, bind_s, bind_s]
      dsimp only
      rw [if_pos rfl, q4, if_neg (m1_ne (by omega))]
      have hR : RelS (sI S5 35 (gI S5 36)) T5 n c nl cl nd := by
        have fU : FrU (sI S4 35 to) (sI S5 35 (gI S5 36)) := ((Fr.sym ((FrW.u (show FrW 6 S3 S4 from by
          obtain ⟨S4', v1, v2, -, -⟩ := x_bec (r := 6) (r1 := 7) (n := e) (by decide) (show e ≤ 60 from he60) (show e ≤ 60 from he60) (by decide) (by decide) S3 g7
          rw [p1] at v1
          obtain rfl := Option.some.inj v1
          exact v2) rfl rfl).sI rfl)).tr (FrW.u b2 rfl rfl)).sI rfl
        have gZ : FrZ T3 T5 := ((Fr.rf.sI rfl).sI rfl : FrZ T3 (sI (sI T3 14 (nI nd)) 15 (gI T3 24))).tr (m2.z rfl)
        refine p5.gen fU gZ ?_ ?_ ?_ ?_
        · unfold IR at p10 ⊢
          rw [show gI (sI S5 35 (gI S5 36)) 5 = gI S3 5 from b2.1 5 rfl, show gA (sI S5 35 (gI S5 36)) 5 = gA S3 5 from b2.2.2.1 5 rfl, show gI T5 5 = gI T3 5 from m2.1.1 5 rfl, show gA T5 14 = gA T3 14 from m2.1.2.2.1 14 rfl]
          exact p10
        · refine ⟨q2, b3, m2.1.1 14 rfl, ?_, ?_⟩
          · intro k hk
            rw [show gA (sI S5 35 (gI S5 36)) 6 = gA S5 6 from rfl, b4 k hk, m2.2.2 k (by omega) hk]
            exact q5 k hk
          · intro k hk
            rw [show gA (sI S5 35 (gI S5 36)) 6 = gA S5 6 from rfl, b4 k hk]
            exact q6 k hk
        · unfold DR at p11 ⊢
          rw [show gI (sI S5 35 (gI S5 36)) 8 = gI S3 8 from b2.1 8 rfl, show gA (sI S5 35 (gI S5 36)) 8 = gA S3 8 from b2.2.2.1 8 rfl, show gI (sI S5 35 (gI S5 36)) 36 = gI S3 36 from b2.1 36 rfl, show gI T5 23 = gI T3 23 from m2.1.1 23 rfl, show gA T5 28 = gA T3 28 from m2.1.2.2.1 28 rfl, show gI T5 24 = gI T3 24 from m2.1.1 24 rfl]
          exact p11
        · rw [show gI (sI S5 35 (gI S5 36)) 35 = gI S5 36 from rfl, b2.1 36 rfl, q7]
          exact (m2.1.1 15 rfl).symm
      obtain ⟨r, S6, T6, z1, z2, z3⟩ := cmd_fin hR q1 ((m2.1.1 17 rfl).trans p6) ((m2.1.1 21 rfl).trans p7) ((m2.1.1 22 rfl).trans p8)
      refine ⟨r, S6, T6, nd, z1, ?_, z3⟩
      refine (show m_M_parse_b362 fu (sI (sI T3 14 (nI nd)) 15 (gI T3 24)) (nI 0) = _ from m1).trans ?_
      unfold m_M_parse_b391
      exact z2
  rw [if_neg hag]
  by_cases ho : e = 2 ∧ gA S3 7 0 = 6
  · obtain ⟨ho2, ho6⟩ := ho
    have h6 : gA T1 14 0 = 6 := by rw [← w7 0 (by omega)]; exact ho6
    rw [if_pos ⟨ho2, ho6⟩]
    have hrt : ∀ b : Nat, b ≤ 60 → gI T1 19 = nI b → ((rat (gA S3 6) nc (gI S3 32) = (-1)) ↔ nc ≤ b) := by
      intro b hb hb2
      rw [s32, hb2]
      by_cases hz : nc ≤ b
      · rw [rat_no hz (by omega)]; simp [hz]
      · rw [rat_nI (show b < nc by omega) (by omega), a6]
        have this : 0 < gA S1 6 b := (c4 b (by omega)).1
        constructor
        · intro q
          rw [show gA S1 6 b = (-1) from q] at this
          exact absurd this (by decide)
        · intro q; exact absurd q hz
    unfold x_G_chooseCommand_b58
    rw [if_neg one_ne0, x_at (r := 6) (S := S3) (n := nc) (s6.trans c1) (show nc ≤ 60 from c0) (by decide), bind_s]
    dsimp only
    by_cases hc : Can T1 nc
    · obtain ⟨b, b1, b2⟩ := id hc
      rw [if_neg (fun z => absurd ((hrt b (by omega) b2).mp z) (by omega)), show x_Row_at 7 S3 1 = some (gA S3 7 1, S3) by
        have := x_at (r := 7) (S := S3) g7 (show e ≤ 60 from he60) (by decide) (nI 1)
        rw [rat_nI (show 1 < e by omega) (by omega)] at this
        exact this, bind_s]
      dsimp only
      rw [s32, b2, x_put (r := 6) (S := S3) (n := nc) (s6.trans c1) (show nc ≤ 60 from c0) (by decide) b1, bind_s, bind_s]
      dsimp only
      rw [if_pos rfl]
      have hm2 := b87_o c2 c0 i2 i0 (by omega) h6 hPC hc (gI T 15)
      rw [ho2] at hd
      rw [hd] at hm2
      rw [ho2, hm2]
      have hIN3 : INn S2 (TBg T1) ni := ⟨i0, hIN2.2.1, i2, hIN2.2.2.2.1, hIN2.2.2.2.2⟩
      obtain ⟨T3, q1, q2, q3⟩ := m_off hIN3 hdn d3
      have hw1 : gA T1 14 1 = gA S3 7 1 := (w7 1 (by omega)).symm
      have hmm : m_M_parse_b216 (TBg T1) (gI T 15) (gA T1 14 1) (nI d) = (m_M_isTried (sI (sA T3 24 b (gA S3 7 1)) 15 (gI T 15))).bind fun q9 => some (q9.1, q9.2) := by
        unfold m_M_parse_b216
        rw [q1, bind_s, show gI T3 19 = nI b from (q2.1 19 rfl).trans b2, gd_t _ (vin_nI (show b < 60 by omega) (by omega)), nI_clamp (show b < 2 ^ 31 by omega), hw1]
      rw [hmm]
      have hR : RelS (sA S3 6 b (gA S3 7 1)) (sI (sA T3 24 b (gA S3 7 1)) 15 (gI T 15)) n c nl cl nc := by
        refine o3.gen (f03.sA rfl) (((gB0.tr (FrJ.z q2)).sA rfl).sI rfl) q3 ?_ ?_ s35
        · refine ⟨c0, s6.trans c1, (q2.1 14 rfl).trans c2, ?_, ?_⟩
          · rw [gA_sA, if_pos rfl, show gA (sI (sA T3 24 b (gA S3 7 1)) 15 (gI T 15)) 24 = upd (gA T3 24) b (gA S3 7 1) by rw [gA_sI, gA_sA, if_pos rfl]]
            refine EqN.st ?_
            rw [a6, q2.2.2.1 24 rfl]
            exact c3
          · intro k hk
            rw [gA_sA, if_pos rfl]
            by_cases hkb : k = b
            · rw [hkb, upd_self]; exact w7b 1 (by omega)
            · rw [upd_ne hkb, a6]; exact c4 k hk
        · unfold DR at hD ⊢
          rw [show gI (sA S3 6 b (gA S3 7 1)) 8 = gI S1 8 from s8, show gA (sA S3 6 b (gA S3 7 1)) 8 = gA S1 8 from a8, show gI (sA S3 6 b (gA S3 7 1)) 36 = gI S1 36 from s36, show gI (sI (sA T3 24 b (gA S3 7 1)) 15 (gI T 15)) 23 = gI T1 23 from q2.1 23 rfl, show gA (sI (sA T3 24 b (gA S3 7 1)) 15 (gI T 15)) 28 = gA T1 28 from q2.2.2.1 28 rfl, show gI (sI (sA T3 24 b (gA S3 7 1)) 15 (gI T 15)) 24 = gI T1 24 from q2.1 24 rfl]
          exact hD
      obtain ⟨r, S6, T6, z1, z2, z3⟩ := cmd_fin hR (by omega) ((q2.1 17 rfl).trans rfl) ((q2.1 21 rfl).trans rfl) ((q2.1 22 rfl).trans rfl)
      exact ⟨r, S6, T6, nc, z1, z2, z3⟩
    · have hrn : rat (gA S3 6) nc (gI S3 32) = (-1) := by
        rcases id hPC with hp | ⟨-, -, -, -, -, b, b1, b2⟩
        · rw [s32, hp]; exact rat_neg (by decide)
        · refine (hrt b b1 b2).mpr ?_
          by_cases hz : nc ≤ b
          · exact hz
          · exact absurd ⟨b, by omega, b2⟩ hc
      obtain ⟨S4, T2, T3, p1, p2, p3, p4, p5, p6, p7, p8, p9, p10, p11⟩ := plain 1
      have hmm : m_M_parse_b290 T2 (nI e) 1 (nI d) = ((m_M_without T3 4).bind fun q5 => some (q5.1, q5.2)) := by
        unfold m_M_parse_b290
        rw [p4, bind_s, if_neg (nI_ne0 (by omega) (by omega)), if_neg one_ne0]
      have hm2 := b87_4 c2 c0 h6 hPC hc (gI T 15)
      rw [← ho2] at hm2
      rw [if_pos hrn, hm2, p3, hmm]
      unfold x_G_chooseCommand_b105
      rw [if_pos rfl, x_b140 he60 p1 p2, if_neg (show ¬ e = 0 by omega), if_pos rfl, if_neg one_ne0, bind_s]
      dsimp only
      rw [if_neg (by decide)]
      obtain ⟨r, S5, T5, z1, z2, z3⟩ := fail_fin p5 4 ⟨by decide, by decide⟩ p7 p8
      exact ⟨r, S5, T5, e, z1, z2, z3⟩
  · have hoT : ¬ (e = 2 ∧ gA T1 14 0 = 6) := fun z => ho ⟨z.1, by rw [w7 0 (by omega)]; exact z.2⟩
    obtain ⟨S4, T2, T3, p1, p2, p3, p4, p5, p6, p7, p8, p9, p10, p11⟩ := plain 0
    rw [if_neg ho, b87_n c2 c0 he60 hoT hPC, p3, x_b140 he60 p1 p2]
    unfold m_M_parse_b290
    rw [p4, bind_s]
    by_cases h0 : e = 0
    · rw [if_pos h0, if_pos (show nI e = 0 by rw [h0]; rfl), bind_s]
      dsimp only
      rw [if_neg one_ne0]
      obtain ⟨r, S5, T5, z1, z2, z3⟩ := fail_fin p5 1 ⟨by decide, by decide⟩ p7 p8
      exact ⟨r, S5, T5, e, z1, z2, z3⟩
    · rw [if_neg h0, if_neg (nI_ne0 (by omega) (by omega)), if_pos rfl, if_pos rfl, if_pos rfl, bind_s]
      dsimp only
      rw [if_pos rfl]
      obtain ⟨r, S6, T6, z1, z2, z3⟩ := cmd_fin p5 (by omega) p6 p7 p8
      have h391 : m_M_parse_b391 T3 = some (r, T6) := z2
      refine ⟨r, S6, T6, e, z1, ?_, z3⟩
      by_cases h1 : e = 1
      · rw [if_pos (show nI e = 1 by rw [h1]; rfl), gd_t _ (by decide), if_neg (show ¬ gA T3 24 (Int32.toNatClampNeg 0) = 5 from fun z => hag ⟨h1, by rw [w7 0 (by omega), ← p9 0 (by omega)]; exact z⟩)]
        exact h391
      · rw [if_neg (n_1 h1 (by omega))]
        exact h391

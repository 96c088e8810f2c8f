theorem n_1 {e : Nat} (h : ¬ e = 1) (he : e < 2 ^ 31) : ¬ nI e = 1 := fun z => h ((nI_eq (b := 1) he (by omega)).mp z)
theorem n_2 {e : Nat} (h : ¬ e = 2) (he : e < 2 ^ 31) : ¬ nI e = 2 := fun z => h ((nI_eq (b := 2) he (by omega)).mp z)
theorem RelS.clear {S T : St} {n nl nc : Nat} {c cl : Nat → Nat} (h : RelS S T n c nl cl nc) : RelS (sI S 5 0) (sI T 5 0) n c nl cl nc := by
  obtain ⟨h1, h2, h3, h4, h5, h6, h7, h8, h9⟩ := h
  exact ⟨h1, h2, h3, h4, h5, ⟨0, by omega, rfl, rfl, fun k hk => absurd hk (by omega), fun k hk => absurd hk (by omega)⟩, h7, h8, h9⟩
theorem x_b120_e {S : St} (h30 : gI S 30 = (-1)) (n15 : ¬ gI S 31 = 15) (n16 : ¬ gI S 31 = 16) : x_G_tryCommand_b120 S = some (-(gI S 31), sI S 5 0) := by
  unfold x_G_tryCommand_b120 x_Report_isAsked
  rw [if_pos h30, if_neg n15, if_neg n16, bind_s]
  dsimp only
  rw [if_pos rfl, x_empty, bind_s]
  rfl
theorem x_b120_a {S : St} (h30 : gI S 30 = (-1)) (ha : gI S 31 = 15 ∨ gI S 31 = 16) : x_G_tryCommand_b120 S = some (0, S) := by
  unfold x_G_tryCommand_b120 x_Report_isAsked
  rw [if_pos h30]
  by_cases h15 : gI S 31 = 15
  · rw [if_pos h15, bind_s]
    dsimp only
    rw [if_neg one_ne0]
  · rw [if_neg h15, if_pos (ha.resolve_left h15), bind_s]
    dsimp only
    rw [if_neg one_ne0]
theorem Cp.y {a n i : Nat} {T T2 : St} (h : Cp a 15 n i T T2) : FrY T T2 := ⟨fun k _ => h.1.1 k rfl, fun k _ => h.1.2.1 k rfl, fun k hk => h.1.2.2.1 k (beq_ff (fun z => by subst z; cases hk)), fun k _ => h.1.2.2.2 k rfl⟩
/-- no line of the verb, or no verb: error 2 -/
theorem fin_2 {S T : St} {n nl nc : Nat} {c cl : Nat → Nat} (h : RelS S T n c nl cl nc) (hT : Tried S T 0) (h30 : gI S 30 = (-1)) (e17 : gI T 17 = 1) (e21 : gI T 21 = 0) (e22 : gI T 22 = 0) (x4 : Int32) : ∃ r S2 T2, x_G_tryCommand_b97 S = some (r, S2) ∧ m_M_isTried_b167 T (-1) x4 = some (r, T2) ∧ RelN S2 T2 n c nl cl nc := by
  have hx : x_G_tryCommand_b97 S = some (-(2 : Int32), sI (sI (sI (sI S 31 2) 32 0) 33 (-1)) 5 0) := by
    unfold x_G_tryCommand_b97
    rw [x_size, bind_s]
    dsimp only
    rw [hT.2.1, if_pos (show nI 0 = 0 from rfl)]
    show x_G_tryCommand_b120 (sI (sI (sI S 31 2) 32 0) 33 (-1)) = _
    rw [x_b120_e (S := sI (sI (sI S 31 2) 32 0) 33 (-1)) h30 (by show ¬ (2 : Int32) = 15; decide) (by show ¬ (2 : Int32) = 16; decide)]
    rfl
  have hm : m_M_isTried_b167 T (-1) x4 = some (-(2 : Int32), sI (sI (sI (sI (sI (sI T 16 0) 18 2) 19 (-1)) 20 (-1)) 5 0) 19 0) := by
    unfold m_M_isTried_b167
    rw [if_pos rfl]
    rfl
  refine ⟨_, _, _, hx, hm, ?_, ⟨0, ?_⟩, rfl, rfl, rfl, Or.inl ⟨e21, by show ¬ (2 : Int32) = 15; decide, by show ¬ (2 : Int32) = 16; decide⟩, Or.inl ⟨h30, e22⟩, Or.inr ⟨e17, by show ¬ (2 : Int32) = 0; decide, by show ¬ (2 : Int32) = 1; decide, by show ¬ (2 : Int32) = 3; decide, by show ¬ (2 : Int32) = 4; decide, 0, by omega, rfl⟩⟩
  · have f1 : FrX S (sI (sI (sI S 31 2) 32 0) 33 (-1)) := ((Fr.rf.sI rfl).sI rfl).sI rfl
    have f2 : FrY T (sI (sI (sI (sI T 16 0) 18 2) 19 (-1)) 20 (-1)) := (((Fr.rf.sI rfl).sI rfl).sI rfl).sI rfl
    exact ((h.frx f1 f2).clear).frx Fr.rf (Fr.rf.sI rfl)
  · obtain ⟨t0, t1, t2, t3, t4, t5, t6, t7⟩ := hT
    exact ⟨t0, t1, t2, t3, rfl, fun k hk => absurd hk (by omega), fun k hk => absurd hk (by omega), fun k hk => absurd hk (by omega)⟩
theorem Tried.fr {S T T2 : St} {nt : Nat} (h : Tried S T nt) (g : FrM T T2) : Tried S T2 nt := by
  unfold Tried at h ⊢
  rw [g.1 16 rfl, g.2.2.1 25 rfl, g.2.2.1 26 rfl, g.2.2.1 27 rfl]; exact h
theorem neg_e (x : Int32) {y : Int32} (h : x = y) : -x = -y := by rw [h]
theorem lt15 {e : Int32} (h16 : e ≤ 16) (h15 : (15 : Int32) ≤ e) : e = 15 ∨ e = 16 := by
  rw [Int32.le_iff_toInt_le] at h16 h15
  rw [show (16 : Int32).toInt = 16 from rfl] at h16
  rw [show (15 : Int32).toInt = 15 from rfl] at h15
  rcases (show e.toInt = 15 ∨ e.toInt = 16 by omega) with h | h
  · exact Or.inl (Int32.toInt_inj.mp h)
  · exact Or.inr (Int32.toInt_inj.mp h)
theorem ge5 {e : Int32} (h : 4 < e) : ¬ e = 0 ∧ ¬ e = 1 ∧ ¬ e = 3 ∧ ¬ e = 4 := by
  refine ⟨?_, ?_, ?_, ?_⟩ <;> (intro z; rw [z] at h; exact absurd h (by decide))
theorem DnF.fr {S S2 T T2 : St} {n : Nat} (h : DnF S T n) (a1 : gI S2 11 = gI S 11) (a2 : gA S2 11 = gA S 11) (a3 : gI S2 17 = gI S 17) (a4 : gI S2 19 = gI S 19) (a5 : gI S2 9 = gI S 9) (a6 : gA S2 9 = gA S 9) (a7 : gI S2 10 = gI S 10) (a8 : gA S2 10 = gA S 10) (b1 : gI T2 12 = gI T 12) (b2 : gA T2 17 = gA T 17) (b3 : gI T2 13 = gI T 13) (b4 : gA T2 15 = gA T 15) (b5 : gA T2 18 = gA T 18) (b6 : gB T2 20 = gB T 20) (b7 : gA T2 21 = gA T 21) (b8 : gA T2 22 = gA T 22) (b9 : gA T2 23 = gA T 23) : DnF S2 T2 n := by
  obtain ⟨h1, m, h2⟩ := h
  refine ⟨by rw [a1, a2, b1, b2]; exact h1, m, ?_⟩
  have d0 : Dn0 S T n → Dn0 S2 T2 n := by
    intro h; unfold Dn0 at h ⊢; rw [b4, a3, a5, a6, b5, b6, b7, b8, b9]; exact h
  have d1 : Dn1 S T n → Dn1 S2 T2 n := by
    intro h; unfold Dn1 at h ⊢; rw [b4, a4, a7, a8, b5, b6, b7, b8, b9]; exact h
  match m, h2 with
  | 0, ⟨s1, s2, s3⟩ => exact ⟨b3.trans s1, a3.trans s2, a4.trans s3⟩
  | 1, ⟨s1, s2, s3⟩ => exact ⟨b3.trans s1, d0 s2, a4.trans s3⟩
  | 2, ⟨s1, s2, s3⟩ => exact ⟨b3.trans s1, d0 s2, d1 s3⟩
theorem rel_ask {Sc S T : St} {n nc qn : Nat} (h : Ask15 Sc T n nc) (hn : n ≤ 40) (e12 : gI Sc 12 = nI qn) (hq : qn ≤ 40) (e16 : gI S 16 = nI qn) (ea : EqN qn (gA S 16) (gA Sc 12)) (e34 : gI S 34 = gI Sc 22) : Ask15R S T n nc := by
  obtain ⟨p, b, a1, a2, a3, a4, a5, a6, a7⟩ := h
  have hcl := card_le (p := p) n
  have hqc : qn = card p n := (nI_eq (by omega) (by omega)).mp (e12.symm.trans a2)
  have hp : ∀ k, k < n → (fun j => decide (j < n) && p j) k = p k := fun k hk => by simp [hk]
  refine ⟨fun j => decide (j < n) && p j, b, fun j hj => by simp [show ¬ j < n by omega], ?_, ?_, ?_, e34.trans a4, a5, a6⟩
  · rw [a1]; exact (bs_eq n hp).symm
  · rw [e16, hqc, card_eq n hp]
  · intro i hi hpi
    have h1 : p i = true := by rw [← hp i hi]; exact hpi
    have h2 : card (fun j => decide (j < n) && p j) i = card p i := card_eq i (fun k hk => hp k (by omega))
    have h3 := card_mono (p := p) (i := i + 1) n (by omega)
    have h4 : card p (i + 1) = card p i + 1 := by simp only [card, h1, if_true]
    rw [h2, ea _ (by omega)]
    exact a3 i hi h1
theorem rel_ask6 {Sc S T : St} {qn : Nat} (h : Ask16 Sc T) (e12 : gI Sc 12 = nI qn) (hq : qn ≤ 40) (e16 : gI S 16 = nI qn) (ea : EqN qn (gA S 16) (gA Sc 12)) : Ask16R S T := by
  obtain ⟨q, a1, a2, a3, a4, a5⟩ := h
  have hqc : qn = q + 1 := (nI_eq (by omega) (by omega)).mp (e12.symm.trans a2)
  refine ⟨q, a1, by rw [e16, hqc], a3, ?_, ?_⟩
  · rw [ea 0 (by omega)]; exact a4
  · intro j hj
    rw [ea (j + 1) (by omega)]; exact a5 j hj
/-- the command is tried -/
theorem cmd_step {S T : St} {n nl nc : Nat} {c cl : Nat → Nat} (h : RelS S T n c nl cl nc) (h1 : 1 ≤ nc) (e17 : gI T 17 = 1) (e21 : gI T 21 = 0) (e22 : gI T 22 = 0) : ∃ r S2 T2, x_G_tryCommand S = some (r, S2) ∧ m_M_isTried T = some (r, T2) ∧ RelN S2 T2 n c nl cl nc := by
  obtain ⟨hV, hTh, hL, hP, hO, hI, hC, hD, hW⟩ := id h
  obtain ⟨c0, c1, c2, c3, c4⟩ := id hC
  obtain ⟨T1, t1, t2⟩ := m_take24_l c0 nc fu 0 T (by omega) (show nc < 100000 by omega)
  obtain ⟨SB, hSB⟩ : ∃ SB, SB = sI (sI (sI (sI (sI (sI (sI (sI S 13 0) 14 0) 15 0) 16 0) 30 (-1)) 31 0) 32 (-1)) 33 (-1) := ⟨_, rfl⟩
  obtain ⟨TB, hTB⟩ : ∃ TB, TB = sI (sI T1 6 (nI nc)) 16 0 := ⟨_, rfl⟩
  have fB : FrX S SB := by rw [hSB]; exact (((((((Fr.rf.sI rfl).sI rfl).sI rfl).sI rfl).sI rfl).sI rfl).sI rfl).sI rfl
  have fT : FrY T TB := by rw [hTB]; exact (t2.y.sI rfl).sI rfl
  have hS := h.frx fB fT
  have hSC : SC SB TB n c nl cl nc := by
    refine ⟨hS.2.1, hS.2.2.1, hS.2.2.2.1, c0, hS.2.2.2.2.2.2.1.2.1, by rw [hTB]; rfl, ?_, ?_, hS.2.2.2.2.1⟩
    · intro k hk
      rw [fB.2.2.1 6 rfl, hTB]
      show gA S 6 k = gA T1 15 k
      rw [t2.2.2 k (by omega) hk]
      exact c3 k hk
    · intro k hk
      rw [fB.2.2.1 6 rfl]; exact c4 k hk
  have k17 : gI TB 17 = 1 := by rw [hTB]; show gI T1 17 = 1; rw [t2.1.1 17 rfl]; exact e17
  have k21 : gI TB 21 = 0 := by rw [hTB]; show gI T1 21 = 0; rw [t2.1.1 21 rfl]; exact e21
  have k22 : gI TB 22 = 0 := by rw [hTB]; show gI T1 22 = 0; rw [t2.1.1 22 rfl]; exact e22
  have b30 : gI SB 30 = (-1) := by rw [hSB]; rfl
  have bT : Tried SB TB 0 := by rw [hSB, hTB]; exact ⟨by omega, rfl, rfl, rfl, rfl, fun k hk => absurd hk (by omega), fun k hk => absurd hk (by omega), fun k hk => absurd hk (by omega)⟩
  have bB : Bst SB nl (-1) 0 := by rw [hSB]; exact Or.inl ⟨rfl, rfl, rfl, rfl, rfl⟩
  obtain ⟨v, v1, v2⟩ := hS.1.find (gA S 6 0)
  have hx : x_G_tryCommand S = x_G_tryCommand_b25 fu SB v (nI 0) := by
    unfold x_G_tryCommand
    rw [show x_Report_begin S = some SB by rw [hSB]; rfl, bind_s, show (0 : Int32) = nI 0 from rfl, x_at (r := 6) (S := SB) (n := nc) hS.2.2.2.2.2.2.1.2.1 (show nc ≤ 60 from c0) (by decide), bind_s]
    dsimp only
    rw [rat_nI (show 0 < nc by omega) (by omega), fB.2.2.1 6 rfl, v1, bind_s]
  have hm : m_M_isTried T = m_M_isTried_b38 fu TB v (-1) 0 0 (nI 0) := by
    unfold m_M_isTried
    rw [c2, show m_M_take_24 T (nI nc) = _ from t1, bind_s, gd_t _ (by decide), ← hTB, show gA TB 24 (Int32.toNatClampNeg 0) = gA S 6 0 by rw [fT.2.2.1 24 rfl]; exact (c3 0 (by omega)).symm, v2, bind_s]
    rfl
  rw [hx, hm]
  obtain ⟨-, ⟨hnl, f1, f2, -⟩, -, -⟩ := id hSC
  by_cases hv : v = (-1)
  · subst hv
    rw [cmd_none f1 hnl b30 nl 0 fu (by omega) (show nl < 100000 by omega)]
    have hm2 : m_M_isTried_b38 fu TB (-1) (-1) 0 0 (nI 0) = m_M_isTried_b167 TB (-1) 0 := by
      show m_M_isTried_b38_f _ TB _ _ _ _ _ = _
      unfold m_M_isTried_b38_f
      rw [if_pos rfl]
      by_cases hc : gI TB 2 ≤ nI 0
      · rw [if_pos hc]
      · rw [if_neg hc]
    rw [hm2]
    exact fin_2 hS bT b30 k17 k21 k22 0
  · obtain ⟨S2, T2, best, x4, g1, g2, g3, g4, g5⟩ := cmd_l h1 v hv nl 0 fu fu 0 (-1) 0 SB TB hSC (by omega) bT (by omega) b30 bB ⟨fun _ => rfl, fun _ => rfl⟩ (show nl + 1 < 100000 by omega) (show nl + 1 < 100000 by omega)
    rw [g1, g2]
    have hS2 := hS.frx g3 (FrD.y g4)
    have hSC2 := hSC.frx g3 g4
    have j17 : gI T2 17 = 1 := (g4.1 17 rfl).trans k17
    have j21 : gI T2 21 = 0 := (g4.1 21 rfl).trans k21
    have j22 : gI T2 22 = 0 := (g4.1 22 rfl).trans k22
    rcases g5 with ⟨x0, nt, gr, a1, a2, a3, a4⟩ | ⟨x0, lb, nt, Sb, Sc, a1, a2, a3, a4, a5, a6, a7, a8, a9, a10, a11, a12⟩
    · rcases a3 with ⟨b1, -⟩ | ⟨lb, qn, Sb, Sc, b1, b2, b3, b4, b5, b6, b7, b8, b9, b10, b11, b12, b13, b14⟩
      · have hn0 := a4.mpr b1
        subst hn0
        rw [b1]
        exact fin_2 hS2 a1 a2 j17 j21 j22 x4
      · have hb1 : ¬ best = (-1) := by rw [b2]; exact m1_ne (by omega)
        have hnt : ¬ nt = 0 := fun z => hb1 (a4.mp z)
        obtain ⟨Sc', T3, r1, r2, r3, r4, r5⟩ := line_try (hSC2.frx b4.sym Fr.rf) b1 h1
        rw [b3] at r1
        obtain rfl := Option.some.inj r1
        have hTE : TrE Sc T3 n nc lb := by
          rcases r5 with r5 | r5
          · exact r5
          · exact absurd r5.2.1 b6
        obtain ⟨-, e, b, p1, p2, p3, p4, p5, p6, p7, p8, p9, -⟩ := id hTE
        have hS3 := hS2.frx Fr.rf (FrD.y (FrM.d r4))
        have hx97 : x_G_tryCommand_b97 S2 = x_G_tryCommand_b120 S2 := by
          unfold x_G_tryCommand_b97
          rw [x_size, bind_s]
          dsimp only
          rw [a1.2.1, if_neg (nI_ne0 (n := nt) (by omega) (by have := a1.1; omega))]
        have e31 : gI S2 31 = e := b7.trans p3
        have e32 : gI S2 32 = nI b := b8.trans p5
        obtain ⟨n0, n1, n3, n4⟩ := ge5 p1
        have hnc60 : nc ≤ 60 := c0
        rw [hx97]
        by_cases he : (15 : Int32) ≤ e
        · have hm3 : m_M_isTried_b167 T2 best x4 = some (0, sI (sI (sI (sI T3 18 e) 19 (nI b)) 20 (nI lb)) 21 e) := by
            unfold m_M_isTried_b167
            rw [if_neg hb1, b2, r2, bind_s, if_pos x0, p4, show gI (sI T3 18 e) 8 = nI b from p6, show gI (sI (sI (sI T3 18 e) 19 (nI b)) 20 (nI lb)) 7 = e from p4, if_pos he]
          rw [hm3, x_b120_a a2 (by rw [e31]; exact lt15 p2 he)]
          refine ⟨_, _, _, rfl, rfl, ?_, ⟨nt, (show Tried S2 T3 nt from a1.fr r4)⟩, e31, e32, b9, ?_, Or.inl ⟨a2, (r4.1 22 rfl).trans j22⟩, Or.inr ⟨(r4.1 17 rfl).trans j17, by rw [e31]; exact n0, by rw [e31]; exact n1, by rw [e31]; exact n3, by rw [e31]; exact n4, b, by omega, e32⟩⟩
          · exact hS3.frx Fr.rf ((((Fr.rf.sI rfl).sI rfl).sI rfl).sI rfl)
          · rcases lt15 p2 he with z | z
            · refine Or.inr (Or.inl ⟨z, e31.trans z, ?_⟩)
              exact rel_ask (T := T3) (p8 z) hTh.1 b10 b11 b12 b13 b14
            · refine Or.inr (Or.inr ⟨z, e31.trans z, ?_⟩)
              exact rel_ask6 (T := T3) (p9 z) b10 b11 b12 b13
        · have n15 : ¬ gI S2 31 = 15 := fun z => he (by rw [← e31, z]; decide)
          have n16 : ¬ gI S2 31 = 16 := fun z => he (by rw [← e31, z]; decide)
          have hm3 : m_M_isTried_b167 T2 best x4 = some (-e, sI (sI (sI (sI T3 18 e) 19 (nI b)) 20 (nI lb)) 5 0) := by
            unfold m_M_isTried_b167
            rw [if_neg hb1, b2, r2, bind_s, if_pos x0, p4, show gI (sI T3 18 e) 8 = nI b from p6, show gI (sI (sI (sI T3 18 e) 19 (nI b)) 20 (nI lb)) 7 = e from p4, if_neg he, show gI (sI (sI (sI (sI T3 18 e) 19 (nI b)) 20 (nI lb)) 5 0) 7 = e from p4]
          rw [hm3, x_b120_e a2 n15 n16, e31]
          refine ⟨_, _, _, rfl, rfl, ?_, ⟨nt, (show Tried S2 T3 nt from a1.fr r4)⟩, e31, e32, b9, Or.inl ⟨(r4.1 21 rfl).trans j21, n15, n16⟩, Or.inl ⟨a2, (r4.1 22 rfl).trans j22⟩, Or.inr ⟨(r4.1 17 rfl).trans j17, by show ¬ gI S2 31 = 0; rw [e31]; exact n0, by show ¬ gI S2 31 = 1; rw [e31]; exact n1, by show ¬ gI S2 31 = 3; rw [e31]; exact n3, by show ¬ gI S2 31 = 4; rw [e31]; exact n4, b, by omega, e32⟩⟩
          exact (hS3.frx Fr.rf (((Fr.rf.sI rfl).sI rfl).sI rfl)).clear
    · have hb1 : ¬ best = (-1) := by rw [a2]; exact m1_ne (by omega)
      obtain ⟨Sc', T3, r1, r2, r3, r4, r5⟩ := line_try (hSC2.frx a4.sym Fr.rf) a1 h1
      rw [a3] at r1
      obtain rfl := Option.some.inj r1
      have hTK : TrK Sc T3 n lb := by
        rcases r5 with r5 | r5
        · exact absurd a6 r5.ne.1
        · exact r5
      obtain ⟨-, p1, p2, p3, p4, p5⟩ := id hTK
      have hS3 := hS2.frx Fr.rf (FrD.y (FrM.d r4))
      obtain ⟨-, ⟨-, -, -, -, v4, -, -, v6, -⟩, -, -⟩ := id hSC2
      have hact : 0 < gI S2 30 := by rw [a9]; exact v6 lb a1
      have h30 : ¬ gI S2 30 = (-1) := fun z => by rw [z] at hact; exact absurd hact (by decide)
      have hC2 := hS2.2.2.2.2.2.2.1
      obtain ⟨S3, d1, d2, d3, d4⟩ := x_bec (r := 8) (r1 := 6) (n := nc) (by decide) (show nc ≤ 60 from c0) (show nc ≤ 60 from c0) (by decide) (by decide) S2 hC2.2.1
      have hx97 : x_G_tryCommand_b97 S2 = some (gI S2 30, sI S3 36 (gI S2 35)) := by
        unfold x_G_tryCommand_b97 x_G_tryCommand_b120
        rw [x_size, bind_s]
        dsimp only
        rw [a7.2.1, if_neg (nI_ne0 (n := nt) (by omega) (by have := a7.1; omega)), if_neg h30, d1, bind_s, d2.1 35 rfl, show gI (sI S3 36 (gI S2 35)) 30 = gI S2 30 from d2.1 30 rfl]
      have hC3 := hS3.2.2.2.2.2.2.1
      obtain ⟨T4, m1, m2⟩ := m_b242_l (n := nc) (lb := lb) c0 (by omega) nc fu 0 (sI (sI (sI (sI (sI (sI T3 18 0) 19 (-1)) 20 (nI lb)) 22 1) 23 (nI nc)) 24 (gI T3 15)) hC3.2.2.1 (by omega) (show nc < 100000 by omega)
      have hm3 : m_M_isTried_b167 T2 best x4 = some (gA T3 3 lb, T4) := by
        unfold m_M_isTried_b167
        rw [if_neg hb1, a2, r2, bind_s, if_neg (by rw [x0]; decide), p2, show gI (sI T3 18 0) 8 = (-1) from p4, show gI (sI (sI (sI (sI T3 18 0) 19 (-1)) 20 (nI lb)) 22 1) 14 = nI nc from hC3.2.2.1]
        exact m1
      have hr : gA T3 3 lb = gI S2 30 := by rw [a9, r4.2.2.1 3 rfl]; exact (v4 lb a1).symm
      rw [hx97, hm3, hr]
      refine ⟨_, _, _, rfl, rfl, ?_, ⟨nt, ?_⟩, ?_, ?_, ?_, Or.inl ⟨?_, ?_, ?_⟩, Or.inr ⟨?_, ?_, ⟨lb, a1, ?_⟩, ?_⟩, Or.inl ?_⟩
      · obtain ⟨q1, q2, q3, q4, q5, q6, q7, q8, q9⟩ := hS3
        have gT : ∀ k, ¬ k = 28 → gA T4 k = gA T3 k := fun k hk => m2.1.2.2.1 k (beq_ff hk)
        have gTI : ∀ k, gI T4 k = gI (sI (sI (sI (sI (sI (sI T3 18 0) 19 (-1)) 20 (nI lb)) 22 1) 23 (nI nc)) 24 (gI T3 15)) k := fun k => m2.1.1 k rfl
        have gS : ∀ k, ¬ k = 8 → gI (sI S3 36 (gI S2 35)) k = if k = 36 then gI S2 35 else gI S2 k := fun k hk => by
          rw [gI_sI]
          by_cases z : k = 36
          · rw [if_pos z, if_pos z]
          · rw [if_neg z, if_neg z]; exact d2.1 k (beq_ff hk)
        have gSA : ∀ k, ¬ k = 8 → gA (sI S3 36 (gI S2 35)) k = gA S2 k := fun k hk => d2.2.2.1 k (beq_ff hk)
        have gSL : ∀ k, gL (sI S3 36 (gI S2 35)) k = gL S2 k := fun k => d2.2.1 k rfl
        refine ⟨?_, ?_, ?_, ?_, ?_, ?_, ?_, ?_, ?_⟩
        · unfold VR at q1 ⊢
          rw [gS 24 (by decide), gS 0 (by decide), gS 1 (by decide), gSA 0 (by decide), gSA 1 (by decide), gTI 0, gTI 1, gT 0 (by decide), gT 1 (by decide)]
          exact q1
        · unfold TRn at q2 ⊢
          rw [gS 23 (by decide), gTI 3, gSA 17 (by decide), gT 8 (by decide), gSA 18 (by decide), gT 9 (by decide), gSA 19 (by decide), gT 10 (by decide), gSL 4, gSL 5, gSL 6, gSL 7]
          exact q2
        · unfold LRn at q3 ⊢
          rw [gS 25 (by decide), gTI 2, gSA 20 (by decide), gT 2 (by decide), gSA 21 (by decide), gT 3 (by decide), gSA 22 (by decide), gT 4 (by decide), gSA 23 (by decide), gT 5 (by decide), gSA 24 (by decide), gT 6 (by decide), gSA 25 (by decide), gT 7 (by decide)]
          exact q3
        · unfold PR at q4 ⊢
          rw [gS 2 (by decide), gS 3 (by decide), gS 4 (by decide), gTI 4, gSA 2 (by decide), gSA 3 (by decide), gSA 4 (by decide), gT 11 (by decide), gT 12 (by decide), gT 13 (by decide)]
          exact q4
        · exact q5.fr (gSA 23 (by decide)) (gSA 24 (by decide)) (gSA 25 (by decide))
        · unfold IR at q6 ⊢
          rw [gS 5 (by decide), gTI 5, gSA 5 (by decide), gT 14 (by decide)]
          exact q6
        · unfold CRn at q7 ⊢
          rw [gS 6 (by decide), gTI 14, gSA 6 (by decide), gT 24 (by decide)]
          exact q7
        · refine Or.inr ⟨nc, h1, c0, d3, (gTI 23).trans rfl, ?_, ?_, ?_⟩
          · intro k hk
            rw [show gA (sI S3 36 (gI S2 35)) 8 = gA S3 8 from rfl, d4 k hk, m2.2.2 k (by omega) hk]
            exact q7.2.2.2.1 k hk
          · intro k hk
            rw [show gA (sI S3 36 (gI S2 35)) 8 = gA S3 8 from rfl, d4 k hk]
            exact q7.2.2.2.2 k hk
          · rw [gS 36 (by decide), gTI 24]
            exact q9
        · rw [gS 35 (by decide), gTI 15]
          exact q9
      · have a7' := a7.fr r4
        unfold Tried at a7' ⊢
        rw [show gI (sI S3 36 (gI S2 35)) 13 = gI S2 13 from d2.1 13 rfl, show gI (sI S3 36 (gI S2 35)) 14 = gI S2 14 from d2.1 14 rfl, show gI (sI S3 36 (gI S2 35)) 15 = gI S2 15 from d2.1 15 rfl, show gA (sI S3 36 (gI S2 35)) 13 = gA S2 13 from d2.2.2.1 13 rfl, show gA (sI S3 36 (gI S2 35)) 14 = gA S2 14 from d2.2.2.1 14 rfl, show gA (sI S3 36 (gI S2 35)) 15 = gA S2 15 from d2.2.2.1 15 rfl, m2.1.1 16 rfl, m2.1.2.2.1 25 rfl, m2.1.2.2.1 26 rfl, m2.1.2.2.1 27 rfl]
        exact a7'
      · rw [m2.1.1 18 rfl]
        exact (d2.1 31 rfl).trans a10
      · rw [m2.1.1 19 rfl]
        exact (d2.1 32 rfl).trans a11
      · rw [m2.1.1 20 rfl]
        exact (d2.1 33 rfl).trans a12
      · rw [m2.1.1 21 rfl]
        exact (r4.1 21 rfl).trans j21
      · show ¬ gI S3 31 = 15
        rw [d2.1 31 rfl, a10]; decide
      · show ¬ gI S3 31 = 16
        rw [d2.1 31 rfl, a10]; decide
      · show 0 < gI S3 30
        rw [d2.1 30 rfl]; exact hact
      · rw [m2.1.1 22 rfl]; rfl
      · exact (d2.1 33 rfl).trans a12
      · exact p5.fr ((d2.1 11 rfl).trans (a5.1 11 rfl)) ((d2.2.2.1 11 rfl).trans (a5.2.2.1 11 rfl)) ((d2.1 17 rfl).trans (a5.1 17 rfl)) ((d2.1 19 rfl).trans (a5.1 19 rfl)) ((d2.1 9 rfl).trans (a5.1 9 rfl)) ((d2.2.2.1 9 rfl).trans (a5.2.2.1 9 rfl)) ((d2.1 10 rfl).trans (a5.1 10 rfl)) ((d2.2.2.1 10 rfl).trans (a5.2.2.1 10 rfl)) (m2.1.1 12 rfl) (m2.1.2.2.1 17 rfl) (m2.1.1 13 rfl) (m2.1.2.2.1 15 rfl) (m2.1.2.2.1 18 rfl) (m2.1.2.2.2 20 rfl) (m2.1.2.2.1 21 rfl) (m2.1.2.2.1 22 rfl) (m2.1.2.2.1 23 rfl)
      · exact (d2.1 32 rfl).trans a11

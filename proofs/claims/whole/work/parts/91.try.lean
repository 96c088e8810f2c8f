theorem tl_take {k7 : St → Int32 → Option St} {S : St} {kd : Int32} {k : Nat} : (if kd = 0 then (x_Trial_takeWord S (nI k)).bind fun q15 => x_Trial_tryLine_b179 k7 q15 (nI k) else if kd = (9 : Int32) then (x_Trial_takeTopic S (nI k)).bind fun q14 => x_Trial_tryLine_b179 k7 q14 (nI k) else if kd = (10 : Int32) then (x_Trial_takeNumber S).bind fun q13 => x_Trial_tryLine_b179 k7 q13 (nI k) else if kd = (11 : Int32) then (x_Lines_ofAt S (gI S 26) (nI k)).bind fun q11 => (x_Trial_takeCustom q11.2 q11.1).bind fun q12 => x_Trial_tryLine_b179 k7 q12 (nI k) else (x_G_isOfOneThing S kd).bind fun q6 => if q6.1 = 0 then (x_Row_at 6 q6.2 (gI q6.2 27)).bind fun q7 => if q7.1 = (4 : Int32) then (x_Trial_takeAll q7.2 kd).bind fun q9 => x_Trial_tryLine_b179 k7 q9 (nI k) else (x_Trial_takeList q7.2 kd).bind fun q8 => x_Trial_tryLine_b179 k7 q8 (nI k) else (x_Trial_takeOne q6.2 kd).bind fun q10 => x_Trial_tryLine_b179 k7 q10 (nI k)) = (xT S kd (nI k)).bind fun q => x_Trial_tryLine_b179 k7 q (nI k) := by
  unfold xT
  by_cases h0 : kd = 0
  · rw [if_pos h0, if_pos h0]
  · rw [if_neg h0, if_neg h0]
    by_cases h9 : kd = 9
    · rw [if_pos h9, if_pos h9]
    · rw [if_neg h9, if_neg h9]
      by_cases h10 : kd = 10
      · rw [if_pos h10, if_pos h10]
      · rw [if_neg h10, if_neg h10]
        by_cases h11 : kd = 11
        · rw [if_pos h11, if_pos h11]
          cases x_Lines_ofAt S (gI S 26) (nI k) <;> rfl
        · rw [if_neg h11, if_neg h11]
          cases x_G_isOfOneThing S kd with
          | none => rfl
          | some q6 =>
            rw [bind_s, bind_s]
            by_cases h1 : q6.1 = 0
            · rw [if_pos h1, if_pos h1]
              cases x_Row_at 6 q6.2 (gI q6.2 27) with
              | none => rfl
              | some q7 =>
                rw [bind_s, bind_s]
                by_cases h4 : q7.1 = 4
                · rw [if_pos h4, if_pos h4]
                · rw [if_neg h4, if_neg h4]
            · rw [if_neg h1, if_neg h1]
theorem tl_err {S : St} {nl n l fuel j : Nat} {cl : Nat → Nat} (h : LX S nl cl l n) (he : ¬ gI S 28 = 0) : x_Trial_tryLine_b7 (fuel + 1) S (nI j) = some S := by
  obtain ⟨g1, g2, g3, g4, g5, g6, g7, g8⟩ := h
  show x_Trial_tryLine_b7_f _ S _ = _
  unfold x_Trial_tryLine_b7_f x_Trial_tryLine_b185
  rw [g6, x_kindsOf g1 g2 g3 g4, bind_s]
  dsimp only
  rw [if_neg he, if_neg he]
  by_cases hc : nI (cl l) ≤ nI j
  · rw [if_pos hc]
  · rw [if_neg hc]
theorem mt_b119e {T : St} (he : ¬ gI T 7 = 0) : m_M_tries_b119 T = some T := by
  unfold m_M_tries_b119
  rw [if_neg he]
theorem mt_b92e {T : St} {x2 x4 : Int32} (he : ¬ gI T 7 = 0) : m_M_tries_b92 T x2 x4 = some T := by
  unfold m_M_tries_b92 m_M_tries_b119
  rw [if_neg he, if_neg he]
theorem mt_err {T : St} {l fuel : Nat} {x2 x3 x4 : Int32} (hl : l < 60) (he : ¬ gI T 7 = 0) : m_M_tries_b32 (fuel + 1) T (nI l) x2 x3 x4 = some T := by
  show m_M_tries_b32_f _ T _ _ _ _ = _
  unfold m_M_tries_b32_f
  rw [gd_t _ (vin_nI hl (by omega)), if_neg he, mt_b92e he]
  by_cases hc : gA T 5 (nI l).toNatClampNeg ≤ x3
  · rw [if_pos hc]
  · rw [if_neg hc]
theorem TrE.ne {S T : St} {n nc l : Nat} (h : TrE S T n nc l) : ¬ gI S 28 = 0 ∧ ¬ gI T 7 = 0 := by
  obtain ⟨-, e, b, h1, h2, h3, h4, -⟩ := h
  exact ⟨by rw [h3]; exact pos_ne h1, by rw [h4]; exact pos_ne h1⟩
/-- a line is tried from its kind k on -/
theorem try_l {n nl nc l : Nat} {c cl : Nat → Nat} (hl : l < nl) : ∀ (r k fx fm a m : Nat) (S T : St), SC S T n c nl cl nc → k + r = cl l → Tr0 S T n nc l a m → m = nsl (gA S 24) (8 * l) k → 1 ≤ a → a ≤ nc → r + 1 < fx → r + 2 < fm → ∃ S2 T2, x_Trial_tryLine_b7 fx S (nI k) = some S2 ∧ m_M_tries_b32 fm T (nI l) (nI a) (nI (nx (gA T 6) (8 * l) r k)) 0 = some T2 ∧ FrT S S2 ∧ FrM T T2 ∧ (TrE S2 T2 n nc l ∨ TrK S2 T2 n l)
  | r, k, 0, fm, a, m, S, T, _, _, _, _, _, _, hf, _ => absurd hf (by omega)
  | r, k, fx + 1, 0, a, m, S, T, _, _, _, _, _, _, _, hf => absurd hf (by omega)
  | 0, k, fx + 1, fm + 1, a, m, S, T, h, he, ht, hm, ha1, ha, _, _ => by
    obtain ⟨g1, g2, g3, g4, g5, g6, g7, g8⟩ := h.lx hl ht.1
    obtain ⟨-, ⟨hnl, f1, f2, f3, f4, f5, f6, f6b, f7, f8, f9, f10, f11⟩, -, ⟨hnc, w1, w2, w3, w4⟩⟩ := id h
    obtain ⟨t1, t2, t3, t4, t5, t6, t7, t8, t9, t10, t11⟩ := id ht
    have h8 := g3 l (by omega)
    have hx : x_Trial_tryLine_b7 (fx + 1) S (nI k) = x_Trial_finish S := by
      show x_Trial_tryLine_b7_f _ S _ = _
      unfold x_Trial_tryLine_b7_f x_Trial_tryLine_b185
      rw [g6, x_kindsOf g1 g2 g3 g4, bind_s]
      dsimp only
      rw [if_pos (nI_le (show cl l ≤ k by omega) (by omega)), if_pos t3]
      cases x_Trial_finish S <;> rfl
    have hmm : m_M_tries_b32 (fm + 1) T (nI l) (nI a) (nI (nx (gA T 6) (8 * l) 0 k)) 0 = m_M_tries_b92 T (nI a) 0 := by
      show m_M_tries_b32_f _ T _ _ _ _ = _
      unfold m_M_tries_b32_f
      rw [show nx (gA T 6) (8 * l) 0 k = k from rfl, gd_t _ (vin_nI (show l < 60 by omega) (by omega)), nI_clamp (show l < 2 ^ 31 by omega), f8 l hl, if_pos (nI_le (show cl l ≤ k by omega) (by omega))]
    rw [hx, hmm]
    unfold m_M_tries_b92
    rw [if_pos t4, if_pos rfl, w2]
    by_cases hac : a = nc
    · subst hac
      rw [if_pos (Int32.le_refl _)]
      obtain ⟨S2, T2, q1, q2, q3, q4, q5⟩ := finish_step (F := 0) (m := m) h ⟨t1, t2, t3, t4, t5, t6, t7, t8, fun j hj => absurd hj (by omega), t9, t10, t11⟩ (by omega)
      exact ⟨S2, T2, q1, by unfold m_M_tries_b119; rw [if_pos t4, q2]; rfl, q3, q4, q5⟩
    · rw [if_neg (nI_ge (show a < nc by omega) (by omega))]
      refine ⟨sI (sI S 28 6) 29 (nI a), sI (sI T 7 6) 8 (nI a), ?_, ?_, (Fr.rf.sI rfl).sI rfl, (Fr.rf.sI rfl).sI rfl, Or.inl ⟨t1, 6, a, by decide, by decide, rfl, rfl, rfl, rfl, ha, fun z => absurd z (by decide), fun z => absurd z (by decide), ⟨0, by decide, t9⟩⟩⟩
      · unfold x_Trial_finish
        rw [x_size, bind_s]
        dsimp only
        rw [w1, t2, if_neg (nI_ge (show a < nc by omega) (by omega))]
        rfl
      · exact mt_b119e (T := sI (sI T 7 6) 8 (nI a)) (by show ¬ (6 : Int32) = 0; decide)
  | r + 1, k, fx + 1, fm + 1, a, m, S, T, h, he, ht, hm, ha1, ha, hfx, hfm => by
    obtain ⟨g1, g2, g3, g4, g5, g6, g7, g8⟩ := h.lx hl ht.1
    obtain ⟨-, ⟨hnl, f1, f2, f3, f4, f5, f6, f6b, f7, f8, f9, f10, f11⟩, -, ⟨hnc, w1, w2, w3, w4⟩⟩ := id h
    obtain ⟨t1, t2, t3, t4, t5, t6, t7, t8, t9, t10, t11⟩ := id ht
    have h8 := g3 l (by omega)
    have hkc : k < cl l := by omega
    have hx : x_Trial_tryLine_b7 (fx + 1) S (nI k) = if gA S 24 (8 * l + k) = 1 then x_Trial_tryLine_b7 fx S (nI (k + 1)) else if nI a < nI nc then (xT S (gA S 24 (8 * l + k)) (nI k)).bind fun q => x_Trial_tryLine_b7 fx q (nI (k + 1)) else (x_Trial_fillOrAsk S (nI k)).bind fun q16 => x_Trial_tryLine_b185 q16 := by
      show x_Trial_tryLine_b7_f _ S _ = _
      unfold x_Trial_tryLine_b7_f
      rw [g6, x_kindsOf g1 g2 g3 g4, bind_s]
      dsimp only
      rw [if_neg (nI_ge hkc (by omega)), if_pos t3, g6, x_kindAt g1 g2 g3 g4, bind_s, rat_nI hkc (by omega)]
      dsimp only
      rw [x_size, bind_s]
      dsimp only
      rw [tl_take, w1, t2]
      unfold x_Trial_tryLine_b179
      rw [show nI k + (1 : Int32) = nI (k + 1) from nI_1 k]
    have hnx : nx (gA T 6) (8 * l) (r + 1) k = if gA T 6 (8 * l + k) = 1 then nx (gA T 6) (8 * l) r (k + 1) else k := rfl
    rw [← (f10 l k hl hkc).1] at hnx
    by_cases h1 : gA S 24 (8 * l + k) = 1
    · rw [if_pos h1] at hx hnx
      obtain ⟨S2, T2, q1, q2, q3, q4, q5⟩ := try_l hl r (k + 1) fx (fm + 1) a m S T h (by omega) ht (by rw [hm]; show _ = _ + _; rw [if_pos (by rw [h1]; decide), Nat.add_zero]) ha1 ha (by omega) (by omega)
      exact ⟨S2, T2, by rw [hx]; exact q1, by rw [hnx]; exact q2, q3, q4, q5⟩
    · rw [if_neg h1] at hx hnx
      rw [hnx]
      have hmm : m_M_tries_b32 (fm + 1) T (nI l) (nI a) (nI k) 0 = if nI a < nI nc then (m_M_takes T (nI l) (nI k) (nI a)).bind fun q3 => (m_M_next q3.2 (nI l) (nI k)).bind fun q4 => m_M_tries_b32 fm q4.2 (nI l) q3.1 q4.1 0 else (m_M_ends T (nI l) (nI k)).bind fun q5 => m_M_tries_b32 fm q5 (nI l) (nI a) (nI k) 1 := by
        show m_M_tries_b32_f _ T _ _ _ _ = _
        unfold m_M_tries_b32_f
        rw [gd_t _ (vin_nI (show l < 60 by omega) (by omega)), nI_clamp (show l < 2 ^ 31 by omega), f8 l hl, if_neg (nI_ge hkc (by omega)), if_pos t4, if_pos rfl, w2]
      rw [hx, hmm]
      by_cases hac : a = nc
      · subst hac
        rw [if_neg (nI_nlt (Nat.le_refl a) (by omega)), if_neg (nI_nlt (Nat.le_refl a) (by omega))]
        obtain ⟨S1, T1, p1, p2, p3, p4, p5⟩ := ends_step h ht hl hkc hm h1
        rw [p1, bind_s, p2, bind_s]
        rcases p5 with p5 | ⟨F, m', p5, p6⟩
        · refine ⟨S1, T1, ?_, ?_, p3, p4, Or.inl p5⟩
          · unfold x_Trial_tryLine_b185
            rw [if_neg p5.ne.1]
          · match fm, hfm with
            | fm + 1, _ => exact mt_err (by omega) p5.ne.2
        · obtain ⟨S2, T2, q1, q2, q3, q4, q5⟩ := finish_step (h.fr p3 p4) p6 p5
          refine ⟨S2, T2, ?_, ?_, p3.tr q3, p4.tr q4, q5⟩
          · unfold x_Trial_tryLine_b185
            rw [if_pos p6.2.2.1, q1]; rfl
          · match fm, hfm with
            | fm + 1, _ =>
              show m_M_tries_b32_f _ T1 _ _ _ _ = _
              unfold m_M_tries_b32_f m_M_tries_b92 m_M_tries_b119
              rw [gd_t _ (vin_nI (show l < 60 by omega) (by omega)), nI_clamp (show l < 2 ^ 31 by omega), p4.2.2.1 5 rfl, f8 l hl, if_neg (nI_ge hkc (by omega)), if_pos p6.2.2.2.1, if_neg one_ne0, if_pos p6.2.2.2.1, if_neg one_ne0, if_pos p6.2.2.2.1, q2]
              rfl
      · have hlt : a < nc := by omega
        rw [if_pos (nI_lt hlt (by omega)), if_pos (nI_lt hlt (by omega))]
        obtain ⟨S1, T1, rr, p1, p2, p3, p4, p5⟩ := take_step h ht hlt ha1 hl hkc h1 hm
        have hSC := h.fr p3 p4
        rw [p1, bind_s, p2, bind_s]
        dsimp only
        rw [m_next (T := T1) (l := l) (c := cl l) (k := k) (by omega) h8.1 (by rw [p4.2.2.1 5 rfl]; exact f8 l hl) hkc, bind_s]
        dsimp only
        rcases p5 with p5 | ⟨b, b1, b2, b3, b4⟩
        · refine ⟨S1, T1, ?_, ?_, p3, p4, Or.inl p5⟩
          · match fx, hfx with
            | fx + 1, _ => exact tl_err (hSC.lx hl p5.1) p5.ne.1
          · match fm, hfm with
            | fm + 1, _ => exact mt_err (by omega) p5.ne.2
        · subst b3
          have h24 : gA S1 24 = gA S 24 := p3.2.2.1 24 rfl
          obtain ⟨S2, T2, q1, q2, q3, q4, q5⟩ := try_l hl r (k + 1) fx fm b _ S1 T1 hSC (by omega) b4 (by rw [h24]) (by omega) b2 (by omega) (by omega)
          refine ⟨S2, T2, q1, ?_, p3.tr q3, p4.tr q4, q5⟩
          rw [show cl l - (k + 1) = r by omega]
          exact q2
/-- a line is tried: both alike -/
theorem line_try {S T : St} {n nl nc l : Nat} {c cl : Nat → Nat} (h : SC S T n c nl cl nc) (hl : l < nl) (hnc : 1 ≤ nc) : ∃ S2 T2, x_Trial_tryLine S (nI l) = some S2 ∧ m_M_tries T (nI l) = some T2 ∧ FrT S S2 ∧ FrM T T2 ∧ (TrE S2 T2 n nc l ∨ TrK S2 T2 n l) := by
  obtain ⟨-, ⟨hnl, f1, f2, f3, f4, f5, f6, f6b, f7, f8, f9, f10, f11⟩, -, -⟩ := id h
  have h8 := f7 l (by omega)
  have hb : x_Trial_begin S (nI l) = some (sI (sI (sL (sI (sI (sI (sL (sI (sI (sI (sI (sI (sI (sI S 26 (nI l)) 27 1) 28 0) 29 (-1)) 9 0) 17 (-1)) 18 (-1)) 0 0) 10 0) 19 (-1)) 20 (-1)) 1 0) 11 0) 12 0) := rfl
  have fS : FrT S (sI (sI (sL (sI (sI (sI (sL (sI (sI (sI (sI (sI (sI (sI S 26 (nI l)) 27 1) 28 0) 29 (-1)) 9 0) 17 (-1)) 18 (-1)) 0 0) 10 0) 19 (-1)) 20 (-1)) 1 0) 11 0) 12 0) := ((((((((((((((Fr.rf.sI rfl).sI rfl).sI rfl).sI rfl).sI rfl).sI rfl).sI rfl).sL rfl).sI rfl).sI rfl).sI rfl).sL rfl).sI rfl).sI rfl)
  have fT : FrM T (sI (sI (sI (sI (sI T 7 (0 : Int32)) 8 (-1 : Int32)) 12 (0 : Int32)) 11 (0 : Int32)) 13 (0 : Int32)) := ((((Fr.rf.sI rfl).sI rfl).sI rfl).sI rfl).sI rfl
  have h24 : gA (sI (sI (sL (sI (sI (sI (sL (sI (sI (sI (sI (sI (sI (sI S 26 (nI l)) 27 1) 28 0) 29 (-1)) 9 0) 17 (-1)) 18 (-1)) 0 0) 10 0) 19 (-1)) 20 (-1)) 1 0) 11 0) 12 0) 24 = gA S 24 := rfl
  have ht : Tr0 (sI (sI (sL (sI (sI (sI (sL (sI (sI (sI (sI (sI (sI (sI S 26 (nI l)) 27 1) 28 0) 29 (-1)) 9 0) 17 (-1)) 18 (-1)) 0 0) 10 0) 19 (-1)) 20 (-1)) 1 0) 11 0) 12 0) (sI (sI (sI (sI (sI T 7 (0 : Int32)) 8 (-1 : Int32)) 12 (0 : Int32)) 11 (0 : Int32)) 13 (0 : Int32)) n nc l 1 0 := ⟨rfl, rfl, rfl, rfl, rfl, rfl, rfl, rfl, rfl, rfl, rfl, ⟨rfl, rfl, rfl⟩, rfl, rfl, rfl⟩
  have hmt : m_M_tries T (nI l) = m_M_tries_b32 fu (sI (sI (sI (sI (sI T 7 (0 : Int32)) 8 (-1 : Int32)) 12 (0 : Int32)) 11 (0 : Int32)) 13 (0 : Int32)) (nI l) (nI 1) (nI 0) 0 := rfl
  have hxt : x_Trial_tryLine S (nI l) = x_Trial_tryLine_b7 fu (sI (sI (sL (sI (sI (sI (sL (sI (sI (sI (sI (sI (sI (sI S 26 (nI l)) 27 1) 28 0) 29 (-1)) 9 0) 17 (-1)) 18 (-1)) 0 0) 10 0) 19 (-1)) 20 (-1)) 1 0) 11 0) 12 0) (nI 0) := by
    unfold x_Trial_tryLine
    rw [hb, bind_s]
    rfl
  have hSC := h.fr fS fT
  have h6 : gA (sI (sI (sI (sI (sI T 7 (0 : Int32)) 8 (-1 : Int32)) 12 (0 : Int32)) 11 (0 : Int32)) 13 (0 : Int32)) 6 = gA T 6 := rfl
  generalize sI (sI (sL (sI (sI (sI (sL (sI (sI (sI (sI (sI (sI (sI S 26 (nI l)) 27 1) 28 0) 29 (-1)) 9 0) 17 (-1)) 18 (-1)) 0 0) 10 0) 19 (-1)) 20 (-1)) 1 0) 11 0) 12 0 = S1 at fS h24 ht hxt hSC
  generalize sI (sI (sI (sI (sI T 7 (0 : Int32)) 8 (-1 : Int32)) 12 (0 : Int32)) 11 (0 : Int32)) 13 (0 : Int32) = T1 at fT ht hmt hSC h6
  obtain ⟨S2, T2, q1, q2, q3, q4, q5⟩ := try_l hl (cl l) 0 fu fu 1 0 S1 T1 hSC (by omega) ht rfl (Nat.le_refl 1) hnc (show _ < 100000 by omega) (show _ < 100000 by omega)
  refine ⟨S2, T2, hxt.trans q1, ?_, fS.tr q3, fT.tr q4, q5⟩
  rw [hmt]
  have hn0 : nx (gA T1 6) (8 * l) (cl l) 0 = 0 := by
    cases hc : cl l with
    | zero => rfl
    | succ r =>
      rw [nx, if_neg]
      rw [h6, ← (f10 l 0 hl (by omega)).1]
      intro z
      obtain ⟨j, j1, -⟩ := (f11 l hl).2.1 0 (by omega) z
      omega
  rw [hn0] at q2
  exact q2

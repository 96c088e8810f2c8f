theorem x_out0 (S : St) : x_Trial_takeOut_17_18 S = if gI S 17 = 8 ∧ ¬ gI S 19 < 2 ∧ ¬ 5 < gI S 19 then if gL S 0 &&& (gL S 1 ^^^ (-1)) = 0 then some (sI (sI (sL S 0 (gL S 0 &&& (gL S 1 ^^^ (-1)))) 28 14) 29 (gI S 18)) else some (sL S 0 (gL S 0 &&& (gL S 1 ^^^ (-1)))) else some S := by
  unfold x_Trial_takeOut_17_18 x_G_isOfOneThing
  by_cases h8 : gI S 17 = 8
  · rw [if_pos h8]
    by_cases h2 : gI S 19 < 2
    · rw [if_pos h2, bind_s]
      dsimp only
      rw [if_pos rfl, if_neg (fun z => z.2.1 h2)]
    · rw [if_neg h2]
      by_cases h5 : 5 < gI S 19
      · rw [if_pos h5, bind_s]
        dsimp only
        rw [if_pos rfl, if_neg (fun z => z.2.2 h5)]
      · have hc : gI S 17 = 8 ∧ ¬ gI S 19 < 2 ∧ ¬ 5 < gI S 19 := ⟨h8, h2, h5⟩
        rw [if_neg h5, bind_s, if_pos hc]
        dsimp only
        rw [if_neg one_ne0]
        simp only [cmp_eq]
        rfl
  · rw [if_neg h8, if_neg (fun z => h8 z.1)]
theorem x_out1 (S : St) : x_Trial_takeOut_18_17 S = if gI S 19 = 8 ∧ ¬ gI S 17 < 2 ∧ ¬ 5 < gI S 17 then if gL S 1 &&& (gL S 0 ^^^ (-1)) = 0 then some (sI (sI (sL S 1 (gL S 1 &&& (gL S 0 ^^^ (-1)))) 28 14) 29 (gI S 20)) else some (sL S 1 (gL S 1 &&& (gL S 0 ^^^ (-1)))) else some S := by
  unfold x_Trial_takeOut_18_17 x_G_isOfOneThing
  by_cases h8 : gI S 19 = 8
  · rw [if_pos h8]
    by_cases h2 : gI S 17 < 2
    · rw [if_pos h2, bind_s]
      dsimp only
      rw [if_pos rfl, if_neg (fun z => z.2.1 h2)]
    · rw [if_neg h2]
      by_cases h5 : 5 < gI S 17
      · rw [if_pos h5, bind_s]
        dsimp only
        rw [if_pos rfl, if_neg (fun z => z.2.2 h5)]
      · have hc : gI S 19 = 8 ∧ ¬ gI S 17 < 2 ∧ ¬ 5 < gI S 17 := ⟨h8, h2, h5⟩
        rw [if_neg h5, bind_s, if_pos hc]
        dsimp only
        rw [if_neg one_ne0]
        simp only [cmp_eq]
        rfl
  · rw [if_neg h8, if_neg (fun z => h8 z.1)]
theorem gd_d {α : Type} {b : Bool} (h : b = true) (a : Option α) : gd b a = a := gd_t a h
theorem m_oth_s0 {T : St} (e13 : gI T 13 = nI 2) (e7 : gI T 7 = 0) (k : St → Int32 → Option St) : m_M_others_b2_f k T 0 = if gA T 18 0 = 8 ∧ ¬ 5 < gA T 18 1 then if gB T 20 0 &&& (gB T 20 1 ^^^ (-1)) = 0 then k (sI (sI (sB T 20 0 (gB T 20 0 &&& (gB T 20 1 ^^^ (-1)))) 7 14) 8 (gA T 19 0)) 1 else k (sB T 20 0 (gB T 20 0 &&& (gB T 20 1 ^^^ (-1)))) 1 else k T 1 := by
  unfold m_M_others_b2_f m_M_others_b92
  rw [e13, if_neg (by decide), if_pos e7, gd_t _ (by decide)]
  simp only [show (0 : Int32).toNatClampNeg = 0 from rfl, show (1 : Int32) - 0 = 1 from rfl, show (1 : Int32).toNatClampNeg = 1 from rfl, show (0 : Int32) + 1 = 1 from rfl, gd_d (show vin 0 2 = true by decide), gd_d (show vin 1 2 = true by decide), cmp_eq]
  rw [show gB (sB T 20 0 (gB T 20 0 &&& (gB T 20 1 ^^^ (-1)))) 20 0 = gB T 20 0 &&& (gB T 20 1 ^^^ (-1)) by rw [gB_sB, if_pos rfl, updL_self]]
  by_cases h8 : gA T 18 0 = 8
  · rw [if_pos h8, if_pos (show nI 2 = 2 from rfl)]
    by_cases h5 : 5 < gA T 18 1
    · rw [if_pos h5, if_neg (fun z => z.2 h5)]
    · have hc : gA T 18 0 = 8 ∧ ¬ 5 < gA T 18 1 := ⟨h8, h5⟩
      rw [if_neg h5, if_pos hc]
      rfl
  · rw [if_neg h8, if_neg (fun z => h8 z.1)]
theorem m_oth_s1 {T : St} (e13 : gI T 13 = nI 2) (e7 : gI T 7 = 0) (k : St → Int32 → Option St) : m_M_others_b2_f k T 1 = if gA T 18 1 = 8 ∧ ¬ 5 < gA T 18 0 then if gB T 20 1 &&& (gB T 20 0 ^^^ (-1)) = 0 then k (sI (sI (sB T 20 1 (gB T 20 1 &&& (gB T 20 0 ^^^ (-1)))) 7 14) 8 (gA T 19 1)) 2 else k (sB T 20 1 (gB T 20 1 &&& (gB T 20 0 ^^^ (-1)))) 2 else k T 2 := by
  unfold m_M_others_b2_f m_M_others_b92
  rw [e13, if_neg (by decide), if_pos e7, gd_t _ (by decide)]
  simp only [show (0 : Int32).toNatClampNeg = 0 from rfl, show (1 : Int32) - 1 = 0 from rfl, show (1 : Int32).toNatClampNeg = 1 from rfl, show (1 : Int32) + 1 = 2 from rfl, gd_d (show vin 0 2 = true by decide), gd_d (show vin 1 2 = true by decide), cmp_eq]
  rw [show gB (sB T 20 1 (gB T 20 1 &&& (gB T 20 0 ^^^ (-1)))) 20 1 = gB T 20 1 &&& (gB T 20 0 ^^^ (-1)) by rw [gB_sB, if_pos rfl, updL_self]]
  by_cases h8 : gA T 18 1 = 8
  · rw [if_pos h8, if_pos (show nI 2 = 2 from rfl)]
    by_cases h5 : 5 < gA T 18 0
    · rw [if_pos h5, if_neg (fun z => z.2 h5)]
    · have hc : gA T 18 1 = 8 ∧ ¬ 5 < gA T 18 0 := ⟨h8, h5⟩
      rw [if_neg h5, if_pos hc]
      rfl
  · rw [if_neg h8, if_neg (fun z => h8 z.1)]
theorem m_oth_2 {T : St} (e13 : gI T 13 = nI 2) (fuel : Nat) : m_M_others_b2 (fuel + 1) T 2 = some T := by
  show m_M_others_b2_f _ T 2 = _
  unfold m_M_others_b2_f
  rw [e13, if_pos (by decide)]
theorem m_oth_e1 {T : St} (e13 : gI T 13 = nI 2) (e7 : ¬ gI T 7 = 0) (fuel : Nat) : m_M_others_b2 (fuel + 1) T 1 = some T := by
  show m_M_others_b2_f _ T 1 = _
  unfold m_M_others_b2_f
  rw [e13, if_neg (by decide), if_neg e7]
/-- the row of a slot has room for its things -/
def Ry (w : Int64) (rs : Int32) : Prop := ∃ b : Nat, rs = nI b ∧ b + card (bit w) 40 ≤ 60
theorem Ry0 (w : Int64) : Ry w (nI 0) := ⟨0, rfl, by have := card_le (p := bit w) 40; omega⟩
theorem card_zz (n : Nat) : card (bit 0) n = 0 := (card_0 n).mpr fun k _ => bit_0 k
theorem SlV.ry {n nc : Nat} {cw : Nat → Int32} {k p : Int32} {w : Int64} {rs : Int32} {ra : Nat → Int32} {kT pT : Int32} {wT : Int64} {f t u : Int32} (h : SlV n nc cw k p w rs ra kT pT wT f t u) (hnc : nc ≤ 60) : Ry w rs := by
  obtain ⟨a1, a2, a3, a4, a5, a6, a7, a8, a9, a10, a11⟩ := h
  by_cases h8 : kT ≤ 8
  · rw [a10 h8]; exact Ry0 w
  · have hw := a11 (Int32.not_le.mp h8)
    rw [hw]
    by_cases h9 : kT = 9
    · obtain ⟨fr, t', -, -, b1, b2, b3, -⟩ := a8 h9
      exact ⟨t' - fr, b3, by rw [card_zz]; omega⟩
    · have : kT = 10 ∨ kT = 11 := by
        rw [Int32.le_iff_toInt_le] at h8 a6
        rw [show (8 : Int32).toInt = 8 from rfl] at h8
        rw [show (11 : Int32).toInt = 11 from rfl] at a6
        have h9' : ¬ kT.toInt = 9 := fun z => h9 (Int32.toInt_inj.mp z)
        rcases (show kT.toInt = 10 ∨ kT.toInt = 11 by omega) with z | z
        · exact Or.inl (Int32.toInt_inj.mp z)
        · exact Or.inr (Int32.toInt_inj.mp z)
      exact ⟨1, (a9 this).1, by rw [card_zz]; omega⟩
def RyB (S : St) : Prop := Ry (gL S 0) (gI S 9) ∧ Ry (gL S 1) (gI S 10)
theorem Sl.ry {S T : St} {n nc m : Nat} (h : Sl S T n nc m) (hnc : nc ≤ 60) : RyB S := by
  match m, h with
  | 0, ⟨_, s2, s3⟩ => exact ⟨by rw [s2.2.2]; exact Ry0 _, by rw [s3.2.2]; exact Ry0 _⟩
  | 1, ⟨_, s2, s3⟩ => exact ⟨s2.ry hnc, by rw [s3.2.2]; exact Ry0 _⟩
  | 2, ⟨_, s2, s3⟩ => exact ⟨s2.ry hnc, s3.ry hnc⟩
theorem SlV.q {n nc : Nat} {cw : Nat → Int32} {k p : Int32} {w : Int64} {rs : Int32} {ra : Nat → Int32} {kT pT : Int32} {wT : Int64} {f t u : Int32} (h : SlV n nc cw k p w rs ra kT pT wT f t u) : ∃ q, w = bs q n := h.2.2.2.1
theorem le8 : (8 : Int32) ≤ 8 := by decide
/-- a slot of several things without those of the other -/
theorem out_step {S T : St} {n nc l F m : Nat} (hn : n ≤ 64) (hnc : nc ≤ 60) (ht : TrF S T n nc l F m) : ∃ S1 T1, ((x_Trial_takeOut_17_18 S).bind fun q2 => x_Trial_takeOut_18_17 q2) = some S1 ∧ m_M_others T = some T1 ∧ FrT S S1 ∧ FrM T T1 ∧ RyB S1 ∧ (TrE S1 T1 n nc l ∨ TrF S1 T1 n nc l F m) := by
  obtain ⟨t1, t2, t3, t4, t5, t6, t7, t8, t9, t10, t11, t12⟩ := id ht
  have hry := t12.ry hnc
  match m, ht, t12 with
  | 0, ht, ⟨s1, s2, s3⟩ =>
    refine ⟨S, T, ?_, ?_, Fr.rf, Fr.rf, hry, Or.inr ht⟩
    · rw [x_out0, if_neg (fun z => by rw [s2.1] at z; exact absurd z.1 (by decide)), bind_s, x_out1, if_neg (fun z => by rw [s3.1] at z; exact absurd z.1 (by decide))]
    · show m_M_others_b2_f (m_M_others_b2 99999) T 0 = _
      unfold m_M_others_b2_f
      rw [s1, if_pos (by decide)]
  | 1, ht, ⟨s1, s2, s3⟩ =>
    refine ⟨S, T, ?_, ?_, Fr.rf, Fr.rf, hry, Or.inr ht⟩
    · rw [x_out0, if_neg (fun z => by rw [s3.1] at z; exact z.2.1 (by decide)), bind_s, x_out1, if_neg (fun z => by rw [s3.1] at z; exact absurd z.1 (by decide))]
    · have h1 : m_M_others_b2 99999 T 1 = some T := by
        show m_M_others_b2_f (m_M_others_b2 99998) T 1 = _
        unfold m_M_others_b2_f
        rw [s1, if_pos (by decide)]
      show m_M_others_b2_f (m_M_others_b2 99999) T 0 = _
      unfold m_M_others_b2_f m_M_others_b92
      rw [s1, if_neg (by decide), if_pos t4, gd_t _ (by decide), if_neg (show ¬ nI 1 = 2 by decide), show (0 : Int32) + 1 = 1 from rfl, h1]
      by_cases h : gA T 18 (Int32.toNatClampNeg 0) = 8
      · rw [if_pos h]
      · rw [if_neg h]
  | 2, ht, ⟨s1, s2, s3⟩ =>
    have k0 : gI S 17 = gA T 18 0 := s2.1
    have k1 : gI S 19 = gA T 18 1 := s3.1
    have p0 : gI S 18 = gA T 19 0 := s2.2.1
    have p1 : gI S 20 = gA T 19 1 := s3.2.1
    have l0 : gL S 0 = gB T 20 0 := s2.2.2.1
    have l1 : gL S 1 = gB T 20 1 := s3.2.2.1
    have c0 : ¬ gA T 18 0 < 2 := Int32.not_lt.mpr s2.2.2.2.2.1
    have c1 : ¬ gA T 18 1 < 2 := Int32.not_lt.mpr s3.2.2.2.2.1
    obtain ⟨a0, a1, a2⟩ := s2.2.2.2.2.2.2.1
    obtain ⟨b0, b1, b2⟩ := s3.2.2.2.2.2.2.1
    have hm : m_M_others T = m_M_others_b2_f (m_M_others_b2 99999) T 0 := rfl
    rw [m_oth_s0 s1 t4] at hm
    rw [x_out0, k0, k1, l0, l1]
    by_cases h0 : gA T 18 0 = 8 ∧ ¬ 5 < gA T 18 1
    · have n8 : ¬ gA T 18 1 = 8 := fun z => h0.2 (by rw [z]; decide)
      rw [if_pos h0] at hm
      rw [if_pos ⟨h0.1, c1, h0.2⟩]
      obtain ⟨q0, hq0⟩ := s2.q
      obtain ⟨q1, hq1⟩ := s3.q
      have hV : gB T 20 0 &&& (gB T 20 1 ^^^ (-1)) = bs (fun k => q0 k && !q1 k) n := by
        rw [← l0, ← l1, hq0, hq1]; exact bs_not hn
      generalize hVd : gB T 20 0 &&& (gB T 20 1 ^^^ (-1)) = V at hm hV
      have e9 : gI S 9 = nI 0 := s2.2.2.2.2.2.2.2.2.2.1 (by rw [h0.1]; exact le8)
      have hry1 : ∀ v, RyB (sL S 0 v) := fun v => ⟨by show Ry v (gI S 9); rw [e9]; exact Ry0 _, hry.2⟩
      by_cases hz : V = 0
      · rw [if_pos hz] at hm ⊢
        rw [show m_M_others_b2 99999 _ 1 = _ from m_oth_e1 (T := sI (sI (sB T 20 0 V) 7 14) 8 (gA T 19 0)) s1 (by show ¬ (14 : Int32) = 0; decide) 99998] at hm
        refine ⟨sI (sI (sL S 0 V) 28 14) 29 (gI S 18), _, ?_, hm, ((Fr.rf.sL rfl).sI rfl).sI rfl, ((Fr.rf.sB rfl).sI rfl).sI rfl, hry1 V, Or.inl ⟨t1, 14, a0, by decide, by decide, rfl, rfl, ?_, a2, a1, fun z => absurd z (by decide), fun z => absurd z (by decide), ⟨0, by decide, t10⟩⟩⟩
        · rw [bind_s, x_out1, if_neg (fun z => n8 (k1.symm.trans z.1))]
        · exact p0.trans a2
      · rw [if_neg hz] at hm ⊢
        have h2 : m_M_others_b2 99999 (sB T 20 0 V) 1 = some (sB T 20 0 V) := by
          show m_M_others_b2_f (m_M_others_b2 99998) (sB T 20 0 V) 1 = _
          rw [m_oth_s1 (T := sB T 20 0 V) s1 t4, if_neg (fun z => n8 z.1)]
          exact m_oth_2 (T := sB T 20 0 V) s1 99997
        rw [h2] at hm
        refine ⟨sL S 0 V, sB T 20 0 V, ?_, hm, Fr.rf.sL rfl, Fr.rf.sB rfl, hry1 V, Or.inr ⟨t1, t2, t3, t4, t5, t6, t7, t8, t9, t10, t11, s1, ?_, ?_⟩⟩
        · rw [bind_s, x_out1, if_neg (fun z => n8 (k1.symm.trans z.1))]
        · unfold Sl0
          rw [show gB (sB T 20 0 V) 20 0 = V by rw [gB_sB, if_pos rfl, updL_self]]
          exact SlV_set s2 hV (show gA T 18 0 ≤ 8 by rw [h0.1]; exact le8)
        · unfold Sl1
          rw [show gB (sB T 20 0 V) 20 1 = gB T 20 1 by rw [gB_sB, if_pos rfl, updL_ne (by decide)]]
          exact s3
    · rw [if_neg h0] at hm
      rw [if_neg (fun z => h0 ⟨z.1, z.2.2⟩), bind_s, x_out1, k0, k1, l0, l1]
      have hm1 : m_M_others T = m_M_others_b2_f (m_M_others_b2 99998) T 1 := hm
      rw [m_oth_s1 s1 t4] at hm1
      by_cases h1 : gA T 18 1 = 8 ∧ ¬ 5 < gA T 18 0
      · rw [if_pos h1] at hm1
        rw [if_pos ⟨h1.1, c0, h1.2⟩]
        obtain ⟨q0, hq0⟩ := s2.q
        obtain ⟨q1, hq1⟩ := s3.q
        have hV : gB T 20 1 &&& (gB T 20 0 ^^^ (-1)) = bs (fun k => q1 k && !q0 k) n := by
          rw [← l0, ← l1, hq0, hq1]; exact bs_not hn
        generalize hVd : gB T 20 1 &&& (gB T 20 0 ^^^ (-1)) = V at hm1 hV
        have e10 : gI S 10 = nI 0 := s3.2.2.2.2.2.2.2.2.2.1 (by rw [h1.1]; exact le8)
        have hry1 : ∀ v, RyB (sL S 1 v) := fun v => ⟨hry.1, by show Ry v (gI S 10); rw [e10]; exact Ry0 _⟩
        by_cases hz : V = 0
        · rw [if_pos hz] at hm1 ⊢
          rw [show m_M_others_b2 99998 _ 2 = _ from m_oth_2 (T := sI (sI (sB T 20 1 V) 7 14) 8 (gA T 19 1)) s1 99997] at hm1
          exact ⟨sI (sI (sL S 1 V) 28 14) 29 (gI S 20), _, rfl, hm1, ((Fr.rf.sL rfl).sI rfl).sI rfl, ((Fr.rf.sB rfl).sI rfl).sI rfl, hry1 V, Or.inl ⟨t1, 14, b0, by decide, by decide, rfl, rfl, p1.trans b2, b2, b1, fun z => absurd z (by decide), fun z => absurd z (by decide), ⟨0, by decide, t10⟩⟩⟩
        · rw [if_neg hz] at hm1 ⊢
          rw [show m_M_others_b2 99998 _ 2 = _ from m_oth_2 (T := sB T 20 1 V) s1 99997] at hm1
          refine ⟨sL S 1 V, sB T 20 1 V, rfl, hm1, Fr.rf.sL rfl, Fr.rf.sB rfl, hry1 V, Or.inr ⟨t1, t2, t3, t4, t5, t6, t7, t8, t9, t10, t11, s1, ?_, ?_⟩⟩
          · unfold Sl0
            rw [show gB (sB T 20 1 V) 20 0 = gB T 20 0 by rw [gB_sB, if_pos rfl, updL_ne (by decide)]]
            exact s2
          · unfold Sl1
            rw [show gB (sB T 20 1 V) 20 1 = V by rw [gB_sB, if_pos rfl, updL_self]]
            exact SlV_set s3 hV (show gA T 18 1 ≤ 8 by rw [h1.1]; exact le8)
      · rw [if_neg h1, show m_M_others_b2 99998 _ 2 = _ from m_oth_2 (T := T) s1 99997] at hm1
        rw [if_neg (fun z => h1 ⟨z.1, z.2.2⟩)]
        exact ⟨S, T, rfl, hm1, Fr.rf, Fr.rf, hry, Or.inr ht⟩

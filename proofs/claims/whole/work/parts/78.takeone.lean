theorem SlV_thing {n nc a : Nat} {cw : Nat → Int32} {kd x : Int32} {v : Int64} {p : Nat → Bool} {rs : Int32} {ra : Nat → Int32} {f t u : Int32} (hk : kd = 2 ∨ kd = 3 ∨ kd = 4 ∨ kd = 5) (hx : x = nI a) (ha : a ≤ nc) (hv : v = bs p n) (hr : rs = nI 0) : SlV n nc cw kd x v rs ra kd (nI a) v f t u := by
  refine ⟨rfl, hx, rfl, ⟨p, hv⟩, ?_, ?_, ⟨a, ha, rfl⟩, ?_, ?_, fun _ => hr, ?_⟩
  · rcases hk with rfl | rfl | rfl | rfl <;> decide
  · rcases hk with rfl | rfl | rfl | rfl <;> decide
  · intro z; rcases hk with rfl | rfl | rfl | rfl <;> exact absurd z (by decide)
  · intro z; rcases hk with rfl | rfl | rfl | rfl <;> exact absurd z (by decide)
  · intro z; rcases hk with rfl | rfl | rfl | rfl <;> exact absurd z (by decide)
/-- one phrase as a slot: slot 0 -/
theorem takeOne0 {S T : St} {n nl nc l a : Nat} {c cl : Nat → Nat} (h : SC S T n c nl cl nc) (ht : Tr0 S T n nc l a 0) (ha : a < nc) (kd : Int32) (hk : kd = 2 ∨ kd = 3 ∨ kd = 4 ∨ kd = 5) : ∃ S2 T1 T2 r, x_Trial_takeOne S kd = some S2 ∧ m_M_slot T kd (nI a) = some T1 ∧ ((m_M_takesOne T1 kd (nI a)).bind fun q7 => if (gI q7.2 7) = 0 then (m_M_joins q7.2 q7.1).bind fun q8 => if q8.1 = 0 then some (q7.1, q8.2) else (m_M_fails q8.2 (13 : Int32) q7.1).bind fun q9 => some (q7.1, q9) else some (q7.1, q7.2)) = some (r, T2) ∧ FrT S S2 ∧ FrM T T2 ∧ (TrE S2 T2 n nc l ∨ ∃ b, a < b ∧ b ≤ nc ∧ r = nI b ∧ Tr0 S2 T2 n nc l b (0 + 1)) := by
  obtain ⟨t1, t2, t3, t4, t5, t6, t7, t8, t9, t10, t11⟩ := ht
  obtain ⟨s1, s2, s3⟩ := t11
  have hx := x_open0 s2.1 kd
  have hm := m_slot (T := T) (m := 0) (by decide) s1 kd a
  have fx : FrT S (sI (sI S 17 kd) 18 (gI S 27)) := (Fr.rf.sI rfl).sI rfl
  have fm : FrM T (MS T 0 kd a) := FrMS
  obtain ⟨v, S1, r, T2, o1, o2, o3, o4, o5⟩ := one_step (S := sI (sI S 17 kd) 18 (gI S 27)) (T := MS T 0 kd a) (s := 0) (h.fr fx fm) t2 ha t9 (by decide) rfl t3 t4 kd hk
  have fo := fx.tr o3.t
  have fn := fm.tr o4.m
  have fl : FrT S (sL S1 0 v) := fo.sL rfl
  have hSC := h.fr fl fn
  obtain ⟨-, -, -, ⟨hnc, w1, w2, w3, w4⟩⟩ := id hSC
  rcases o5 with ⟨b, b1, b2, b3, b4, b5, b6, b7, b8, b9, ⟨p, b10, b11⟩, b12, b13⟩ | ⟨v0, e, q1, q2, q3, q4, q5, q6, q7, q8, q9⟩
  · obtain ⟨r1, j1, j2⟩ := m_joins (T := T2) (a := b) w2 hnc (by omega)
    obtain ⟨r2, j3, j4⟩ := x_isJoin (sL S1 0 v) (rat (gA (sL S1 0 v) 6) nc (nI b))
    have hat := x_at (r := 6) (S := sL S1 0 v) w1 (show nc ≤ 60 from hnc) (by decide) (nI b)
    have hj : r1 = 0 ↔ r2 = 0 := by
      rw [j2, j4, rat_isJ hnc (by omega), isJ_eq w3]
    have hgB : gB T2 20 0 = v := by
      rw [b12, MS_20, updL_self, or_0]
    have hTr : gI (sL S1 0 v) 27 = nI b := b4
    by_cases hr : r1 = 0
    · have hr2 := hj.mp hr
      refine ⟨sL S1 0 v, _, T2, nI b, ?_, hm, ?_, fl, fn, Or.inr ⟨b, b1, b2, rfl, ?_⟩⟩
      · unfold x_Trial_takeOne
        simp only [hx, bind_s, if_true, o1]
        rw [show gI (sL S1 0 v) 28 = 0 from b5, if_pos rfl, hTr, hat, bind_s]
        dsimp only
        rw [j3, bind_s]
        simp only [hr2, if_true]
      · rw [o2, bind_s]
        dsimp only
        rw [b6, if_pos rfl, b3, j1, bind_s]
        simp only [hr, if_true]
      · refine ⟨(o3.1 26 rfl).trans t1, b4, b5, b6, b7.trans t5, b8.trans t6, (o3.1 11 rfl).trans t7, (o4.1 12 rfl).trans t8, b9, (o4.1 11 rfl).trans t10, ?_⟩
        refine ⟨(o4.1 13 rfl).trans rfl, ?_, (o3.1 19 rfl).trans s3.1, (o3.2.1 1 rfl).trans s3.2.1, (o3.1 10 rfl).trans s3.2.2⟩
        show SlV n nc (gA S1 6) (gI S1 17) (gI S1 18) v (gI S1 9) (gA S1 9) (gA T2 18 0) (gA T2 19 0) (gB T2 20 0) (gA T2 21 0) (gA T2 22 0) (gA T2 23 0)
        rw [o3.1 17 rfl, o3.1 18 rfl, o3.1 9 rfl, o4.2.2.1 18 rfl, o4.2.2.1 19 rfl, MS_18, MS_19, upd_self, upd_self, hgB]
        exact SlV_thing hk t2 (Nat.le_of_lt ha) b10 s2.2.2
    · have hr2 : ¬ r2 = 0 := fun z => hr (hj.mpr z)
      refine ⟨sI (sI (sL S1 0 v) 28 13) 29 (nI b), _, sI (sI T2 7 13) 8 (nI b), nI b, ?_, hm, ?_, (fl.sI rfl).sI rfl, (fn.sI rfl).sI rfl, Or.inl ⟨(o3.1 26 rfl).trans t1, 13, b, by decide, by decide, rfl, rfl, rfl, rfl, b2, fun z => absurd z (by decide), fun z => absurd z (by decide), ⟨0, by decide, b9⟩⟩⟩
      · unfold x_Trial_takeOne
        simp only [hx, bind_s, if_true, o1]
        rw [show gI (sL S1 0 v) 28 = 0 from b5, if_pos rfl, hTr, hat, bind_s]
        dsimp only
        rw [j3, bind_s]
        simp only [hr2, if_false]
        rw [show gI (sL S1 0 v) 27 = nI b from b4]
        rfl
      · rw [o2, bind_s]
        dsimp only
        rw [b6, if_pos rfl, b3, j1, bind_s]
        simp only [hr, if_false]
        rfl
  · refine ⟨sL S1 0 v, _, T2, r, ?_, hm, ?_, fl, fn, Or.inl ⟨(o3.1 26 rfl).trans t1, e, a, ?_, ?_, q3, q4, q5, q6, Nat.le_of_lt ha, q8, ?_, q9⟩⟩
    · unfold x_Trial_takeOne
      simp only [hx, bind_s, if_true, o1]
      rw [show gI (sL S1 0 v) 28 = e from q3, if_neg (pos_ne q1)]
    · rw [o2, bind_s]
      dsimp only
      rw [q4, if_neg (pos_ne q1)]
    · exact q1
    · exact Int32.le_trans q2 (by decide)
    · intro z
      rw [z] at q2
      exact absurd q2 (by decide)
/-- one phrase as a slot: slot 1 -/
theorem takeOne1 {S T : St} {n nl nc l a : Nat} {c cl : Nat → Nat} (h : SC S T n c nl cl nc) (ht : Tr0 S T n nc l a 1) (ha : a < nc) (kd : Int32) (hk : kd = 2 ∨ kd = 3 ∨ kd = 4 ∨ kd = 5) : ∃ S2 T1 T2 r, x_Trial_takeOne S kd = some S2 ∧ m_M_slot T kd (nI a) = some T1 ∧ ((m_M_takesOne T1 kd (nI a)).bind fun q7 => if (gI q7.2 7) = 0 then (m_M_joins q7.2 q7.1).bind fun q8 => if q8.1 = 0 then some (q7.1, q8.2) else (m_M_fails q8.2 (13 : Int32) q7.1).bind fun q9 => some (q7.1, q9) else some (q7.1, q7.2)) = some (r, T2) ∧ FrT S S2 ∧ FrM T T2 ∧ (TrE S2 T2 n nc l ∨ ∃ b, a < b ∧ b ≤ nc ∧ r = nI b ∧ Tr0 S2 T2 n nc l b (1 + 1)) := by
  obtain ⟨t1, t2, t3, t4, t5, t6, t7, t8, t9, t10, t11⟩ := ht
  obtain ⟨s1, s2, s3⟩ := t11
  have hx := x_open1 s2.k kd
  have hm := m_slot (T := T) (m := 1) (by decide) s1 kd a
  have fx : FrT S (sI (sI S 19 kd) 20 (gI S 27)) := (Fr.rf.sI rfl).sI rfl
  have fm : FrM T (MS T 1 kd a) := FrMS
  obtain ⟨v, S1, r, T2, o1, o2, o3, o4, o5⟩ := one_step (S := sI (sI S 19 kd) 20 (gI S 27)) (T := MS T 1 kd a) (s := 1) (h.fr fx fm) t2 ha t9 (by decide) rfl t3 t4 kd hk
  have fo := fx.tr o3.t
  have fn := fm.tr o4.m
  have fl : FrT S (sL S1 1 v) := fo.sL rfl
  have hSC := h.fr fl fn
  obtain ⟨-, -, -, ⟨hnc, w1, w2, w3, w4⟩⟩ := id hSC
  rcases o5 with ⟨b, b1, b2, b3, b4, b5, b6, b7, b8, b9, ⟨p, b10, b11⟩, b12, b13⟩ | ⟨v0, e, q1, q2, q3, q4, q5, q6, q7, q8, q9⟩
  · obtain ⟨r1, j1, j2⟩ := m_joins (T := T2) (a := b) w2 hnc (by omega)
    obtain ⟨r2, j3, j4⟩ := x_isJoin (sL S1 1 v) (rat (gA (sL S1 1 v) 6) nc (nI b))
    have hat := x_at (r := 6) (S := sL S1 1 v) w1 (show nc ≤ 60 from hnc) (by decide) (nI b)
    have hj : r1 = 0 ↔ r2 = 0 := by
      rw [j2, j4, rat_isJ hnc (by omega), isJ_eq w3]
    have hgB : gB T2 20 1 = v := by
      rw [b12, MS_20, updL_self, or_0]
    have hTr : gI (sL S1 1 v) 27 = nI b := b4
    by_cases hr : r1 = 0
    · have hr2 := hj.mp hr
      refine ⟨sL S1 1 v, _, T2, nI b, ?_, hm, ?_, fl, fn, Or.inr ⟨b, b1, b2, rfl, ?_⟩⟩
      · unfold x_Trial_takeOne
        simp only [hx, bind_s, show ((18 : Nat) = 17) = False from eq_false (by decide), if_false, if_true, o1]
        rw [show gI (sL S1 1 v) 28 = 0 from b5, if_pos rfl, hTr, hat, bind_s]
        dsimp only
        rw [j3, bind_s]
        simp only [hr2, if_true]
      · rw [o2, bind_s]
        dsimp only
        rw [b6, if_pos rfl, b3, j1, bind_s]
        simp only [hr, if_true]
      · refine ⟨(o3.1 26 rfl).trans t1, b4, b5, b6, b7.trans t5, b8.trans t6, (o3.1 11 rfl).trans t7, (o4.1 12 rfl).trans t8, b9, (o4.1 11 rfl).trans t10, ?_⟩
        refine ⟨(o4.1 13 rfl).trans rfl, ?_, ?_⟩
        · unfold Sl0 at s2 ⊢
          rw [show gA (sL S1 1 v) 6 = gA S 6 from o3.2.2.1 6 rfl, show gI (sL S1 1 v) 17 = gI S 17 from o3.1 17 rfl, show gI (sL S1 1 v) 18 = gI S 18 from o3.1 18 rfl, show gL (sL S1 1 v) 0 = gL S 0 from o3.2.1 0 rfl, show gI (sL S1 1 v) 9 = gI S 9 from o3.1 9 rfl, show gA (sL S1 1 v) 9 = gA S 9 from o3.2.2.1 9 rfl, o4.2.2.1 18 rfl, o4.2.2.1 19 rfl, MS_18, MS_19, upd_ne (by decide), upd_ne (by decide), b13 0 (by decide), MS_20, updL_ne (by decide), show gA T2 21 = gA T 21 from o4.2.2.1 21 rfl, show gA T2 22 = gA T 22 from o4.2.2.1 22 rfl, show gA T2 23 = gA T 23 from o4.2.2.1 23 rfl]
          exact s2
        · show SlV n nc (gA S1 6) (gI S1 19) (gI S1 20) v (gI S1 10) (gA S1 10) (gA T2 18 1) (gA T2 19 1) (gB T2 20 1) (gA T2 21 1) (gA T2 22 1) (gA T2 23 1)
          rw [o3.1 19 rfl, o3.1 20 rfl, o3.1 10 rfl, o4.2.2.1 18 rfl, o4.2.2.1 19 rfl, MS_18, MS_19, upd_self, upd_self, hgB]
          exact SlV_thing hk t2 (Nat.le_of_lt ha) b10 s3.2.2
    · have hr2 : ¬ r2 = 0 := fun z => hr (hj.mpr z)
      refine ⟨sI (sI (sL S1 1 v) 28 13) 29 (nI b), _, sI (sI T2 7 13) 8 (nI b), nI b, ?_, hm, ?_, (fl.sI rfl).sI rfl, (fn.sI rfl).sI rfl, Or.inl ⟨(o3.1 26 rfl).trans t1, 13, b, by decide, by decide, rfl, rfl, rfl, rfl, b2, fun z => absurd z (by decide), fun z => absurd z (by decide), ⟨0, by decide, b9⟩⟩⟩
      · unfold x_Trial_takeOne
        simp only [hx, bind_s, show ((18 : Nat) = 17) = False from eq_false (by decide), if_false, if_true, o1]
        rw [show gI (sL S1 1 v) 28 = 0 from b5, if_pos rfl, hTr, hat, bind_s]
        dsimp only
        rw [j3, bind_s]
        simp only [hr2, if_false]
        rw [show gI (sL S1 1 v) 27 = nI b from b4]
        rfl
      · rw [o2, bind_s]
        dsimp only
        rw [b6, if_pos rfl, b3, j1, bind_s]
        simp only [hr, if_false]
        rfl
  · refine ⟨sL S1 1 v, _, T2, r, ?_, hm, ?_, fl, fn, Or.inl ⟨(o3.1 26 rfl).trans t1, e, a, ?_, ?_, q3, q4, q5, q6, Nat.le_of_lt ha, q8, ?_, q9⟩⟩
    · unfold x_Trial_takeOne
      simp only [hx, bind_s, show ((18 : Nat) = 17) = False from eq_false (by decide), if_false, if_true, o1]
      rw [show gI (sL S1 1 v) 28 = e from q3, if_neg (pos_ne q1)]
    · rw [o2, bind_s]
      dsimp only
      rw [q4, if_neg (pos_ne q1)]
    · exact q1
    · exact Int32.le_trans q2 (by decide)
    · intro z
      rw [z] at q2
      exact absurd q2 (by decide)

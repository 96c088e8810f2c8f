theorem bs_zero_f : ∀ n, bs (fun _ => false) n = 0
  | 0 => rfl
  | n + 1 => by simp only [bs, Bool.false_eq_true, if_false]; exact bs_zero_f n
theorem SlV_num {n nc a : Nat} {cw : Nat → Int32} {kd x u : Int32} {w : Int64} {rs : Int32} {ra : Nat → Int32} {f t : Int32} (hk : kd = 10 ∨ kd = 11) (hx : x = nI a) (ha : a ≤ nc) (hw : w = 0) (hr : rs = nI 1) (h0 : ra 0 = u) : SlV n nc cw kd x w rs ra kd (nI a) 0 f t u := by
  refine ⟨rfl, hx, hw, ⟨fun _ => false, by rw [hw]; exact ((bs_zero_f n).symm)⟩, ?_, ?_, ⟨a, ha, rfl⟩, ?_, fun _ => ⟨hr, h0⟩, ?_, fun _ => hw⟩
  · rcases hk with rfl | rfl <;> decide
  · rcases hk with rfl | rfl <;> decide
  · intro z; rcases hk with rfl | rfl <;> exact absurd z (by decide)
  · intro z; rcases hk with rfl | rfl <;> exact absurd z (by decide)
/-- a number or a value as a slot: slot 0 -/
theorem numAt0 {S T : St} {n nl nc l a : Nat} {c cl : Nat → Nat} (h : SC S T n c nl cl nc) (ht : Tr0 S T n nc l a 0) (ha : a < nc) (kd u : Int32) (hk : kd = 10 ∨ kd = 11) : ∃ S1, x_Trial_openSlot S kd = some (17, S1) ∧ x_Row_add 9 S1 u = some (sI (sA S1 9 0 u) 9 (nI 1)) ∧ gI (sI (sA S1 9 0 u) 9 (nI 1)) 27 = nI a ∧ FrT S (sI (sI (sA S1 9 0 u) 9 (nI 1)) 27 (nI (a + 1))) ∧ FrM T (sA (MS T 0 kd a) 23 0 u) ∧ Tr0 (sI (sI (sA S1 9 0 u) 9 (nI 1)) 27 (nI (a + 1))) (sA (MS T 0 kd a) 23 0 u) n nc l (a + 1) (0 + 1) := by
  obtain ⟨t1, t2, t3, t4, t5, t6, t7, t8, t9, t10, t11⟩ := ht
  obtain ⟨s1, s2, s3⟩ := t11
  refine ⟨_, x_open0 s2.1 kd, ?_, t2, ((((Fr.rf.sI rfl).sI rfl).sA rfl).sI rfl).sI rfl, FrMS.sA rfl, t1, rfl, t3, t4, t5, t6, t7, t8, t9, t10, ?_⟩
  · exact x_add (r := 9) (S := sI (sI S 17 kd) 18 (gI S 27)) (n := 0) s2.2.2 (by decide) (by decide) u
  · refine ⟨rfl, ?_, s3⟩
    show SlV n nc (gA S 6) kd (gI S 27) (gL S 0) (nI 1) (gA (sA (sI (sI S 17 kd) 18 (gI S 27)) 9 0 u) 9) (gA (MS T 0 kd a) 18 0) (gA (MS T 0 kd a) 19 0) (gB (MS T 0 kd a) 20 0) (gA T 21 0) (gA T 22 0) (gA (sA (MS T 0 kd a) 23 0 u) 23 0)
    rw [MS_18, MS_19, MS_20, upd_self, upd_self, updL_self, gA_sA, if_pos rfl, gA_sA, if_pos rfl, upd_self]
    exact SlV_num hk t2 (Nat.le_of_lt ha) s2.2.1 rfl upd_self
/-- a number or a value as a slot: slot 1 -/
theorem numAt1 {S T : St} {n nl nc l a : Nat} {c cl : Nat → Nat} (h : SC S T n c nl cl nc) (ht : Tr0 S T n nc l a 1) (ha : a < nc) (kd u : Int32) (hk : kd = 10 ∨ kd = 11) : ∃ S1, x_Trial_openSlot S kd = some (18, S1) ∧ x_Row_add 10 S1 u = some (sI (sA S1 10 0 u) 10 (nI 1)) ∧ gI (sI (sA S1 10 0 u) 10 (nI 1)) 27 = nI a ∧ FrT S (sI (sI (sA S1 10 0 u) 10 (nI 1)) 27 (nI (a + 1))) ∧ FrM T (sA (MS T 1 kd a) 23 1 u) ∧ Tr0 (sI (sI (sA S1 10 0 u) 10 (nI 1)) 27 (nI (a + 1))) (sA (MS T 1 kd a) 23 1 u) n nc l (a + 1) (1 + 1) := by
  obtain ⟨t1, t2, t3, t4, t5, t6, t7, t8, t9, t10, t11⟩ := ht
  obtain ⟨s1, s2, s3⟩ := t11
  refine ⟨_, x_open1 s2.k kd, ?_, t2, ((((Fr.rf.sI rfl).sI rfl).sA rfl).sI rfl).sI rfl, FrMS.sA rfl, t1, rfl, t3, t4, t5, t6, t7, t8, t9, t10, ?_⟩
  · exact x_add (r := 10) (S := sI (sI S 19 kd) 20 (gI S 27)) (n := 0) s3.2.2 (by decide) (by decide) u
  · refine ⟨rfl, ?_, ?_⟩
    · show SlV n nc (gA S 6) (gI S 17) (gI S 18) (gL S 0) (gI S 9) (gA S 9) (gA (MS T 1 kd a) 18 0) (gA (MS T 1 kd a) 19 0) (gB (MS T 1 kd a) 20 0) (gA T 21 0) (gA T 22 0) (gA (sA (MS T 1 kd a) 23 1 u) 23 0)
      rw [MS_18, MS_19, MS_20, upd_ne (by decide), upd_ne (by decide), updL_ne (by decide), gA_sA, if_pos rfl, upd_ne (by decide)]
      exact s2
    · show SlV n nc (gA S 6) kd (gI S 27) (gL S 1) (nI 1) (gA (sA (sI (sI S 19 kd) 20 (gI S 27)) 10 0 u) 10) (gA (MS T 1 kd a) 18 1) (gA (MS T 1 kd a) 19 1) (gB (MS T 1 kd a) 20 1) (gA T 21 1) (gA T 22 1) (gA (sA (MS T 1 kd a) 23 1 u) 23 1)
      rw [MS_18, MS_19, MS_20, upd_self, upd_self, updL_self, gA_sA, if_pos rfl, gA_sA, if_pos rfl, upd_self]
      exact SlV_num hk t2 (Nat.le_of_lt ha) s3.2.1 rfl upd_self
theorem fail_step {S T : St} {n nc l a m : Nat} (ht : Tr0 S T n nc l a m) (T2 : St) (f2 : FrM T T2) (ha : a ≤ nc) (e : Int32) (h0 : 4 < e) (h14 : e ≤ 14) : x_Trial_fail S e (nI a) = some (sI (sI S 28 e) 29 (nI a)) ∧ FrT S (sI (sI S 28 e) 29 (nI a)) ∧ FrM T (sI (sI T2 7 e) 8 (nI a)) ∧ TrE (sI (sI S 28 e) 29 (nI a)) (sI (sI T2 7 e) 8 (nI a)) n nc l := by
  refine ⟨rfl, (Fr.rf.sI rfl).sI rfl, (f2.sI rfl).sI rfl, ht.1, e, a, h0, Int32.le_trans h14 (by decide), rfl, rfl, rfl, rfl, ha, ?_, ?_, ⟨0, by decide, ht.2.2.2.2.2.2.2.2.1⟩⟩
  · intro z; rw [z] at h14; exact absurd h14 (by decide)
  · intro z; rw [z] at h14; exact absurd h14 (by decide)
/-- NUMBER -/
theorem number_step {S T : St} {n nl nc l a m : Nat} {c cl : Nat → Nat} (h : SC S T n c nl cl nc) (ht : Tr0 S T n nc l a m) (hm : m < 2) (ha : a < nc) : ∃ S2, x_Trial_takeNumber S = some S2 ∧ FrT S S2 ∧ if (10000 : Int32) ≤ gA S 6 a then FrM T (sA (MS T m 10 a) 23 m (gA S 6 a - 10000)) ∧ Tr0 S2 (sA (MS T m 10 a) 23 m (gA S 6 a - 10000)) n nc l (a + 1) (m + 1) else FrM T (sI (sI (sA (MS T m 10 a) 23 m (gA S 6 a - 10000)) 7 8) 8 (nI a)) ∧ TrE S2 (sI (sI (sA (MS T m 10 a) 23 m (gA S 6 a - 10000)) 7 8) 8 (nI a)) n nc l := by
  obtain ⟨-, -, -, ⟨hnc, w1, w2, w3, w4⟩⟩ := id h
  have hat := x_at (r := 6) w1 (show nc ≤ 60 from hnc) (by decide) (nI a)
  rw [rat_nI ha (by omega)] at hat
  have hc := ht.2.1
  by_cases hlt : gA S 6 a < 10000
  · obtain ⟨f1, f2, f3, f4⟩ := fail_step ht (sA (MS T m 10 a) 23 m (gA S 6 a - 10000)) (FrMS.sA rfl) (Nat.le_of_lt ha) 8 (by decide) (by decide)
    refine ⟨_, ?_, f2, ?_⟩
    · unfold x_Trial_takeNumber x_Trial_takeNumber_b26
      simp only [hc, hat, bind_s, hlt, if_true, f1]
    · rw [if_neg (Int32.not_le.mpr hlt)]
      exact ⟨f3, f4⟩
  · have hge : (10000 : Int32) ≤ gA S 6 a := Int32.not_lt.mp hlt
    have hle : gA S 6 a ≤ 19999 := (w4.1 a ha).2
    match m, hm, ht with
    | 0, _, ht =>
      obtain ⟨S1, n1, n2, n3, n4, n5, n6⟩ := numAt0 h ht ha 10 (gA S 6 a - 10000) (Or.inl rfl)
      refine ⟨_, ?_, n4, by rw [if_pos hge]; exact ⟨n5, n6⟩⟩
      unfold x_Trial_takeNumber
      simp only [hc, hat, bind_s, hlt, if_false, hle, if_true, n1, n2, n3, nI_1]
    | 1, _, ht =>
      obtain ⟨S1, n1, n2, n3, n4, n5, n6⟩ := numAt1 h ht ha 10 (gA S 6 a - 10000) (Or.inl rfl)
      refine ⟨_, ?_, n4, by rw [if_pos hge]; exact ⟨n5, n6⟩⟩
      unfold x_Trial_takeNumber
      simp only [hc, hat, bind_s, hlt, if_false, hle, if_true, n1, n2, n3, nI_1, show ((18 : Nat) = 17) = False from eq_false (by decide)]
/-- CUSTOM -/
theorem custom_tok {S T : St} {n nl nc l a m np : Nat} {c cl : Nat → Nat} (h : SC S T n c nl cl nc) (ht : Tr0 S T n nc l a m) (hm : m < 2) (ha : a < nc) (o : Int32) (hnp : gI S 4 = nI np) (hnp3 : np < 2 ^ 31) : ∃ S2, x_Trial_takeCustom S o = some S2 ∧ FrT S S2 ∧ if pix (gA S 2) (gA S 3) o (gA S 6 a) np 0 < np then FrM T (sA (MS T m 11 a) 23 m (gA S 4 (pix (gA S 2) (gA S 3) o (gA S 6 a) np 0))) ∧ Tr0 S2 (sA (MS T m 11 a) 23 m (gA S 4 (pix (gA S 2) (gA S 3) o (gA S 6 a) np 0))) n nc l (a + 1) (m + 1) else FrM T (sI (sI (sA (MS T m 11 a) 23 m 0) 7 9) 8 (nI a)) ∧ TrE S2 (sI (sI (sA (MS T m 11 a) 23 m 0) 7 9) 8 (nI a)) n nc l := by
  obtain ⟨-, -, ⟨k, hk, e2, e3, e4, g4, p1, p2, p3, p4⟩, ⟨hnc, w1, w2, w3, w4⟩⟩ := id h
  have hkn : k = np := by
    rw [e4] at hnp
    exact (nI_eq (by omega) hnp3).mp hnp
  subst hkn
  have hat := x_at (r := 6) w1 (show nc ≤ 60 from hnc) (by decide) (nI a)
  rw [rat_nI ha (by omega)] at hat
  have hc := ht.2.1
  have hvf := x_vfind e2 e3 e4 hk o (gA S 6 a)
  by_cases hp : pix (gA S 2) (gA S 3) o (gA S 6 a) k 0 < k
  · rw [if_pos hp] at hvf
    have hne : ¬ gA S 4 (pix (gA S 2) (gA S 3) o (gA S 6 a) k 0) = (-1) := by
      intro q
      have := p4 _ hp
      rw [q] at this
      exact absurd this (by decide)
    match m, hm, ht with
    | 0, _, ht =>
      obtain ⟨S1, n1, n2, n3, n4, n5, n6⟩ := numAt0 h ht ha 11 (gA S 4 (pix (gA S 2) (gA S 3) o (gA S 6 a) k 0)) (Or.inr rfl)
      refine ⟨_, ?_, n4, by rw [if_pos hp]; exact ⟨n5, n6⟩⟩
      unfold x_Trial_takeCustom
      simp only [hc, hat, bind_s, hvf, hne, if_false, if_true, n1, n2, n3, nI_1]
    | 1, _, ht =>
      obtain ⟨S1, n1, n2, n3, n4, n5, n6⟩ := numAt1 h ht ha 11 (gA S 4 (pix (gA S 2) (gA S 3) o (gA S 6 a) k 0)) (Or.inr rfl)
      refine ⟨_, ?_, n4, by rw [if_pos hp]; exact ⟨n5, n6⟩⟩
      unfold x_Trial_takeCustom
      simp only [hc, hat, bind_s, hvf, hne, if_false, if_true, n1, n2, n3, nI_1, show ((18 : Nat) = 17) = False from eq_false (by decide)]
  · rw [if_neg hp] at hvf
    obtain ⟨f1, f2, f3, f4⟩ := fail_step ht (sA (MS T m 11 a) 23 m 0) (FrMS.sA rfl) (Nat.le_of_lt ha) 9 (by decide) (by decide)
    refine ⟨_, ?_, f2, by rw [if_neg hp]; exact ⟨f3, f4⟩⟩
    unfold x_Trial_takeCustom
    simp only [hc, hat, bind_s, hvf, if_true, f1]

theorem SlV_top {n nc a b : Nat} {cw : Nat → Int32} {x : Int32} {w : Int64} {rs : Int32} {ra : Nat → Int32} {u : Int32} (hx : x = nI a) (ha : a < b) (hb : b ≤ nc) (hw : w = 0) (hr : rs = nI (b - a)) (h0 : ∀ j, j < b - a → ra j = cw (a + j)) : SlV n nc cw 9 x w rs ra 9 (nI a) 0 (nI a) (nI b) u := by
  refine ⟨rfl, hx, hw, ⟨fun _ => false, by rw [hw]; exact ((bs_zero_f n).symm)⟩, by decide, by decide, ⟨a, by omega, rfl⟩, fun _ => ⟨a, b, rfl, rfl, ha, hb, hr, h0⟩, ?_, ?_, fun _ => hw⟩
  · intro z; exact absurd z (by decide)
  · intro z; exact absurd z (by decide)
theorem topic_step0 {S T : St} {n nl nc l a k : Nat} {c cl : Nat → Nat} (h : SC S T n c nl cl nc) (ht : Tr0 S T n nc l a 0) (ha : a < nc) (hl : l < nl) (hk : k < cl l) (h0 : k + 1 < cl l → gA S 24 (8 * l + (k + 1)) = 0) : ∃ S2 T2 b, x_Trial_takeTopic S (nI k) = some S2 ∧ m_M_takesTopic (MS T 0 9 a) (nI l) (nI k) (nI a) = some (nI b, T2) ∧ FrT S S2 ∧ FrM T T2 ∧ a < b ∧ b ≤ nc ∧ Tr0 S2 T2 n nc l b (0 + 1) := by
  obtain ⟨-, ⟨hn, f1, f2, f3, f4, f5, f6, f6b, f7, f8, f9, f10, f11⟩, -, ⟨hnc, w1, w2, w3, w4⟩⟩ := id h
  obtain ⟨t1, t2, t3, t4, t5, t6, t7, t8, t9, t10, t11⟩ := ht
  obtain ⟨s1, s2, s3⟩ := t11
  have h8 := f7 l (by omega)
  have hx := x_open0 s2.1 9
  have hx6 := x_at (r := 6) (S := sI (sI S 17 9) 18 (gI S 27)) w1 (show nc ≤ 60 from hnc) (by decide) (nI a)
  rw [rat_nI ha (by omega)] at hx6
  have hadd := x_add (r := 9) (S := sI (sI S 17 9) 18 (gI S 27)) (n := 0) s2.2.2 (by decide) (by decide) (gA S 6 a)
  obtain ⟨S2, g1, g2, g3, g4, g5⟩ := x_topic0_l (n := n) (a := a) (nc := nc) hn hl hk hnc (nc - (a + 1)) 99999 (a + 1) (sI (sI (sA (sI (sI S 17 9) 18 (gI S 27)) 9 0 (gA S 6 a)) 9 (nI 1)) 27 (nI (a + 1))) f1 f7 h0 w1 t1 rfl (by omega) (by omega) (by omega) (by rw [show a + 1 - a = 1 by omega]; rfl) (by
    intro j hj
    show gA (sA (sI (sI S 17 9) 18 (gI S 27)) 9 0 (gA S 6 a)) 9 j = gA S 6 (a + j)
    rw [show j = 0 by omega, gA_sA, if_pos rfl, upd_self, Nat.add_zero])
  have hte := tend_le (st := tst9 (gA S 24) (gA S 25) (8 * l) (cl l) k (gA S 6)) (nc - (a + 1)) (a + 1)
  have hmt := m_topic_l (T := MS T 0 9 a) (l := l) (c := cl l) (k := k) (nc := nc) (s := 0) (a := a) (by omega) h8.1 (f8 l hl) hk (by decide) rfl w2 hnc (nc - (a + 1)) fu (a + 1) (by omega) (show _ < 100000 by omega)
  have hnx : nx (gA (MS T 0 9 a) 6) (8 * l) (cl l - (k + 1)) (k + 1) = k + 1 := by
    refine nx_stop (fun z => ?_)
    have z0 := h0 z.1
    rw [(f10 l (k + 1) hl z.1).1] at z0
    have z1 : gA T 6 (8 * l + (k + 1)) = 1 := z.2
    rw [z0] at z1
    exact absurd z1 (by decide)
  have heq : tend (tst9 (gA (MS T 0 9 a) 6) (gA (MS T 0 9 a) 7) (8 * l) (cl l) k (gA (MS T 0 9 a) 15)) (nc - (a + 1)) (a + 1) = tend (tst9 (gA S 24) (gA S 25) (8 * l) (cl l) k (gA S 6)) (nc - (a + 1)) (a + 1) := by
    refine tend_eq _ _ (fun j h1 h2 => ?_)
    unfold tst9
    by_cases hc : k + 1 < cl l
    · rw [decide_eq_true hc, Bool.true_and, Bool.true_and, w3 j (by omega)]
      exact (isW_eq hc (fun j hj => (f10 l j hl hj).1) (fun j hj => (f10 l j hl hj).2)).symm
    · rw [decide_eq_false hc, Bool.false_and, Bool.false_and]
  rw [heq] at hmt
  have gA6 : gA (sI (sI (sA (sI (sI S 17 9) 18 (gI S 27)) 9 0 (gA S 6 a)) 9 (nI 1)) 27 (nI (a + 1))) 6 = gA S 6 := rfl
  have gA24 : gA (sI (sI (sA (sI (sI S 17 9) 18 (gI S 27)) 9 0 (gA S 6 a)) 9 (nI 1)) 27 (nI (a + 1))) 24 = gA S 24 := rfl
  have gA25 : gA (sI (sI (sA (sI (sI S 17 9) 18 (gI S 27)) 9 0 (gA S 6 a)) 9 (nI 1)) 27 (nI (a + 1))) 25 = gA S 25 := rfl
  rw [gA6, gA24, gA25] at g3 g4 g5
  generalize hb : tend (tst9 (gA S 24) (gA S 25) (8 * l) (cl l) k (gA S 6)) (nc - (a + 1)) (a + 1) = b at g3 g4 g5 hmt hte
  have fS : FrT S S2 := by
    have q : FrT S (sI (sI (sA (sI (sI S 17 9) 18 (gI S 27)) 9 0 (gA S 6 a)) 9 (nI 1)) 27 (nI (a + 1))) := ((((Fr.rf.sI rfl).sI rfl).sA rfl).sI rfl).sI rfl
    refine q.tr ⟨fun k hk => g2.1 k (cont_sub (by decide) hk), fun k hk => g2.2.1 k rfl, fun k hk => g2.2.2.1 k ?_, g2.2.2.2⟩
    have := cont_sub (l := [9]) (by decide) hk
    simpa [toA0] using this
  refine ⟨S2, sA (sA (MS T 0 9 a) 21 0 (nI a)) 22 0 (nI b), b, ?_, ?_, fS, ((FrMS.sA rfl).sA rfl), by omega, by omega, ?_⟩
  · unfold x_Trial_takeTopic
    simp only [hx, bind_s, if_true]
    rw [show gI (sI (sI S 17 9) 18 (gI S 27)) 27 = nI a from t2, show fu = 99999 + 1 from rfl]
    show x_Trial_takeTopic_b12_f (x_Trial_takeTopic_b12 99999) _ _ _ = _
    unfold x_Trial_takeTopic_b12_f x_Trial_takeTopic_b62
    rw [x_size, bind_s]
    dsimp only
    rw [show gI (sI (sI S 17 9) 18 (gI S 27)) 6 = nI nc from w1, show gI (sI (sI S 17 9) 18 (gI S 27)) 27 = nI a from t2, if_neg (nI_ge ha (by omega)), if_pos rfl, hx6, bind_s]
    dsimp only
    rw [show gA (sI (sI S 17 9) 18 (gI S 27)) 6 a = gA S 6 a from rfl, hadd, bind_s, show gI (sI (sA (sI (sI S 17 9) 18 (gI S 27)) 9 0 (gA S 6 a)) 9 (nI (0 + 1))) 27 = nI a from t2, nI_1]
    exact g1
  · unfold m_M_takesTopic
    rw [m_next (T := MS T 0 9 a) (l := l) (c := cl l) (by omega) h8.1 (f8 l hl) hk, bind_s]
    dsimp only
    rw [hnx, nI_1]
    exact hmt
  · refine ⟨(g2.1 26 rfl).trans t1, g3, (g2.1 28 rfl).trans t3, t4, (g2.1 29 rfl).trans t5, t6, (g2.1 11 rfl).trans t7, t8, (g2.1 12 rfl).trans t9, t10, ?_⟩
    refine ⟨rfl, ?_, (g2.1 19 rfl).trans s3.1, (g2.2.1 1 rfl).trans s3.2.1, (g2.1 10 rfl).trans s3.2.2⟩
    unfold Sl0
    rw [show gA S2 6 = gA S 6 from g2.2.2.1 6 rfl, show gI S2 17 = 9 from g2.1 17 rfl, show gI S2 18 = gI S 27 from g2.1 18 rfl, show gL S2 0 = gL S 0 from g2.2.1 0 rfl, show gA (sA (sA (MS T 0 9 a) 21 0 (nI a)) 22 0 (nI b)) 18 0 = 9 by show gA (MS T 0 9 a) 18 0 = 9; rw [MS_18, upd_self], show gA (sA (sA (MS T 0 9 a) 21 0 (nI a)) 22 0 (nI b)) 19 0 = nI a by show gA (MS T 0 9 a) 19 0 = _; rw [MS_19, upd_self], show gB (sA (sA (MS T 0 9 a) 21 0 (nI a)) 22 0 (nI b)) 20 0 = 0 by show gB (MS T 0 9 a) 20 0 = _; rw [MS_20, updL_self], show gA (sA (sA (MS T 0 9 a) 21 0 (nI a)) 22 0 (nI b)) 21 0 = nI a by rw [gA_sA, if_neg (by decide), gA_sA, if_pos rfl, upd_self], show gA (sA (sA (MS T 0 9 a) 21 0 (nI a)) 22 0 (nI b)) 22 0 = nI b by rw [gA_sA, if_pos rfl, upd_self]]
    exact SlV_top t2 (by omega) (by omega) s2.2.1 g4 g5
theorem topic_step1 {S T : St} {n nl nc l a k : Nat} {c cl : Nat → Nat} (h : SC S T n c nl cl nc) (ht : Tr0 S T n nc l a 1) (ha : a < nc) (hl : l < nl) (hk : k < cl l) (h0 : k + 1 < cl l → gA S 24 (8 * l + (k + 1)) = 0) : ∃ S2 T2 b, x_Trial_takeTopic S (nI k) = some S2 ∧ m_M_takesTopic (MS T 1 9 a) (nI l) (nI k) (nI a) = some (nI b, T2) ∧ FrT S S2 ∧ FrM T T2 ∧ a < b ∧ b ≤ nc ∧ Tr0 S2 T2 n nc l b (1 + 1) := by
  obtain ⟨-, ⟨hn, f1, f2, f3, f4, f5, f6, f6b, f7, f8, f9, f10, f11⟩, -, ⟨hnc, w1, w2, w3, w4⟩⟩ := id h
  obtain ⟨t1, t2, t3, t4, t5, t6, t7, t8, t9, t10, t11⟩ := ht
  obtain ⟨s1, s2, s3⟩ := t11
  have h8 := f7 l (by omega)
  have hx := x_open1 s2.k 9
  have hx6 := x_at (r := 6) (S := sI (sI S 19 9) 20 (gI S 27)) w1 (show nc ≤ 60 from hnc) (by decide) (nI a)
  rw [rat_nI ha (by omega)] at hx6
  have hadd := x_add (r := 10) (S := sI (sI S 19 9) 20 (gI S 27)) (n := 0) s3.2.2 (by decide) (by decide) (gA S 6 a)
  obtain ⟨S2, g1, g2, g3, g4, g5⟩ := x_topic1_l (n := n) (a := a) (nc := nc) hn hl hk hnc (nc - (a + 1)) 99999 (a + 1) (sI (sI (sA (sI (sI S 19 9) 20 (gI S 27)) 10 0 (gA S 6 a)) 10 (nI 1)) 27 (nI (a + 1))) f1 f7 h0 w1 t1 rfl (by omega) (by omega) (by omega) (by rw [show a + 1 - a = 1 by omega]; rfl) (by
    intro j hj
    show gA (sA (sI (sI S 19 9) 20 (gI S 27)) 10 0 (gA S 6 a)) 10 j = gA S 6 (a + j)
    rw [show j = 0 by omega, gA_sA, if_pos rfl, upd_self, Nat.add_zero])
  have hte := tend_le (st := tst9 (gA S 24) (gA S 25) (8 * l) (cl l) k (gA S 6)) (nc - (a + 1)) (a + 1)
  have hmt := m_topic_l (T := MS T 1 9 a) (l := l) (c := cl l) (k := k) (nc := nc) (s := 1) (a := a) (by omega) h8.1 (f8 l hl) hk (by decide) rfl w2 hnc (nc - (a + 1)) fu (a + 1) (by omega) (show _ < 100000 by omega)
  have hnx : nx (gA (MS T 1 9 a) 6) (8 * l) (cl l - (k + 1)) (k + 1) = k + 1 := by
    refine nx_stop (fun z => ?_)
    have z0 := h0 z.1
    rw [(f10 l (k + 1) hl z.1).1] at z0
    have z1 : gA T 6 (8 * l + (k + 1)) = 1 := z.2
    rw [z0] at z1
    exact absurd z1 (by decide)
  have heq : tend (tst9 (gA (MS T 1 9 a) 6) (gA (MS T 1 9 a) 7) (8 * l) (cl l) k (gA (MS T 1 9 a) 15)) (nc - (a + 1)) (a + 1) = tend (tst9 (gA S 24) (gA S 25) (8 * l) (cl l) k (gA S 6)) (nc - (a + 1)) (a + 1) := by
    refine tend_eq _ _ (fun j h1 h2 => ?_)
    unfold tst9
    by_cases hc : k + 1 < cl l
    · rw [decide_eq_true hc, Bool.true_and, Bool.true_and, w3 j (by omega)]
      exact (isW_eq hc (fun j hj => (f10 l j hl hj).1) (fun j hj => (f10 l j hl hj).2)).symm
    · rw [decide_eq_false hc, Bool.false_and, Bool.false_and]
  rw [heq] at hmt
  have gA6 : gA (sI (sI (sA (sI (sI S 19 9) 20 (gI S 27)) 10 0 (gA S 6 a)) 10 (nI 1)) 27 (nI (a + 1))) 6 = gA S 6 := rfl
  have gA24 : gA (sI (sI (sA (sI (sI S 19 9) 20 (gI S 27)) 10 0 (gA S 6 a)) 10 (nI 1)) 27 (nI (a + 1))) 24 = gA S 24 := rfl
  have gA25 : gA (sI (sI (sA (sI (sI S 19 9) 20 (gI S 27)) 10 0 (gA S 6 a)) 10 (nI 1)) 27 (nI (a + 1))) 25 = gA S 25 := rfl
  rw [gA6, gA24, gA25] at g3 g4 g5
  generalize hb : tend (tst9 (gA S 24) (gA S 25) (8 * l) (cl l) k (gA S 6)) (nc - (a + 1)) (a + 1) = b at g3 g4 g5 hmt hte
  have fS : FrT S S2 := by
    have q : FrT S (sI (sI (sA (sI (sI S 19 9) 20 (gI S 27)) 10 0 (gA S 6 a)) 10 (nI 1)) 27 (nI (a + 1))) := ((((Fr.rf.sI rfl).sI rfl).sA rfl).sI rfl).sI rfl
    refine q.tr ⟨fun k hk => g2.1 k (cont_sub (by decide) hk), fun k hk => g2.2.1 k rfl, fun k hk => g2.2.2.1 k ?_, g2.2.2.2⟩
    have := cont_sub (l := [10]) (by decide) hk
    simpa [toA1] using this
  refine ⟨S2, sA (sA (MS T 1 9 a) 21 1 (nI a)) 22 1 (nI b), b, ?_, ?_, fS, ((FrMS.sA rfl).sA rfl), by omega, by omega, ?_⟩
  · unfold x_Trial_takeTopic
    simp only [hx, bind_s, show ((18 : Nat) = 17) = False from eq_false (by decide), if_false, if_true]
    rw [show gI (sI (sI S 19 9) 20 (gI S 27)) 27 = nI a from t2, show fu = 99999 + 1 from rfl]
    show x_Trial_takeTopic_b12_1_f (x_Trial_takeTopic_b12_1 99999) _ _ _ = _
    unfold x_Trial_takeTopic_b12_1_f x_Trial_takeTopic_b62_1
    rw [x_size, bind_s]
    dsimp only
    rw [show gI (sI (sI S 19 9) 20 (gI S 27)) 6 = nI nc from w1, show gI (sI (sI S 19 9) 20 (gI S 27)) 27 = nI a from t2, if_neg (nI_ge ha (by omega)), if_pos rfl, hx6, bind_s]
    dsimp only
    rw [show gA (sI (sI S 19 9) 20 (gI S 27)) 6 a = gA S 6 a from rfl, hadd, bind_s, show gI (sI (sA (sI (sI S 19 9) 20 (gI S 27)) 10 0 (gA S 6 a)) 10 (nI (0 + 1))) 27 = nI a from t2, nI_1]
    exact g1
  · unfold m_M_takesTopic
    rw [m_next (T := MS T 1 9 a) (l := l) (c := cl l) (by omega) h8.1 (f8 l hl) hk, bind_s]
    dsimp only
    rw [hnx, nI_1]
    exact hmt
  · refine ⟨(g2.1 26 rfl).trans t1, g3, (g2.1 28 rfl).trans t3, t4, (g2.1 29 rfl).trans t5, t6, (g2.1 11 rfl).trans t7, t8, (g2.1 12 rfl).trans t9, t10, ?_⟩
    refine ⟨rfl, ?_, ?_⟩
    · unfold Sl0 at s2 ⊢
      rw [show gA S2 6 = gA S 6 from g2.2.2.1 6 rfl, show gI S2 17 = gI S 17 from g2.1 17 rfl, show gI S2 18 = gI S 18 from g2.1 18 rfl, show gL S2 0 = gL S 0 from g2.2.1 0 rfl, show gI S2 9 = gI S 9 from g2.1 9 rfl, show gA S2 9 = gA S 9 from g2.2.2.1 9 rfl, show gA (sA (sA (MS T 1 9 a) 21 1 (nI a)) 22 1 (nI b)) 18 0 = gA T 18 0 by show gA (MS T 1 9 a) 18 0 = _; rw [MS_18, upd_ne (by decide)], show gA (sA (sA (MS T 1 9 a) 21 1 (nI a)) 22 1 (nI b)) 19 0 = gA T 19 0 by show gA (MS T 1 9 a) 19 0 = _; rw [MS_19, upd_ne (by decide)], show gB (sA (sA (MS T 1 9 a) 21 1 (nI a)) 22 1 (nI b)) 20 0 = gB T 20 0 by show gB (MS T 1 9 a) 20 0 = _; rw [MS_20, updL_ne (by decide)], show gA (sA (sA (MS T 1 9 a) 21 1 (nI a)) 22 1 (nI b)) 21 0 = gA T 21 0 by rw [gA_sA, if_neg (by decide), gA_sA, if_pos rfl, upd_ne (by decide)]; rfl, show gA (sA (sA (MS T 1 9 a) 21 1 (nI a)) 22 1 (nI b)) 22 0 = gA T 22 0 by rw [gA_sA, if_pos rfl, upd_ne (by decide)]; rfl, show gA (sA (sA (MS T 1 9 a) 21 1 (nI a)) 22 1 (nI b)) 23 0 = gA T 23 0 from rfl]
      exact s2
    · unfold Sl1
      rw [show gA S2 6 = gA S 6 from g2.2.2.1 6 rfl, show gI S2 19 = 9 from g2.1 19 rfl, show gI S2 20 = gI S 27 from g2.1 20 rfl, show gL S2 1 = gL S 1 from g2.2.1 1 rfl, show gA (sA (sA (MS T 1 9 a) 21 1 (nI a)) 22 1 (nI b)) 18 1 = 9 by show gA (MS T 1 9 a) 18 1 = 9; rw [MS_18, upd_self], show gA (sA (sA (MS T 1 9 a) 21 1 (nI a)) 22 1 (nI b)) 19 1 = nI a by show gA (MS T 1 9 a) 19 1 = _; rw [MS_19, upd_self], show gB (sA (sA (MS T 1 9 a) 21 1 (nI a)) 22 1 (nI b)) 20 1 = 0 by show gB (MS T 1 9 a) 20 1 = _; rw [MS_20, updL_self], show gA (sA (sA (MS T 1 9 a) 21 1 (nI a)) 22 1 (nI b)) 21 1 = nI a by rw [gA_sA, if_neg (by decide), gA_sA, if_pos rfl, upd_self], show gA (sA (sA (MS T 1 9 a) 21 1 (nI a)) 22 1 (nI b)) 22 1 = nI b by rw [gA_sA, if_pos rfl, upd_self]]
      exact SlV_top t2 (by omega) (by omega) s3.2.1 g4 g5

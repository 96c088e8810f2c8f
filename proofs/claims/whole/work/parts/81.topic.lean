/-- WORD -/
theorem word_step {S T : St} {n nl nc l a m k : Nat} {c cl : Nat → Nat} (h : SC S T n c nl cl nc) (ht : Tr0 S T n nc l a m) (ha : a < nc) (hl : l < nl) (hk : k < cl l) (h0 : gA S 24 (8 * l + k) = 0) : ∃ S2, x_Trial_takeWord S (nI k) = some S2 ∧ FrT S S2 ∧ if isW (gA S 24) (gA S 25) (8 * l) (cl l) k (gA S 6 a) = true then Tr0 S2 T n nc l (a + 1) m else TrE S2 (sI (sI T 7 5) 8 (nI a)) n nc l := by
  obtain ⟨-, ⟨hn, f1, f2, f3, f4, f5, f6, f6b, f7, f8, f9, f10, f11⟩, -, ⟨hnc, w1, w2, w3, w4⟩⟩ := id h
  have hat := x_at (r := 6) w1 (show nc ≤ 60 from hnc) (by decide) (nI a)
  rw [rat_nI ha (by omega)] at hat
  have hx := x_takes f1 hn f7 hl hk h0 (gA S 6 a)
  cases hb : isW (gA S 24) (gA S 25) (8 * l) (cl l) k (gA S 6 a)
  · rw [hb] at hx
    obtain ⟨g1, g2, g3, g4⟩ := fail_step ht T Fr.rf (Nat.le_of_lt ha) 5 (by decide) (by decide)
    refine ⟨_, ?_, g2, by rw [if_neg (by decide)]; exact g4⟩
    unfold x_Trial_takeWord
    simp only [ht.2.1, ht.1, hat, bind_s, hx, b2i_0, if_true, g1]
  · rw [hb] at hx
    refine ⟨sI S 27 (nI (a + 1)), ?_, Fr.rf.sI rfl, ?_⟩
    · unfold x_Trial_takeWord
      simp only [ht.2.1, ht.1, hat, bind_s, hx, b2i_0, Bool.true_eq_false, if_false, nI_1]
    · rw [if_pos rfl]
      obtain ⟨t1, t2, t3⟩ := ht
      exact ⟨t1, rfl, t3⟩
/-- where a topic ends -/
def tend (st : Nat → Bool) : Nat → Nat → Nat
  | 0, t => t
  | r + 1, t => if st t = true then t else tend st r (t + 1)
theorem tend_le {st : Nat → Bool} : ∀ r t, t ≤ tend st r t ∧ tend st r t ≤ t + r
  | 0, t => by simp only [tend]; omega
  | r + 1, t => by
    simp only [tend]
    by_cases h : st t = true
    · rw [if_pos h]; omega
    · rw [if_neg h]; have := tend_le (st := st) r (t + 1); omega
theorem tend_eq {st su : Nat → Bool} : ∀ r t, (∀ k, t ≤ k → k < t + r → st k = su k) → tend st r t = tend su r t
  | 0, _, _ => rfl
  | r + 1, t, h => by
    simp only [tend]
    rw [h t (by omega) (by omega), tend_eq r (t + 1) (fun k h1 h2 => h k (by omega) (by omega))]
def tst9 (f o : Nat → Int32) (b c k : Nat) (cw : Nat → Int32) (t : Nat) : Bool := decide (k + 1 < c) && isW f o b c (k + 1) (cw t)
theorem x_topTakes {S : St} {n : Nat} {c : Nat → Nat} (e : gI S 25 = nI n) (hn : n ≤ 60) (f7 : ∀ l, l < 60 → c l ≤ 8 ∧ gA S 23 l = nI (c l)) {l : Nat} (hl : l < n) {k : Nat} (hk : k < c l) (h0 : k + 1 < c l → gA S 24 (8 * l + (k + 1)) = 0) (cw : Nat → Int32) (t : Nat) : x_Lines_takes S (nI l) (nI (k + 1)) (cw t) = some (b2i (tst9 (gA S 24) (gA S 25) (8 * l) (c l) k cw t), S) := by
  have h8 := f7 l (by omega)
  unfold tst9
  by_cases h : k + 1 < c l
  · rw [x_takes e hn f7 hl h (h0 h), decide_eq_true h, Bool.true_and]
  · rw [decide_eq_false h, Bool.false_and]
    unfold x_Lines_takes
    rw [x_kindAt e hn f7 hl, bind_s, rat_no (show c l ≤ k + 1 by omega) (by omega)]
    rfl
theorem m_topic_l {T : St} {l c k nc s a : Nat} (hl : l < 60) (hc : c ≤ 8) (e : gA T 5 l = nI c) (hk : k < c) (hs : s < 2) (es : gI T 13 = nI (s + 1)) (er : gI T 6 = nI nc) (hr : nc ≤ 60) : ∀ (r fuel t : Nat), t + r = nc → r < fuel → m_M_takesTopic_b13 fuel T (nI l) (nI a) (nI (k + 1)) (nI t) = some (nI (tend (tst9 (gA T 6) (gA T 7) (8 * l) c k (gA T 15)) r t), sA (sA T 21 s (nI a)) 22 s (nI (tend (tst9 (gA T 6) (gA T 7) (8 * l) c k (gA T 15)) r t)))
  | r, 0, t, _, hf => absurd hf (by omega)
  | 0, fuel + 1, t, he, _ => by
    show m_M_takesTopic_b13_f _ T _ _ _ _ = _
    simp only [m_M_takesTopic_b13_f, m_M_takesTopic_b56, er, le_t (show nc ≤ t by omega) (by omega), if_true, tend, gI_sA, es, nI_pred, gd_t _ (vin_nI hs (by omega)), nI_clamp (show s < 2 ^ 31 by omega)]
  | r + 1, fuel + 1, t, he, hf => by
    have ih := m_topic_l (a := a) hl hc e hk hs es er hr r fuel (t + 1) (by omega) (by omega)
    show m_M_takesTopic_b13_f (m_M_takesTopic_b13 fuel) T _ _ _ _ = _
    simp only [m_M_takesTopic_b13_f, m_M_takesTopic_b50, m_M_takesTopic_b56, er, le_f (show t < nc by omega) (by omega), if_false, gd_t _ (vin_nI hl (by omega)), nI_clamp (show l < 2 ^ 31 by omega), e, gI_sA, es, nI_pred, gd_t _ (vin_nI hs (by omega)), nI_clamp (show s < 2 ^ 31 by omega), nI_1, tend]
    by_cases h : k + 1 < c
    · simp only [le_f h (by omega), if_false, gd_t _ (vin_nI (show t < 60 by omega) (by omega)), nI_clamp (show t < 2 ^ 31 by omega), m_oneOf hl hc e h, bind_s, b2i_0, es, nI_pred, gd_t _ (vin_nI hs (by omega)), nI_clamp (show s < 2 ^ 31 by omega)]
      have hst : tst9 (gA T 6) (gA T 7) (8 * l) c k (gA T 15) t = isW (gA T 6) (gA T 7) (8 * l) c (k + 1) (gA T 15 t) := by unfold tst9; rw [decide_eq_true h, Bool.true_and]
      rw [hst]
      cases isW (gA T 6) (gA T 7) (8 * l) c (k + 1) (gA T 15 t)
      · simp only [if_true, Bool.false_eq_true, if_false]; exact ih
      · simp only [Bool.true_eq_false, if_false, if_true]
    · have hst : tst9 (gA T 6) (gA T 7) (8 * l) c k (gA T 15) t = false := by unfold tst9; rw [decide_eq_false h, Bool.false_and]
      simp only [le_t (show c ≤ k + 1 by omega) (by omega), if_true, hst, Bool.false_eq_true, if_false]
      exact ih
def toI0 (k : Nat) : Bool := [9, 27].contains k
def toA0 (k : Nat) : Bool := k == 9
def no0 (_ : Nat) : Bool := false
theorem x_topic0_l {n nl nc l k a : Nat} {cl : Nat → Nat} (hn : nl ≤ 60) (hl : l < nl) (hk : k < cl l) (hnc : nc ≤ 60) : ∀ (r fuel t : Nat) (S : St), gI S 25 = nI nl → (∀ l, l < 60 → cl l ≤ 8 ∧ gA S 23 l = nI (cl l)) → (k + 1 < cl l → gA S 24 (8 * l + (k + 1)) = 0) → gI S 6 = nI nc → gI S 26 = nI l → gI S 27 = nI t → a < t → t + r = nc → r < fuel → gI S 9 = nI (t - a) → (∀ j, j < t - a → gA S 9 j = gA S 6 (a + j)) → ∃ S2, x_Trial_takeTopic_b12 fuel S (nI k) (nI a) = some S2 ∧ Fr toI0 no0 toA0 noB S S2 ∧ gI S2 27 = nI (tend (tst9 (gA S 24) (gA S 25) (8 * l) (cl l) k (gA S 6)) r t) ∧ gI S2 9 = nI (tend (tst9 (gA S 24) (gA S 25) (8 * l) (cl l) k (gA S 6)) r t - a) ∧ ∀ j, j < tend (tst9 (gA S 24) (gA S 25) (8 * l) (cl l) k (gA S 6)) r t - a → gA S2 9 j = gA S 6 (a + j)
  | r, 0, t, S, _, _, _, _, _, _, _, _, hf, _, _ => absurd hf (by omega)
  | 0, fuel + 1, t, S, e1, e2, e3, e4, e5, e6, hat, he, _, e7, e8 => by
    refine ⟨S, ?_, Fr.rf, e6, e7, e8⟩
    show x_Trial_takeTopic_b12_f _ S _ _ = _
    simp only [x_Trial_takeTopic_b12_f, x_size, bind_s, e4, e6, le_t (show nc ≤ t by omega) (by omega), if_true]
  | r + 1, fuel + 1, t, S, e1, e2, e3, e4, e5, e6, hat, he, hf, e7, e8 => by
    have hx := x_at (r := 6) e4 (show nc ≤ 60 from hnc) (by decide) (nI t)
    rw [rat_nI (show t < nc by omega) (by omega)] at hx
    have hne : (nI t = nI a) = False := eq_false (fun z => by have := (nI_eq (by omega) (by omega)).mp z; omega)
    have htk := x_topTakes e1 hn e2 hl hk e3 (gA S 6) t
    cases hb : tst9 (gA S 24) (gA S 25) (8 * l) (cl l) k (gA S 6) t
    · rw [hb] at htk
      have hadd := x_add (r := 9) (S := S) (n := t - a) e7 (show t - a < 60 by omega) (by decide) (gA S 6 t)
      obtain ⟨S2, g1, g2, g3, g4, g5⟩ := x_topic0_l (n := n) (a := a) hn hl hk hnc r fuel (t + 1) (sI (sI (sA S 9 (t - a) (gA S 6 t)) 9 (nI (t - a + 1))) 27 (nI (t + 1))) e1 e2 e3 e4 e5 rfl (by omega) (by omega) (by omega) (by rw [show t + 1 - a = t - a + 1 by omega]; rfl) (by
        intro j hj
        show gA (sA S 9 (t - a) (gA S 6 t)) 9 j = gA S 6 (a + j)
        rw [gA_sA, if_pos rfl]
        by_cases ej : j = t - a
        · rw [ej, upd_self, show a + (t - a) = t by omega]
        · rw [upd_ne ej]; exact e8 j (by omega))
      refine ⟨S2, ?_, Fr.tr (((Fr.rf.sA rfl).sI rfl).sI rfl) g2, ?_, ?_, ?_⟩
      · show x_Trial_takeTopic_b12_f (x_Trial_takeTopic_b12 fuel) S _ _ = _
        simp only [x_Trial_takeTopic_b12_f, x_Trial_takeTopic_b62, x_size, bind_s, e4, e6, le_f (show t < nc by omega) (by omega), if_false, hne, hx, e5, nI_1, htk, b2i_0, if_true, hadd]
        rw [show gI (sI (sA S 9 (t - a) (gA S 6 t)) 9 (nI (t - a + 1))) 27 = nI t from e6, nI_1]
        exact g1
      · rw [g3]; simp only [tend, hb, Bool.false_eq_true, if_false]; rfl
      · rw [g4]; simp only [tend, hb, Bool.false_eq_true, if_false]; rfl
      · intro j hj
        simp only [tend, hb, Bool.false_eq_true, if_false] at hj
        exact g5 j hj
    · rw [hb] at htk
      refine ⟨S, ?_, Fr.rf, ?_, ?_, ?_⟩
      · show x_Trial_takeTopic_b12_f _ S _ _ = _
        simp only [x_Trial_takeTopic_b12_f, x_size, bind_s, e4, e6, le_f (show t < nc by omega) (by omega), if_false, hne, hx, e5, nI_1, htk, b2i_0, Bool.true_eq_false]
      · simp only [tend, hb, if_true]; exact e6
      · simp only [tend, hb, if_true]; exact e7
      · intro j hj
        simp only [tend, hb, if_true] at hj
        exact e8 j hj
def toI1 (k : Nat) : Bool := [10, 27].contains k
def toA1 (k : Nat) : Bool := k == 10
def no1 (_ : Nat) : Bool := false
theorem x_topic1_l {n nl nc l k a : Nat} {cl : Nat → Nat} (hn : nl ≤ 60) (hl : l < nl) (hk : k < cl l) (hnc : nc ≤ 60) : ∀ (r fuel t : Nat) (S : St), gI S 25 = nI nl → (∀ l, l < 60 → cl l ≤ 8 ∧ gA S 23 l = nI (cl l)) → (k + 1 < cl l → gA S 24 (8 * l + (k + 1)) = 0) → gI S 6 = nI nc → gI S 26 = nI l → gI S 27 = nI t → a < t → t + r = nc → r < fuel → gI S 10 = nI (t - a) → (∀ j, j < t - a → gA S 10 j = gA S 6 (a + j)) → ∃ S2, x_Trial_takeTopic_b12_1 fuel S (nI k) (nI a) = some S2 ∧ Fr toI1 no1 toA1 noB S S2 ∧ gI S2 27 = nI (tend (tst9 (gA S 24) (gA S 25) (8 * l) (cl l) k (gA S 6)) r t) ∧ gI S2 10 = nI (tend (tst9 (gA S 24) (gA S 25) (8 * l) (cl l) k (gA S 6)) r t - a) ∧ ∀ j, j < tend (tst9 (gA S 24) (gA S 25) (8 * l) (cl l) k (gA S 6)) r t - a → gA S2 10 j = gA S 6 (a + j)
  | r, 0, t, S, _, _, _, _, _, _, _, _, hf, _, _ => absurd hf (by omega)
  | 0, fuel + 1, t, S, e1, e2, e3, e4, e5, e6, hat, he, _, e7, e8 => by
    refine ⟨S, ?_, Fr.rf, e6, e7, e8⟩
    show x_Trial_takeTopic_b12_1_f _ S _ _ = _
    simp only [x_Trial_takeTopic_b12_1_f, x_size, bind_s, e4, e6, le_t (show nc ≤ t by omega) (by omega), if_true]
  | r + 1, fuel + 1, t, S, e1, e2, e3, e4, e5, e6, hat, he, hf, e7, e8 => by
    have hx := x_at (r := 6) e4 (show nc ≤ 60 from hnc) (by decide) (nI t)
    rw [rat_nI (show t < nc by omega) (by omega)] at hx
    have hne : (nI t = nI a) = False := eq_false (fun z => by have := (nI_eq (by omega) (by omega)).mp z; omega)
    have htk := x_topTakes e1 hn e2 hl hk e3 (gA S 6) t
    cases hb : tst9 (gA S 24) (gA S 25) (8 * l) (cl l) k (gA S 6) t
    · rw [hb] at htk
      have hadd := x_add (r := 10) (S := S) (n := t - a) e7 (show t - a < 60 by omega) (by decide) (gA S 6 t)
      obtain ⟨S2, g1, g2, g3, g4, g5⟩ := x_topic1_l (n := n) (a := a) hn hl hk hnc r fuel (t + 1) (sI (sI (sA S 10 (t - a) (gA S 6 t)) 10 (nI (t - a + 1))) 27 (nI (t + 1))) e1 e2 e3 e4 e5 rfl (by omega) (by omega) (by omega) (by rw [show t + 1 - a = t - a + 1 by omega]; rfl) (by
        intro j hj
        show gA (sA S 10 (t - a) (gA S 6 t)) 10 j = gA S 6 (a + j)
        rw [gA_sA, if_pos rfl]
        by_cases ej : j = t - a
        · rw [ej, upd_self, show a + (t - a) = t by omega]
        · rw [upd_ne ej]; exact e8 j (by omega))
      refine ⟨S2, ?_, Fr.tr (((Fr.rf.sA rfl).sI rfl).sI rfl) g2, ?_, ?_, ?_⟩
      · show x_Trial_takeTopic_b12_1_f (x_Trial_takeTopic_b12_1 fuel) S _ _ = _
        simp only [x_Trial_takeTopic_b12_1_f, x_Trial_takeTopic_b62_1, x_size, bind_s, e4, e6, le_f (show t < nc by omega) (by omega), if_false, hne, hx, e5, nI_1, htk, b2i_0, if_true, hadd]
        rw [show gI (sI (sA S 10 (t - a) (gA S 6 t)) 10 (nI (t - a + 1))) 27 = nI t from e6, nI_1]
        exact g1
      · rw [g3]; simp only [tend, hb, Bool.false_eq_true, if_false]; rfl
      · rw [g4]; simp only [tend, hb, Bool.false_eq_true, if_false]; rfl
      · intro j hj
        simp only [tend, hb, Bool.false_eq_true, if_false] at hj
        exact g5 j hj
    · rw [hb] at htk
      refine ⟨S, ?_, Fr.rf, ?_, ?_, ?_⟩
      · show x_Trial_takeTopic_b12_1_f _ S _ _ = _
        simp only [x_Trial_takeTopic_b12_1_f, x_size, bind_s, e4, e6, le_f (show t < nc by omega) (by omega), if_false, hne, hx, e5, nI_1, htk, b2i_0, Bool.true_eq_false]
      · simp only [tend, hb, if_true]; exact e6
      · simp only [tend, hb, if_true]; exact e7
      · intro j hj
        simp only [tend, hb, if_true] at hj
        exact e8 j hj

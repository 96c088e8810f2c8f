theorem x_counted {S : St} {n : Nat} (hn : n ≤ 40) (e8 : gL S 4 = bs (flg (gA S 17) 7) n) (e9 : gL S 5 = bs (flg (gA S 17) 6) n) (e10 : gL S 6 = bs (flg (gA S 17) 4) n) (e11 : gL S 7 = bs (flg (gA S 17) 8) n) (kd : Int32) (hk : kd = 2 ∨ kd = 3 ∨ kd = 4 ∨ kd = 5) (p : Nat → Bool) (hp : ∀ t, t < n → p t = true → flg (gA S 17) 7 t = true) : ∃ w, x_Things_countedFor S kd = some (w, S) ∧ bs p n &&& w = bs (fun t => ck (gA S 17) kd t && p t) n := by
  unfold x_Things_countedFor
  rcases hk with rfl | rfl | rfl | rfl
  · rw [if_pos (by decide)]
    refine ⟨_, rfl, ?_⟩
    rw [e8, bs_and (by omega)]
    refine bs_eq n (fun t ht => ?_)
    simp only [ck, q_2_3, q_2_4, q_2_5, if_false, Bool.true_and]
    cases h : p t
    · rfl
    · rw [hp t ht h]; rfl
  · rw [if_neg (by decide), if_pos rfl]
    refine ⟨_, rfl, ?_⟩
    rw [e9, bs_and (by omega)]
    refine bs_eq n (fun t ht => ?_)
    simp only [ck, if_true, Bool.and_comm]
  · rw [if_neg (by decide), if_neg (by decide), if_pos rfl]
    refine ⟨_, rfl, ?_⟩
    rw [e10, bs_and (by omega)]
    refine bs_eq n (fun t ht => ?_)
    simp only [ck, q_4_3, if_true, if_false, Bool.and_comm]
  · rw [if_neg (by decide), if_neg (by decide), if_neg (by decide), if_pos rfl]
    refine ⟨_, rfl, ?_⟩
    rw [e11, bs_and (by omega)]
    refine bs_eq n (fun t ht => ?_)
    simp only [ck, q_5_3, q_5_4, if_true, if_false, Bool.and_comm]
theorem rat_is {cw : Nat → Int32} {nc a : Nat} (hn : nc ≤ 60) (ha : a < 2 ^ 31) {w : Int32} (hw : ¬ w = (-1)) : (rat cw nc (nI a) = w) = (a < nc ∧ cw a = w) := by
  by_cases h : a < nc
  · rw [rat_nI h (by omega)]; simp [h]
  · rw [rat_no (by omega) ha]
    refine propext ⟨fun z => absurd z.symm hw, fun z => absurd z.1 h⟩
abbrev Sph (S : St) (w : Int64) (b : Nat) : St := sI (sL S 3 w) 22 (nI b)
/-- the error where none counts -/
def errK (kd : Int32) : Int32 := if kd = 3 then 11 else if kd = 4 then 12 else 10
theorem x_one {S : St} {n nc a : Nat} {c : Nat → Nat} (hn : n ≤ 40) (e1 : gI S 23 = nI n) (e4 : ∀ t, t < 40 → c t ≤ 4 ∧ gA S 18 t = nI (c t)) (e8 : gL S 4 = bs (flg (gA S 17) 7) n) (e9 : gL S 5 = bs (flg (gA S 17) 6) n) (e10 : gL S 6 = bs (flg (gA S 17) 4) n) (e11 : gL S 7 = bs (flg (gA S 17) 8) n) (er : gI S 6 = nI nc) (hr : nc ≤ 60) (ec : gI S 27 = nI a) (ha : a ≤ nc) (eq : gI S 12 = nI 0) (kd : Int32) (hk : kd = 2 ∨ kd = 3 ∨ kd = 4 ∨ kd = 5) (m : Nat) (hm : m = plen (phZ (gA S 19) (gA S 17) c (gA S 6) a n) (nc - a) 0) :
    ((a < nc ∧ gA S 6 a = 4) → x_Trial_findOne S kd = some (0, sI (sI S 28 13) 29 (nI a))) ∧
    (¬ (a < nc ∧ gA S 6 a = 4) → m = 0 → ∃ w, x_Trial_findOne S kd = some (0, sI (sI (Sph S w (a + m)) 28 7) 29 (nI a))) ∧
    (¬ (a < nc ∧ gA S 6 a = 4) → ¬ m = 0 → card (fun t => ck (gA S 17) kd t && phP (gA S 19) (gA S 17) c (gA S 6) a m t) n = 0 → ∃ w, x_Trial_findOne S kd = some (0, sI (sI (Sph S w (a + m)) 28 (errK kd)) 29 (nI a))) ∧
    (¬ (a < nc ∧ gA S 6 a = 4) → ¬ m = 0 → card (fun t => ck (gA S 17) kd t && phP (gA S 19) (gA S 17) c (gA S 6) a m t) n = 1 → ∃ w, x_Trial_findOne S kd = some (bs (fun t => ck (gA S 17) kd t && phP (gA S 19) (gA S 17) c (gA S 6) a m t) n, sI (Sph S w (a + m)) 27 (nI (a + m)))) ∧
    (¬ (a < nc ∧ gA S 6 a = 4) → ¬ m = 0 → 1 < card (fun t => ck (gA S 17) kd t && phP (gA S 19) (gA S 17) c (gA S 6) a m t) n → ∃ w S2, x_Row_addThings 12 (Sph S w (a + m)) (bs (fun t => ck (gA S 17) kd t && phP (gA S 19) (gA S 17) c (gA S 6) a m t) n) = some S2 ∧ x_Trial_findOne S kd = some (0, sI (sI S2 28 15) 29 (gI S2 27))) := by
  have hml := plen_le (z := phZ (gA S 19) (gA S 17) c (gA S 6) a n) (nc - a) 0
  have hph := x_ph20 (r := 6) e1 hn e4 e8 er (show nc ≤ 60 from hr) (by decide) (by decide) ha
  rw [← hm] at hph
  have hat := x_at (r := 6) er (show nc ≤ 60 from hr) (by decide) (nI a)
  have hall : (rat (gA S 6) nc (nI a) = 4) = (a < nc ∧ gA S 6 a = 4) := rat_is hr (by omega) (by decide)
  refine ⟨fun h => ?_, fun h h0 => ?_, fun h h0 hc => ?_, fun h h0 hc => ?_, fun h h0 hc => ?_⟩
  · unfold x_Trial_findOne
    simp only [ec, hat, bind_s, hall, h, and_self, if_true]
    rw [show x_Trial_fail S 13 (nI a) = some (sI (sI S 28 13) 29 (nI a)) from rfl]
    rfl
  · refine ⟨bs (phP (gA S 19) (gA S 17) c (gA S 6) a m) n, ?_⟩
    unfold x_Trial_findOne
    simp only [ec, hat, bind_s, hall, h, if_false, hph]
    rw [if_pos (show nz m = 0 by rw [h0]; rfl)]
    rw [show gI (Sph S (bs (phP (gA S 19) (gA S 17) c (gA S 6) a m) n) (a + m)) 27 = nI a from ec]
    rfl
  all_goals
    have hnz : ¬ nz m = 0 := by rw [nz_pos h0]; exact one_ne0
    obtain ⟨w, hw1, hw2⟩ := x_counted (S := Sph S (bs (phP (gA S 19) (gA S 17) c (gA S 6) a m) n) (a + m)) hn e8 e9 e10 e11 kd hk (phP (gA S 19) (gA S 17) c (gA S 6) a m) (fun t _ hp => by unfold phP at hp; simp only [Bool.and_eq_true] at hp; exact hp.1)
    have hgl : gL (Sph S (bs (phP (gA S 19) (gA S 17) c (gA S 6) a m) n) (a + m)) 3 = bs (phP (gA S 19) (gA S 17) c (gA S 6) a m) n := rfl
    have hbc := x_bitCount (Sph S (bs (phP (gA S 19) (gA S 17) c (gA S 6) a m) n) (a + m)) (bs (fun t => ck (gA S 17) kd t && phP (gA S 19) (gA S 17) c (gA S 6) a m t) n)
    rw [card_bs (by omega)] at hbc
    have hcl := card_le (p := fun t => ck (gA S 17) kd t && phP (gA S 19) (gA S 17) c (gA S 6) a m t) n
    have l1 : (nI (card (fun t => ck (gA S 17) kd t && phP (gA S 19) (gA S 17) c (gA S 6) a m t) n) ≤ (1 : Int32)) = (card (fun t => ck (gA S 17) kd t && phP (gA S 19) (gA S 17) c (gA S 6) a m t) n ≤ 1) := lit_le 1 rfl (by omega) (by omega)
    have hz : (bs (fun t => ck (gA S 17) kd t && phP (gA S 19) (gA S 17) c (gA S 6) a m t) n = 0) = (card (fun t => ck (gA S 17) kd t && phP (gA S 19) (gA S 17) c (gA S 6) a m t) n = 0) := propext ((bs_zero (by omega)).trans (card_0 n).symm)
  · refine ⟨bs (phP (gA S 19) (gA S 17) c (gA S 6) a m) n, ?_⟩
    unfold x_Trial_findOne
    simp only [ec, hat, bind_s, hall, h, if_false, hph, hnz, hw1, hgl]
    rw [show gA (Sph S (bs (phP (gA S 19) (gA S 17) c (gA S 6) a m) n) (a + m)) 17 = gA S 17 from rfl] at hw2
    simp only [hw2, cmp_eq, hz, hc, if_true, x_Trial_findOne_b103, errK]
    rw [show gI (Sph S (bs (phP (gA S 19) (gA S 17) c (gA S 6) a m) n) (a + m)) 27 = nI a from ec]
    by_cases k3 : kd = 3
    · simp only [k3, if_true]; rfl
    · by_cases k4 : kd = 4
      · simp only [k4, q_4_3, if_true, if_false]; rfl
      · simp only [k3, k4, if_false]; rfl
  · refine ⟨bs (phP (gA S 19) (gA S 17) c (gA S 6) a m) n, ?_⟩
    unfold x_Trial_findOne
    simp only [ec, hat, bind_s, hall, h, if_false, hph, hnz, hw1, hgl]
    rw [show gA (Sph S (bs (phP (gA S 19) (gA S 17) c (gA S 6) a m) n) (a + m)) 17 = gA S 17 from rfl] at hw2
    simp only [hw2, cmp_eq, hz, eq_false (show ¬ card (fun t => ck (gA S 17) kd t && phP (gA S 19) (gA S 17) c (gA S 6) a m t) n = 0 by omega), if_false, hbc, bind_s, l1, eq_true (show card (fun t => ck (gA S 17) kd t && phP (gA S 19) (gA S 17) c (gA S 6) a m t) n ≤ 1 by omega), if_true]
    rfl
  · obtain ⟨S2, h1, -⟩ := x_addT_l (r := 12) (by decide) (bs (fun t => ck (gA S 17) kd t && phP (gA S 19) (gA S 17) c (gA S 6) a m t) n) 0 40 fu 0 (Sph S (bs (phP (gA S 19) (gA S 17) c (gA S 6) a m) n) (a + m)) (by omega) (show 40 < 100000 by omega) (by rw [Nat.zero_add]; exact eq) (by
      rw [Nat.zero_add]
      exact Nat.le_trans (card_le 40) (show 40 ≤ 40 from Nat.le_refl _))
    have h1 : x_Row_addThings 12 (Sph S (bs (phP (gA S 19) (gA S 17) c (gA S 6) a m) n) (a + m)) (bs (fun t => ck (gA S 17) kd t && phP (gA S 19) (gA S 17) c (gA S 6) a m t) n) = some S2 := h1
    refine ⟨bs (phP (gA S 19) (gA S 17) c (gA S 6) a m) n, S2, h1, ?_⟩
    unfold x_Trial_findOne
    simp only [ec, hat, bind_s, hall, h, if_false, hph, hnz, hw1, hgl]
    rw [show gA (Sph S (bs (phP (gA S 19) (gA S 17) c (gA S 6) a m) n) (a + m)) 17 = gA S 17 from rfl] at hw2
    simp only [hw2, cmp_eq, hz, eq_false (show ¬ card (fun t => ck (gA S 17) kd t && phP (gA S 19) (gA S 17) c (gA S 6) a m t) n = 0 by omega), if_false, hbc, bind_s, l1, eq_false (show ¬ card (fun t => ck (gA S 17) kd t && phP (gA S 19) (gA S 17) c (gA S 6) a m t) n ≤ 1 by omega), h1]
    rfl

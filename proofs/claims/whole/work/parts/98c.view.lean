theorem bit_fun {p : Nat → Bool} {n : Nat} (hn : n ≤ 64) (hp : ∀ j, n ≤ j → p j = false) : bit (bs p n) = p := by
  funext j
  rw [bit_bs hn]
  by_cases hj : j < n
  · simp [hj]
  · simp [hj, hp j (by omega)]
theorem rat_btw {T : St} {n cap : Nat} (hn : n ≤ cap) (hc : cap < 2 ^ 30) (g : Nat → Int32) (i : Int32) : (if btw i 0 (nI n - 1) = 0 then some (-1, T) else gd (vin i cap) <| some (g i.toNatClampNeg, T)) = some (rat g n i, T) := by
  rcases int_cases i with hi | ⟨j, hj, rfl⟩
  · rw [if_pos (show btw i 0 (nI n - 1) = 0 by unfold btw; rw [if_pos hi]), rat_neg hi]
  · by_cases hjn : j < n
    · rw [btw_nI (by omega) hjn, if_neg one_ne0, gd_t _ (vin_nI (by omega) (by omega)), nI_clamp hj, rat_nI hjn (by omega)]
    · rw [btw_out (by omega) (by omega) hj, if_pos rfl, rat_no (by omega) hj]
theorem view0 {S T : St} {n : Nat} (h : Dn0 S T n) (hn : n ≤ 40) (e3 : gI T 3 = nI n) (k : Int32) : ∃ r, x_G_object_b106_1 S k = some (r, S) ∧ (if (-2 : Int32) ≤ k then m_M_object_b56 T k (nI 0) else some (-1, T)) = some (r, T) := by
  obtain ⟨h1, h2, h3, h4, h5, h6⟩ := h
  have hk1 : ¬ gI S 17 = (-1) := by
    intro z
    rw [← h1, z] at h2
    exact absurd h2 (by decide)
  have t8 : (8 : Int32).toInt = 8 := rfl
  have t9 : (9 : Int32).toInt = 9 := rfl
  have t10 : (10 : Int32).toInt = 10 := rfl
  have t11 : (11 : Int32).toInt = 11 := rfl
  have hm : m_M_object_b56 T k (nI 0) = if k = (-2) then some (gA T 18 0, T) else if (8 : Int32) < gA T 18 0 then (if gA T 18 0 = 9 then (if k = (-1) then some (gA T 22 0 - gA T 21 0, T) else if (gA T 22 0 - gA T 21 0) ≤ k then some (-1, T) else gd (vin (gA T 21 0 + k) 60) <| some (gA T 15 (gA T 21 0 + k).toNatClampNeg, T)) else (if k = (-1) then some (1, T) else if k = 0 then some (gA T 23 0, T) else some (-1, T))) else (if k = (-1) then (m_M_manyOf T (gB T 20 0)).bind fun q3 => some (q3.1, q3.2) else (m_M_thingOf T (gB T 20 0) k).bind fun q2 => some (q2.1, q2.2)) := by
    unfold m_M_object_b56
    simp only [gd_t _ (vin_nI (show 0 < 2 by omega) (by omega)), nI_clamp (show 0 < 2 ^ 31 by omega)]
  have hx : x_G_object_b106_1 S k = if k = (-2) then some (gI S 17, S) else if k = (-1) then some (gI S 9, S) else (x_Row_at 9 S k).bind fun q2 => some (q2.1, q2.2) := by
    unfold x_G_object_b106_1
    rw [if_neg hk1, x_size, bind_s]
  rw [hx, hm]
  by_cases k2 : k = (-2)
  · rw [if_pos k2, if_pos k2, if_pos (show (-2 : Int32) ≤ k by rw [k2]; decide)]
    exact ⟨_, rfl, by rw [h1]⟩
  rw [if_neg k2, if_neg k2]
  have hsplit : k = (-1) ∨ (¬ k = (-1) ∧ ¬ (-2 : Int32) ≤ k ∧ k < 0) ∨ ∃ j : Nat, j < 2 ^ 31 ∧ k = nI j := by
    by_cases k1 : k = (-1)
    · exact Or.inl k1
    · rcases int_cases k with kn | kj
      · refine Or.inr (Or.inl ⟨k1, ?_, kn⟩)
        intro z
        have z1 := Int32.le_iff_toInt_le.mp z
        have z2 := Int32.lt_iff_toInt_lt.mp kn
        rw [show (-2 : Int32).toInt = -2 from rfl] at z1
        rw [show (0 : Int32).toInt = 0 from rfl] at z2
        rcases (show k.toInt = -2 ∨ k.toInt = -1 by omega) with q | q
        · exact k2 (Int32.toInt_inj.mp q)
        · exact k1 (Int32.toInt_inj.mp q)
      · exact Or.inr (Or.inr kj)
  have m1le : (-2 : Int32) ≤ (-1) := by decide
  have nle : ∀ j : Nat, j < 2 ^ 31 → (-2 : Int32) ≤ nI j := by
    intro j hj
    refine Int32.le_iff_toInt_le.mpr ?_
    rw [nI_toInt hj, show (-2 : Int32).toInt = -2 from rfl]
    omega
  have n1 : ∀ j : Nat, j < 2 ^ 31 → ¬ nI j = (-1) := fun j hj => m1_ne hj
  by_cases k8 : gA T 18 0 ≤ 8
  · obtain ⟨p, p1, p2, p3, p4⟩ := h4 k8
    have n8 : ¬ (8 : Int32) < gA T 18 0 := fun z => by
      have := lt_tr z
      have := Int32.le_iff_toInt_le.mp k8
      omega
    have hcl := card_le (p := p) n
    have hbf : bit (gB T 20 0) = p := by rw [p2]; exact bit_fun (by omega) p1
    rw [if_neg n8, x_at (r := 9) p3 (show card p n ≤ 60 by omega) (by decide), bind_s]
    rcases hsplit with rfl | ⟨k1, kl, kn⟩ | ⟨j, hj, rfl⟩
    · rw [if_pos rfl, if_pos rfl, if_pos m1le, m_many e3 hn, bind_s, hbf]
      exact ⟨_, rfl, by rw [p3]⟩
    · rw [if_neg k1, if_neg kl, rat_neg kn]
      exact ⟨_, rfl, rfl⟩
    · rw [if_neg (n1 j hj), if_neg (n1 j hj), if_pos (nle j hj), m_thing e3 hn _ hj, bind_s, hbf, nthE_enum p4 n 0 j (by omega)]
      refine ⟨_, rfl, ?_⟩
      dsimp only
      rw [show card p 0 = 0 from rfl, Nat.zero_add]
      by_cases hjc : j < card p n
      · rw [if_pos hjc, rat_nI hjc (by omega)]
      · rw [if_neg hjc, rat_no (by omega) hj]
  · have k8' : (8 : Int32) < gA T 18 0 := by
      have : ¬ (gA T 18 0).toInt ≤ (8 : Int32).toInt := fun q => k8 (Int32.le_iff_toInt_le.mpr q)
      exact Int32.lt_iff_toInt_lt.mpr (by omega)
    rw [if_pos k8']
    by_cases k9 : gA T 18 0 = 9
    · obtain ⟨fr, t, u1, u2, u3, u4, u5, u6⟩ := h5 k9
      rw [if_pos k9, u1, u2, pk_sub (by omega), x_at (r := 9) u5 (show t - fr ≤ 60 by omega) (by decide), bind_s]
      rcases hsplit with rfl | ⟨k1, kl, kn⟩ | ⟨j, hj, rfl⟩
      · rw [if_pos rfl, if_pos rfl, if_pos m1le]
        exact ⟨_, rfl, by rw [u5]⟩
      · rw [if_neg k1, if_neg kl, rat_neg kn]
        exact ⟨_, rfl, rfl⟩
      · rw [if_neg (n1 j hj), if_neg (n1 j hj), if_pos (nle j hj)]
        by_cases hjt : j < t - fr
        · rw [if_neg (nI_ge hjt (by omega)), nI_add, gd_t _ (vin_nI (show fr + j < 60 by omega) (by omega)), nI_clamp (show fr + j < 2 ^ 31 by omega), rat_nI hjt (by omega), u6 j hjt]
          exact ⟨_, rfl, rfl⟩
        · rw [if_pos (nI_le (show t - fr ≤ j by omega) hj), rat_no (by omega) hj]
          exact ⟨_, rfl, rfl⟩
    · have k10 : gA T 18 0 = 10 ∨ gA T 18 0 = 11 := by
        have z1 := lt_tr k8'
        have z2 := Int32.le_iff_toInt_le.mp h3
        have z3 : ¬ (gA T 18 0).toInt = 9 := fun q => k9 (Int32.toInt_inj.mp q)
        rcases (show (gA T 18 0).toInt = 10 ∨ (gA T 18 0).toInt = 11 by omega) with q | q
        · exact Or.inl (Int32.toInt_inj.mp q)
        · exact Or.inr (Int32.toInt_inj.mp q)
      obtain ⟨u1, u2⟩ := h6 k10
      rw [if_neg k9, x_at (r := 9) u1 (show 1 ≤ 60 by omega) (by decide), bind_s]
      rcases hsplit with rfl | ⟨k1, kl, kn⟩ | ⟨j, hj, rfl⟩
      · rw [if_pos rfl, if_pos rfl, if_pos m1le]
        exact ⟨_, rfl, by rw [u1]; rfl⟩
      · rw [if_neg k1, if_neg kl, rat_neg kn]
        exact ⟨_, rfl, rfl⟩
      · rw [if_neg (n1 j hj), if_neg (n1 j hj), if_pos (nle j hj)]
        by_cases hj0 : j = 0
        · rw [hj0, if_pos (show nI 0 = 0 from rfl), rat_nI (show 0 < 1 by omega) (by omega), u2]
          exact ⟨_, rfl, rfl⟩
        · rw [if_neg (nI_ne0 (by omega) hj), rat_no (by omega) hj]
          exact ⟨_, rfl, rfl⟩
theorem view1 {S T : St} {n : Nat} (h : Dn1 S T n) (hn : n ≤ 40) (e3 : gI T 3 = nI n) (k : Int32) : ∃ r, x_G_object_b106 S k = some (r, S) ∧ (if (-2 : Int32) ≤ k then m_M_object_b56 T k (nI 1) else some (-1, T)) = some (r, T) := by
  obtain ⟨h1, h2, h3, h4, h5, h6⟩ := h
  have hk1 : ¬ gI S 19 = (-1) := by
    intro z
    rw [← h1, z] at h2
    exact absurd h2 (by decide)
  have t8 : (8 : Int32).toInt = 8 := rfl
  have t9 : (9 : Int32).toInt = 9 := rfl
  have t10 : (10 : Int32).toInt = 10 := rfl
  have t11 : (11 : Int32).toInt = 11 := rfl
  have hm : m_M_object_b56 T k (nI 1) = if k = (-2) then some (gA T 18 1, T) else if (8 : Int32) < gA T 18 1 then (if gA T 18 1 = 9 then (if k = (-1) then some (gA T 22 1 - gA T 21 1, T) else if (gA T 22 1 - gA T 21 1) ≤ k then some (-1, T) else gd (vin (gA T 21 1 + k) 60) <| some (gA T 15 (gA T 21 1 + k).toNatClampNeg, T)) else (if k = (-1) then some (1, T) else if k = 0 then some (gA T 23 1, T) else some (-1, T))) else (if k = (-1) then (m_M_manyOf T (gB T 20 1)).bind fun q3 => some (q3.1, q3.2) else (m_M_thingOf T (gB T 20 1) k).bind fun q2 => some (q2.1, q2.2)) := by
    unfold m_M_object_b56
    simp only [gd_t _ (vin_nI (show 1 < 2 by omega) (by omega)), nI_clamp (show 1 < 2 ^ 31 by omega)]
  have hx : x_G_object_b106 S k = if k = (-2) then some (gI S 19, S) else if k = (-1) then some (gI S 10, S) else (x_Row_at 10 S k).bind fun q2 => some (q2.1, q2.2) := by
    unfold x_G_object_b106
    rw [if_neg hk1, x_size, bind_s]
  rw [hx, hm]
  by_cases k2 : k = (-2)
  · rw [if_pos k2, if_pos k2, if_pos (show (-2 : Int32) ≤ k by rw [k2]; decide)]
    exact ⟨_, rfl, by rw [h1]⟩
  rw [if_neg k2, if_neg k2]
  have hsplit : k = (-1) ∨ (¬ k = (-1) ∧ ¬ (-2 : Int32) ≤ k ∧ k < 0) ∨ ∃ j : Nat, j < 2 ^ 31 ∧ k = nI j := by
    by_cases k1 : k = (-1)
    · exact Or.inl k1
    · rcases int_cases k with kn | kj
      · refine Or.inr (Or.inl ⟨k1, ?_, kn⟩)
        intro z
        have z1 := Int32.le_iff_toInt_le.mp z
        have z2 := Int32.lt_iff_toInt_lt.mp kn
        rw [show (-2 : Int32).toInt = -2 from rfl] at z1
        rw [show (0 : Int32).toInt = 0 from rfl] at z2
        rcases (show k.toInt = -2 ∨ k.toInt = -1 by omega) with q | q
        · exact k2 (Int32.toInt_inj.mp q)
        · exact k1 (Int32.toInt_inj.mp q)
      · exact Or.inr (Or.inr kj)
  have m1le : (-2 : Int32) ≤ (-1) := by decide
  have nle : ∀ j : Nat, j < 2 ^ 31 → (-2 : Int32) ≤ nI j := by
    intro j hj
    refine Int32.le_iff_toInt_le.mpr ?_
    rw [nI_toInt hj, show (-2 : Int32).toInt = -2 from rfl]
    omega
  have n1 : ∀ j : Nat, j < 2 ^ 31 → ¬ nI j = (-1) := fun j hj => m1_ne hj
  by_cases k8 : gA T 18 1 ≤ 8
  · obtain ⟨p, p1, p2, p3, p4⟩ := h4 k8
    have n8 : ¬ (8 : Int32) < gA T 18 1 := fun z => by
      have := lt_tr z
      have := Int32.le_iff_toInt_le.mp k8
      omega
    have hcl := card_le (p := p) n
    have hbf : bit (gB T 20 1) = p := by rw [p2]; exact bit_fun (by omega) p1
    rw [if_neg n8, x_at (r := 10) p3 (show card p n ≤ 60 by omega) (by decide), bind_s]
    rcases hsplit with rfl | ⟨k1, kl, kn⟩ | ⟨j, hj, rfl⟩
    · rw [if_pos rfl, if_pos rfl, if_pos m1le, m_many e3 hn, bind_s, hbf]
      exact ⟨_, rfl, by rw [p3]⟩
    · rw [if_neg k1, if_neg kl, rat_neg kn]
      exact ⟨_, rfl, rfl⟩
    · rw [if_neg (n1 j hj), if_neg (n1 j hj), if_pos (nle j hj), m_thing e3 hn _ hj, bind_s, hbf, nthE_enum p4 n 0 j (by omega)]
      refine ⟨_, rfl, ?_⟩
      dsimp only
      rw [show card p 0 = 0 from rfl, Nat.zero_add]
      by_cases hjc : j < card p n
      · rw [if_pos hjc, rat_nI hjc (by omega)]
      · rw [if_neg hjc, rat_no (by omega) hj]
  · have k8' : (8 : Int32) < gA T 18 1 := by
      have : ¬ (gA T 18 1).toInt ≤ (8 : Int32).toInt := fun q => k8 (Int32.le_iff_toInt_le.mpr q)
      exact Int32.lt_iff_toInt_lt.mpr (by omega)
    rw [if_pos k8']
    by_cases k9 : gA T 18 1 = 9
    · obtain ⟨fr, t, u1, u2, u3, u4, u5, u6⟩ := h5 k9
      rw [if_pos k9, u1, u2, pk_sub (by omega), x_at (r := 10) u5 (show t - fr ≤ 60 by omega) (by decide), bind_s]
      rcases hsplit with rfl | ⟨k1, kl, kn⟩ | ⟨j, hj, rfl⟩
      · rw [if_pos rfl, if_pos rfl, if_pos m1le]
        exact ⟨_, rfl, by rw [u5]⟩
      · rw [if_neg k1, if_neg kl, rat_neg kn]
        exact ⟨_, rfl, rfl⟩
      · rw [if_neg (n1 j hj), if_neg (n1 j hj), if_pos (nle j hj)]
        by_cases hjt : j < t - fr
        · rw [if_neg (nI_ge hjt (by omega)), nI_add, gd_t _ (vin_nI (show fr + j < 60 by omega) (by omega)), nI_clamp (show fr + j < 2 ^ 31 by omega), rat_nI hjt (by omega), u6 j hjt]
          exact ⟨_, rfl, rfl⟩
        · rw [if_pos (nI_le (show t - fr ≤ j by omega) hj), rat_no (by omega) hj]
          exact ⟨_, rfl, rfl⟩
    · have k10 : gA T 18 1 = 10 ∨ gA T 18 1 = 11 := by
        have z1 := lt_tr k8'
        have z2 := Int32.le_iff_toInt_le.mp h3
        have z3 : ¬ (gA T 18 1).toInt = 9 := fun q => k9 (Int32.toInt_inj.mp q)
        rcases (show (gA T 18 1).toInt = 10 ∨ (gA T 18 1).toInt = 11 by omega) with q | q
        · exact Or.inl (Int32.toInt_inj.mp q)
        · exact Or.inr (Int32.toInt_inj.mp q)
      obtain ⟨u1, u2⟩ := h6 k10
      rw [if_neg k9, x_at (r := 10) u1 (show 1 ≤ 60 by omega) (by decide), bind_s]
      rcases hsplit with rfl | ⟨k1, kl, kn⟩ | ⟨j, hj, rfl⟩
      · rw [if_pos rfl, if_pos rfl, if_pos m1le]
        exact ⟨_, rfl, by rw [u1]; rfl⟩
      · rw [if_neg k1, if_neg kl, rat_neg kn]
        exact ⟨_, rfl, rfl⟩
      · rw [if_neg (n1 j hj), if_neg (n1 j hj), if_pos (nle j hj)]
        by_cases hj0 : j = 0
        · rw [hj0, if_pos (show nI 0 = 0 from rfl), rat_nI (show 0 < 1 by omega) (by omega), u2]
          exact ⟨_, rfl, rfl⟩
        · rw [if_neg (nI_ne0 (by omega) hj), rat_no (by omega) hj]
          exact ⟨_, rfl, rfl⟩
theorem x_slots0 {S T : St} {n m : Nat} (h : Dn S T n m) : m ≤ 2 ∧ gI T 13 = nI m ∧ x_Trial_slotsTaken S = some (nI m, S) ∧ (¬ m = 0 → Dn0 S T n) ∧ (m = 2 → Dn1 S T n) ∧ (m = 0 → gI S 17 = (-1)) ∧ (m ≤ 1 → gI S 19 = (-1)) := by
  have ne0 : Dn0 S T n → ¬ gI S 17 = (-1) := by
    rintro ⟨h1, h2, -⟩ z
    rw [← h1, z] at h2
    exact absurd h2 (by decide)
  have ne1 : Dn1 S T n → ¬ gI S 19 = (-1) := by
    rintro ⟨h1, h2, -⟩ z
    rw [← h1, z] at h2
    exact absurd h2 (by decide)
  unfold x_Trial_slotsTaken x_Trial_slotsTaken_b16
  match m, h with
  | 0, ⟨s1, s2, s3⟩ =>
    rw [if_pos s2, if_pos s3]
    exact ⟨by omega, s1, rfl, fun z => absurd rfl z, fun z => absurd z (by omega), fun _ => s2, fun _ => s3⟩
  | 1, ⟨s1, s2, s3⟩ =>
    rw [if_neg (ne0 s2), if_pos s3]
    exact ⟨by omega, s1, rfl, fun _ => s2, fun z => absurd z (by omega), fun z => absurd z (by omega), fun _ => s3⟩
  | 2, ⟨s1, s2, s3⟩ =>
    rw [if_neg (ne0 s2), if_neg (ne1 s3)]
    exact ⟨by omega, s1, rfl, fun _ => s2, fun _ => s3, fun z => absurd z (by omega), fun z => absurd z (by omega)⟩
theorem object_step {S T : St} {n nl nc : Nat} {c cl : Nat → Nat} (h : RelN S T n c nl cl nc) (a k : Int32) : ∃ r, x_G_object S a k = some (r, S) ∧ m_M_object T a k = some (r, T) := by
  obtain ⟨hS, hT, r31, r32, r33, hA, hAc, hPl⟩ := h
  obtain ⟨n0, n1, n2, -⟩ := hS.2.1
  obtain ⟨l0, l1, l2, l3, l4, l5, l6, -⟩ := hS.2.2.1
  unfold x_G_object m_M_object
  rcases hAc with ⟨a1, a2⟩ | ⟨a1, a2, ⟨l, hl, a3⟩, -, m, hD⟩
  · rw [if_pos a2]
    by_cases c1 : a < 0
    · rw [if_pos c1]; exact ⟨_, rfl, rfl⟩
    · rw [if_neg c1]
      by_cases c2 : (2 : Int32) ≤ a
      · rw [if_pos c2]; exact ⟨_, rfl, rfl⟩
      · rw [if_neg c2, if_pos a1]; exact ⟨_, rfl, rfl⟩
  obtain ⟨m2, d1, d2, d3, d4, d5, d6⟩ := x_slots0 hD
  have h30 : ¬ gI S 30 = (-1) := fun z => by rw [z] at a1; exact absurd a1 (by decide)
  rw [if_neg (show ¬ gI T 22 = 0 by rw [a2]; decide), m_within, bind_s, d1]
  dsimp only
  rcases int_cases a with hi | ⟨j, hj, rfl⟩
  · rw [if_pos hi, if_pos (show btw a 0 (nI m - 1) = 0 by unfold btw; rw [if_pos hi])]
    exact ⟨_, rfl, rfl⟩
  rw [if_neg (nI_pos hj)]
  by_cases hj2 : 2 ≤ j
  · rw [if_pos (show (2 : Int32) ≤ nI j from nI_le (a := 2) hj2 hj), btw_out (by omega) (show m ≤ j by omega) hj, if_pos rfl]
    exact ⟨_, rfl, rfl⟩
  have hrev : x_Lines_isReversed S (nI l) = some (if gA S 22 l = 0 then 0 else 1, S) := by
    unfold x_Lines_isReversed
    rw [x_hasL l1 l0, bind_s, btw_nI (by omega) hl]
    dsimp only
    rw [if_neg one_ne0, gd_t _ (vin_nI (show l < 60 by omega) (by omega)), nI_clamp (show l < 2 ^ 31 by omega)]
    by_cases hz : gA S 22 l = 0
    · rw [if_pos hz, if_pos hz]
    · rw [if_neg hz, if_neg hz]
  have e20 : gI T 20 = nI l := r33.symm.trans a3
  have hll : gA T 4 l = gA S 22 l := (l5 l hl).symm
  have h2ne : ¬ (2 : Int32) ≤ nI j := fun z => hj2 ((nI_leI (a := 2) (by omega) hj).mp z)
  rw [if_neg h2ne, if_neg h30, a3, hrev, bind_s, e20, gd_t _ (vin_nI (show l < 60 by omega) (by omega)), nI_clamp (show l < 2 ^ 31 by omega), hll]
  dsimp only
  obtain ⟨sw, hsw⟩ : ∃ sw : Prop, sw = (¬ gA S 22 l = 0 ∧ m = 2) := ⟨_, rfl⟩
  have hx : (if (if gA S 22 l = 0 then (0 : Int32) else 1) = 0 then x_G_object_b54 S (nI j) k else (x_Trial_slotsTaken S).bind fun q6 => if q6.1 = (2 : Int32) then x_G_object_b55 q6.2 (nI j) k 1 else x_G_object_b54 q6.2 (nI j) k) = if ¬ gA S 22 l = 0 ∧ m = 2 then x_G_object_b55 S (nI j) k 1 else x_G_object_b55 S (nI j) k 0 := by
    unfold x_G_object_b54
    by_cases hz : gA S 22 l = 0
    · rw [if_pos hz, if_pos rfl, if_neg (fun q => q.1 hz)]
    · rw [if_neg hz, if_neg one_ne0, d2, bind_s]
      dsimp only
      by_cases hm2 : m = 2
      · rw [if_pos (show nI m = 2 by rw [hm2]; rfl), if_pos ⟨hz, hm2⟩]
      · rw [if_neg (n_2 hm2 (by omega)), if_neg (fun q => hm2 q.2)]
  have hm : (if gA S 22 l = 0 then m_M_object_b55 T (nI j) k else if nI m = (2 : Int32) then m_M_object_b56 T k ((1 : Int32) - nI j) else m_M_object_b55 T (nI j) k) = if ¬ gA S 22 l = 0 ∧ m = 2 then m_M_object_b56 T k (nI (1 - j)) else m_M_object_b56 T k (nI j) := by
    unfold m_M_object_b55
    by_cases hz : gA S 22 l = 0
    · rw [if_pos hz, if_neg (fun q => q.1 hz)]
    · rw [if_neg hz]
      by_cases hm2 : m = 2
      · rw [if_pos (show nI m = 2 by rw [hm2]; rfl), if_pos ⟨hz, hm2⟩, show (1 : Int32) - nI j = nI (1 - j) from pk_sub (a := 1) (by omega)]
      · rw [if_neg (n_2 hm2 (by omega)), if_neg (fun q => hm2 q.2)]
  rw [hx, hm]
  have hb0 : ∀ i : Nat, i < 2 → x_G_object_b55 S (nI i) k 0 = if i = 0 then x_G_object_b106_1 S k else x_G_object_b106 S k := by
    intro i hi
    unfold x_G_object_b55 x_G_object_b82
    rw [if_pos rfl]
    by_cases hz : i = 0
    · rw [hz, if_pos (show nI 0 = 0 from rfl), if_neg one_ne0, if_pos rfl]
    · rw [if_neg (nI_ne0 (by omega) (by omega)), if_pos rfl, if_neg hz]
  have hb1 : ∀ i : Nat, i < 2 → x_G_object_b55 S (nI i) k 1 = if i = 1 then x_G_object_b106_1 S k else x_G_object_b106 S k := by
    intro i hi
    unfold x_G_object_b55 x_G_object_b82
    rw [if_neg one_ne0]
    by_cases hz : i = 1
    · rw [hz, if_pos (show nI 1 = 1 from rfl), if_neg one_ne0, if_pos rfl]
    · rw [if_neg (n_1 hz (by omega)), if_pos rfl, if_neg hz]
  have v0 : ¬ m = 0 → ∃ r, x_G_object_b106_1 S k = some (r, S) ∧ (if (-2 : Int32) ≤ k then m_M_object_b56 T k (nI 0) else some (-1, T)) = some (r, T) := fun z => view0 (d3 z) n0 n2 k
  have v1 : m = 2 → ∃ r, x_G_object_b106 S k = some (r, S) ∧ (if (-2 : Int32) ≤ k then m_M_object_b56 T k (nI 1) else some (-1, T)) = some (r, T) := fun z => view1 (d4 z) n0 n2 k
  by_cases hsw : ¬ gA S 22 l = 0 ∧ m = 2
  · obtain ⟨hz, hm2⟩ := id hsw
    rw [if_pos hsw, if_pos hsw, btw_nI (by omega) (show j < m by omega), if_neg one_ne0, hb1 j (by omega)]
    by_cases hj1 : j = 1
    · rw [if_pos hj1, hj1]
      exact v0 (by omega)
    · rw [if_neg hj1, show j = 0 by omega]
      exact v1 hm2
  · rw [if_neg hsw, if_neg hsw, hb0 j (by omega)]
    by_cases hjm : j < m
    · rw [btw_nI (by omega) hjm, if_neg one_ne0]
      by_cases hj0 : j = 0
      · rw [if_pos hj0, hj0]
        exact v0 (by omega)
      · rw [if_neg hj0, show j = 1 by omega]
        exact v1 (by omega)
    · rw [btw_out (by omega) (show m ≤ j by omega) hj, if_pos rfl]
      by_cases hj0 : j = 0
      · rw [if_pos hj0]
        unfold x_G_object_b106_1
        rw [if_pos (d5 (by omega))]
        exact ⟨_, rfl, rfl⟩
      · rw [if_neg hj0]
        unfold x_G_object_b106
        rw [if_pos (d6 (by omega))]
        exact ⟨_, rfl, rfl⟩
theorem filled_step {S T : St} {n nl nc : Nat} {c cl : Nat → Nat} (h : RelN S T n c nl cl nc) (k : Int32) : ∃ r, x_G_filled S k = some (r, S) ∧ m_M_filled T k = some (r, T) := by
  obtain ⟨hS, hT, r31, r32, r33, hA, hAc, hPl⟩ := h
  unfold x_G_filled m_M_filled
  rcases hAc with ⟨a1, a2⟩ | ⟨a1, a2, -, ⟨F, f0, f1, f2, f3⟩, -⟩
  · rw [if_pos a1, if_pos a2]; exact ⟨_, rfl, rfl⟩
  · have h30 : ¬ gI S 30 = (-1) := fun z => by rw [z] at a1; exact absurd a1 (by decide)
    rw [if_neg h30, if_neg (show ¬ gI T 22 = 0 by rw [a2]; decide), x_at (r := 11) f1 (show F ≤ 8 from f0) (by decide), bind_s, f2, m_within, bind_s]
    dsimp only
    rw [rat_btw f0 (by omega), rat_eq f3]
    exact ⟨_, rfl, rfl⟩
theorem said_step {S T : St} {n nl nc : Nat} {c cl : Nat → Nat} (h : RelN S T n c nl cl nc) (a k : Int32) : ∃ r, x_G_said S a k = some (r, S) ∧ m_M_said T a k = some (r, T) := by
  obtain ⟨hS, -⟩ := h
  obtain ⟨-, -, -, -, -, ⟨ni, i0, i1, i2, i3, i4⟩, ⟨c0, c1, c2, c3, c4⟩, -, -⟩ := hS
  unfold x_G_said m_M_said
  by_cases h0 : a = 0
  · rw [if_pos h0, if_pos h0, x_at (r := 6) c1 (show nc ≤ 60 from c0) (by decide), bind_s, c2, m_within, bind_s]
    dsimp only
    rw [rat_btw c0 (by omega), rat_eq c3]
    exact ⟨_, rfl, rfl⟩
  · rw [if_neg h0, if_neg h0]
    by_cases h1 : a = 1
    · rw [if_pos h1, if_pos h1, x_at (r := 5) i1 (show ni ≤ 60 from i0) (by decide), bind_s, i2, m_within, bind_s]
      dsimp only
      rw [rat_btw i0 (by omega), rat_eq i3]
      exact ⟨_, rfl, rfl⟩
    · rw [if_neg h1, if_neg h1]; exact ⟨_, rfl, rfl⟩
theorem trace_step {S T : St} {n nl nc : Nat} {c cl : Nat → Nat} (h : RelN S T n c nl cl nc) (a k : Int32) : ∃ r, x_G_trace S a k = some (r, S) ∧ m_M_trace T a k = some (r, T) := by
  obtain ⟨-, ⟨nt, t0, t1, t2, t3, t4, t5, t6, t7⟩, -⟩ := h
  unfold x_G_trace m_M_trace
  rw [t4, m_within, bind_s]
  dsimp only
  rw [m_within, bind_s]
  dsimp only
  have z0 : (0 : Int32).toInt = 0 := rfl
  have z1 : (1 : Int32).toInt = 1 := rfl
  have z2 : (2 : Int32).toInt = 2 := rfl
  by_cases hk : k.toInt < 0 ∨ 2 < k.toInt
  · have hb : btw k 0 2 = 0 := by
      unfold btw
      by_cases hn : k < 0
      · rw [if_pos hn]
      · rw [if_neg hn, if_pos (Int32.lt_iff_toInt_lt.mpr (by have := nlt_tr hn; omega))]
    rw [if_pos hk, hb]
    by_cases ha : btw a 0 (nI nt - 1) = 0
    · rw [if_pos ha]; exact ⟨_, rfl, rfl⟩
    · rw [if_neg ha, if_pos rfl]; exact ⟨_, rfl, rfl⟩
  · have hb : ¬ btw k 0 2 = 0 := by
      unfold btw
      rw [if_neg (fun q => by have := lt_tr q; omega), if_neg (fun q => by have := lt_tr q; omega)]
      exact one_ne0
    rw [if_neg hk, if_neg hb]
    rcases (show k.toInt = 0 ∨ k.toInt = 1 ∨ k.toInt = 2 by omega) with q | q | q
    · have e : k = 0 := Int32.toInt_inj.mp q
      rw [if_pos e, if_pos e, x_at (r := 13) t1 (show nt ≤ 60 from t0) (by decide), bind_s, rat_btw t0 (by omega), rat_eq t5]
      exact ⟨_, rfl, rfl⟩
    · have e : k = 1 := Int32.toInt_inj.mp q
      have e0 : ¬ k = 0 := by rw [e]; decide
      rw [if_neg e0, if_neg e0, if_pos e, if_pos e, x_at (r := 14) t2 (show nt ≤ 60 from t0) (by decide), bind_s, rat_btw t0 (by omega), rat_eq t6]
      exact ⟨_, rfl, rfl⟩
    · have e : k = 2 := Int32.toInt_inj.mp q
      have e0 : ¬ k = 0 := by rw [e]; decide
      have e1 : ¬ k = 1 := by rw [e]; decide
      rw [if_neg e0, if_neg e0, if_neg e1, if_neg e1, if_pos e, x_at (r := 15) t3 (show nt ≤ 60 from t0) (by decide), bind_s, rat_btw t0 (by omega), rat_eq t7]
      exact ⟨_, rfl, rfl⟩
theorem told_step {S T : St} {n nl nc : Nat} {c cl : Nat → Nat} (h : RelN S T n c nl cl nc) (k : Int32) : ∃ r, x_G_told S k = some (r, S) ∧ m_M_told T k = some (r, T) := by
  obtain ⟨hS, ⟨nt, -, t1, -, -, t4, -⟩, r31, r32, r33, -⟩ := h
  obtain ⟨⟨va, vk, -, -, v1, v2, -⟩, ⟨-, n1, n2, -⟩, ⟨-, l1, l2, -⟩, ⟨pn, -, p1, p2, p3, p4, -⟩, -, ⟨ni, -, i1, i2, -⟩, ⟨-, c1, c2, -⟩, -, hW⟩ := hS
  unfold x_G_told m_M_told x_Verbs_count x_Lines_count x_Things_count x_Values_count
  by_cases hk : k.toInt < 0 ∨ 10 < k.toInt
  · rw [if_pos hk, if_pos hk]; exact ⟨_, rfl, rfl⟩
  rw [if_neg hk, if_neg hk]
  by_cases k0 : k = 0
  · rw [if_pos k0, if_pos k0]; exact ⟨_, rfl, by rw [r31]⟩
  rw [if_neg k0, if_neg k0]
  by_cases k1 : k = 1
  · rw [if_pos k1, if_pos k1]; exact ⟨_, rfl, by rw [r32]⟩
  rw [if_neg k1, if_neg k1]
  by_cases k2 : k = 2
  · rw [if_pos k2, if_pos k2]; exact ⟨_, rfl, by rw [r33]⟩
  rw [if_neg k2, if_neg k2]
  by_cases k3 : k = 3
  · rw [if_pos k3, if_pos k3]; exact ⟨_, rfl, by rw [hW]⟩
  rw [if_neg k3, if_neg k3]
  by_cases k4 : k = 4
  · rw [if_pos k4, if_pos k4, x_size, bind_s]; exact ⟨_, rfl, by rw [t1, t4]⟩
  rw [if_neg k4, if_neg k4]
  by_cases k5 : k = 5
  · rw [if_pos k5, if_pos k5, x_size, bind_s]; exact ⟨_, rfl, by rw [i1, i2]⟩
  rw [if_neg k5, if_neg k5]
  by_cases k6 : k = 6
  · rw [if_pos k6, if_pos k6, x_size, bind_s]; exact ⟨_, rfl, by rw [c1, c2]⟩
  rw [if_neg k6, if_neg k6]
  by_cases k7 : k = 7
  · rw [if_pos k7, if_pos k7, bind_s]; exact ⟨_, rfl, by rw [v1, v2]⟩
  rw [if_neg k7, if_neg k7]
  by_cases k8 : k = 8
  · rw [if_pos k8, if_pos k8, bind_s]; exact ⟨_, rfl, by rw [l1, l2]⟩
  rw [if_neg k8, if_neg k8]
  by_cases k9 : k = 9
  · rw [if_pos k9, if_pos k9, bind_s]; exact ⟨_, rfl, by rw [n1, n2]⟩
  rw [if_neg k9, if_neg k9]
  have k10 : k = 10 := by
    have e : ∀ (m : Int32) (j : Int), m.toInt = j → ¬ k = m → ¬ k.toInt = j := fun m j h1 h2 h3 => h2 (Int32.toInt_inj.mp (h3.trans h1.symm))
    have := e 0 0 rfl k0
    have := e 1 1 rfl k1
    have := e 2 2 rfl k2
    have := e 3 3 rfl k3
    have := e 4 4 rfl k4
    have := e 5 5 rfl k5
    have := e 6 6 rfl k6
    have := e 7 7 rfl k7
    have := e 8 8 rfl k8
    have := e 9 9 rfl k9
    have : k.toInt = 10 := by omega
    exact Int32.toInt_inj.mp this
  rw [if_pos k10, if_pos k10, x_size, bind_s]
  exact ⟨_, rfl, by rw [p3, p4]⟩
theorem asked_step {S T : St} {n nl nc : Nat} {c cl : Nat → Nat} (h : RelN S T n c nl cl nc) (k : Int32) : ∃ r, x_G_asked S k = some (r, S) ∧ m_M_asked T k = some (r, T) := by
  obtain ⟨hS, hT, r31, r32, r33, hA, hAc, hPl⟩ := h
  obtain ⟨n0, n1, n2, -⟩ := hS.2.1
  have nle : k < 0 → ¬ 0 ≤ k := fun z q => by
    have z1 := Int32.lt_iff_toInt_lt.mp z
    have z2 := Int32.le_iff_toInt_le.mp q
    omega
  unfold x_G_asked m_M_asked
  rcases hA with ⟨a1, a2, a3⟩ | ⟨b1, b2, p, b, b3, b4, b5, b6, b7, b8, b9⟩ | ⟨b1, b2, q, b3, b4, b5, b6, b7⟩
  · have hx1 : x_Report_isAsked S = some (0, S) := by
      unfold x_Report_isAsked
      rw [if_neg a2, if_neg a3]
    rw [hx1, bind_s, bind_s]
    dsimp only
    rw [if_pos rfl, if_pos rfl, a1, if_pos rfl]
    by_cases hk : k = (-1)
    · rw [if_pos hk, if_pos hk]; exact ⟨_, rfl, rfl⟩
    · rw [if_neg hk, if_neg hk]; exact ⟨_, rfl, rfl⟩
  · have hx1 : x_Report_isAsked S = some (1, S) := by
      unfold x_Report_isAsked
      rw [if_pos b2]
    have hcl := card_le (p := p) n
    have hbf : bit (gL T 1) = p := by rw [b4]; exact bit_fun (by omega) b3
    rw [hx1, bind_s, bind_s]
    dsimp only
    rw [if_neg one_ne0, if_neg one_ne0, b1, b2, if_neg (show ¬ (15 : Int32) = 0 by decide), if_pos rfl, x_at (r := 16) b5 (show card p n ≤ 40 by omega) (by decide), bind_s]
    by_cases hk : k = (-1)
    · rw [if_pos hk, if_pos hk]; exact ⟨_, rfl, rfl⟩
    · rw [if_neg hk, if_neg hk]
      rcases int_cases k with kn | ⟨j, hj, rfl⟩
      · rw [if_neg (nle kn), rat_neg kn]; exact ⟨_, rfl, rfl⟩
      · rw [if_pos (nI_pos' hj), m_thing n2 n0 _ hj, bind_s, hbf, nthE_enum b6 n 0 j (by omega)]
        refine ⟨_, rfl, ?_⟩
        dsimp only
        rw [show card p 0 = 0 from rfl, Nat.zero_add]
        by_cases hjc : j < card p n
        · rw [if_pos hjc, rat_nI hjc (by omega)]
        · rw [if_neg hjc, rat_no (by omega) hj]
  · have hx1 : x_Report_isAsked S = some (1, S) := by
      unfold x_Report_isAsked
      rw [if_neg (by rw [b2]; decide), if_pos b2]
    rw [hx1, bind_s, bind_s]
    dsimp only
    rw [if_neg one_ne0, if_neg one_ne0, b1, b2, if_neg (show ¬ (16 : Int32) = 0 by decide), if_neg (show ¬ (16 : Int32) = 15 by decide), x_at (r := 16) b4 (show q + 1 ≤ 40 by omega) (by decide), bind_s, b5]
    by_cases hk : k = (-1)
    · rw [if_pos hk, if_pos hk]; exact ⟨_, rfl, rfl⟩
    · rw [if_neg hk, if_neg hk]
      rcases int_cases k with kn | ⟨j, hj, rfl⟩
      · rw [if_neg (nle kn), rat_neg kn]; exact ⟨_, rfl, rfl⟩
      · rw [if_pos (nI_pos' hj)]
        by_cases hj0 : j = 0
        · rw [hj0, if_pos (show nI 0 = 0 from rfl), rat_nI (show 0 < q + 1 by omega) (by omega), b6]
          exact ⟨_, rfl, rfl⟩
        · rw [if_neg (nI_ne0 (by omega) hj)]
          by_cases hjq : q < j
          · rw [if_pos (nI_lt hjq hj), rat_no (by omega) hj]; exact ⟨_, rfl, rfl⟩
          · obtain ⟨i, rfl⟩ : ∃ i, j = i + 1 := ⟨j - 1, by omega⟩
            rw [if_neg (nI_nlt (by omega) (by omega)), nI_pred, gd_t _ (vin_nI (show i < 8 by omega) (by omega)), nI_clamp (show i < 2 ^ 31 by omega), rat_nI (show i + 1 < q + 1 by omega) (by omega), (b7 i (by omega)).1]
            exact ⟨_, rfl, rfl⟩

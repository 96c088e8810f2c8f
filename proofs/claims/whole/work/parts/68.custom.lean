theorem x_put {r : Nat} {S : St} {n : Nat} (h : gI S r = nI n) (hn : n ≤ xcap r) (hc : xcap r ≤ 60) {i : Nat} (hi : i < n) (v : Int32) : x_Row_put r S (nI i) v = some (sA S r i v) := by
  unfold x_Row_put
  simp only [eq_false (nI_pos (show i < 2 ^ 31 by omega)), if_false, h, le_f (show i < n by omega) (by omega), gd_t _ (vin_nI (show i < xcap r by omega) (by omega)), nI_clamp (show i < 2 ^ 31 by omega)]
theorem x_vfind {S : St} {n : Nat} (h2 : gI S 2 = nI n) (h3 : gI S 3 = nI n) (h4 : gI S 4 = nI n) (hn : n ≤ 40) (c w : Int32) : x_Values_find S c w = some (if pix (gA S 2) (gA S 3) c w n 0 < n then gA S 4 (pix (gA S 2) (gA S 3) c w n 0) else (-1), S) := by
  unfold x_Values_find
  rw [x_pix h2 h3 hn, bind_s]
  dsimp only
  by_cases h : pix (gA S 2) (gA S 3) c w n 0 < n
  · rw [if_pos h, if_pos h, x_at h4 hn (by decide), bind_s, rat_nI h (by omega)]
  · rw [if_neg h, if_neg h, x_at h4 hn (by decide), bind_s, rat_neg (by decide)]
abbrev XP (S : St) (n : Nat) (c w v : Int32) : St := sI (sA (sI (sA (sI (sA S 2 n c) 2 (nI (n + 1))) 3 n w) 3 (nI (n + 1))) 4 n v) 4 (nI (n + 1))
theorem x_vput_new {S : St} {n : Nat} (h2 : gI S 2 = nI n) (h3 : gI S 3 = nI n) (h4 : gI S 4 = nI n) (hn : n < 40) (c w v : Int32) (hp : ¬ pix (gA S 2) (gA S 3) c w n 0 < n) : x_Values_put S c w v = some (nI (n + 1), XP S n c w v) := by
  unfold x_Values_put
  rw [x_pix h2 h3 (Nat.le_of_lt hn), bind_s]
  dsimp only
  rw [if_neg hp, if_pos rfl, x_add h2 (show n < 40 from hn) (by decide), bind_s, x_add (r := 3) (S := sI (sA S 2 n c) 2 (nI (n + 1))) (n := n) h3 (show n < 40 from hn) (by decide), bind_s, x_add (r := 4) (S := sI (sA (sI (sA S 2 n c) 2 (nI (n + 1))) 3 n w) 3 (nI (n + 1))) (n := n) h4 (show n < 40 from hn) (by decide), bind_s]
  rfl
theorem m1_ne {j : Nat} (hj : j < 2 ^ 31) : ¬ nI j = (-1) := by
  intro q
  have h := nI_pos' hj
  rw [q] at h
  exact absurd h (by decide)
theorem x_vput_old {S : St} {n : Nat} (h2 : gI S 2 = nI n) (h3 : gI S 3 = nI n) (h4 : gI S 4 = nI n) (hn : n ≤ 40) (c w v : Int32) (hp : pix (gA S 2) (gA S 3) c w n 0 < n) : x_Values_put S c w v = some (nI n, sA S 4 (pix (gA S 2) (gA S 3) c w n 0) v) := by
  unfold x_Values_put
  rw [x_pix h2 h3 hn, bind_s]
  dsimp only
  rw [if_pos hp, if_neg (m1_ne (by omega)), x_put h4 hn (by decide) hp, bind_s]
  unfold x_Values_put_b51 x_Values_count
  rw [x_size]
  show some (gI S 4, _) = _
  rw [h4]
theorem pix_in {a b : Nat → Int32} {c w : Int32} : ∀ n i, pix a b c w n i < i + n → a (pix a b c w n i) = c ∧ b (pix a b c w n i) = w
  | 0, i, h => absurd h (by simp only [pix]; omega)
  | n + 1, i, h => by
    simp only [pix] at h ⊢
    by_cases hh : a i = c ∧ b i = w
    · rw [if_pos hh]; exact hh
    · rw [if_neg hh] at h ⊢
      exact pix_in n (i + 1) (by omega)
abbrev MP (T : St) (n : Nat) (c w v : Int32) : St := sI (sA (sA (sA T 11 n c) 12 n w) 13 n v) 4 (nI (n + 1))
abbrev MQ2 (T : St) (n p : Nat) (c w v : Int32) : St := sI (sA (sA (sA T 11 p c) 12 p w) 13 p v) 4 (nI n)
theorem x_custom_no {S : St} {c w v : Int32} (h : btw c 0 9 = 0 ∨ btw w 10 19999 = 0 ∨ btw v 0 9999 = 0) : x_G_custom S c w v = some ((-102), S) := by
  have h18 : ∀ s : Int32, (c < 0 ∨ 9 < c ∨ s = 0 ∨ v < 0 ∨ ¬ v ≤ 9999) → x_G_custom_b18 S c w v s = some ((-102), S) := by
    intro s hs
    unfold x_G_custom_b18
    by_cases c1 : c < 0
    · rw [if_pos c1]
    · rw [if_neg c1]
      by_cases c2 : 9 < c
      · rw [if_pos c2]
      · rw [if_neg c2]
        by_cases c3 : s = 0
        · rw [if_pos c3]
        · rw [if_neg c3]
          by_cases c4 : v < 0
          · rw [if_pos c4]
          · rw [if_neg c4]
            have c5 : ¬ v ≤ 9999 := by
              rcases hs with q | q | q | q | q
              · exact absurd q c1
              · exact absurd q c2
              · exact absurd q c3
              · exact absurd q c4
              · exact q
            rw [if_neg c5]
  unfold x_G_custom x_G_custom_b17
  by_cases w1 : w < 10
  · rw [if_pos w1]; exact h18 0 (Or.inr (Or.inr (Or.inl rfl)))
  · rw [if_neg w1]
    by_cases w2 : 19999 < w
    · rw [if_pos w2]; exact h18 0 (Or.inr (Or.inr (Or.inl rfl)))
    · rw [if_neg w2]
      refine h18 1 ?_
      rcases h with q | q | q
      · unfold btw at q
        by_cases c1 : c < 0
        · exact Or.inl c1
        · rw [if_neg c1] at q
          by_cases c2 : 9 < c
          · exact Or.inr (Or.inl c2)
          · rw [if_neg c2] at q; exact absurd q one_ne0
      · unfold btw at q
        rw [if_neg w1, if_neg w2] at q
        exact absurd q one_ne0
      · unfold btw at q
        by_cases c1 : v < 0
        · exact Or.inr (Or.inr (Or.inr (Or.inl c1)))
        · rw [if_neg c1] at q
          by_cases c2 : 9999 < v
          · exact Or.inr (Or.inr (Or.inr (Or.inr (Int32.not_le.mpr c2))))
          · rw [if_neg c2] at q; exact absurd q one_ne0
theorem custom_step {S T : St} (h : PR S T) (c w v : Int32) : (∃ r, x_G_custom S c w v = some (r, S) ∧ m_M_custom T c w v = some (r, T)) ∨ (∃ n : Nat, x_G_custom S c w v = some (nI (n + 1), XP S n c w v) ∧ m_M_custom T c w v = some (nI (n + 1), MP T n c w v) ∧ PR (XP S n c w v) (MP T n c w v)) ∨ ∃ n p : Nat, x_G_custom S c w v = some (nI n, sA S 4 p v) ∧ m_M_custom T c w v = some (nI n, MQ2 T n p c w v) ∧ PR (sA S 4 p v) (MQ2 T n p c w v) := by
  obtain ⟨n, hn, e2, e3, e4, f4, g1, g2, g3, g4⟩ := h
  by_cases hc : btw c 0 9 = 0
  · exact Or.inl ⟨(-102), x_custom_no (Or.inl hc), by unfold m_M_custom; simp only [m_within, bind_s, hc, if_true]⟩
  by_cases hw : btw w 10 19999 = 0
  · exact Or.inl ⟨(-102), x_custom_no (Or.inr (Or.inl hw)), by unfold m_M_custom; simp only [m_within, bind_s, hc, hw, if_true, if_false]⟩
  by_cases hv : btw v 0 9999 = 0
  · exact Or.inl ⟨(-102), x_custom_no (Or.inr (Or.inr hv)), by unfold m_M_custom; simp only [m_within, bind_s, hc, hw, hv, if_true, if_false]⟩
  obtain ⟨c1, c2⟩ := btw_1 hc
  obtain ⟨w1, w2⟩ := btw_1 hw
  obtain ⟨v1, v2⟩ := btw_1 hv
  have v3 : v ≤ 9999 := Int32.not_lt.mp v2
  have hpe : pix (gA T 11) (gA T 12) c w n 0 = pix (gA S 2) (gA S 3) c w n 0 := (pix_eq n 0 (fun k hk => g1 k (by omega)) (fun k hk => g2 k (by omega))).symm
  have hle : pix (gA S 2) (gA S 3) c w n 0 ≤ n := by have := pix_le (a := gA S 2) (b := gA S 3) (c := c) (w := w) n 0; omega
  have l1 : (nI n < (40 : Int32)) = (n < 40) := lit_lt 40 rfl (by omega) (by omega)
  have hcnt : x_Values_count S = some (nI n, S) := by unfold x_Values_count; rw [x_size, bind_s, e4]
  by_cases hp : pix (gA S 2) (gA S 3) c w n 0 < n
  · refine Or.inr (Or.inr ⟨n, pix (gA S 2) (gA S 3) c w n 0, ?_, ?_, ?_⟩)
    · have hne : ¬ gA S 4 (pix (gA S 2) (gA S 3) c w n 0) = (-1) := by
        intro q
        have := g4 _ hp
        rw [q] at this
        exact absurd this (by decide)
      unfold x_G_custom x_G_custom_b18 x_G_custom_b77
      simp only [w1, w2, c1, c2, v1, v3, if_true, if_false, one_ne0, x_vfind e2 e3 e4 hn, bind_s, hp, hne, x_vput_old e2 e3 e4 hn c w v hp]
    · have l2 : (nI (pix (gA S 2) (gA S 3) c w n 0) = (40 : Int32)) = (pix (gA S 2) (gA S 3) c w n 0 = 40) := lit_eq 40 rfl (by omega) (by omega)
      have l3 : (nI (pix (gA S 2) (gA S 3) c w n 0) = nI n) = (pix (gA S 2) (gA S 3) c w n 0 = n) := eq_nI (by omega) (by omega)
      unfold m_M_custom
      simp only [m_within, bind_s, hc, hw, hv, if_false, m_pix f4 hn, hpe, l2, eq_false (show ¬ pix (gA S 2) (gA S 3) c w n 0 = 40 by omega), gd_t _ (vin_nI (show pix (gA S 2) (gA S 3) c w n 0 < 40 by omega) (by omega)), nI_clamp (show pix (gA S 2) (gA S 3) c w n 0 < 2 ^ 31 by omega), gI_sA, f4, l3, eq_false (show ¬ pix (gA S 2) (gA S 3) c w n 0 = n by omega)]
      rfl
    · have hin := pix_in (a := gA S 2) (b := gA S 3) (c := c) (w := w) n 0 (by omega)
      refine ⟨n, hn, e2, e3, e4, rfl, ?_, ?_, g3.st, ?_⟩
      · intro k hk
        show gA S 2 k = upd (gA T 11) (pix (gA S 2) (gA S 3) c w n 0) c k
        by_cases e : k = pix (gA S 2) (gA S 3) c w n 0
        · rw [e, upd_self]; exact hin.1
        · rw [upd_ne e]; exact g1 k hk
      · intro k hk
        show gA S 3 k = upd (gA T 12) (pix (gA S 2) (gA S 3) c w n 0) w k
        by_cases e : k = pix (gA S 2) (gA S 3) c w n 0
        · rw [e, upd_self]; exact hin.2
        · rw [upd_ne e]; exact g2 k hk
      · intro k hk
        show 0 ≤ upd (gA S 4) (pix (gA S 2) (gA S 3) c w n 0) v k
        by_cases e : k = pix (gA S 2) (gA S 3) c w n 0
        · rw [e, upd_self]; exact Int32.not_lt.mp v1
        · rw [upd_ne e]; exact g4 k hk
  · have hpn : pix (gA S 2) (gA S 3) c w n 0 = n := by omega
    rw [hpn] at hpe
    have l2 : (nI n = (40 : Int32)) = (n = 40) := lit_eq 40 rfl (by omega) (by omega)
    by_cases h40 : n < 40
    · refine Or.inr (Or.inl ⟨n, ?_, ?_, ?_⟩)
      · unfold x_G_custom x_G_custom_b18 x_G_custom_b77
        simp only [w1, w2, c1, c2, v1, v3, if_true, if_false, one_ne0, x_vfind e2 e3 e4 hn, bind_s, hp, hcnt, l1, h40, x_vput_new e2 e3 e4 h40 c w v hp]
      · unfold m_M_custom
        simp only [m_within, bind_s, hc, hw, hv, if_false, m_pix f4 hn, hpe, l2, eq_false (show ¬ n = 40 by omega), gd_t _ (vin_nI h40 (by omega)), nI_clamp (show n < 2 ^ 31 by omega), gI_sA, f4, if_true, nI_1]
        rfl
      · refine ⟨n + 1, by omega, rfl, rfl, rfl, rfl, g1.up, g2.up, g3.up, ?_⟩
        intro k hk
        show 0 ≤ upd (gA S 4) n v k
        by_cases e : k = n
        · rw [e, upd_self]; exact Int32.not_lt.mp v1
        · rw [upd_ne e]; exact g4 k (by omega)
    · refine Or.inl ⟨(-104), ?_, ?_⟩
      · unfold x_G_custom x_G_custom_b18
        simp only [w1, w2, c1, c2, v1, v3, if_true, if_false, one_ne0, x_vfind e2 e3 e4 hn, bind_s, hp, hcnt, l1, h40]
      · unfold m_M_custom
        simp only [m_within, bind_s, hc, hw, hv, if_false, m_pix f4 hn, hpe, l2, eq_true (show n = 40 by omega), if_true]

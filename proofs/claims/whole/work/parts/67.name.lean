theorem x_namesOf {S : St} {n : Nat} (e : gI S 23 = nI n) (hn : n ≤ 40) {t c : Nat} (ht : t < n) (e2 : gA S 18 t = nI c) : x_Things_namesOf S (nI t) = some (nI c, S) := by
  unfold x_Things_namesOf
  simp only [x_hasT e hn, bind_s, btw_nI (show n < 2 ^ 30 by omega) ht, one_ne0, if_false, gd_t _ (vin_nI (show t < 40 by omega) (by omega)), nI_clamp (show t < 2 ^ 31 by omega), e2]
abbrev XN (S : St) (t c : Nat) (w : Int32) : St := sA (sA S 19 (4 * t + c) w) 18 t (nI (c + 1))
abbrev MN (T : St) (t c : Nat) (w : Int32) : St := sA (sA T 10 (4 * t + c) w) 9 t (nI (c + 1))
theorem name_step {S T : St} (h : TR S T) (v w : Int32) : (∃ r, x_G_name S v w = some (r, S) ∧ m_M_name T v w = some (r, T)) ∨ ∃ (t c : Nat), x_G_name S v w = some (nI (c + 1), XN S t c w) ∧ m_M_name T v w = some (nI (c + 1), MN T t c w) ∧ TR (XN S t c w) (MN T t c w) := by
  obtain ⟨n, c, hn, e1, e2, e3, e4, e5, e6, e7, e8⟩ := h
  by_cases hv : btw v 0 (nI n - 1) = 0
  · refine Or.inl ⟨(-101), ?_, ?_⟩
    · unfold x_G_name; simp only [x_hasT e1 hn, bind_s, hv, if_true]
    · unfold m_M_name; simp only [m_within, e2, bind_s, hv, if_true]
  obtain ⟨t, ht, rfl⟩ := btw_ix (by omega) hv
  have h4 := e4 t (by omega)
  have hx := x_named e1 hn ht h4.1 h4.2 w
  have hm := m_named (T := T) (show t < 40 by omega) h4.1 (e5 t ht) w
  have hnm : nmu (gA T 10) (4 * t) w (c t) 0 = nmu (gA S 19) (4 * t) w (c t) 0 := (nmu_eq (c t) 0 (fun k hk => e7 t k ht (by omega))).symm
  rw [hnm] at hm
  have l1 : (nI (c t) < (4 : Int32)) = (c t < 4) := lit_lt 4 rfl (by omega) (by omega)
  have l2 : (nI (c t) = (4 : Int32)) = (c t = 4) := lit_eq 4 rfl (by omega) (by omega)
  have l3 : ((4 : Int32) ≤ nI (c t)) = (4 ≤ c t) := lit_ge 4 rfl (by omega) (by omega)
  by_cases hp : btw w 10 9999 = 0
  · refine Or.inl ⟨(-102), ?_, ?_⟩
    · unfold x_G_name; simp only [x_hasT e1 hn, bind_s, hv, if_false, x_plain, hp, if_true]
    · unfold m_M_name; simp only [m_within, e2, bind_s, hv, if_false, m_plain, hp, if_true]
  by_cases hb : nmu (gA S 19) (4 * t) w (c t) 0 = false
  · rw [hb] at hx hm
    have z : b2i false = 0 := rfl
    by_cases hc : c t < 4
    · refine Or.inr ⟨t, c t, ?_, ?_, ?_⟩
      · unfold x_G_name x_G_name_b51 x_Things_addName
        simp only [x_hasT e1 hn, bind_s, hv, if_false, x_plain, hp, hx, z, if_true, x_namesOf e1 hn ht h4.2, l1, hc, gd_t _ (vin_nI (show t < 40 by omega) (by omega)), nI_clamp (show t < 2 ^ 31 by omega), h4.2, l3, eq_false (show ¬ 4 ≤ c t by omega), ix4, gd_t _ (vin_nI (show 4 * t + c t < 160 by omega) (by omega)), nI_clamp (show 4 * t + c t < 2 ^ 31 by omega)]
        rw [show gA (sA S 19 (4 * t + c t) w) 18 t = nI (c t) from h4.2, nI_1]
        unfold x_Things_addName_b53
        rw [x_namesOf (S := XN S t (c t) w) (n := n) (c := c t + 1) e1 hn ht (by rw [gA_sA, if_pos rfl, upd_self])]
        rfl
      · unfold m_M_name
        simp only [m_within, e2, bind_s, hv, if_false, m_plain, hp, hm, z, if_true, gd_t _ (vin_nI (show t < 40 by omega) (by omega)), nI_clamp (show t < 2 ^ 31 by omega), e5 t ht, l2, eq_false (show ¬ c t = 4 by omega), ix4c, gd_t _ (vin_nI (show 4 * t + c t < 160 by omega) (by omega)), nI_clamp (show 4 * t + c t < 2 ^ 31 by omega)]
        rw [show gA (sA T 10 (4 * t + c t) w) 9 t = nI (c t) from e5 t ht, nI_1]
        rw [show gA (MN T t (c t) w) 9 t = nI (c t + 1) by rw [gA_sA, if_pos rfl, upd_self]]
      · refine ⟨n, fun j => if j = t then c t + 1 else c j, hn, e1, e2, e3, ?_, ?_, ?_, ?_, e8⟩
        · intro j hj
          show (if j = t then c t + 1 else c j) ≤ 4 ∧ upd (gA S 18) t (nI (c t + 1)) j = nI (if j = t then c t + 1 else c j)
          by_cases e : j = t
          · rw [e, upd_self, if_pos rfl]; exact ⟨by omega, rfl⟩
          · rw [upd_ne e, if_neg e]; exact e4 j hj
        · intro j hj
          show upd (gA T 9) t (nI (c t + 1)) j = nI (if j = t then c t + 1 else c j)
          by_cases e : j = t
          · rw [e, upd_self, if_pos rfl]
          · rw [upd_ne e, if_neg e]; exact e5 j hj
        · intro j hj
          show (if j = t then c t + 1 else c j) = 0
          rw [if_neg (by omega)]; exact e6 j hj
        · intro j k hj hk
          show upd (gA S 19) (4 * t + c t) w (4 * j + k) = upd (gA T 10) (4 * t + c t) w (4 * j + k)
          by_cases e : j = t
          · subst e
            have hk : k < c j + 1 := by simpa using hk
            by_cases e2 : k = c j
            · subst e2; rw [upd_self, upd_self]
            · rw [upd_ne (by omega), upd_ne (by omega)]
              exact e7 j k hj (by omega)
          · have hk : k < c j := by simpa [e] using hk
            have := e4 j (by omega)
            rw [upd_ne (by omega), upd_ne (by omega)]
            exact e7 j k hj hk
    · refine Or.inl ⟨(-104), ?_, ?_⟩
      · unfold x_G_name
        simp only [x_hasT e1 hn, bind_s, hv, if_false, x_plain, hp, hx, z, if_true, x_namesOf e1 hn ht h4.2, l1, hc]
      · unfold m_M_name
        simp only [m_within, e2, bind_s, hv, if_false, m_plain, hp, hm, z, if_true, gd_t _ (vin_nI (show t < 40 by omega) (by omega)), nI_clamp (show t < 2 ^ 31 by omega), e5 t ht, l2, eq_true (show c t = 4 by omega)]
  · have hb : nmu (gA S 19) (4 * t) w (c t) 0 = true := by simpa using hb
    rw [hb] at hx hm
    have z : b2i true = 1 := rfl
    refine Or.inl ⟨nI (c t), ?_, ?_⟩
    · unfold x_G_name x_G_name_b51 x_Things_addName x_Things_addName_b53
      simp only [x_hasT e1 hn, bind_s, hv, if_false, x_plain, hp, hx, z, one_ne0, x_namesOf e1 hn ht h4.2]
    · unfold m_M_name
      simp only [m_within, e2, bind_s, hv, if_false, m_plain, hp, hm, z, one_ne0, gd_t _ (vin_nI (show t < 40 by omega) (by omega)), nI_clamp (show t < 2 ^ 31 by omega), e5 t ht]
/-- the place of a pair, or n -/
def pix (a b : Nat → Int32) (c w : Int32) : Nat → Nat → Nat
  | 0, i => i
  | n + 1, i => if a i = c ∧ b i = w then i else pix a b c w n (i + 1)
theorem pix_le {a b : Nat → Int32} {c w : Int32} : ∀ n i, pix a b c w n i ≤ i + n
  | 0, i => Nat.le_refl i
  | n + 1, i => by
    simp only [pix]
    by_cases h : a i = c ∧ b i = w
    · rw [if_pos h]; omega
    · rw [if_neg h]; have := pix_le (a := a) (b := b) (c := c) (w := w) n (i + 1); omega
theorem pix_eq {a b a2 b2 : Nat → Int32} {c w : Int32} : ∀ n i, (∀ k, k < i + n → a k = a2 k) → (∀ k, k < i + n → b k = b2 k) → pix a b c w n i = pix a2 b2 c w n i
  | 0, _, _, _ => rfl
  | n + 1, i, h1, h2 => by
    simp only [pix]
    rw [h1 i (by omega), h2 i (by omega), pix_eq n (i + 1) (fun k hk => h1 k (by omega)) (fun k hk => h2 k (by omega))]
/-- the pairs -/
def PR (S T : St) : Prop := ∃ n : Nat, n ≤ 40 ∧ gI S 2 = nI n ∧ gI S 3 = nI n ∧ gI S 4 = nI n ∧ gI T 4 = nI n ∧ EqN n (gA S 2) (gA T 11) ∧ EqN n (gA S 3) (gA T 12) ∧ EqN n (gA S 4) (gA T 13) ∧ ∀ k, k < n → 0 ≤ gA S 4 k
theorem x_pix_l {S : St} {n : Nat} (h2 : gI S 2 = nI n) (h3 : gI S 3 = nI n) (hn : n ≤ 40) (c w : Int32) : ∀ (r fuel i : Nat), i + r = n → r < fuel → x_Values_indexOf_b2 fuel S c w (nI i) = some (if pix (gA S 2) (gA S 3) c w r i < n then nI (pix (gA S 2) (gA S 3) c w r i) else (-1), S)
  | r, 0, i, _, hf => absurd hf (by omega)
  | 0, fuel + 1, i, he, _ => by
    show x_Values_indexOf_b2_f _ S _ _ _ = _
    simp only [x_Values_indexOf_b2_f, x_size, bind_s, h3, le_t (show n ≤ i by omega) (by omega), if_true, pix, eq_false (show ¬ i < n by omega), if_false]
  | r + 1, fuel + 1, i, he, hf => by
    have ih := x_pix_l h2 h3 hn c w r fuel (i + 1) (by omega) (by omega)
    show x_Values_indexOf_b2_f (x_Values_indexOf_b2 fuel) S _ _ _ = _
    simp only [x_Values_indexOf_b2_f, x_Values_indexOf_b39, x_size, bind_s, h3, le_f (show i < n by omega) (by omega), if_false, x_at h2 hn (by decide), x_at h3 hn (by decide), rat_nI (show i < n by omega) (by omega), nI_1, pix]
    by_cases ha : gA S 2 i = c
    · by_cases hb : gA S 3 i = w
      · simp only [ha, hb, and_self, if_true, eq_true (show i < n by omega)]
      · simp only [ha, hb, and_false, if_true, if_false]
        exact ih
    · simp only [ha, false_and, if_false]
      exact ih
theorem x_pix {S : St} {n : Nat} (h2 : gI S 2 = nI n) (h3 : gI S 3 = nI n) (hn : n ≤ 40) (c w : Int32) : x_Values_indexOf S c w = some (if pix (gA S 2) (gA S 3) c w n 0 < n then nI (pix (gA S 2) (gA S 3) c w n 0) else (-1), S) := x_pix_l h2 h3 hn c w n fu 0 (by omega) (show n < 100000 by omega)
theorem m_pix_l {T : St} {n : Nat} (h : gI T 4 = nI n) (hn : n ≤ 40) (c w : Int32) : ∀ (r fuel i : Nat), i + r = n → r < fuel → m_M_pairOf_b2 fuel T c w (nI i) = some (nI (pix (gA T 11) (gA T 12) c w r i), T)
  | r, 0, i, _, hf => absurd hf (by omega)
  | 0, fuel + 1, i, he, _ => by
    show m_M_pairOf_b2_f _ T _ _ _ = _
    simp only [m_M_pairOf_b2_f, h, le_t (show n ≤ i by omega) (by omega), if_true, pix]
  | r + 1, fuel + 1, i, he, hf => by
    have ih := m_pix_l h hn c w r fuel (i + 1) (by omega) (by omega)
    show m_M_pairOf_b2_f (m_M_pairOf_b2 fuel) T _ _ _ = _
    simp only [m_M_pairOf_b2_f, m_M_pairOf_b30, h, le_f (show i < n by omega) (by omega), if_false, gd_t _ (vin_nI (show i < 40 by omega) (by omega)), nI_clamp (show i < 2 ^ 31 by omega), nI_1, pix]
    by_cases ha : gA T 11 i = c
    · by_cases hb : gA T 12 i = w
      · simp only [ha, hb, and_self, if_true]
      · simp only [ha, hb, and_false, if_true, if_false]
        exact ih
    · simp only [ha, false_and, if_false]
      exact ih
theorem m_pix {T : St} {n : Nat} (h : gI T 4 = nI n) (hn : n ≤ 40) (c w : Int32) : m_M_pairOf T c w = some (nI (pix (gA T 11) (gA T 12) c w n 0), T) := m_pix_l h hn c w n fu 0 (by omega) (show n < 100000 by omega)

/-- how many below n -/
def card (p : Nat → Bool) : Nat → Nat
  | 0 => 0
  | n + 1 => card p n + (if p n = true then 1 else 0)
theorem card_le {p : Nat → Bool} : ∀ n, card p n ≤ n
  | 0 => Nat.le_refl 0
  | n + 1 => by
    simp only [card]
    have := card_le (p := p) n
    by_cases h : p n = true
    · rw [if_pos h]; omega
    · rw [if_neg h]; omega
theorem card_mono {p : Nat → Bool} {i : Nat} : ∀ n, i ≤ n → card p i ≤ card p n
  | 0, h => by rw [show i = 0 by omega]; exact Nat.le_refl _
  | n + 1, h => by
    by_cases e : i = n + 1
    · rw [e]; exact Nat.le_refl _
    · have := card_mono (p := p) n (by omega : i ≤ n)
      simp only [card]
      omega
theorem card_eq {p q : Nat → Bool} : ∀ n, (∀ k, k < n → p k = q k) → card p n = card q n
  | 0, _ => rfl
  | n + 1, h => by
    simp only [card]
    rw [card_eq n (fun k hk => h k (by omega)), h n (by omega)]
theorem card_0 {p : Nat → Bool} : ∀ n, card p n = 0 ↔ ∀ k, k < n → p k = false
  | 0 => ⟨fun _ k hk => absurd hk (by omega), fun _ => rfl⟩
  | n + 1 => by
    have ih := card_0 (p := p) n
    simp only [card]
    constructor
    · intro h k hk
      by_cases e : k = n
      · subst e
        cases hp : p k
        · rfl
        · rw [hp] at h; simp at h
      · exact ih.mp (by omega) k (by omega)
    · intro h
      rw [ih.mpr (fun k hk => h k (by omega)), h n (by omega)]; rfl
theorem card_more {p : Nat → Bool} {n : Nat} : ∀ m, n ≤ m → (∀ k, n ≤ k → k < m → p k = false) → card p m = card p n
  | 0, h, _ => by rw [show n = 0 by omega]
  | m + 1, h, hp => by
    by_cases e : n = m + 1
    · rw [e]
    · simp only [card]
      rw [card_more m (by omega) (fun k h1 h2 => hp k h1 (by omega)), hp m (by omega) (by omega)]; rfl
theorem m_has (S : St) (w : Int64) {t : Nat} (ht : t < 64) : m_M_has S w (nI t) = some (b2i (bit w t), S) := by
  unfold m_M_has
  simp only [tst1 w ht]
  cases bit w t <;> rfl
theorem m_many_l {T : St} {n : Nat} (e : gI T 3 = nI n) (hn : n ≤ 40) (w : Int64) : ∀ (r fuel i : Nat), i + r = n → r < fuel → m_M_manyOf_b5 fuel T w (nI (card (bit w) i)) (nI i) = some (nI (card (bit w) n), T)
  | r, 0, i, _, hf => absurd hf (by omega)
  | 0, fuel + 1, i, he, _ => by
    show m_M_manyOf_b5_f _ T _ _ _ = _
    simp only [m_M_manyOf_b5_f, e, le_t (show n ≤ i by omega) (by omega), if_true]
    rw [show i = n by omega]
  | r + 1, fuel + 1, i, he, hf => by
    have ih := m_many_l e hn w r fuel (i + 1) (by omega) (by omega)
    show m_M_manyOf_b5_f (m_M_manyOf_b5 fuel) T _ _ _ = _
    simp only [m_M_manyOf_b5_f, m_M_manyOf_b29, e, le_f (show i < n by omega) (by omega), if_false, m_has T w (show i < 64 by omega), bind_s, b2i_0, nI_1]
    simp only [card] at ih
    cases hb : bit w i
    · rw [hb] at ih
      simp only [if_true, Int32.add_zero]
      exact ih
    · rw [hb] at ih
      simp only [Bool.true_eq_false, if_false, nI_1]
      exact ih
theorem m_many {T : St} {n : Nat} (e : gI T 3 = nI n) (hn : n ≤ 40) (w : Int64) : m_M_manyOf T w = some (nI (card (bit w) n), T) := m_many_l e hn w n fu 0 (by omega) (show n < 100000 by omega)
/-- the k-th from i on -/
def nthE (p : Nat → Bool) : Nat → Nat → Nat → Int32
  | 0, _, _ => (-1)
  | r + 1, i, k => if p i = true then (if k = 0 then nI i else nthE p r (i + 1) (k - 1)) else nthE p r (i + 1) k
theorem m_thing_l {T : St} {n : Nat} (e : gI T 3 = nI n) (hn : n ≤ 40) (w : Int64) : ∀ (r fuel i k : Nat), k < 2 ^ 31 → i + r = n → r < fuel → m_M_thingOf_b6 fuel T w (nI k) (nI i) = some (nthE (bit w) r i k, T)
  | r, 0, i, _, _, _, hf => absurd hf (by omega)
  | 0, fuel + 1, i, k, hk, he, _ => by
    show m_M_thingOf_b6_f _ T _ _ _ = _
    simp only [m_M_thingOf_b6_f, e, le_t (show n ≤ i by omega) (by omega), if_true, nthE]
  | r + 1, fuel + 1, i, k, hk, he, hf => by
    show m_M_thingOf_b6_f (m_M_thingOf_b6 fuel) T _ _ _ = _
    simp only [m_M_thingOf_b6_f, m_M_thingOf_b35, e, le_f (show i < n by omega) (by omega), if_false, m_has T w (show i < 64 by omega), bind_s, b2i_0, nI_1, nthE]
    cases hb : bit w i
    · simp only [if_true, if_false, Bool.false_eq_true]
      exact m_thing_l e hn w r fuel (i + 1) k hk (by omega) (by omega)
    · simp only [Bool.true_eq_false, if_false, if_true]
      cases k with
      | zero => rw [if_pos nI_0]; rfl
      | succ k =>
        rw [if_neg (nI_ne0 (by omega) hk), pk_m1, if_neg (by omega)]
        exact m_thing_l e hn w r fuel (i + 1) k (by omega) (by omega) (by omega)
theorem m_thing {T : St} {n : Nat} (e : gI T 3 = nI n) (hn : n ≤ 40) (w : Int64) {k : Nat} (hk : k < 2 ^ 31) : m_M_thingOf T w (nI k) = some (nthE (bit w) n 0 k, T) := m_thing_l e hn w n fu 0 k hk (by omega) (show n < 100000 by omega)
theorem x_first_l {S : St} {n : Nat} (e : gI S 23 = nI n) (hn : n ≤ 40) (w : Int64) : ∀ (r fuel i : Nat), i + r = n → r < fuel → x_Things_firstOf_b2 fuel S w (nI i) = some (nthE (bit w) r i 0, S)
  | r, 0, i, _, hf => absurd hf (by omega)
  | 0, fuel + 1, i, he, _ => by
    show x_Things_firstOf_b2_f _ S _ _ = _
    simp only [x_Things_firstOf_b2_f, e, le_t (show n ≤ i by omega) (by omega), if_true, nthE]
  | r + 1, fuel + 1, i, he, hf => by
    show x_Things_firstOf_b2_f (x_Things_firstOf_b2 fuel) S _ _ = _
    simp only [x_Things_firstOf_b2_f, e, le_f (show i < n by omega) (by omega), if_false, tst0 w (show i < 64 by omega), nI_1, nthE]
    cases hb : bit w i
    · simp only [if_true, if_false, Bool.false_eq_true]
      exact x_first_l e hn w r fuel (i + 1) (by omega) (by omega)
    · simp only [Bool.true_eq_false, if_false, if_true]
theorem x_first {S : St} {n : Nat} (e : gI S 23 = nI n) (hn : n ≤ 40) (w : Int64) : x_Things_firstOf S w = some (nthE (bit w) n 0 0, S) := x_first_l e hn w n fu 0 (by omega) (show n < 100000 by omega)
/-- a row that tells the things of a set in order -/
def Enum (p : Nat → Bool) (n : Nat) (g : Nat → Int32) : Prop := ∀ i, i < n → p i = true → g (card p i) = nI i
theorem nthE_enum {p : Nat → Bool} {n : Nat} {g : Nat → Int32} (h : Enum p n g) : ∀ (r i k : Nat), i + r = n → nthE p r i k = if card p i + k < card p n then g (card p i + k) else (-1)
  | 0, i, k, he => by
    simp only [nthE]
    rw [if_neg (by rw [show i = n by omega]; omega)]
  | r + 1, i, k, he => by
    have hm := card_mono (p := p) (i := i + 1) n (by omega)
    simp only [card] at hm
    simp only [nthE]
    by_cases hp : p i = true
    · rw [if_pos hp] at hm
      rw [if_pos hp]
      cases k with
      | zero =>
        rw [if_pos rfl, if_pos (by omega)]
        exact (h i (by omega) hp).symm
      | succ k =>
        rw [if_neg (by omega), Nat.add_sub_cancel, nthE_enum h r (i + 1) k (by omega)]
        simp only [card, if_pos hp]
        rw [show card p i + 1 + k = card p i + (k + 1) by omega]
    · rw [if_neg hp, nthE_enum h r (i + 1) k (by omega)]
      simp only [card, if_neg hp, Nat.add_zero]
/-- addThings into a row of n: the set's things behind what is there -/
theorem x_addT_l {r : Nat} (hc : xcap r ≤ 60) (w : Int64) (b : Nat) : ∀ (q fuel i : Nat) (S : St), i + q = 40 → q < fuel → gI S r = nI (b + card (bit w) i) → b + card (bit w) 40 ≤ xcap r → ∃ S2, x_Row_addThings_b2 r fuel S w (nI i) = some S2 ∧ gI S2 r = nI (b + card (bit w) 40) ∧ (∀ k, k ≠ r → gI S2 k = gI S k) ∧ (∀ k, gL S2 k = gL S k) ∧ (∀ k, k ≠ r → gA S2 k = gA S k) ∧ (∀ k, gB S2 k = gB S k) ∧ (∀ k, k < b + card (bit w) i → gA S2 r k = gA S r k) ∧ ∀ j, i ≤ j → j < 40 → bit w j = true → gA S2 r (b + card (bit w) j) = nI j
  | q, 0, i, S, _, hf, _, _ => absurd hf (by omega)
  | 0, fuel + 1, i, S, he, _, e, hcap => by
    refine ⟨S, ?_, by rw [e, show i = 40 by omega], fun _ _ => rfl, fun _ => rfl, fun _ _ => rfl, fun _ => rfl, fun _ _ => rfl, fun j h1 h2 => absurd h2 (by omega)⟩
    show x_Row_addThings_b2_f r _ S _ _ = _
    unfold x_Row_addThings_b2_f
    rw [if_pos]
    exact nI_le (a := 40) (by omega) (by omega)
  | q + 1, fuel + 1, i, S, he, hf, e, hcap => by
    have hm := card_mono (p := bit w) (i := i + 1) 40 (by omega)
    rw [show card (bit w) (i + 1) = card (bit w) i + (if bit w i = true then 1 else 0) from rfl] at hm
    have hlt : ¬ (40 : Int32) ≤ nI i := nI_ge (b := 40) (by omega) (by omega)
    show ∃ S2, x_Row_addThings_b2_f r (x_Row_addThings_b2 r fuel) S w (nI i) = some S2 ∧ _
    unfold x_Row_addThings_b2_f x_Row_addThings_b23
    simp only [hlt, if_false, tst0 w (show i < 64 by omega), nI_1]
    cases hb : bit w i
    · simp only [if_true]
      obtain ⟨S2, h1, h2, h3, h4, h5, h6, h7, h8⟩ := x_addT_l hc w b q fuel (i + 1) S (by omega) (by omega) (by rw [e]; simp only [card, hb, Bool.false_eq_true, if_false, Nat.add_zero]) hcap
      refine ⟨S2, h1, h2, h3, h4, h5, h6, ?_, ?_⟩
      · intro k hk
        exact h7 k (by simp only [card, hb, Bool.false_eq_true, if_false, Nat.add_zero]; exact hk)
      · intro j hj1 hj2 hj3
        by_cases ej : j = i
        · rw [ej, hb] at hj3; cases hj3
        · exact h8 j (by omega) hj2 hj3
    · rw [hb, if_pos rfl] at hm
      simp only [Bool.true_eq_false, if_false]
      rw [x_add e (by omega) hc, bind_s]
      obtain ⟨S2, h1, h2, h3, h4, h5, h6, h7, h8⟩ := x_addT_l hc w b q fuel (i + 1) (sI (sA S r (b + card (bit w) i) (nI i)) r (nI (b + card (bit w) i + 1))) (by omega) (by omega) (by rw [gI_sI, if_pos rfl]; simp only [card, hb, if_true]; rw [Nat.add_assoc]) hcap
      refine ⟨S2, h1, h2, ?_, ?_, ?_, ?_, ?_, ?_⟩
      · intro k hk; rw [h3 k hk, gI_sI, if_neg hk, gI_sA]
      · intro k; rw [h4 k]; rfl
      · intro k hk; rw [h5 k hk, gA_sI, gA_sA, if_neg hk]
      · intro k; rw [h6 k]; rfl
      · intro k hk
        rw [h7 k (by simp only [card, hb, if_true]; omega), gA_sI, gA_sA, if_pos rfl, upd_ne (by omega)]
      · intro j hj1 hj2 hj3
        by_cases ej : j = i
        · rw [ej, h7 _ (by simp only [card, hb, if_true]; omega), gA_sI, gA_sA, if_pos rfl, upd_self]
        · exact h8 j (by omega) hj2 hj3

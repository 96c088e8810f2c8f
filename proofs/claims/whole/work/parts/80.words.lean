/-- the next token behind j: r kinds may follow -/
def nx (f : Nat → Int32) (b : Nat) : Nat → Nat → Nat
  | 0, j => j
  | r + 1, j => if f (b + j) = 1 then nx f b r (j + 1) else j
theorem nx_le {f : Nat → Int32} {b : Nat} : ∀ r j, j ≤ nx f b r j ∧ nx f b r j ≤ j + r
  | 0, j => by simp only [nx]; omega
  | r + 1, j => by
    simp only [nx]
    by_cases h : f (b + j) = 1
    · rw [if_pos h]; have := nx_le (f := f) (b := b) r (j + 1); omega
    · rw [if_neg h]; omega
theorem nx_eq {f g : Nat → Int32} {b : Nat} : ∀ r j, (∀ k, k < j + r → f (b + k) = g (b + k)) → nx f b r j = nx g b r j
  | 0, _, _ => rfl
  | r + 1, j, h => by
    simp only [nx]
    rw [h j (by omega), nx_eq r (j + 1) (fun k hk => h k (by omega))]
theorem m_next_l {T : St} {l c : Nat} (hl : l < 60) (hc : c ≤ 8) (e : gA T 5 l = nI c) : ∀ (r fuel j : Nat), j + r = c → r < fuel → m_M_next_b4 fuel T (nI l) (nI j) = some (nI (nx (gA T 6) (8 * l) r j), T)
  | r, 0, j, _, hf => absurd hf (by omega)
  | 0, fuel + 1, j, he, _ => by
    show m_M_next_b4_f _ T _ _ = _
    simp only [m_M_next_b4_f, gd_t _ (vin_nI hl (by omega)), nI_clamp (show l < 2 ^ 31 by omega), e, le_t (show c ≤ j by omega) (by omega), if_true, nx]
  | r + 1, fuel + 1, j, he, hf => by
    have ih := m_next_l hl hc e r fuel (j + 1) (by omega) (by omega)
    show m_M_next_b4_f (m_M_next_b4 fuel) T _ _ = _
    simp only [m_M_next_b4_f, gd_t _ (vin_nI hl (by omega)), nI_clamp (show l < 2 ^ 31 by omega), e, le_f (show j < c by omega) (by omega), if_false, ix8c, gd_t _ (vin_nI (show 8 * l + j < 480 by omega) (by omega)), nI_clamp (show 8 * l + j < 2 ^ 31 by omega), nI_1, nx]
    by_cases h : gA T 6 (8 * l + j) = 1
    · rw [if_pos h, if_pos h]; exact ih
    · rw [if_neg h, if_neg h]
theorem m_next {T : St} {l c k : Nat} (hl : l < 60) (hc : c ≤ 8) (e : gA T 5 l = nI c) (hk : k < c) : m_M_next T (nI l) (nI k) = some (nI (nx (gA T 6) (8 * l) (c - (k + 1)) (k + 1)), T) := by
  unfold m_M_next
  rw [nI_1]
  exact m_next_l hl hc e (c - (k + 1)) fu (k + 1) (by omega) (show c - (k + 1) < 100000 by omega)
theorem m_oneOf_l {T : St} {l c k : Nat} (hl : l < 60) (hc : c ≤ 8) (e : gA T 5 l = nI c) (hk : k < c) (w : Int32) : ∀ (r fuel j : Nat) (b : Bool), j + r = nx (gA T 6) (8 * l) (c - (k + 1)) (k + 1) → r < fuel → m_M_isOneOf_b6 fuel T (nI l) (nI k) w (b2i b) (nI j) = some (b2i (b || nmu (gA T 7) (8 * l) w r j), T)
  | r, 0, j, _, _, hf => absurd hf (by omega)
  | 0, fuel + 1, j, b, he, _ => by
    have hx := nx_le (f := gA T 6) (b := 8 * l) (c - (k + 1)) (k + 1)
    show m_M_isOneOf_b6_f _ T _ _ _ _ _ = _
    simp only [m_M_isOneOf_b6_f, m_next hl hc e hk, bind_s, le_t (show nx (gA T 6) (8 * l) (c - (k + 1)) (k + 1) ≤ j by omega) (by omega), if_true, gd_t _ (b2i_B b), nmu, Bool.or_false]
  | r + 1, fuel + 1, j, b, he, hf => by
    have hx := nx_le (f := gA T 6) (b := 8 * l) (c - (k + 1)) (k + 1)
    have ih := m_oneOf_l (T := T) hl hc e hk w r fuel (j + 1)
    show m_M_isOneOf_b6_f (m_M_isOneOf_b6 fuel) T _ _ _ _ _ = _
    simp only [m_M_isOneOf_b6_f, m_M_isOneOf_b38, m_M_isOneOf_b43, m_next hl hc e hk, bind_s, le_f (show j < nx (gA T 6) (8 * l) (c - (k + 1)) (k + 1) by omega) (by omega), if_false, ix8c, gd_t _ (vin_nI (show 8 * l + j < 480 by omega) (by omega)), nI_clamp (show 8 * l + j < 2 ^ 31 by omega), nI_1, b2i_0, nmu]
    cases b with
    | false =>
      by_cases h : gA T 7 (8 * l + j) = w
      · simp only [h, if_true]
        exact ih true (by omega) (by omega)
      · simp only [h, if_true, if_false]
        exact ih false (by omega) (by omega)
    | true =>
      simp only [Bool.true_eq_false, if_false]
      exact ih true (by omega) (by omega)
/-- whether a word is one of a token's at k -/
def isW (f o : Nat → Int32) (b c k : Nat) (w : Int32) : Bool := nmu o b w (nx f b (c - (k + 1)) (k + 1) - k) k
theorem m_oneOf {T : St} {l c k : Nat} (hl : l < 60) (hc : c ≤ 8) (e : gA T 5 l = nI c) (hk : k < c) (w : Int32) : m_M_isOneOf T (nI l) (nI k) w = some (b2i (isW (gA T 6) (gA T 7) (8 * l) c k w), T) := by
  have hx := nx_le (f := gA T 6) (b := 8 * l) (c - (k + 1)) (k + 1)
  exact m_oneOf_l hl hc e hk w _ fu k false (by omega) (show _ < 100000 by omega)
theorem nx_step {f : Nat → Int32} {b c j : Nat} (hj : j + 1 < c) (h : f (b + (j + 1)) = 1) : nx f b (c - (j + 1)) (j + 1) = nx f b (c - (j + 1 + 1)) (j + 1 + 1) := by
  rw [show c - (j + 1) = (c - (j + 1 + 1)) + 1 by omega]
  conv => lhs; rw [nx]
  rw [if_pos h]
theorem nx_stop {f : Nat → Int32} {b c j : Nat} (h : ¬ (j + 1 < c ∧ f (b + (j + 1)) = 1)) : nx f b (c - (j + 1)) (j + 1) = j + 1 := by
  cases hr : c - (j + 1) with
  | zero => rfl
  | succ r => rw [nx, if_neg (fun z => h ⟨by omega, z⟩)]
theorem isW_step {f o : Nat → Int32} {b c k : Nat} {w : Int32} : isW f o b c k w = if o (b + k) = w then true else if k + 1 < c ∧ f (b + (k + 1)) = 1 then isW f o b c (k + 1) w else false := by
  have hx := nx_le (f := f) (b := b) (c - (k + 1)) (k + 1)
  unfold isW
  conv => lhs; rw [show nx f b (c - (k + 1)) (k + 1) - k = (nx f b (c - (k + 1)) (k + 1) - (k + 1)) + 1 by omega, nmu]
  by_cases h1 : o (b + k) = w
  · rw [if_pos h1, if_pos h1]
  · rw [if_neg h1, if_neg h1]
    by_cases h2 : k + 1 < c ∧ f (b + (k + 1)) = 1
    · rw [if_pos h2, nx_step h2.1 h2.2]
    · rw [if_neg h2, nx_stop h2, Nat.sub_self]; rfl
theorem x_takes_l {S : St} {n : Nat} {c : Nat → Nat} (e : gI S 25 = nI n) (hn : n ≤ 60) (f7 : ∀ l, l < 60 → c l ≤ 8 ∧ gA S 23 l = nI (c l)) {l : Nat} (hl : l < n) (w : Int32) : ∀ (r fuel j : Nat), j + r + 1 = c l → r + 1 < fuel → x_Lines_takes_b17 fuel S (nI l) w 1 (nI j) = some (b2i (isW (gA S 24) (gA S 25) (8 * l) (c l) j w), S)
  | r, 0, j, _, hf => absurd hf (by omega)
  | r, fuel + 1, j, he, hf => by
    have h8 := f7 l (by omega)
    show x_Lines_takes_b17_f (x_Lines_takes_b17 fuel) S _ _ _ _ = _
    simp only [x_Lines_takes_b17_f, x_Lines_takes_b63, one_ne0, if_false, x_kindsOf e hn f7 hl, bind_s, le_f (show j < c l by omega) (by omega), x_ofAt e hn f7 hl, rat_nI (show j < c l by omega) (by omega), x_kindAt e hn f7 hl, nI_1]
    rw [isW_step]
    by_cases h1 : gA S 25 (8 * l + j) = w
    · rw [if_pos h1, if_pos h1]; rfl
    · rw [if_neg h1, if_neg h1]
      cases r with
      | zero =>
        rw [rat_no (show c l ≤ j + 1 by omega) (by omega), if_neg (by decide), if_neg (fun z => by omega)]
        match fuel, hf with
        | fuel + 1, _ =>
          show x_Lines_takes_b17_f _ S _ _ _ _ = _
          simp only [x_Lines_takes_b17_f, if_true]
          rfl
      | succ r =>
        rw [rat_nI (show j + 1 < c l by omega) (by omega)]
        by_cases h2 : gA S 24 (8 * l + (j + 1)) = 1
        · rw [if_pos h2, if_pos ⟨by omega, h2⟩]
          exact x_takes_l e hn f7 hl w r fuel (j + 1) (by omega) (by omega)
        · rw [if_neg h2, if_neg (fun z => h2 z.2)]
          match fuel, hf with
          | fuel + 1, _ =>
            show x_Lines_takes_b17_f _ S _ _ _ _ = _
            simp only [x_Lines_takes_b17_f, if_true]
            rfl
theorem x_takes {S : St} {n : Nat} {c : Nat → Nat} (e : gI S 25 = nI n) (hn : n ≤ 60) (f7 : ∀ l, l < 60 → c l ≤ 8 ∧ gA S 23 l = nI (c l)) {l : Nat} (hl : l < n) {k : Nat} (hk : k < c l) (h0 : gA S 24 (8 * l + k) = 0) (w : Int32) : x_Lines_takes S (nI l) (nI k) w = some (b2i (isW (gA S 24) (gA S 25) (8 * l) (c l) k w), S) := by
  have h8 := f7 l (by omega)
  unfold x_Lines_takes
  rw [x_kindAt e hn f7 hl, bind_s, rat_nI hk (by omega)]
  dsimp only
  rw [h0, if_pos rfl]
  exact x_takes_l e hn f7 hl w (c l - (k + 1)) fu k (by omega) (show c l - (k + 1) + 1 < 100000 by omega)
theorem isW_eq {f g o q : Nat → Int32} {b c k : Nat} {w : Int32} (hk : k < c) (h1 : ∀ j, j < c → f (b + j) = g (b + j)) (h2 : ∀ j, j < c → o (b + j) = q (b + j)) : isW f o b c k w = isW g q b c k w := by
  have hx := nx_le (f := f) (b := b) (c - (k + 1)) (k + 1)
  unfold isW
  rw [nx_eq (c - (k + 1)) (k + 1) (fun j hj => h1 j (by omega))] at hx ⊢
  exact nmu_eq _ k (fun j hj => h2 j (by omega))

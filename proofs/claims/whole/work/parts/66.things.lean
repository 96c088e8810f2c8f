def b2i (b : Bool) : Int32 := if b = true then 1 else 0
theorem b2i_0 (b : Bool) : (b2i b = 0) = (b = false) := by cases b <;> simp [b2i]
theorem b2i_B (b : Bool) : isB (b2i b) = true := by cases b <;> rfl
/-- the flags m of a thing -/
def flg (g : Nat → Int32) (m : Int32) (t : Nat) : Bool := decide (¬ (g t &&& m) = 0)
theorem flg_f {g : Nat → Int32} {m : Int32} {t : Nat} : (flg g m t = false) = ((g t &&& m) = 0) := by
  unfold flg
  by_cases h : (g t &&& m) = 0 <;> simp [h]
theorem x_any_l {S : St} {n : Nat} (e : gI S 23 = nI n) (hn : n ≤ 40) (f : Int32) : ∀ (r fuel i : Nat), i + r = n → r < fuel → x_Things_withAnyOf_b5 fuel S f (bs (flg (gA S 17) f) i) (nI i) = some (bs (flg (gA S 17) f) n, S)
  | r, 0, i, _, hf => absurd hf (by omega)
  | 0, fuel + 1, i, he, _ => by
    show x_Things_withAnyOf_b5_f _ S _ _ _ = _
    simp only [x_Things_withAnyOf_b5_f, e, le_t (show n ≤ i by omega) (by omega), if_true]
    rw [show i = n by omega]
  | r + 1, fuel + 1, i, he, hf => by
    have ih := x_any_l (S := S) e hn f r fuel (i + 1) (by omega) (by omega)
    show x_Things_withAnyOf_b5_f (x_Things_withAnyOf_b5 fuel) S _ _ _ = _
    simp only [x_Things_withAnyOf_b5_f, x_Things_withAnyOf_b33, e, le_f (show i < n by omega) (by omega), if_false, gd_t _ (vin_nI (show i < 40 by omega) (by omega)), nI_clamp (show i < 2 ^ 31 by omega), nI_1]
    simp only [bs] at ih
    by_cases h : (gA S 17 i &&& f) = 0
    · rw [if_neg (by rw [flg_f.mpr h]; decide)] at ih
      rw [if_pos h]; exact ih
    · rw [if_pos (show flg (gA S 17) f i = true from decide_eq_true h)] at ih
      rw [if_neg h]; exact ih
theorem x_any {S : St} {n : Nat} (e : gI S 23 = nI n) (hn : n ≤ 40) (f : Int32) : x_Things_withAnyOf S f = some (bs (flg (gA S 17) f) n, S) := x_any_l e hn f n fu 0 (by omega) (show n < 100000 by omega)
theorem x_hasT {S : St} {a : Nat} (e : gI S 23 = nI a) (ha : a ≤ 40) (v : Int32) : x_Things_has S v = some (btw v 0 (nI a - 1), S) := by
  unfold x_Things_has btw
  rcases int_cases v with hv | ⟨j, hj, rfl⟩
  · simp only [hv, if_true]
  · simp only [eq_false (nI_pos hj), if_false, e]
    by_cases h : a ≤ j
    · rw [if_pos (nI_le h hj), if_pos]
      refine Int32.lt_iff_toInt_lt.mpr ?_
      rw [show (nI a - 1).toInt = (a : Int) - (1 : Nat) from pk_sub_toInt (by omega) (by decide), nI_toInt hj]
      omega
    · rw [if_neg (fun q => h ((nI_leI (by omega) hj).mp q)), if_neg]
      intro q
      have q2 := Int32.lt_iff_toInt_lt.mp q
      rw [show (nI a - 1).toInt = (a : Int) - (1 : Nat) from pk_sub_toInt (by omega) (by decide), nI_toInt hj] at q2
      omega
abbrev XF (S : St) (n t : Nat) (f : Int32) : St := sL (sL (sL (sL (sA S 17 t f) 4 (bs (flg (upd (gA S 17) t f) 7) n)) 5 (bs (flg (upd (gA S 17) t f) 6) n)) 6 (bs (flg (upd (gA S 17) t f) 4) n)) 7 (bs (flg (upd (gA S 17) t f) 8) n)
theorem gA_17 (S : St) (t : Nat) (f : Int32) : gA (sA S 17 t f) 17 = upd (gA S 17) t f := by rw [gA_sA, if_pos rfl]
theorem x_chg {S : St} {n : Nat} (e : gI S 23 = nI n) (hn : n ≤ 40) {t : Nat} (ht : t < n) (f : Int32) : x_Things_changeFlags S (nI t) f = some (gA S 17 t, XF S n t f) := by
  unfold x_Things_changeFlags
  simp only [x_hasT e hn, bind_s, btw_nI (show n < 2 ^ 30 by omega) ht, one_ne0, if_false, gd_t _ (vin_nI (show t < 40 by omega) (by omega)), nI_clamp (show t < 2 ^ 31 by omega)]
  rw [x_any (S := sA S 17 t f) (n := n) e hn, bind_s]
  dsimp only
  rw [x_any (S := sL (sA S 17 t f) 4 _) (n := n) e hn, bind_s]
  dsimp only
  rw [x_any (S := sL (sL (sA S 17 t f) 4 _) 5 _) (n := n) e hn, bind_s]
  dsimp only
  rw [x_any (S := sL (sL (sL (sA S 17 t f) 4 _) 5 _) 6 _) (n := n) e hn, bind_s]
  simp only [gA_sL, gA_17]
/-- the things: n of them, thing t has c t names -/
def TRn (S T : St) (n : Nat) (c : Nat → Nat) : Prop := n ≤ 40 ∧ gI S 23 = nI n ∧ gI T 3 = nI n ∧ EqN n (gA S 17) (gA T 8) ∧ (∀ t, t < 40 → c t ≤ 4 ∧ gA S 18 t = nI (c t)) ∧ (∀ t, t < n → gA T 9 t = nI (c t)) ∧ (∀ t, n ≤ t → c t = 0) ∧ (∀ t k, t < n → k < c t → gA S 19 (4 * t + k) = gA T 10 (4 * t + k)) ∧ gL S 4 = bs (flg (gA S 17) 7) n ∧ gL S 5 = bs (flg (gA S 17) 6) n ∧ gL S 6 = bs (flg (gA S 17) 4) n ∧ gL S 7 = bs (flg (gA S 17) 8) n
def TR (S T : St) : Prop := ∃ (n : Nat) (c : Nat → Nat), TRn S T n c
theorem x_flagsOK (S : St) (w : Int32) : x_G_mayBeFlags S w = some (btw w 0 15, S) := m_within S w 0 15
theorem x_isFullT {S : St} {n : Nat} (e : gI S 23 = nI n) (hn : n ≤ 40) : x_Things_isFull S = some (if n < 40 then 0 else 1, S) := by
  unfold x_Things_isFull
  by_cases h : n < 40
  · simp only [e, lit_lt (n := n) (v := 40) 40 rfl (by omega) (by omega), h, if_true]
  · simp only [e, lit_lt (n := n) (v := 40) 40 rfl (by omega) (by omega), h, if_false]
abbrev MF (T : St) (n : Nat) (f : Int32) : St := sI (sA (sA T 8 n f) 9 n 0) 3 (nI (n + 1))
theorem thing_step {S T : St} (h : TR S T) (f : Int32) : (∃ r, x_G_thing S f = some (r, S) ∧ m_M_thing T f = some (r, T)) ∨ ∃ n : Nat, gI S 23 = nI n ∧ x_G_thing S f = some (nI n, XF (sI S 23 (nI (n + 1))) (n + 1) n f) ∧ m_M_thing T f = some (nI n, MF T n f) ∧ TR (XF (sI S 23 (nI (n + 1))) (n + 1) n f) (MF T n f) := by
  obtain ⟨n, c, hn, e1, e2, e3, e4, e5, e6, e7, e8, e9, e10, e11⟩ := h
  have l2 : (nI n = (40 : Int32)) = (n = 40) := lit_eq 40 rfl (by omega) (by omega)
  by_cases hf : btw f 0 15 = 0
  · refine Or.inl ⟨(-102), ?_, ?_⟩
    · unfold x_G_thing; simp only [x_flagsOK, bind_s, hf, if_true]
    · unfold m_M_thing; simp only [m_within, bind_s, hf, if_true]
  by_cases h40 : n < 40
  · refine Or.inr ⟨n, e1, ?_, ?_, ?_⟩
    · unfold x_G_thing x_Things_add
      simp only [x_flagsOK, bind_s, hf, if_false, x_isFullT e1 hn, h40, if_true, e1, nI_1]
      rw [show gI (sI S 23 (nI (n + 1))) 23 = nI (n + 1) from rfl, nI_pred, x_chg (S := sI S 23 (nI (n + 1))) (n := n + 1) rfl (by omega) (by omega)]
      simp only [bind_s]
      rw [show gI (XF (sI S 23 (nI (n + 1))) (n + 1) n f) 23 = nI (n + 1) from rfl, nI_pred]
    · unfold m_M_thing
      simp only [m_within, bind_s, hf, if_false, e2, l2, eq_false (show ¬ n = 40 by omega), gI_sA, gd_t _ (vin_nI h40 (by omega)), nI_clamp (show n < 2 ^ 31 by omega), nI_1]
      rw [show gI (MF T n f) 3 = nI (n + 1) from rfl, nI_pred]
    · refine ⟨n + 1, c, by omega, rfl, rfl, ?_, e4, ?_, fun t ht => e6 t (by omega), ?_, ?_, ?_, ?_, ?_⟩
      · exact e3.up
      · intro t ht
        show upd (gA T 9) n 0 t = _
        by_cases e : t = n
        · rw [e, upd_self, e6 n (Nat.le_refl n)]; rfl
        · rw [upd_ne e]; exact e5 t (by omega)
      · intro t k ht hk
        by_cases e : t = n
        · rw [e, e6 n (Nat.le_refl n)] at hk; omega
        · exact e7 t k (by omega) hk
      · rfl
      · rfl
      · rfl
      · rfl
  · refine Or.inl ⟨(-104), ?_, ?_⟩
    · unfold x_G_thing; simp only [x_flagsOK, bind_s, hf, if_false, x_isFullT e1 hn, h40, one_ne0]
    · unfold m_M_thing; simp only [m_within, bind_s, hf, if_false, e2, l2, eq_true (show n = 40 by omega), if_true]
theorem flags_step {S T : St} (h : TR S T) (v f : Int32) : (∃ r, x_G_flags S v f = some (r, S) ∧ m_M_flags T v f = some (r, T)) ∨ ∃ (r : Int32) (n t : Nat), x_G_flags S v f = some (r, XF S n t f) ∧ m_M_flags T v f = some (r, sA T 8 t f) ∧ TR (XF S n t f) (sA T 8 t f) := by
  obtain ⟨n, c, hn, e1, e2, e3, e4, e5, e6, e7, e8, e9, e10, e11⟩ := h
  by_cases hv : btw v 0 (nI n - 1) = 0
  · refine Or.inl ⟨(-101), ?_, ?_⟩
    · unfold x_G_flags; simp only [x_hasT e1 hn, bind_s, hv, if_true]
    · unfold m_M_flags; simp only [m_within, e2, bind_s, hv, if_true]
  obtain ⟨t, ht, rfl⟩ := btw_ix (by omega) hv
  by_cases hf : btw f 0 15 = 0
  · refine Or.inl ⟨(-102), ?_, ?_⟩
    · unfold x_G_flags; simp only [x_hasT e1 hn, bind_s, hv, if_false, x_flagsOK, hf, if_true]
    · unfold m_M_flags; simp only [m_within, e2, bind_s, hv, if_false, hf, if_true]
  refine Or.inr ⟨gA S 17 t, n, t, ?_, ?_, ?_⟩
  · unfold x_G_flags; simp only [x_hasT e1 hn, bind_s, hv, if_false, x_flagsOK, hf, x_chg e1 hn ht]
  · unfold m_M_flags
    simp only [m_within, e2, bind_s, hv, if_false, hf, gd_t _ (vin_nI (show t < 40 by omega) (by omega)), nI_clamp (show t < 2 ^ 31 by omega)]
    rw [e3 t ht]
  · exact ⟨n, c, hn, e1, e2, e3.st, e4, e5, e6, e7, rfl, rfl, rfl, rfl⟩
/-- whether one of n words from i on is w -/
def nmu (g : Nat → Int32) (b : Nat) (w : Int32) : Nat → Nat → Bool
  | 0, _ => false
  | n + 1, i => if g (b + i) = w then true else nmu g b w n (i + 1)
theorem nmu_eq {g h : Nat → Int32} {b : Nat} {w : Int32} : ∀ (n i : Nat), (∀ k, k < i + n → g (b + k) = h (b + k)) → nmu g b w n i = nmu h b w n i
  | 0, _, _ => rfl
  | n + 1, i, e => by
    simp only [nmu]
    rw [e i (by omega), nmu_eq n (i + 1) (fun k hk => e k (by omega))]
theorem ix4 (l k : Nat) : nI l * (4 : Int32) + nI k = nI (4 * l + k) := by rw [show (4 : Int32) = nI 4 from rfl, pk_mul, nI_add, Nat.mul_comm l 4]
theorem ix4c (l k : Nat) : (4 : Int32) * nI l + nI k = nI (4 * l + k) := by rw [show (4 : Int32) = nI 4 from rfl, pk_mul, nI_add]
theorem x_named_l {S : St} {n : Nat} (e : gI S 23 = nI n) (hn : n ≤ 40) {t c : Nat} (ht : t < n) (hc : c ≤ 4) (e2 : gA S 18 t = nI c) (w : Int32) : ∀ (r fuel i : Nat), i + r = c → r < fuel → x_Things_isNamed_b2 fuel S (nI t) w (nI i) = some (b2i (nmu (gA S 19) (4 * t) w r i), S)
  | r, 0, i, _, hf => absurd hf (by omega)
  | 0, fuel + 1, i, he, _ => by
    show x_Things_isNamed_b2_f _ S _ _ _ = _
    simp only [x_Things_isNamed_b2_f, x_hasT e hn, bind_s, btw_nI (show n < 2 ^ 30 by omega) ht, one_ne0, if_false, gd_t _ (vin_nI (show t < 40 by omega) (by omega)), nI_clamp (show t < 2 ^ 31 by omega), e2, le_t (show c ≤ i by omega) (by omega), if_true, nmu]
    rfl
  | r + 1, fuel + 1, i, he, hf => by
    have ih := x_named_l e hn ht hc e2 w r fuel (i + 1) (by omega) (by omega)
    show x_Things_isNamed_b2_f (x_Things_isNamed_b2 fuel) S _ _ _ = _
    simp only [x_Things_isNamed_b2_f, x_hasT e hn, bind_s, btw_nI (show n < 2 ^ 30 by omega) ht, one_ne0, if_false, gd_t _ (vin_nI (show t < 40 by omega) (by omega)), nI_clamp (show t < 2 ^ 31 by omega), e2, le_f (show i < c by omega) (by omega), ix4, gd_t _ (vin_nI (show 4 * t + i < 160 by omega) (by omega)), nI_clamp (show 4 * t + i < 2 ^ 31 by omega), nI_1, nmu]
    by_cases h : gA S 19 (4 * t + i) = w
    · rw [if_pos h, if_pos h]; rfl
    · rw [if_neg h, if_neg h]; exact ih
theorem x_named {S : St} {n : Nat} (e : gI S 23 = nI n) (hn : n ≤ 40) {t c : Nat} (ht : t < n) (hc : c ≤ 4) (e2 : gA S 18 t = nI c) (w : Int32) : x_Things_isNamed S (nI t) w = some (b2i (nmu (gA S 19) (4 * t) w c 0), S) := x_named_l e hn ht hc e2 w c fu 0 (by omega) (show c < 100000 by omega)
theorem m_named_l {T : St} {t c : Nat} (ht : t < 40) (hc : c ≤ 4) (e2 : gA T 9 t = nI c) (w : Int32) : ∀ (r fuel i : Nat) (b : Bool), i + r = c → r < fuel → m_M_hasName_b5 fuel T (nI t) w (b2i b) (nI i) = some (b2i (b || nmu (gA T 10) (4 * t) w r i), T)
  | r, 0, i, _, _, hf => absurd hf (by omega)
  | 0, fuel + 1, i, b, he, _ => by
    show m_M_hasName_b5_f _ T _ _ _ _ = _
    simp only [m_M_hasName_b5_f, gd_t _ (vin_nI (show t < 40 by omega) (by omega)), nI_clamp (show t < 2 ^ 31 by omega), e2, le_t (show c ≤ i by omega) (by omega), if_true, gd_t _ (b2i_B b), nmu, Bool.or_false]
  | r + 1, fuel + 1, i, b, he, hf => by
    have ih := m_named_l (T := T) ht hc e2 w r fuel (i + 1)
    show m_M_hasName_b5_f (m_M_hasName_b5 fuel) T _ _ _ _ = _
    simp only [m_M_hasName_b5_f, m_M_hasName_b40, m_M_hasName_b35, gd_t _ (vin_nI (show t < 40 by omega) (by omega)), nI_clamp (show t < 2 ^ 31 by omega), e2, le_f (show i < c by omega) (by omega), if_false, ix4c, gd_t _ (vin_nI (show 4 * t + i < 160 by omega) (by omega)), nI_clamp (show 4 * t + i < 2 ^ 31 by omega), nI_1, b2i_0, nmu]
    cases b with
    | false =>
      by_cases h : gA T 10 (4 * t + i) = w
      · simp only [h, if_true]
        exact (ih true (by omega) (by omega))
      · simp only [h, if_true, if_false]
        exact (ih false (by omega) (by omega))
    | true =>
      simp only [Bool.true_eq_false, if_false]
      exact (ih true (by omega) (by omega))
theorem m_named {T : St} {t c : Nat} (ht : t < 40) (hc : c ≤ 4) (e2 : gA T 9 t = nI c) (w : Int32) : m_M_hasName T (nI t) w = some (b2i (nmu (gA T 10) (4 * t) w c 0), T) := m_named_l ht hc e2 w c fu 0 false (by omega) (show c < 100000 by omega)

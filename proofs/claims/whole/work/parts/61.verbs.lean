theorem le_t {a b : Nat} (h : a ≤ b) (hb : b < 2 ^ 31) : (nI a ≤ nI b) = True := eq_true (nI_le h hb)
theorem le_f {a b : Nat} (h : b < a) (ha : a < 2 ^ 31) : (nI a ≤ nI b) = False := eq_false (nI_ge h ha)
theorem lt_t {a b : Nat} (h : a < b) (hb : b < 2 ^ 31) : (nI a < nI b) = True := eq_true (nI_lt h hb)
theorem lt_f {a b : Nat} (h : b ≤ a) (ha : a < 2 ^ 31) : (nI a < nI b) = False := eq_false (nI_nlt h ha)
theorem eq_nI {a b : Nat} (ha : a < 2 ^ 31) (hb : b < 2 ^ 31) : (nI a = nI b) = (a = b) := propext (nI_eq ha hb)
/-- the first of n words from i on that is x: its owner -/
def fnd (w o : Nat → Int32) (x : Int32) : Nat → Nat → Int32
  | 0, _ => (-1)
  | n + 1, i => if w i = x then o i else fnd w o x n (i + 1)
theorem fnd_eq {w o w2 o2 : Nat → Int32} {x : Int32} : ∀ (n i : Nat), (∀ k, k < i + n → w k = w2 k) → (∀ k, k < i + n → o k = o2 k) → fnd w o x n i = fnd w2 o2 x n i
  | 0, _, _, _ => rfl
  | n + 1, i, h1, h2 => by
    simp only [fnd]
    rw [h1 i (by omega), h2 i (by omega), fnd_eq n (i + 1) (fun k hk => h1 k (by omega)) (fun k hk => h2 k (by omega))]
theorem x_find_l {S : St} {k : Nat} (h0 : gI S 0 = nI k) (h1 : gI S 1 = nI k) (hk : k ≤ 60) (x : Int32) : ∀ (n fuel i : Nat), i + n = k → n < fuel → x_Verbs_find_b2 fuel S x (nI i) = some (fnd (gA S 0) (gA S 1) x n i, S)
  | n, 0, i, _, hf => absurd hf (by omega)
  | 0, fuel + 1, i, he, _ => by
    show x_Verbs_find_b2_f _ S x (nI i) = _
    simp only [x_Verbs_find_b2_f, x_size, bind_s, h0, le_t (show k ≤ i by omega) (by omega), if_true, fnd]
  | n + 1, fuel + 1, i, he, hf => by
    show x_Verbs_find_b2_f (x_Verbs_find_b2 fuel) S x (nI i) = _
    simp only [x_Verbs_find_b2_f, x_size, bind_s, h0, le_f (show i < k by omega) (by omega), if_false, x_at h0 hk (by decide), x_at h1 hk (by decide), rat_nI (show i < k by omega) (by omega), fnd]
    by_cases hw : gA S 0 i = x
    · simp only [hw, if_true]
    · simp only [hw, if_false]
      rw [show nI i + 1 = nI (i + 1) from nI_1 i]
      exact x_find_l h0 h1 hk x n fuel (i + 1) (by omega) (by omega)
theorem x_find {S : St} {k : Nat} (h0 : gI S 0 = nI k) (h1 : gI S 1 = nI k) (hk : k ≤ 60) (x : Int32) : x_Verbs_find S x = some (fnd (gA S 0) (gA S 1) x k 0, S) := x_find_l h0 h1 hk x k fu 0 (by omega) (show k < 100000 by omega)
theorem m_find_l {S : St} {k : Nat} (h1 : gI S 1 = nI k) (hk : k ≤ 60) (x : Int32) : ∀ (n fuel i : Nat), i + n = k → n < fuel → m_M_verbBy_b2 fuel S x (nI i) = some (fnd (gA S 0) (gA S 1) x n i, S)
  | n, 0, i, _, hf => absurd hf (by omega)
  | 0, fuel + 1, i, he, _ => by
    show m_M_verbBy_b2_f _ S x (nI i) = _
    simp only [m_M_verbBy_b2_f, h1, le_t (show k ≤ i by omega) (by omega), if_true, fnd]
  | n + 1, fuel + 1, i, he, hf => by
    show m_M_verbBy_b2_f (m_M_verbBy_b2 fuel) S x (nI i) = _
    simp only [m_M_verbBy_b2_f, h1, le_f (show i < k by omega) (by omega), if_false, gd_t _ (vin_nI (show i < 60 by omega) (by omega)), nI_clamp (show i < 2 ^ 31 by omega), fnd]
    by_cases hw : gA S 0 i = x
    · simp only [hw, if_true]
    · simp only [hw, if_false]
      rw [show nI i + 1 = nI (i + 1) from nI_1 i]
      exact m_find_l h1 hk x n fuel (i + 1) (by omega) (by omega)
theorem m_find {S : St} {k : Nat} (h1 : gI S 1 = nI k) (hk : k ≤ 60) (x : Int32) : m_M_verbBy S x = some (fnd (gA S 0) (gA S 1) x k 0, S) := m_find_l h1 hk x k fu 0 (by omega) (show k < 100000 by omega)
/-- the verbs: the class's S, the reference's T -/
def VR (S T : St) : Prop := ∃ a k : Nat, a ≤ 20 ∧ k ≤ 60 ∧ gI S 24 = nI a ∧ gI T 0 = nI a ∧ gI S 0 = nI k ∧ gI S 1 = nI k ∧ gI T 1 = nI k ∧ EqN k (gA S 0) (gA T 0) ∧ EqN k (gA S 1) (gA T 1) ∧ (∀ j, j < k → 9 < gA S 0 j) ∧ ∀ j, j < k → 0 ≤ gA S 1 j
theorem VR.find {S T : St} (h : VR S T) (x : Int32) : ∃ r, x_Verbs_find S x = some (r, S) ∧ m_M_verbBy T x = some (r, T) := by
  obtain ⟨a, k, ha, hk, e1, e2, e3, e4, e5, e6, e7, -⟩ := h
  refine ⟨_, x_find e3 e4 hk x, ?_⟩
  rw [m_find e5 hk x, fnd_eq k 0 (fun j hj => e6 j (by omega)) (fun j hj => e7 j (by omega))]
/-- between two numbers -/
def btw (x a b : Int32) : Int32 := if x < a then 0 else if b < x then 0 else 1
theorem m_within (S : St) (x a b : Int32) : m_M_within S x a b = some (btw x a b, S) := by
  unfold m_M_within btw
  by_cases h1 : x < a
  · simp only [h1, if_true]
  · by_cases h2 : b < x
    · simp only [h1, h2, if_true, if_false]
    · simp only [h1, h2, if_false]
theorem btw_01 (x a b : Int32) : btw x a b = 0 ∨ btw x a b = 1 := by
  unfold btw
  by_cases h1 : x < a
  · exact Or.inl (if_pos h1)
  · rw [if_neg h1]
    by_cases h2 : b < x
    · exact Or.inl (if_pos h2)
    · exact Or.inr (if_neg h2)
theorem isB_btw (x a b : Int32) : isB (btw x a b) = true := decide_eq_true (btw_01 x a b)
theorem btw_1 {x a b : Int32} (h : ¬ btw x a b = 0) : ¬ x < a ∧ ¬ b < x := by
  unfold btw at h
  by_cases h1 : x < a
  · exact absurd (if_pos h1) h
  · rw [if_neg h1] at h
    by_cases h2 : b < x
    · exact absurd (if_pos h2) h
    · exact ⟨h1, h2⟩
theorem x_plain (S : St) (w : Int32) : x_G_isPlainWord S w = some (btw w 10 9999, S) := m_within S w 10 9999
theorem m_plain (S : St) (w : Int32) : m_M_isPlain S w = some (btw w 10 9999, S) := by
  unfold m_M_isPlain
  rw [m_within, bind_s, gd_t _ (isB_btw w 10 9999)]
theorem one_ne0 : ¬ (1 : Int32) = 0 := by decide
/-- how many of n from i on are x, on top of a -/
def cntL (f : Nat → Int32) (x : Int32) : Nat → Nat → Int32 → Int32
  | 0, _, a => a
  | n + 1, i, a => cntL f x n (i + 1) (if f i = x then a + 1 else a)
theorem cntL_eq {f g : Nat → Int32} {x : Int32} : ∀ (n i : Nat) (a : Int32), (∀ k, k < i + n → f k = g k) → cntL f x n i a = cntL g x n i a
  | 0, _, _, _ => rfl
  | n + 1, i, a, h => by
    simp only [cntL]
    rw [h i (by omega), cntL_eq n (i + 1) _ (fun k hk => h k (by omega))]
theorem x_cnt_l {S : St} {k : Nat} (h1 : gI S 1 = nI k) (hk : k ≤ 60) (x : Int32) : ∀ (n fuel i : Nat) (a : Int32), i + n = k → n < fuel → x_Verbs_addWord_b21 fuel S x a (nI i) = some (cntL (gA S 1) x n i a, S)
  | n, 0, i, a, _, hf => absurd hf (by omega)
  | 0, fuel + 1, i, a, he, _ => by
    show x_Verbs_addWord_b21_f _ S x a (nI i) = _
    simp only [x_Verbs_addWord_b21_f, x_size, bind_s, h1, le_t (show k ≤ i by omega) (by omega), if_true, cntL]
  | n + 1, fuel + 1, i, a, he, hf => by
    show x_Verbs_addWord_b21_f (x_Verbs_addWord_b21 fuel) S x a (nI i) = _
    simp only [x_Verbs_addWord_b21_f, x_Verbs_addWord_b49, x_size, bind_s, h1, le_f (show i < k by omega) (by omega), if_false, x_at h1 hk (by decide), rat_nI (show i < k by omega) (by omega), cntL]
    rw [show nI i + 1 = nI (i + 1) from nI_1 i]
    by_cases hw : gA S 1 i = x
    · rw [if_pos hw, if_pos hw]
      exact x_cnt_l h1 hk x n fuel (i + 1) _ (by omega) (by omega)
    · rw [if_neg hw, if_neg hw]
      exact x_cnt_l h1 hk x n fuel (i + 1) _ (by omega) (by omega)
theorem m_cnt_l {S : St} {k : Nat} (h1 : gI S 1 = nI k) (hk : k ≤ 60) (x : Int32) : ∀ (n fuel i : Nat) (a : Int32), i + n = k → n < fuel → m_M_like_b59 fuel S x a (nI i) = some (cntL (gA S 1) x n i a, S)
  | n, 0, i, a, _, hf => absurd hf (by omega)
  | 0, fuel + 1, i, a, he, _ => by
    show m_M_like_b59_f _ S x a (nI i) = _
    simp only [m_M_like_b59_f, h1, le_t (show k ≤ i by omega) (by omega), if_true, cntL]
  | n + 1, fuel + 1, i, a, he, hf => by
    show m_M_like_b59_f (m_M_like_b59 fuel) S x a (nI i) = _
    simp only [m_M_like_b59_f, m_M_like_b85, h1, le_f (show i < k by omega) (by omega), if_false, gd_t _ (vin_nI (show i < 60 by omega) (by omega)), nI_clamp (show i < 2 ^ 31 by omega), cntL]
    rw [show nI i + 1 = nI (i + 1) from nI_1 i]
    by_cases hw : gA S 1 i = x
    · rw [if_pos hw, if_pos hw]
      exact m_cnt_l h1 hk x n fuel (i + 1) _ (by omega) (by omega)
    · rw [if_neg hw, if_neg hw, Int32.add_zero]
      exact m_cnt_l h1 hk x n fuel (i + 1) _ (by omega) (by omega)
abbrev XV1 (S : St) (a : Int32) (k : Nat) (w : Int32) : St := sI (sA (sI (sA S 0 k w) 0 (nI (k + 1))) 1 k a) 1 (nI (k + 1))
abbrev MV1 (T : St) (a : Int32) (k : Nat) (w : Int32) : St := sI (sA (sA T 0 k w) 1 k a) 1 (nI (k + 1))
theorem x_addWord {S : St} {k : Nat} (h0 : gI S 0 = nI k) (h1 : gI S 1 = nI k) (hk : k < 60) (a w : Int32) : x_Verbs_addWord S a w = some (cntL (upd (gA S 1) k a) a (k + 1) 0 0, XV1 S a k w) := by
  unfold x_Verbs_addWord
  rw [x_add h0 (show k < 60 from hk) (by decide), bind_s, x_add (r := 1) (S := sI (sA S 0 k w) 0 (nI (k + 1))) (n := k) h1 (show k < 60 from hk) (by decide), bind_s]
  exact x_cnt_l (S := XV1 S a k w) (k := k + 1) rfl (by omega) a (k + 1) fu 0 0 (by omega) (show k + 1 < 100000 by omega)
theorem m_isOfVerb {T : St} {k : Nat} (h1 : gI T 1 = nI k) (hk : k < 60) (a w : Int32) : m_M_isOfVerb T a w = some (MV1 T a k w) := by
  unfold m_M_isOfVerb
  simp only [gI_sA, h1, gd_t _ (vin_nI (show k < 60 by omega) (by omega)), nI_clamp (show k < 2 ^ 31 by omega), nI_1]
theorem VR.add {S T : St} (a k : Nat) (ha : a ≤ 20) (hk : k < 60) (b : Nat) (hb : b ≤ 20) (w : Int32) (hw : 9 < w) (e1 : gI S 24 = nI a) (e2 : gI T 0 = nI a) (e6 : EqN k (gA S 0) (gA T 0)) (e7 : EqN k (gA S 1) (gA T 1)) (e8 : ∀ j, j < k → 9 < gA S 0 j) (e9 : ∀ j, j < k → 0 ≤ gA S 1 j) : VR (XV1 S (nI b) k w) (MV1 T (nI b) k w) := by
  refine ⟨a, k + 1, ha, by omega, e1, e2, rfl, rfl, rfl, e6.up, e7.up, ?_, ?_⟩
  · intro j hj
    show 9 < upd (gA S 0) k w j
    unfold upd
    by_cases e : j = k
    · rw [if_pos e]; exact hw
    · rw [if_neg e]; exact e8 j (by omega)
  · intro j hj
    show 0 ≤ upd (gA S 1) k (nI b) j
    unfold upd
    by_cases e : j = k
    · rw [if_pos e]; exact nI_pos' (by omega)
    · rw [if_neg e]; exact e9 j (by omega)
theorem lit_lt {n : Nat} {v : Int32} (b : Nat) (hv : v = nI b) (hn : n < 2 ^ 31) (hb : b < 2 ^ 31) : (nI n < v) = (n < b) := by rw [hv]; exact propext (nI_ltI hn hb)
theorem lit_eq {n : Nat} {v : Int32} (b : Nat) (hv : v = nI b) (hn : n < 2 ^ 31) (hb : b < 2 ^ 31) : (nI n = v) = (n = b) := by rw [hv]; exact propext (nI_eq hn hb)
theorem lit_ge {n : Nat} {v : Int32} (b : Nat) (hv : v = nI b) (hn : n < 2 ^ 31) (hb : b < 2 ^ 31) : (v ≤ nI n) = (b ≤ n) := by rw [hv]; exact propext (nI_leI hb hn)
theorem lit_le {n : Nat} {v : Int32} (b : Nat) (hv : v = nI b) (hn : n < 2 ^ 31) (hb : b < 2 ^ 31) : (nI n ≤ v) = (n ≤ b) := by rw [hv]; exact propext (nI_leI hn hb)
theorem x_maybe {S : St} {k : Nat} (h0 : gI S 0 = nI k) (h1 : gI S 1 = nI k) (hk : k ≤ 60) (w : Int32) : x_G_mayBeVerbWord S w = some (if btw w 10 9999 = 0 then 0 else if fnd (gA S 0) (gA S 1) w k 0 = (-1) then 1 else 0, S) := by
  unfold x_G_mayBeVerbWord
  rw [x_plain, bind_s]
  dsimp only
  by_cases hp : btw w 10 9999 = 0
  · rw [if_pos hp, if_pos hp]
  · rw [if_neg hp, if_neg hp, x_find h0 h1 hk, bind_s]
    dsimp only
    by_cases hf : fnd (gA S 0) (gA S 1) w k 0 = (-1)
    · rw [if_pos hf, if_pos hf]
    · rw [if_neg hf, if_neg hf]
theorem plain_pos {w : Int32} (h : ¬ btw w 10 9999 = 0) : 9 < w := by
  obtain ⟨h1, -⟩ := btw_1 h
  have h2 : ¬ w.toInt < (10 : Int32).toInt := fun q => h1 (Int32.lt_iff_toInt_lt.mpr q)
  refine Int32.lt_iff_toInt_lt.mpr ?_
  have h3 : (10 : Int32).toInt = 10 := rfl
  have h4 : (9 : Int32).toInt = 9 := rfl
  omega
theorem if01 {c : Prop} [Decidable c] (h : c) : ((if c then (0 : Int32) else 1) = 0) = True := by rw [if_pos h]; exact eq_true rfl
theorem if01n {c : Prop} [Decidable c] (h : ¬ c) : ((if c then (0 : Int32) else 1) = 0) = False := by rw [if_neg h]; exact eq_false one_ne0
theorem if10 {c : Prop} [Decidable c] (h : c) : ((if c then (1 : Int32) else 0) = 0) = False := by rw [if_pos h]; exact eq_false one_ne0
theorem if10n {c : Prop} [Decidable c] (h : ¬ c) : ((if c then (1 : Int32) else 0) = 0) = True := by rw [if_neg h]; exact eq_true rfl
theorem x_isFullV {S : St} {a : Nat} (e : gI S 24 = nI a) (ha : a ≤ 20) : x_Verbs_isFull S = some (if a < 20 then 0 else 1, S) := by
  unfold x_Verbs_isFull
  by_cases h : a < 20
  · simp only [e, lit_lt (n := a) (v := 20) 20 rfl (by omega) (by omega), h, if_true]
  · simp only [e, lit_lt (n := a) (v := 20) 20 rfl (by omega) (by omega), h, if_false]
theorem x_allW {S : St} {k : Nat} (e : gI S 0 = nI k) (hk : k ≤ 60) : x_Verbs_hasAllWords S = some (if k < 60 then 0 else 1, S) := by
  unfold x_Verbs_hasAllWords
  by_cases h : k < 60
  · simp only [x_size, bind_s, e, lit_lt (n := k) (v := 60) 60 rfl (by omega) (by omega), h, if_true]
  · simp only [x_size, bind_s, e, lit_lt (n := k) (v := 60) 60 rfl (by omega) (by omega), h, if_false]
theorem x_vadd {S : St} {a k : Nat} (e1 : gI S 24 = nI a) (h0 : gI S 0 = nI k) (h1 : gI S 1 = nI k) (hk : k < 60) (w : Int32) : x_Verbs_add S w = some (nI a, XV1 (sI S 24 (nI (a + 1))) (nI a) k w) := by
  unfold x_Verbs_add
  rw [e1, nI_1]
  rw [show gI (sI S 24 (nI (a + 1))) 24 = nI (a + 1) from rfl, show nI (a + 1) - 1 = nI a from nI_pred a, x_addWord (S := sI S 24 (nI (a + 1))) (k := k) h0 h1 hk, bind_s]
  dsimp only
  rw [show gI (XV1 (sI S 24 (nI (a + 1))) (nI a) k w) 24 = nI (a + 1) from rfl, nI_pred]
theorem verb_step {S T : St} (h : VR S T) (w : Int32) : (∃ r, x_G_verb S w = some (r, S) ∧ m_M_verb T w = some (r, T)) ∨ ∃ a k : Nat, x_G_verb S w = some (nI a, XV1 (sI S 24 (nI (a + 1))) (nI a) k w) ∧ m_M_verb T w = some (nI a, sI (MV1 T (nI a) k w) 0 (nI (a + 1))) ∧ VR (XV1 (sI S 24 (nI (a + 1))) (nI a) k w) (sI (MV1 T (nI a) k w) 0 (nI (a + 1))) := by
  obtain ⟨a, k, ha, hk, e1, e2, e3, e4, e5, e6, e7, e8, e9⟩ := h
  have hf : fnd (gA T 0) (gA T 1) w k 0 = fnd (gA S 0) (gA S 1) w k 0 := (fnd_eq k 0 (fun j hj => e6 j (by omega)) (fun j hj => e7 j (by omega))).symm
  have l1 : (nI a = (20 : Int32)) = (a = 20) := lit_eq 20 rfl (by omega) (by omega)
  have l2 : (nI k = (60 : Int32)) = (k = 60) := lit_eq 60 rfl (by omega) (by omega)
  unfold x_G_verb m_M_verb
  by_cases hp : btw w 10 9999 = 0
  · simp only [x_maybe e3 e4 hk, m_plain, bind_s, hp, if_true]
    exact Or.inl ⟨_, rfl, rfl⟩
  by_cases hq : fnd (gA S 0) (gA S 1) w k 0 = (-1)
  · by_cases h20 : a < 20
    · by_cases h60 : k < 60
      · refine Or.inr ⟨a, k, ?_, ?_, ?_⟩
        · simp only [x_maybe e3 e4 hk, bind_s, hp, hq, if_true, if_false, one_ne0, x_isFullV e1 ha, x_allW e3 hk, h20, h60, x_vadd e1 e3 e4 h60]
        · simp only [m_plain, bind_s, hp, hq, if_true, if_false, m_find e5 hk, hf, e2, e5, l1, l2, eq_false (show ¬ a = 20 by omega), eq_false (show ¬ k = 60 by omega), m_isOfVerb e5 h60]
          rw [show gI (MV1 T (nI a) k w) 0 = nI a from e2, nI_1]
          rw [show gI (sI (MV1 T (nI a) k w) 0 (nI (a + 1))) 0 = nI (a + 1) from rfl, nI_pred]
        · exact VR.add (S := sI S 24 (nI (a + 1))) (T := sI T 0 (nI (a + 1))) (a + 1) k (by omega) h60 a ha w (plain_pos hp) rfl rfl e6 e7 e8 e9
      · refine Or.inl ⟨(-104), ?_, ?_⟩
        · simp only [x_maybe e3 e4 hk, bind_s, hp, hq, if_true, if_false, one_ne0, x_isFullV e1 ha, x_allW e3 hk, h20, h60]
        · simp only [m_plain, bind_s, hp, hq, if_true, if_false, m_find e5 hk, hf, e2, e5, l1, l2, eq_false (show ¬ a = 20 by omega), eq_true (show k = 60 by omega)]
    · refine Or.inl ⟨(-104), ?_, ?_⟩
      · simp only [x_maybe e3 e4 hk, bind_s, hp, hq, if_true, if_false, one_ne0, x_isFullV e1 ha, h20]
      · simp only [m_plain, bind_s, hp, hq, if_true, if_false, m_find e5 hk, hf, e2, l1, eq_true (show a = 20 by omega)]
  · refine Or.inl ⟨(-102), ?_, ?_⟩
    · simp only [x_maybe e3 e4 hk, bind_s, hp, hq, if_true, if_false]
    · simp only [m_plain, bind_s, hp, hq, if_true, if_false, m_find e5 hk, hf]
theorem x_hasV {S : St} {a : Nat} (e : gI S 24 = nI a) (ha : a ≤ 20) (v : Int32) : x_Verbs_has S v = some (btw v 0 (nI a - 1), S) := by
  unfold x_Verbs_has btw
  rcases int_cases v with hv | ⟨j, hj, rfl⟩
  · simp only [hv, if_true]
  · simp only [eq_false (nI_pos hj), if_false, e]
    by_cases h : a ≤ j
    · rw [if_pos (nI_le h hj), if_pos]
      refine Int32.lt_iff_toInt_lt.mpr ?_
      rw [show (nI a - 1).toInt = (a : Int) - (1 : Nat) from pk_sub_toInt (by omega) (by decide), nI_toInt hj]
      omega
    · rw [if_neg (fun q => h ((nI_leI (by omega) hj).mp q)), if_neg]
      intro q
      have q2 := Int32.lt_iff_toInt_lt.mp q
      rw [show (nI a - 1).toInt = (a : Int) - (1 : Nat) from pk_sub_toInt (by omega) (by decide), nI_toInt hj] at q2
      omega

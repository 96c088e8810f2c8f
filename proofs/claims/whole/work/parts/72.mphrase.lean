theorem and7 (x : Int32) : ((x &&& 7) = 0) = ((x &&& 1) = 0 ∧ (x &&& 6) = 0) := by
  have h7 : (7 : Int32) = 1 ||| 6 := by decide
  refine propext ⟨fun h => ?_, fun h => ?_⟩
  · have e1 : x &&& 1 = (x &&& 7) &&& 1 := by rw [Int32.and_assoc]; rfl
    have e6 : x &&& 6 = (x &&& 7) &&& 6 := by rw [Int32.and_assoc]; rfl
    rw [e1, e6, h]
    exact ⟨by decide, by decide⟩
  · refine Int32.toBitVec_inj.mp (BitVec.eq_of_getLsbD_eq fun i hi => ?_)
    have a1 := congrArg (fun y : Int32 => y.toBitVec.getLsbD i) h.1
    have a6 := congrArg (fun y : Int32 => y.toBitVec.getLsbD i) h.2
    simp only [Int32.toBitVec_and, BitVec.getLsbD_and] at a1 a6
    rw [h7, Int32.toBitVec_and, Int32.toBitVec_or, BitVec.getLsbD_and, BitVec.getLsbD_or, Bool.and_or_distrib_left, a1, a6]
    exact Bool.or_self _
theorem m_held (T : St) {t : Nat} (ht : t < 40) : m_M_isHeld T (nI t) = some (b2i (flg (gA T 8) 6 t), T) := by
  unfold m_M_isHeld flg
  simp only [gd_t _ (vin_nI ht (by omega)), nI_clamp (show t < 2 ^ 31 by omega)]
  by_cases h : (gA T 8 t &&& 6) = 0
  · simp only [h, if_true, not_true, decide_false]; rfl
  · simp only [h, if_false, not_false_iff, decide_true]; rfl
theorem m_worn (T : St) {t : Nat} (ht : t < 40) : m_M_isWorn T (nI t) = some (b2i (flg (gA T 8) 4 t), T) := by
  unfold m_M_isWorn flg
  simp only [gd_t _ (vin_nI ht (by omega)), nI_clamp (show t < 2 ^ 31 by omega)]
  by_cases h : (gA T 8 t &&& 4) = 0
  · simp only [h, if_true, not_true, decide_false]; rfl
  · simp only [h, if_false, not_false_iff, decide_true]; rfl
theorem m_creat (T : St) {t : Nat} (ht : t < 40) : m_M_isCreature T (nI t) = some (b2i (flg (gA T 8) 8 t), T) := by
  unfold m_M_isCreature flg
  simp only [gd_t _ (vin_nI ht (by omega)), nI_clamp (show t < 2 ^ 31 by omega)]
  by_cases h : (gA T 8 t &&& 8) = 0
  · simp only [h, if_true, not_true, decide_false]; rfl
  · simp only [h, if_false, not_false_iff, decide_true]; rfl
theorem flg_t {g : Nat → Int32} {m : Int32} {t : Nat} (h : ¬ (g t &&& m) = 0) : flg g m t = true := decide_eq_true h
theorem m_scope (T : St) {t : Nat} (ht : t < 40) : m_M_isInScope T (nI t) = some (b2i (flg (gA T 8) 7 t), T) := by
  unfold m_M_isInScope
  simp only [gd_t _ (vin_nI ht (by omega)), nI_clamp (show t < 2 ^ 31 by omega), m_held T ht, bind_s, b2i_0, flg_f]
  by_cases h1 : (gA T 8 t &&& 1) = 0
  · by_cases h6 : (gA T 8 t &&& 6) = 0
    · simp only [h1, h6, if_true]
      rw [flg_f.mpr (by rw [and7]; exact ⟨h1, h6⟩)]; rfl
    · simp only [h1, h6, if_true, if_false]
      rw [flg_t (by rw [and7]; exact fun z => h6 z.2)]; rfl
  · simp only [h1, if_false]
    rw [flg_t (by rw [and7]; exact fun z => h1 z.1)]; rfl
theorem m_ph_in {T : St} {t a m : Nat} {c : Nat → Nat} (ht : t < 40) (hc : c t ≤ 4) (e5 : gA T 9 t = nI (c t)) (ham : a + m ≤ 60) (k12 : St → Int32 → Int32 → Option (Int32 × St)) (k19 : St → Int32 → Int32 → Int32 → Option (Int32 × St)) : ∀ (r fuel j : Nat) (b : Bool), j + r = m → r < fuel → m_M_phrase_b37 k12 k19 fuel T (nI a) (nI m) (nI t) (b2i b) (nI (a + j)) = m_M_phrase_b70 k12 k19 T (nI a) (nI m) (nI t) (b2i (b && alf (gA T 10) c (gA T 15) a t r j))
  | r, 0, j, _, _, hf => absurd hf (by omega)
  | 0, fuel + 1, j, b, he, _ => by
    show m_M_phrase_b37_f k12 k19 _ T _ _ _ _ _ = _
    unfold m_M_phrase_b37_f
    rw [nI_add, if_pos (nI_le (show a + m ≤ a + j by omega) (by omega))]
    simp only [alf, Bool.and_true]
  | r + 1, fuel + 1, j, b, he, hf => by
    show m_M_phrase_b37_f k12 k19 (m_M_phrase_b37 k12 k19 fuel) T _ _ _ _ _ = _
    unfold m_M_phrase_b37_f
    rw [nI_add, if_neg (nI_ge (show a + j < a + m by omega) (by omega))]
    cases b with
    | false => rw [if_pos (show b2i false = 0 from rfl), Bool.false_and]
    | true =>
      rw [if_neg (show ¬ b2i true = 0 from one_ne0), gd_t _ (vin_nI (show a + j < 60 by omega) (by omega)), nI_clamp (show a + j < 2 ^ 31 by omega), m_named ht hc e5, bind_s]
      dsimp only
      rw [nI_1, show a + j + 1 = a + (j + 1) by omega, m_ph_in ht hc e5 ham k12 k19 r fuel (j + 1) _ (by omega) (by omega)]
      rfl
theorem m_ph_t {T0 : St} {n a m : Nat} {c : Nat → Nat} (e : gI T0 3 = nI n) (hn : n ≤ 40) (e4 : ∀ t, t < n → c t ≤ 4) (e5 : ∀ t, t < n → gA T0 9 t = nI (c t)) (ham : a + m ≤ 60) (k12 : St → Int32 → Int32 → Option (Int32 × St)) : ∀ (r fuel i : Nat), i + r = n → r < fuel → m_M_phrase_b19 k12 fuel (sL T0 0 (bs (phP (gA T0 10) (gA T0 8) c (gA T0 15) a m) i)) (nI a) (nI m) (nI i) = if bs (phP (gA T0 10) (gA T0 8) c (gA T0 15) a m) n = 0 then k12 (sL T0 0 0) (nI a) (nI m + (-1)) else some (nI m, sL T0 0 (bs (phP (gA T0 10) (gA T0 8) c (gA T0 15) a m) n))
  | r, 0, i, _, hf => absurd hf (by omega)
  | 0, fuel + 1, i, he, _ => by
    show m_M_phrase_b19_f k12 _ _ _ _ _ = _
    unfold m_M_phrase_b19_f
    rw [show gI (sL T0 0 (bs (phP (gA T0 10) (gA T0 8) c (gA T0 15) a m) i)) 3 = nI n from e, if_pos (nI_le (show n ≤ i by omega) (by omega)), show i = n by omega]
    rw [show gL (sL T0 0 (bs (phP (gA T0 10) (gA T0 8) c (gA T0 15) a m) n)) 0 = bs (phP (gA T0 10) (gA T0 8) c (gA T0 15) a m) n from rfl]
    simp only [cmp_eq]
    by_cases h : bs (phP (gA T0 10) (gA T0 8) c (gA T0 15) a m) n = 0
    · rw [if_pos h, if_pos h, h]
    · rw [if_neg h, if_neg h]
  | r + 1, fuel + 1, i, he, hf => by
    have ih := m_ph_t e hn e4 e5 ham k12 r fuel (i + 1) (by omega) (by omega)
    show m_M_phrase_b19_f k12 (m_M_phrase_b19 k12 fuel) _ _ _ _ = _
    unfold m_M_phrase_b19_f
    rw [show gI (sL T0 0 (bs (phP (gA T0 10) (gA T0 8) c (gA T0 15) a m) i)) 3 = nI n from e, if_neg (nI_ge (show i < n by omega) (by omega)), m_scope _ (show i < 40 by omega), bind_s]
    dsimp only
    have hin := m_ph_in (T := sL T0 0 (bs (phP (gA T0 10) (gA T0 8) c (gA T0 15) a m) i)) (t := i) (a := a) (m := m) (c := c) (by omega) (e4 i (by omega)) (e5 i (by omega)) ham k12 (m_M_phrase_b19 k12 fuel) m fu 0 (flg (gA T0 8) 7 i) (by omega) (show m < 100000 by omega)
    rw [Nat.add_zero] at hin
    rw [show gA (sL T0 0 (bs (phP (gA T0 10) (gA T0 8) c (gA T0 15) a m) i)) 8 = gA T0 8 from rfl, hin]
    rw [show (flg (gA T0 8) 7 i && alf (gA (sL T0 0 (bs (phP (gA T0 10) (gA T0 8) c (gA T0 15) a m) i)) 10) c (gA (sL T0 0 (bs (phP (gA T0 10) (gA T0 8) c (gA T0 15) a m) i)) 15) a i m 0) = phP (gA T0 10) (gA T0 8) c (gA T0 15) a m i from rfl]
    unfold m_M_phrase_b70 m_M_phrase_b91
    rw [show gL (sL T0 0 (bs (phP (gA T0 10) (gA T0 8) c (gA T0 15) a m) i)) 0 = bs (phP (gA T0 10) (gA T0 8) c (gA T0 15) a m) i from rfl]
    simp only [b2i_0, nI_1, sL_sL]
    simp only [bs] at ih
    cases hb : phP (gA T0 10) (gA T0 8) c (gA T0 15) a m i
    · simp only [hb, Bool.false_eq_true, if_false] at ih
      simp only [if_true]
      exact ih
    · simp only [hb, if_true] at ih
      simp only [Bool.true_eq_false, if_false]
      exact ih
theorem m_ph_l {T0 : St} {n a : Nat} {c : Nat → Nat} (e : gI T0 3 = nI n) (hn : n ≤ 40) (e4 : ∀ t, t < n → c t ≤ 4) (e5 : ∀ t, t < n → gA T0 9 t = nI (c t)) : ∀ (m fuel : Nat), a + m ≤ 60 → m < fuel → m_M_phrase_b12 fuel (sL T0 0 0) (nI a) (nI m) = some (nI (pdown (phZ (gA T0 10) (gA T0 8) c (gA T0 15) a n) m), sL T0 0 (if pdown (phZ (gA T0 10) (gA T0 8) c (gA T0 15) a n) m = 0 then 0 else bs (phP (gA T0 10) (gA T0 8) c (gA T0 15) a (pdown (phZ (gA T0 10) (gA T0 8) c (gA T0 15) a n) m)) n))
  | m, 0, _, hf => absurd hf (by omega)
  | 0, fuel + 1, _, _ => by
    show m_M_phrase_b12_f _ _ _ _ = _
    unfold m_M_phrase_b12_f
    rw [if_pos (show nI 0 < 1 by decide)]
    rfl
  | m + 1, fuel + 1, ham, hf => by
    have ih := m_ph_l (a := a) e hn e4 e5 m fuel (by omega) (by omega)
    show m_M_phrase_b12_f (m_M_phrase_b12 fuel) _ _ _ = _
    unfold m_M_phrase_b12_f
    rw [if_neg (show ¬ nI (m + 1) < 1 from nI_nlt (b := 1) (by omega) (by omega))]
    have h := m_ph_t (T0 := T0) (a := a) (m := m + 1) (c := c) e hn e4 e5 ham (m_M_phrase_b12 fuel) n fu 0 (by omega) (show n < 100000 by omega)
    rw [show bs (phP (gA T0 10) (gA T0 8) c (gA T0 15) a (m + 1)) 0 = 0 from rfl] at h
    rw [show (0 : Int32) = nI 0 from rfl, h, pk_m1]
    by_cases hz : bs (phP (gA T0 10) (gA T0 8) c (gA T0 15) a (m + 1)) n = 0
    · have hz2 : phZ (gA T0 10) (gA T0 8) c (gA T0 15) a n (m + 1) = true := decide_eq_true hz
      rw [if_pos hz, ih, show pdown (phZ (gA T0 10) (gA T0 8) c (gA T0 15) a n) (m + 1) = pdown (phZ (gA T0 10) (gA T0 8) c (gA T0 15) a n) m from if_pos hz2]
    · have hz2 : ¬ phZ (gA T0 10) (gA T0 8) c (gA T0 15) a n (m + 1) = true := fun z => hz (of_decide_eq_true z)
      rw [if_neg hz, show pdown (phZ (gA T0 10) (gA T0 8) c (gA T0 15) a n) (m + 1) = m + 1 from if_neg hz2, if_neg (by omega)]
theorem m_ph {T0 : St} {n a nr : Nat} {c : Nat → Nat} (e : gI T0 3 = nI n) (hn : n ≤ 40) (e4 : ∀ t, t < n → c t ≤ 4) (e5 : ∀ t, t < n → gA T0 9 t = nI (c t)) (er : gI T0 6 = nI nr) (hr : nr ≤ 60) (ha : a ≤ nr) : m_M_phrase T0 (nI a) = some (nI (plen (phZ (gA T0 10) (gA T0 8) c (gA T0 15) a n) (nr - a) 0), sL T0 0 (if plen (phZ (gA T0 10) (gA T0 8) c (gA T0 15) a n) (nr - a) 0 = 0 then 0 else bs (phP (gA T0 10) (gA T0 8) c (gA T0 15) a (plen (phZ (gA T0 10) (gA T0 8) c (gA T0 15) a n) (nr - a) 0)) n)) := by
  have h := m_ph_l (a := a) (c := c) e hn e4 e5 (nr - a) fu (by omega) (show nr - a < 100000 by omega)
  have hp := plen_down (z := phZ (gA T0 10) (gA T0 8) c (gA T0 15) a n) (fun m hm => phZ_mono (by omega) hm) (nr - a) 0 (Or.inl rfl)
  rw [Nat.zero_add] at hp
  rw [← hp] at h
  unfold m_M_phrase
  rw [show gI (sL T0 0 0) 6 = nI nr from er, pk_sub ha]
  exact h
/-- the two agree where their words, names and flags do -/
theorem alf_eq {g g2 : Nat → Int32} {c : Nat → Nat} {cw cw2 : Nat → Int32} {a t : Nat} (hg : ∀ k, k < c t → g (4 * t + k) = g2 (4 * t + k)) : ∀ r j, (∀ k, k < a + j + r → cw k = cw2 k) → alf g c cw a t r j = alf g2 c cw2 a t r j
  | 0, _, _ => rfl
  | r + 1, j, h => by
    simp only [alf]
    rw [h (a + j) (by omega), alf_eq hg r (j + 1) (fun k hk => h k (by omega))]
    unfold nm
    rw [nmu_eq (c t) 0 (fun k hk => hg k (by omega))]
theorem phP_eq {g g2 f f2 : Nat → Int32} {c : Nat → Nat} {cw cw2 : Nat → Int32} {a m t : Nat} (hg : ∀ k, k < c t → g (4 * t + k) = g2 (4 * t + k)) (hf : f t = f2 t) (hw : ∀ k, k < a + m → cw k = cw2 k) : phP g f c cw a m t = phP g2 f2 c cw2 a m t := by
  unfold phP
  rw [alf_eq hg m 0 (fun k hk => hw k (by omega))]
  unfold flg
  rw [hf]
theorem phbs_eq {g g2 f f2 : Nat → Int32} {c : Nat → Nat} {cw cw2 : Nat → Int32} {a m n : Nat} (hg : ∀ t k, t < n → k < c t → g (4 * t + k) = g2 (4 * t + k)) (hf : ∀ t, t < n → f t = f2 t) (hw : ∀ k, k < a + m → cw k = cw2 k) : bs (phP g f c cw a m) n = bs (phP g2 f2 c cw2 a m) n := bs_eq n (fun t ht => phP_eq (fun k hk => hg t k ht hk) (hf t ht) hw)
theorem plen_eq {z z2 : Nat → Bool} : ∀ r m, (∀ j, m < j → j ≤ m + r → z j = z2 j) → plen z r m = plen z2 r m
  | 0, _, _ => rfl
  | r + 1, m, h => by
    simp only [plen]
    rw [h (m + 1) (by omega) (by omega), plen_eq r (m + 1) (fun j h1 h2 => h j (by omega) (by omega))]
theorem plen_eq2 {g g2 f f2 : Nat → Int32} {c : Nat → Nat} {cw cw2 : Nat → Int32} {a n nc : Nat} (ha : a ≤ nc) (hg : ∀ t k, t < n → k < c t → g (4 * t + k) = g2 (4 * t + k)) (hf : ∀ t, t < n → f t = f2 t) (hw : ∀ k, k < nc → cw k = cw2 k) : plen (phZ g f c cw a n) (nc - a) 0 = plen (phZ g2 f2 c cw2 a n) (nc - a) 0 := by
  refine plen_eq _ _ (fun j h1 h2 => ?_)
  unfold phZ
  rw [phbs_eq hg hf (fun k hk => hw k (by omega))]

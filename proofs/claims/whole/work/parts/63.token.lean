theorem ix8 (l k : Nat) : nI l * (8 : Int32) + nI k = nI (8 * l + k) := by rw [show (8 : Int32) = nI 8 from rfl, pk_mul, nI_add, Nat.mul_comm l 8]
theorem ix8c (l k : Nat) : (8 : Int32) * nI l + nI k = nI (8 * l + k) := by rw [show (8 : Int32) = nI 8 from rfl, pk_mul, nI_add]
theorem x_kindsOf {S : St} {n : Nat} {c : Nat → Nat} (e : gI S 25 = nI n) (hn : n ≤ 60) (f7 : ∀ l, l < 60 → c l ≤ 8 ∧ gA S 23 l = nI (c l)) {l : Nat} (hl : l < n) : x_Lines_kindsOf S (nI l) = some (nI (c l), S) := by
  unfold x_Lines_kindsOf
  simp only [x_hasL e hn, bind_s, btw_nI (show n < 2 ^ 30 by omega) hl, one_ne0, if_false, gd_t _ (vin_nI (show l < 60 by omega) (by omega)), nI_clamp (show l < 2 ^ 31 by omega), (f7 l (by omega)).2]
theorem x_kindAt {S : St} {n : Nat} {c : Nat → Nat} (e : gI S 25 = nI n) (hn : n ≤ 60) (f7 : ∀ l, l < 60 → c l ≤ 8 ∧ gA S 23 l = nI (c l)) {l : Nat} (hl : l < n) (i : Int32) : x_Lines_kindAt S (nI l) i = some (rat (fun k => gA S 24 (8 * l + k)) (c l) i, S) := by
  have h8 := f7 l (by omega)
  unfold x_Lines_kindAt
  rcases int_cases i with hi | ⟨j, hj, rfl⟩
  · simp only [x_hasL e hn, bind_s, btw_nI (show n < 2 ^ 30 by omega) hl, one_ne0, if_false, hi, if_true, rat_neg hi]
  · by_cases hjc : c l ≤ j
    · simp only [x_hasL e hn, bind_s, btw_nI (show n < 2 ^ 30 by omega) hl, one_ne0, if_false, eq_false (nI_pos hj), gd_t _ (vin_nI (show l < 60 by omega) (by omega)), nI_clamp (show l < 2 ^ 31 by omega), h8.2, eq_true (nI_le hjc hj), if_true, rat_no hjc hj]
    · simp only [x_hasL e hn, bind_s, btw_nI (show n < 2 ^ 30 by omega) hl, one_ne0, if_false, eq_false (nI_pos hj), gd_t _ (vin_nI (show l < 60 by omega) (by omega)), nI_clamp (show l < 2 ^ 31 by omega), h8.2, eq_false (nI_ge (show j < c l by omega) (by omega)), rat_nI (show j < c l by omega) (by omega), ix8, gd_t _ (vin_nI (show 8 * l + j < 480 by omega) (by omega)), nI_clamp (show 8 * l + j < 2 ^ 31 by omega)]
theorem x_ofAt {S : St} {n : Nat} {c : Nat → Nat} (e : gI S 25 = nI n) (hn : n ≤ 60) (f7 : ∀ l, l < 60 → c l ≤ 8 ∧ gA S 23 l = nI (c l)) {l : Nat} (hl : l < n) (i : Int32) : x_Lines_ofAt S (nI l) i = some (rat (fun k => gA S 25 (8 * l + k)) (c l) i, S) := by
  have h8 := f7 l (by omega)
  unfold x_Lines_ofAt
  rcases int_cases i with hi | ⟨j, hj, rfl⟩
  · simp only [x_hasL e hn, bind_s, btw_nI (show n < 2 ^ 30 by omega) hl, one_ne0, if_false, hi, if_true, rat_neg hi]
  · by_cases hjc : c l ≤ j
    · simp only [x_hasL e hn, bind_s, btw_nI (show n < 2 ^ 30 by omega) hl, one_ne0, if_false, eq_false (nI_pos hj), gd_t _ (vin_nI (show l < 60 by omega) (by omega)), nI_clamp (show l < 2 ^ 31 by omega), h8.2, eq_true (nI_le hjc hj), if_true, rat_no hjc hj]
    · simp only [x_hasL e hn, bind_s, btw_nI (show n < 2 ^ 30 by omega) hl, one_ne0, if_false, eq_false (nI_pos hj), gd_t _ (vin_nI (show l < 60 by omega) (by omega)), nI_clamp (show l < 2 ^ 31 by omega), h8.2, eq_false (nI_ge (show j < c l by omega) (by omega)), rat_nI (show j < c l by omega) (by omega), ix8, gd_t _ (vin_nI (show 8 * l + j < 480 by omega) (by omega)), nI_clamp (show 8 * l + j < 2 ^ 31 by omega)]
theorem x_isSlot (S : St) (v : Int32) : x_G_isSlot S v = some (btw v 2 11, S) := m_within S v 2 11
theorem m_isSlot (S : St) (v : Int32) : m_M_isSlot S v = some (if v < 2 then 0 else 1, S) := by
  unfold m_M_isSlot
  by_cases h : v < 2
  · simp only [h, if_true]
  · simp only [h, if_false]
theorem btw_slot {v : Int32} (h : v ≤ 11) : btw v 2 11 = if v < 2 then 0 else 1 := by
  unfold btw
  by_cases h1 : v < 2
  · rw [if_pos h1, if_pos h1]
  · rw [if_neg h1, if_neg h1, if_neg (Int32.not_lt.mpr h)]
theorem x_slots_l {S : St} {n : Nat} {c : Nat → Nat} (e : gI S 25 = nI n) (hn : n ≤ 60) (f7 : ∀ l, l < 60 → c l ≤ 8 ∧ gA S 23 l = nI (c l)) {l : Nat} (hl : l < n) (hk : ∀ k, k < c l → gA S 24 (8 * l + k) ≤ 11) : ∀ (r fuel i : Nat), i + r = c l → r < fuel → x_Lines_slotsOf_b4 fuel S (nI l) (nI (nsl (gA S 24) (8 * l) i)) (nI i) = some (nI (nsl (gA S 24) (8 * l) (c l)), S)
  | r, 0, i, _, hf => absurd hf (by omega)
  | 0, fuel + 1, i, he, _ => by
    have h8 := f7 l (by omega)
    show x_Lines_slotsOf_b4_f _ S _ _ _ = _
    simp only [x_Lines_slotsOf_b4_f, x_kindsOf e hn f7 hl, bind_s, le_t (show c l ≤ i by omega) (by omega), if_true]
    rw [show i = c l by omega]
  | r + 1, fuel + 1, i, he, hf => by
    have h8 := f7 l (by omega)
    show x_Lines_slotsOf_b4_f (x_Lines_slotsOf_b4 fuel) S _ _ _ = _
    simp only [x_Lines_slotsOf_b4_f, x_Lines_slotsOf_b28, x_kindsOf e hn f7 hl, bind_s, le_f (show i < c l by omega) (by omega), if_false, x_kindAt e hn f7 hl, rat_nI (show i < c l by omega) (by omega), x_isSlot, btw_slot (hk i (by omega)), nI_1]
    have ih := x_slots_l e hn f7 hl hk r fuel (i + 1) (by omega) (by omega)
    by_cases h2 : gA S 24 (8 * l + i) < 2
    · rw [show nsl (gA S 24) (8 * l) (i + 1) = nsl (gA S 24) (8 * l) i by simp only [nsl, h2, if_true, Nat.add_zero]] at ih
      simp only [h2, if_true]
      exact ih
    · rw [show nsl (gA S 24) (8 * l) (i + 1) = nsl (gA S 24) (8 * l) i + 1 by simp only [nsl, h2, if_false]] at ih
      simp only [h2, if_false, one_ne0]
      exact ih
theorem x_slotsOf {S : St} {n : Nat} {c : Nat → Nat} (e : gI S 25 = nI n) (hn : n ≤ 60) (f7 : ∀ l, l < 60 → c l ≤ 8 ∧ gA S 23 l = nI (c l)) {l : Nat} (hl : l < n) (hk : ∀ k, k < c l → gA S 24 (8 * l + k) ≤ 11) : x_Lines_slotsOf S (nI l) = some (nI (nsl (gA S 24) (8 * l) (c l)), S) :=
  x_slots_l e hn f7 hl hk (c l) fu 0 (by omega) (show c l < 100000 by have := f7 l (by omega); omega)
def m_tokX (S : St) (x1 x2 x3 x4 x5 x6 : Int32) : Option (Int32 × St) := if x2 = (1 : Int32) then if x5 = 0 then m_M_token_b154 S x1 x2 x3 x4 x5 x6 else if x5 = (1 : Int32) then m_M_token_b154 S x1 x2 x3 x4 x5 x6 else some ((-103 : Int32), S) else m_M_token_b154 S x1 x2 x3 x4 x5 x6
theorem m_tok_l {T : St} {l c : Nat} (hl : l < 60) (hc : c ≤ 8) (kd o la : Int32) : ∀ (r fuel i : Nat), i + r = c → r < fuel → m_M_token_b97 fuel T (nI l) kd o (nI c) la (nI (nsl (gA T 6) (8 * l) i)) (nI i) = m_tokX T (nI l) kd o (nI c) la (nI (nsl (gA T 6) (8 * l) c))
  | r, 0, i, _, hf => absurd hf (by omega)
  | 0, fuel + 1, i, he, _ => by
    show m_M_token_b97_f _ T _ _ _ _ _ _ _ = _
    unfold m_M_token_b97_f
    rw [if_pos (nI_le (show c ≤ i by omega) (by omega)), show i = c by omega]
    rfl
  | r + 1, fuel + 1, i, he, hf => by
    show m_M_token_b97_f (m_M_token_b97 fuel) T _ _ _ _ _ _ _ = _
    have ih := m_tok_l (T := T) hl hc kd o la r fuel (i + 1) (by omega) (by omega)
    unfold m_M_token_b97_f
    rw [if_neg (nI_ge (show i < c by omega) (by omega))]
    simp only [ix8c, gd_t _ (vin_nI (show 8 * l + i < 480 by omega) (by omega)), nI_clamp (show 8 * l + i < 2 ^ 31 by omega), m_isSlot, bind_s, m_M_token_b129, nI_1]
    by_cases h2 : gA T 6 (8 * l + i) < 2
    · rw [show nsl (gA T 6) (8 * l) (i + 1) = nsl (gA T 6) (8 * l) i by simp only [nsl, h2, if_true, Nat.add_zero]] at ih
      simp only [h2, if_true, Int32.add_zero]
      exact ih
    · rw [show nsl (gA T 6) (8 * l) (i + 1) = nsl (gA T 6) (8 * l) i + 1 by simp only [nsl, h2, if_false]] at ih
      simp only [h2, if_false, one_ne0, nI_1]
      exact ih
theorem nsl_eq {f g : Nat → Int32} {b : Nat} : ∀ n, (∀ k, k < n → f (b + k) = g (b + k)) → nsl f b n = nsl g b n
  | 0, _ => rfl
  | n + 1, h => by
    simp only [nsl]
    rw [nsl_eq n (fun k hk => h k (by omega)), h n (by omega)]
/-- whether kind and number go for a token -/
def tokOK (kd o : Int32) : Int32 := if btw kd 0 11 = 0 then 0 else if kd = 0 then btw o 10 9999 else if kd = 1 then btw o 10 9999 else if kd = 11 then btw o 0 9 else 1
theorem x_mayBeToken (S : St) (kd o : Int32) : x_G_mayBeToken S kd o = some (tokOK kd o, S) := by
  unfold x_G_mayBeToken tokOK
  by_cases h0 : kd < 0
  · have : btw kd 0 11 = 0 := by unfold btw; rw [if_pos h0]
    simp only [h0, this, if_true]
  · by_cases h11 : kd ≤ 11
    · have hb : btw kd 0 11 = 1 := by unfold btw; rw [if_neg h0, if_neg (Int32.not_lt.mpr h11)]
      simp only [h0, h11, hb, one_ne0, if_true, if_false, x_G_mayBeToken_b21, x_plain, bind_s, gd_t _ (isB_btw o 10 9999)]
      by_cases k0 : kd = 0
      · simp only [k0, if_true]
      · by_cases k1 : kd = 1
        · simp only [k1, if_true, one_ne0, if_false]
        · by_cases k11 : kd = 11
          · simp only [k0, k1, if_false]
            simp only [k11, if_true]
            unfold btw
            by_cases o0 : o < 0
            · simp only [o0, if_true]
            · by_cases o9 : (9 : Int32) < o
              · simp only [o0, o9, if_true, if_false]
              · simp only [o0, o9, if_false]
          · simp only [k0, k1, k11, if_false]
    · have hb : btw kd 0 11 = 0 := by unfold btw; rw [if_neg h0, if_pos (Int32.not_le.mp h11)]
      simp only [h0, h11, hb, if_true, if_false]
theorem m_tokGo {T : St} (l kd o : Int32) (h : ¬ btw kd 0 11 = 0) : (if (1 : Int32) < kd then m_M_token_b39 T l kd o else (m_M_isPlain T o).bind fun q6 => if q6.1 = 0 then some ((-102 : Int32), q6.2) else m_M_token_b39 q6.2 l kd o) = if tokOK kd o = 0 then some ((-102 : Int32), T) else m_M_token_b58 T l kd o := by
  obtain ⟨h1, h2⟩ := btw_1 h
  have i1 : ¬ kd.toInt < (0 : Int32).toInt := fun q => h1 (Int32.lt_iff_toInt_lt.mpr q)
  have z0 : (0 : Int32).toInt = 0 := rfl
  have z1 : (1 : Int32).toInt = 1 := rfl
  have e1 : ((1 : Int32) < kd) = ¬ (kd.toInt ≤ 1) := propext ⟨fun q => by have := Int32.lt_iff_toInt_lt.mp q; omega, fun q => Int32.lt_iff_toInt_lt.mpr (by omega)⟩
  unfold tokOK m_M_token_b39
  by_cases k0 : kd = 0
  · subst k0
    simp only [h, if_false, if_true, m_plain, bind_s, show ¬ (1 : Int32) < 0 by decide, show ¬ (0 : Int32) = 11 by decide]
  · by_cases k1 : kd = 1
    · subst k1
      simp only [h, if_false, if_true, one_ne0, m_plain, bind_s, show ¬ (1 : Int32) < 1 by decide, show ¬ (1 : Int32) = 11 by decide]
    · have hgt : (1 : Int32) < kd := by
        refine Int32.lt_iff_toInt_lt.mpr ?_
        have n0 : kd.toInt ≠ 0 := fun q => k0 (Int32.toInt_inj.mp q)
        have n1 : kd.toInt ≠ 1 := fun q => k1 (Int32.toInt_inj.mp q)
        omega
      by_cases k11 : kd = 11
      · simp only [h, hgt, k0, k1, if_false, if_true, m_within, bind_s, eq_true k11]
      · simp only [h, hgt, k0, k1, k11, if_false, if_true, one_ne0]
theorem btw_sl0 {v : Int32} (h : ¬ v < 2) : (if v < 2 then (0 : Int32) else 1) = 1 := if_neg h
abbrev XT (S : St) (l c : Nat) (kd o : Int32) : St := sA (sA (sA S 24 (8 * l + c) kd) 25 (8 * l + c) o) 23 l (nI (c + 1))
abbrev MT (T : St) (l c : Nat) (kd o : Int32) : St := sA (sA (sA T 6 (8 * l + c) kd) 7 (8 * l + c) o) 5 l (nI (c + 1))
/-- what stands ahead -/
def lastK (f : Nat → Int32) (b : Nat) : Nat → Int32
  | 0 => (-1)
  | n + 1 => f (b + n)
/-- whether a kind may come -/
def tokGo (kd la : Int32) (ns : Nat) : Prop := (kd = 1 → la = 0 ∨ la = 1) ∧ (la = 9 → kd = 0) ∧ (¬ kd < 2 → ns < 2)
theorem rat_last {f : Nat → Int32} {b c : Nat} (hc : c ≤ 8) : rat (fun k => f (b + k)) c (nI c - 1) = lastK f b c := by
  cases c with
  | zero => exact rat_neg (by decide)
  | succ c => rw [nI_pred, rat_nI (by omega) (by omega)]; rfl
theorem x_allows {S : St} {n : Nat} {c : Nat → Nat} (e : gI S 25 = nI n) (hn : n ≤ 60) (f7 : ∀ l, l < 60 → c l ≤ 8 ∧ gA S 23 l = nI (c l)) {l : Nat} (hl : l < n) (hk : ∀ k, k < c l → gA S 24 (8 * l + k) ≤ 11) (h2 : nsl (gA S 24) (8 * l) (c l) ≤ 2) (kd : Int32) (hkd : kd ≤ 11) : ∃ r, x_Lines_allows S (nI l) kd = some (r, S) ∧ (r = 0 ↔ ¬ tokGo kd (lastK (gA S 24) (8 * l) (c l)) (nsl (gA S 24) (8 * l) (c l))) := by
  have h8 := f7 l (by omega)
  have l2 : ((2 : Int32) ≤ nI (nsl (gA S 24) (8 * l) (c l))) = (2 ≤ nsl (gA S 24) (8 * l) (c l)) := lit_ge 2 rfl (by omega) (by omega)
  unfold x_Lines_allows
  simp only [x_kindsOf e hn f7 hl, x_kindAt e hn f7 hl, bind_s, rat_last h8.1, x_Lines_allows_b45, x_isSlot, btw_slot hkd, x_slotsOf e hn f7 hl hk, l2]
  generalize lastK (gA S 24) (8 * l) (c l) = la
  generalize nsl (gA S 24) (8 * l) (c l) = ns at h2 l2
  unfold tokGo
  by_cases k1 : kd = 1
  · subst k1
    by_cases a0 : la = 0
    · simp only [a0, if_true]
      exact ⟨_, rfl, by simp⟩
    · by_cases a1 : la = 1
      · simp only [a1, if_true, one_ne0, if_false]
        exact ⟨_, rfl, by simp⟩
      · simp only [a0, a1, if_true, if_false]
        exact ⟨_, rfl, by simp [a0, a1]⟩
  · by_cases a9 : la = 9
    · by_cases k0 : kd = 0
      · subst k0
        simp only [a9, k1, if_true, if_false, show ((0 : Int32) < 2) = True from eq_true (by decide)]
        exact ⟨_, rfl, by simp⟩
      · simp only [a9, k1, k0, if_true, if_false]
        exact ⟨_, rfl, by simp [k0]⟩
    · by_cases k2 : kd < 2
      · simp only [a9, k1, k2, if_true, if_false]
        exact ⟨_, rfl, by simp [a9, k1, k2]⟩
      · by_cases n2 : 2 ≤ ns
        · simp only [a9, k1, k2, n2, if_true, if_false, one_ne0]
          exact ⟨_, rfl, by simp [a9, k1, k2, show ¬ ns < 2 by omega]⟩
        · simp only [a9, k1, k2, n2, if_true, if_false, one_ne0]
          exact ⟨_, rfl, by simp [a9, k1, k2, show ns < 2 by omega]⟩
theorem x_addKind {S : St} {n : Nat} {c : Nat → Nat} (e : gI S 25 = nI n) (hn : n ≤ 60) (f7 : ∀ l, l < 60 → c l ≤ 8 ∧ gA S 23 l = nI (c l)) {l : Nat} (hl : l < n) (h8 : c l < 8) (kd o : Int32) : x_Lines_addKind S (nI l) kd o = some (nI (c l + 1), XT S l (c l) kd o) := by
  have h9 := (f7 l (by omega)).2
  have l2 : ((8 : Int32) ≤ nI (c l)) = (8 ≤ c l) := lit_ge 8 rfl (by omega) (by omega)
  unfold x_Lines_addKind
  simp only [x_hasL e hn, bind_s, btw_nI (show n < 2 ^ 30 by omega) hl, one_ne0, if_false, gd_t _ (vin_nI (show l < 60 by omega) (by omega)), nI_clamp (show l < 2 ^ 31 by omega), h9, l2, eq_false (show ¬ 8 ≤ c l by omega), ix8, gd_t _ (vin_nI (show 8 * l + c l < 480 by omega) (by omega)), nI_clamp (show 8 * l + c l < 2 ^ 31 by omega)]
  rw [show gA (sA (sA S 24 (8 * l + c l) kd) 25 (8 * l + c l) o) 23 l = nI (c l) from h9, nI_1]
  unfold x_Lines_addKind_b58 x_Lines_kindsOf
  rw [x_hasL (S := XT S l (c l) kd o) (a := n) e hn]
  simp only [bind_s, btw_nI (show n < 2 ^ 30 by omega) hl, one_ne0, if_false, gd_t _ (vin_nI (show l < 60 by omega) (by omega)), nI_clamp (show l < 2 ^ 31 by omega)]
  rw [show gA (XT S l (c l) kd o) 23 l = nI (c l + 1) by rw [gA_sA, if_pos rfl, upd_self]]

theorem m_like_l {T : St} {a k : Nat} (e2 : gI T 0 = nI a) (e5 : gI T 1 = nI k) (hk : k < 60) (v w : Int32) (hv : ¬ btw v 0 (nI a - 1) = 0) (hp : ¬ btw w 10 9999 = 0) (hq : fnd (gA T 0) (gA T 1) w k 0 = (-1)) : m_M_like T v w = some (cntL (upd (gA T 1) k v) v (k + 1) 0 0, MV1 T v k w) := by
  have l2 : (nI k = (60 : Int32)) = (k = 60) := lit_eq 60 rfl (by omega) (by omega)
  unfold m_M_like
  simp only [m_within, e2, bind_s, hv, if_false, m_plain, hp, m_find e5 (Nat.le_of_lt hk), hq, if_true, e5, l2, eq_false (show ¬ k = 60 by omega), m_isOfVerb e5 hk]
  exact m_cnt_l (S := MV1 T v k w) (k := k + 1) rfl (by omega) v (k + 1) fu 0 0 (by omega) (show k + 1 < 100000 by omega)
theorem upd_eqN {n : Nat} {f g : Nat → Int32} {v : Int32} (h : EqN n f g) (k : Nat) (hk : k < n + 1) : upd f n v k = upd g n v k := h.up k hk
theorem like_step {S T : St} (h : VR S T) (v w : Int32) : (∃ r, x_G_like S v w = some (r, S) ∧ m_M_like T v w = some (r, T)) ∨ ∃ (r : Int32) (b k : Nat), x_G_like S v w = some (r, XV1 S (nI b) k w) ∧ m_M_like T v w = some (r, MV1 T (nI b) k w) ∧ VR (XV1 S (nI b) k w) (MV1 T (nI b) k w) := by
  obtain ⟨a, k, ha, hk, e1, e2, e3, e4, e5, e6, e7, e8, e9⟩ := h
  have hf : fnd (gA T 0) (gA T 1) w k 0 = fnd (gA S 0) (gA S 1) w k 0 := (fnd_eq k 0 (fun j hj => e6 j (by omega)) (fun j hj => e7 j (by omega))).symm
  have l2 : (nI k = (60 : Int32)) = (k = 60) := lit_eq 60 rfl (by omega) (by omega)
  by_cases hv : btw v 0 (nI a - 1) = 0
  · refine Or.inl ⟨(-101), ?_, ?_⟩
    · unfold x_G_like; simp only [x_hasV e1 ha, bind_s, hv, if_true]
    · unfold m_M_like; simp only [m_within, e2, bind_s, hv, if_true]
  by_cases hp : btw w 10 9999 = 0
  · refine Or.inl ⟨(-102), ?_, ?_⟩
    · unfold x_G_like; simp only [x_hasV e1 ha, bind_s, hv, if_false, x_maybe e3 e4 hk, hp, if_true]
    · unfold m_M_like; simp only [m_within, e2, bind_s, hv, if_false, m_plain, hp, if_true]
  by_cases hq : fnd (gA S 0) (gA S 1) w k 0 = (-1)
  · by_cases h60 : k < 60
    · obtain ⟨hv0, hv1⟩ := btw_1 hv
      obtain ⟨b, hb, rfl⟩ := nI_of hv0
      have hba : b < a := by
        have q : ¬ (nI a - 1).toInt < (nI b).toInt := fun q => hv1 (Int32.lt_iff_toInt_lt.mpr q)
        rw [show (nI a - 1).toInt = (a : Int) - (1 : Nat) from pk_sub_toInt (by omega) (by decide), nI_toInt hb] at q
        omega
      refine Or.inr ⟨_, b, k, ?_, m_like_l e2 e5 h60 _ w hv hp (hf.trans hq), ?_⟩
      · unfold x_G_like
        simp only [x_hasV e1 ha, bind_s, hv, if_false, x_maybe e3 e4 hk, hp, hq, if_true, one_ne0, x_allW e3 hk, h60, x_addWord e3 e4 h60]
        rw [cntL_eq (k + 1) 0 0 (fun j hj => upd_eqN e7 j (by omega))]
      · exact VR.add a k ha h60 b (by omega) w (plain_pos hp) e1 e2 e6 e7 e8 e9
    · refine Or.inl ⟨(-104), ?_, ?_⟩
      · unfold x_G_like
        simp only [x_hasV e1 ha, bind_s, hv, if_false, x_maybe e3 e4 hk, hp, hq, if_true, one_ne0, x_allW e3 hk, h60]
      · unfold m_M_like
        simp only [m_within, e2, bind_s, hv, if_false, m_plain, hp, m_find e5 hk, hf, hq, if_true, e5, l2, eq_true (show k = 60 by omega)]
  · refine Or.inl ⟨(-102), ?_, ?_⟩
    · unfold x_G_like
      simp only [x_hasV e1 ha, bind_s, hv, if_false, x_maybe e3 e4 hk, hp, hq, if_true]
    · unfold m_M_like
      simp only [m_within, e2, bind_s, hv, if_false, m_plain, hp, m_find e5 hk, hf, hq]
/-- how many slots n kinds from b on have -/
def nsl (f : Nat → Int32) (b : Nat) : Nat → Nat
  | 0 => 0
  | n + 1 => nsl f b n + (if f (b + n) < 2 then 0 else 1)
/-- kinds that token() lets come -/
def Tk (f : Nat → Int32) (b n : Nat) : Prop := (∀ k, k < n → 0 ≤ f (b + k) ∧ f (b + k) ≤ 11) ∧ (∀ k, k < n → f (b + k) = 1 → ∃ j, k = j + 1 ∧ (f (b + j) = 0 ∨ f (b + j) = 1)) ∧ (∀ k, k + 1 < n → f (b + k) = 9 → f (b + (k + 1)) = 0) ∧ nsl f b n ≤ 2
/-- the lines: n of them, line l has c l kinds -/
def LRn (S T : St) (n : Nat) (c : Nat → Nat) : Prop := n ≤ 60 ∧ gI S 25 = nI n ∧ gI T 2 = nI n ∧ EqN n (gA S 20) (gA T 2) ∧ EqN n (gA S 21) (gA T 3) ∧ EqN n (gA S 22) (gA T 4) ∧ (∀ l, l < n → gA S 22 l = 0 ∨ gA S 22 l = 1) ∧ (∀ l, l < n → 0 < gA S 21 l) ∧ (∀ l, l < 60 → c l ≤ 8 ∧ gA S 23 l = nI (c l)) ∧ (∀ l, l < n → gA T 5 l = nI (c l)) ∧ (∀ l, n ≤ l → c l = 0) ∧ (∀ l k, l < n → k < c l → gA S 24 (8 * l + k) = gA T 6 (8 * l + k) ∧ gA S 25 (8 * l + k) = gA T 7 (8 * l + k)) ∧ ∀ l, l < n → Tk (gA S 24) (8 * l) (c l)
def LR (S T : St) : Prop := ∃ (n : Nat) (c : Nat → Nat), LRn S T n c
theorem x_isFullL {S : St} {n : Nat} (e : gI S 25 = nI n) (hn : n ≤ 60) : x_Lines_isFull S = some (if n < 60 then 0 else 1, S) := by
  unfold x_Lines_isFull
  by_cases h : n < 60
  · simp only [e, lit_lt (n := n) (v := 60) 60 rfl (by omega) (by omega), h, if_true]
  · simp only [e, lit_lt (n := n) (v := 60) 60 rfl (by omega) (by omega), h, if_false]
theorem x_hasL {S : St} {a : Nat} (e : gI S 25 = nI a) (ha : a ≤ 60) (v : Int32) : x_Lines_has S v = some (btw v 0 (nI a - 1), S) := by
  unfold x_Lines_has btw
  rcases int_cases v with hv | ⟨j, hj, rfl⟩
  · simp only [hv, if_true]
  · simp only [eq_false (nI_pos hj), if_false, e]
    by_cases h : a ≤ j
    · rw [if_pos (nI_le h hj), if_pos]
      refine Int32.lt_iff_toInt_lt.mpr ?_
      rw [show (nI a - 1).toInt = (a : Int) - (1 : Nat) from pk_sub_toInt (by omega) (by decide), nI_toInt hj]
      omega
    · rw [if_neg (fun q => h ((nI_leI (by omega) hj).mp q)), if_neg]
      intro q
      have q2 := Int32.lt_iff_toInt_lt.mp q
      rw [show (nI a - 1).toInt = (a : Int) - (1 : Nat) from pk_sub_toInt (by omega) (by decide), nI_toInt hj] at q2
      omega
/-- a number that names one of a -/
theorem btw_ix {v : Int32} {a : Nat} (ha : a < 2 ^ 30) (h : ¬ btw v 0 (nI a - 1) = 0) : ∃ b : Nat, b < a ∧ v = nI b := by
  obtain ⟨hv0, hv1⟩ := btw_1 h
  obtain ⟨b, hb, rfl⟩ := nI_of hv0
  refine ⟨b, ?_, rfl⟩
  have q : ¬ (nI a - 1).toInt < (nI b).toInt := fun q => hv1 (Int32.lt_iff_toInt_lt.mpr q)
  rw [show (nI a - 1).toInt = (a : Int) - (1 : Nat) from pk_sub_toInt ha (by decide), nI_toInt hb] at q
  omega
theorem btw_nI {b a : Nat} (ha : a < 2 ^ 30) (h : b < a) : btw (nI b) 0 (nI a - 1) = 1 := by
  unfold btw
  rw [if_neg (nI_pos (by omega)), if_neg]
  intro q
  have q2 := Int32.lt_iff_toInt_lt.mp q
  rw [show (nI a - 1).toInt = (a : Int) - (1 : Nat) from pk_sub_toInt ha (by decide), nI_toInt (by omega)] at q2
  omega
abbrev XL (S : St) (n : Nat) (v a d : Int32) : St := sI (sA (sA (sA S 20 n v) 21 n a) 22 n (vp_nar .boolean d)) 25 (nI (n + 1))
abbrev ML (T : St) (n : Nat) (v a d : Int32) : St := sI (sA (sA (sA (sA T 2 n v) 3 n a) 4 n (vp_nar .boolean d)) 5 n 0) 2 (nI (n + 1))
theorem x_ladd {S : St} {n : Nat} (e : gI S 25 = nI n) (hn : n < 60) (v a d : Int32) : x_Lines_add S v a d = some (nI n, XL S n v a d) := by
  unfold x_Lines_add
  simp only [x_isFullL e (Nat.le_of_lt hn), hn, if_true, bind_s, gI_sA, e, gd_t _ (vin_nI hn (by omega)), nI_clamp (show n < 2 ^ 31 by omega), nI_1]
  rw [show gI (XL S n v a d) 25 = nI (n + 1) from rfl, nI_pred]
theorem upd_ne {f : Nat → Int32} {k j : Nat} {v : Int32} (h : j ≠ k) : upd f k v j = f j := by unfold upd; rw [if_neg h]
theorem upd_self {f : Nat → Int32} {k : Nat} {v : Int32} : upd f k v k = v := by unfold upd; rw [if_pos rfl]
theorem nar01 {d : Int32} (h : d = 0 ∨ d = 1) : vp_nar .boolean d = d := by rcases h with rfl | rfl <;> rfl
theorem btw_act {a : Int32} (h : ¬ btw a 1 9999 = 0) : 0 < a := by
  obtain ⟨h1, -⟩ := btw_1 h
  have h2 : ¬ a.toInt < (1 : Int32).toInt := fun q => h1 (Int32.lt_iff_toInt_lt.mpr q)
  refine Int32.lt_iff_toInt_lt.mpr ?_
  have h3 : (1 : Int32).toInt = 1 := rfl
  have h4 : (0 : Int32).toInt = 0 := rfl
  omega
theorem line_step {S T : St} (h : VR S T) (h2 : LR S T) (v a d : Int32) (hd : d = 0 ∨ d = 1) : (∃ r, x_G_line S v a d = some (r, S) ∧ m_M_line T v a d = some (r, T)) ∨ ∃ n : Nat, gI S 25 = nI n ∧ x_G_line S v a d = some (nI n, XL S n v a d) ∧ m_M_line T v a d = some (nI n, ML T n v a d) ∧ LR (XL S n v a d) (ML T n v a d) := by
  obtain ⟨va, k, hva, hk, e1, e2, -⟩ := h
  obtain ⟨n, c, hn, f1, f2, f3, f4, f5, f6, f6b, f7, f8, f9, f10, f11⟩ := h2
  have l2 : (nI n = (60 : Int32)) = (n = 60) := lit_eq 60 rfl (by omega) (by omega)
  by_cases hv : btw v 0 (nI va - 1) = 0
  · refine Or.inl ⟨(-101), ?_, ?_⟩
    · unfold x_G_line; simp only [x_hasV e1 hva, bind_s, hv, if_true]
    · unfold m_M_line; simp only [m_within, e2, bind_s, hv, if_true]
  by_cases ha : btw a 1 9999 = 0
  · refine Or.inl ⟨(-102), ?_, ?_⟩
    · unfold x_G_line
      by_cases h1 : a < 1
      · simp only [x_hasV e1 hva, bind_s, hv, if_false, h1, if_true]
      · have h3 : ¬ a ≤ 9999 := by
          intro q
          unfold btw at ha
          rw [if_neg h1, if_neg (Int32.not_lt.mpr q)] at ha
          exact one_ne0 ha
        simp only [x_hasV e1 hva, bind_s, hv, if_false, h1, h3]
    · unfold m_M_line; simp only [m_within, e2, bind_s, hv, if_false, ha, if_true]
  obtain ⟨h1, h3⟩ := btw_1 ha
  have h3 : a ≤ 9999 := Int32.not_lt.mp h3
  by_cases h60 : n < 60
  · refine Or.inr ⟨n, f1, ?_, ?_, ?_⟩
    · unfold x_G_line
      simp only [x_hasV e1 hva, bind_s, hv, if_false, h1, h3, if_true, x_isFullL f1 hn, h60, x_ladd f1 h60]
    · unfold m_M_line
      simp only [m_within, e2, bind_s, hv, if_false, ha, f2, l2, eq_false (show ¬ n = 60 by omega), gI_sA, gd_t _ (vin_nI h60 (by omega)), nI_clamp (show n < 2 ^ 31 by omega), nI_1]
      rw [show gI (ML T n v a d) 2 = nI (n + 1) from rfl, nI_pred]
    · refine ⟨n + 1, c, by omega, rfl, rfl, f3.up, f4.up, f5.up, ?_, ?_, f7, ?_, fun l hl => f9 l (by omega), ?_, ?_⟩
      · intro l hl
        show upd (gA S 22) n _ l = 0 ∨ upd (gA S 22) n _ l = 1
        by_cases e : l = n
        · rw [e, upd_self, nar01 hd]; exact hd
        · rw [upd_ne e]; exact f6 l (by omega)
      · intro l hl
        show 0 < upd (gA S 21) n _ l
        by_cases e : l = n
        · rw [e, upd_self]; exact btw_act ha
        · rw [upd_ne e]; exact f6b l (by omega)
      · intro l hl
        show upd (gA T 5) n 0 l = _
        by_cases e : l = n
        · rw [e, upd_self, f9 n (Nat.le_refl n)]; rfl
        · rw [upd_ne e]; exact f8 l (by omega)
      · intro l k hl hk
        by_cases e : l = n
        · rw [e, f9 n (Nat.le_refl n)] at hk; omega
        · exact f10 l k (by omega) hk
      · intro l hl
        by_cases e : l = n
        · rw [e, f9 n (Nat.le_refl n)]
          exact ⟨fun k hk => absurd hk (by omega), fun k hk => absurd hk (by omega), fun k hk => absurd hk (by omega), Nat.zero_le _⟩
        · exact f11 l (by omega)
  · refine Or.inl ⟨(-104), ?_, ?_⟩
    · unfold x_G_line
      simp only [x_hasV e1 hva, bind_s, hv, if_false, h1, h3, if_true, x_isFullL f1 hn, h60, one_ne0]
    · unfold m_M_line
      simp only [m_within, e2, bind_s, hv, if_false, ha, f2, l2, eq_true (show n = 60 by omega), if_true]

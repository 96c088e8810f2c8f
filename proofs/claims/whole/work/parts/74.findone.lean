/-- of a phrase's things those count for a kind -/
def ck (f : Nat → Int32) (kd : Int32) (t : Nat) : Bool := if kd = 3 then flg f 6 t else if kd = 4 then flg f 4 t else if kd = 5 then flg f 8 t else true
def mQ (T : St) (kd : Int32) (t : Nat) : Bool := ck (gA T 8) kd t && bit (gL T 0) t
theorem m_goes {T : St} {n : Nat} (hn : n ≤ 40) (kd : Int32) (hk : kd = 2 ∨ kd = 3 ∨ kd = 4 ∨ kd = 5) (xa xm : Int32) (k43 : St → Int32 → Int32 → Int32 → Int64 → Int32 → Option (Int32 × St)) (e : gI T 3 = nI n) {i : Nat} (hi : i < n) : m_M_takesOne_b43_f k43 T kd xa xm (bs (mQ T kd) i) (nI i) = k43 T kd xa xm (bs (mQ T kd) (i + 1)) (nI (i + 1)) := by
  have h40 : i < 40 := by omega
  have key : ∀ b : Bool, m_M_takesOne_b104 k43 T kd xa xm (bs (mQ T kd) i) (nI i) (b2i b) = k43 T kd xa xm (if (b && bit (gL T 0) i) = true then bs (mQ T kd) i ||| ((1 : Int64) <<< ((nI i).toInt64 &&& 63)) else bs (mQ T kd) i) (nI (i + 1)) := by
    intro b
    unfold m_M_takesOne_b104 m_M_takesOne_b133 m_M_takesOne_b135
    simp only [b2i_0, m_has T _ (show i < 64 by omega), bind_s, nI_1]
    cases b
    · simp only [if_true, Bool.false_and, Bool.false_eq_true, if_false]
    · cases bit (gL T 0) i
      · simp only [Bool.true_eq_false, if_false, if_true, Bool.and_false, Bool.false_eq_true]
      · simp only [Bool.true_eq_false, if_false, if_true, Bool.and_self]
  have k0 := key false
  have k1 := key true
  rw [show b2i false = 0 from rfl] at k0
  rw [show b2i true = 1 from rfl] at k1
  unfold m_M_takesOne_b43_f
  rw [e, if_neg (nI_ge hi (by omega))]
  simp only [bs]
  rcases hk with rfl | rfl | rfl | rfl
  · simp only [if_true, m_M_takesOne_b99, k1, mQ, ck, q_2_3, q_2_4, q_2_5, if_false]
  · simp only [q_3_2, q_3_4, q_3_5, if_true, if_false, m_held T h40, bind_s, b2i_0, m_M_takesOne_b71, m_M_takesOne_b85, m_M_takesOne_b99, m_M_takesOne_b103, k0, k1, mQ, ck]
    cases flg (gA T 8) 6 i
    · simp only [if_true]
    · simp only [Bool.true_eq_false, if_false]
  · simp only [q_4_2, q_4_3, q_4_5, if_true, if_false, m_worn T h40, bind_s, b2i_0, m_M_takesOne_b71, m_M_takesOne_b85, m_M_takesOne_b99, m_M_takesOne_b103, k0, k1, mQ, ck]
    cases flg (gA T 8) 4 i
    · simp only [if_true]
    · simp only [Bool.true_eq_false, if_false]
  · simp only [q_5_2, q_5_3, q_5_4, if_true, if_false, m_creat T h40, bind_s, b2i_0, m_M_takesOne_b71, m_M_takesOne_b85, m_M_takesOne_b99, m_M_takesOne_b103, k0, k1, mQ, ck]
    cases flg (gA T 8) 8 i
    · simp only [if_true]
    · simp only [Bool.true_eq_false, if_false]
theorem m_set_l {T : St} {n : Nat} (hn : n ≤ 40) (kd : Int32) (hk : kd = 2 ∨ kd = 3 ∨ kd = 4 ∨ kd = 5) (xa xm : Int32) (e : gI T 3 = nI n) : ∀ (r fuel i : Nat), i + r = n → r < fuel → m_M_takesOne_b43 fuel T kd xa xm (bs (mQ T kd) i) (nI i) = m_M_takesOne_b43_f (fun _ _ _ _ _ _ => none) T kd xa xm (bs (mQ T kd) n) (nI n)
  | r, 0, i, _, hf => absurd hf (by omega)
  | 0, fuel + 1, i, he, _ => by
    show m_M_takesOne_b43_f _ T _ _ _ _ _ = _
    rw [show i = n by omega]
    unfold m_M_takesOne_b43_f
    rw [e, if_pos (nI_le (Nat.le_refl n) (by omega)), if_pos (nI_le (Nat.le_refl n) (by omega))]
  | r + 1, fuel + 1, i, he, hf => by
    show m_M_takesOne_b43_f (m_M_takesOne_b43 fuel) T _ _ _ _ _ = _
    rw [m_goes hn kd hk xa xm _ e (show i < n by omega)]
    exact m_set_l hn kd hk xa xm e r fuel (i + 1) (by omega) (by omega)
/-- what comes of a phrase of m words at a, with the set w -/
def oneM (T : St) (kd : Int32) (a m s : Nat) (w : Int64) (cd : Nat) : Option (Int32 × St) := if cd = 0 then some (nI (a + m), sI (sI T 7 (if kd = 3 then 11 else if kd = 4 then 12 else 10)) 8 (nI a)) else if cd = 1 then some (nI (a + m), sB T 20 s (gB T 20 s ||| w)) else some (nI (a + m), sI (sL (sI (sI T 7 15) 8 (nI a)) 1 w) 9 (nI (a + m)))
theorem m_oneX {T : St} {n : Nat} (hn : n ≤ 40) (kd : Int32) (a m s : Nat) (hs : s < 2) (e : gI T 3 = nI n) (es : gI T 13 = nI (s + 1)) (w : Int64) (k : St → Int32 → Int32 → Int32 → Int64 → Int32 → Option (Int32 × St)) : m_M_takesOne_b43_f k T kd (nI a) (nI m) w (nI n) = oneM T kd a m s w (card (bit w) n) := by
  have hc := card_le (p := bit w) n
  have l0 : (nI (card (bit w) n) = (0 : Int32)) = (card (bit w) n = 0) := lit_eq 0 rfl (by omega) (by omega)
  have l1 : (nI (card (bit w) n) ≤ (1 : Int32)) = (card (bit w) n ≤ 1) := lit_le 1 rfl (by omega) (by omega)
  unfold m_M_takesOne_b43_f oneM
  rw [e, if_pos (nI_le (Nat.le_refl n) (by omega)), m_many e hn, bind_s]
  simp only [l0, l1, nI_add, m_M_takesOne_b179, m_M_fails, bind_s, es, nI_pred, gd_t _ (vin_nI hs (by omega)), nI_clamp (show s < 2 ^ 31 by omega)]
  by_cases h0 : card (bit w) n = 0
  · simp only [h0, if_true]
    by_cases k3 : kd = 3
    · simp only [k3, if_true]
    · by_cases k4 : kd = 4
      · simp only [k4, if_true, q_4_3, if_false]
      · simp only [k3, k4, if_false]
  · simp only [h0, if_false]
    by_cases h1 : card (bit w) n = 1
    · simp only [h1, Nat.le_refl, if_true]
    · simp only [h1, show ¬ card (bit w) n ≤ 1 by omega, if_false]
theorem m_one {T : St} {n nc a s : Nat} {c : Nat → Nat} (hn : n ≤ 40) (kd : Int32) (hk : kd = 2 ∨ kd = 3 ∨ kd = 4 ∨ kd = 5) (e : gI T 3 = nI n) (e4 : ∀ t, t < n → c t ≤ 4) (e5 : ∀ t, t < n → gA T 9 t = nI (c t)) (er : gI T 6 = nI nc) (hr : nc ≤ 60) (ha : a < nc) (hs : s < 2) (es : gI T 13 = nI (s + 1)) (m : Nat) (hm : m = plen (phZ (gA T 10) (gA T 8) c (gA T 15) a n) (nc - a) 0) : m_M_takesOne T kd (nI a) = if gA T 15 a = 4 then some (nI a, sI (sI T 7 13) 8 (nI a)) else if m = 0 then some (nI a, sI (sI (sL T 0 0) 7 7) 8 (nI a)) else oneM (sL T 0 (bs (phP (gA T 10) (gA T 8) c (gA T 15) a m) n)) kd a m s (bs (fun t => ck (gA T 8) kd t && phP (gA T 10) (gA T 8) c (gA T 15) a m t) n) (card (fun t => ck (gA T 8) kd t && phP (gA T 10) (gA T 8) c (gA T 15) a m t) n) := by
  have hml := plen_le (z := phZ (gA T 10) (gA T 8) c (gA T 15) a n) (nc - a) 0
  unfold m_M_takesOne
  simp only [m_stands er hr (show a < 2 ^ 31 by omega), bind_s, ha, true_and]
  by_cases h4 : gA T 15 a = 4
  · simp only [h4, if_true, one_ne0, if_false]
    rfl
  · simp only [h4, if_false, if_true]
    rw [m_ph e hn e4 e5 er hr (Nat.le_of_lt ha), ← hm, bind_s]
    have l0 : (nI m = (0 : Int32)) = (m = 0) := lit_eq 0 rfl (by omega) (by omega)
    simp only [l0]
    by_cases h0 : m = 0
    · simp only [h0, if_true]
      rfl
    · simp only [h0, if_false]
      have h := m_set_l (T := sL T 0 (bs (phP (gA T 10) (gA T 8) c (gA T 15) a m) n)) hn kd hk (nI a) (nI m) e n fu 0 (by omega) (show n < 100000 by omega)
      rw [m_oneX (T := sL T 0 (bs (phP (gA T 10) (gA T 8) c (gA T 15) a m) n)) hn kd a m s hs e es] at h
      have hq : ∀ t, t < n → mQ (sL T 0 (bs (phP (gA T 10) (gA T 8) c (gA T 15) a m) n)) kd t = (ck (gA T 8) kd t && phP (gA T 10) (gA T 8) c (gA T 15) a m t) := by
        intro t ht
        show (ck (gA T 8) kd t && bit (bs (phP (gA T 10) (gA T 8) c (gA T 15) a m) n) t) = _
        rw [bit_bs (by omega), decide_eq_true ht, Bool.true_and]
      rw [bs_eq n hq] at h
      rw [card_eq (p := bit (bs (fun t => ck (gA T 8) kd t && phP (gA T 10) (gA T 8) c (gA T 15) a m t) n)) n (fun t ht => by rw [bit_bs (by omega), decide_eq_true ht, Bool.true_and])] at h
      exact h

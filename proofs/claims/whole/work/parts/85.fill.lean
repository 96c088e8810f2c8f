def fI (k : Nat) : Bool := [11, 17, 18, 19, 20].contains k
def fL (k : Nat) : Bool := [0, 1].contains k
def fA (k : Nat) : Bool := k == 11
def hI (k : Nat) : Bool := [12, 13].contains k
def noL (_ : Nat) : Bool := false
def hA (k : Nat) : Bool := [17, 18, 19].contains k
abbrev FrF (S S2 : St) : Prop := Fr fI fL fA noB S S2
abbrev FrG (T T2 : St) : Prop := Fr hI noL hA tmB T T2
theorem FrF.t {S S2 : St} (h : FrF S S2) : FrT S S2 := by
  refine ⟨fun k hk => h.1 k (cont_sub (by decide) hk), fun k hk => h.2.1 k (cont_sub (by decide) hk), fun k hk => h.2.2.1 k ?_, h.2.2.2⟩
  have := cont_sub (l := [11]) (by decide) hk
  simpa [fA] using this
theorem FrG.m {T T2 : St} (h : FrG T T2) : FrM T T2 := ⟨fun k hk => h.1 k (cont_sub (by decide) hk), fun k _ => h.2.1 k rfl, fun k hk => h.2.2.1 k (cont_sub (by decide) hk), h.2.2.2⟩
/-- the first slot from i on -/
def sfr (f : Nat → Int32) (b : Nat) : Nat → Nat → Nat
  | 0, i => i
  | r + 1, i => if f (b + i) < 2 then sfr f b r (i + 1) else i
theorem sfr_le {f : Nat → Int32} {b : Nat} : ∀ r i, i ≤ sfr f b r i ∧ sfr f b r i ≤ i + r
  | 0, i => by simp only [sfr]; omega
  | r + 1, i => by
    simp only [sfr]
    by_cases h : f (b + i) < 2
    · rw [if_pos h]; have := sfr_le (f := f) (b := b) r (i + 1); omega
    · rw [if_neg h]; omega
theorem sfr_lt {f : Nat → Int32} {b : Nat} : ∀ r i j, i ≤ j → j < sfr f b r i → f (b + j) < 2
  | 0, i, j, h1, h2 => by simp only [sfr] at h2; omega
  | r + 1, i, j, h1, h2 => by
    simp only [sfr] at h2
    by_cases h : f (b + i) < 2
    · rw [if_pos h] at h2
      by_cases hj : j = i
      · rw [hj]; exact h
      · exact sfr_lt r (i + 1) j (by omega) h2
    · rw [if_neg h] at h2; omega
theorem sfr_at {f : Nat → Int32} {b : Nat} : ∀ r i, sfr f b r i < i + r → ¬ f (b + sfr f b r i) < 2
  | 0, i, h => by simp only [sfr] at h; omega
  | r + 1, i, h => by
    simp only [sfr] at h ⊢
    by_cases h2 : f (b + i) < 2
    · rw [if_pos h2] at h ⊢; exact sfr_at r (i + 1) (by omega)
    · rw [if_neg h2]; exact h2
theorem x_slotFrom_l {S : St} {n : Nat} {c : Nat → Nat} (e : gI S 25 = nI n) (hn : n ≤ 60) (f7 : ∀ l, l < 60 → c l ≤ 8 ∧ gA S 23 l = nI (c l)) {l : Nat} (hl : l < n) (hk : ∀ k, k < c l → gA S 24 (8 * l + k) ≤ 11) : ∀ (r fuel i : Nat), i + r = c l → r < fuel → x_Lines_slotFrom_b2 fuel S (nI l) (nI i) = some (if sfr (gA S 24) (8 * l) r i < c l then nI (sfr (gA S 24) (8 * l) r i) else (-1), S)
  | r, 0, i, _, hf => absurd hf (by omega)
  | 0, fuel + 1, i, he, _ => by
    have h8 := f7 l (by omega)
    show x_Lines_slotFrom_b2_f _ S _ _ = _
    simp only [x_Lines_slotFrom_b2_f, x_kindsOf e hn f7 hl, bind_s, le_t (show c l ≤ i by omega) (by omega), if_true, sfr, eq_false (show ¬ i < c l by omega), if_false]
  | r + 1, fuel + 1, i, he, hf => by
    have h8 := f7 l (by omega)
    show x_Lines_slotFrom_b2_f (x_Lines_slotFrom_b2 fuel) S _ _ = _
    simp only [x_Lines_slotFrom_b2_f, x_kindsOf e hn f7 hl, bind_s, le_f (show i < c l by omega) (by omega), if_false, x_kindAt e hn f7 hl, rat_nI (show i < c l by omega) (by omega), x_isSlot, btw_slot (hk i (by omega)), nI_1, sfr]
    by_cases h : gA S 24 (8 * l + i) < 2
    · simp only [h, if_true]
      exact x_slotFrom_l e hn f7 hl hk r fuel (i + 1) (by omega) (by omega)
    · simp only [h, if_false, one_ne0]
      rw [if_pos (by omega)]
theorem nsl_mono {f : Nat → Int32} {b i : Nat} : ∀ n, i ≤ n → nsl f b i ≤ nsl f b n
  | 0, h => by rw [show i = 0 by omega]; exact Nat.le_refl _
  | n + 1, h => by
    by_cases e : i = n + 1
    · rw [e]; exact Nat.le_refl _
    · have := nsl_mono (f := f) (b := b) n (show i ≤ n by omega)
      simp only [nsl]; omega
/-- what may fill a slot -/
def fk (f : Nat → Int32) (kd : Int32) (t : Nat) : Bool := if kd = 2 then flg f 7 t && !flg f 8 t else if kd = 3 then flg f 6 t && !flg f 8 t else if kd = 4 then flg f 4 t else flg f 7 t && flg f 8 t
theorem x_fillers {S : St} {n : Nat} (hn : n ≤ 40) (e8 : gL S 4 = bs (flg (gA S 17) 7) n) (e9 : gL S 5 = bs (flg (gA S 17) 6) n) (e10 : gL S 6 = bs (flg (gA S 17) 4) n) (e11 : gL S 7 = bs (flg (gA S 17) 8) n) (kd : Int32) (hk : kd = 2 ∨ kd = 3 ∨ kd = 4 ∨ kd = 5) : x_Things_fillersFor S kd = some (bs (fk (gA S 17) kd) n, S) := by
  unfold x_Things_fillersFor
  rcases hk with rfl | rfl | rfl | rfl
  · rw [if_neg (by decide), if_pos rfl, e8, e11, bs_not (by omega)]
    exact congrArg some (Prod.ext (bs_eq n fun t _ => by unfold fk; rw [if_pos rfl]) rfl)
  · rw [if_neg (by decide), if_neg (by decide), if_pos rfl, e9, e11, bs_not (by omega)]
    exact congrArg some (Prod.ext (bs_eq n fun t _ => by unfold fk; rw [if_neg (by decide), if_pos rfl]) rfl)
  · rw [if_neg (by decide), if_neg (by decide), if_neg (by decide), if_pos rfl, e10]
    exact congrArg some (Prod.ext (bs_eq n fun t _ => by unfold fk; rw [if_neg (by decide), if_neg (by decide), if_pos rfl]) rfl)
  · rw [if_neg (by decide), if_neg (by decide), if_neg (by decide), if_neg (by decide), if_pos rfl, e8, e11, bs_and (by omega)]
    exact congrArg some (Prod.ext (bs_eq n fun t _ => by unfold fk; rw [if_neg (by decide), if_neg (by decide), if_neg (by decide)]) rfl)
theorem x_fillers_no {S : St} {kd : Int32} (h : 5 < kd) : x_Things_fillersFor S kd = some (0, S) := by
  unfold x_Things_fillersFor
  exact if_pos (Or.inr (Int32.lt_iff_toInt_lt.mp h))
theorem m_goesW {T : St} {t : Nat} (ht : t < 40) (kd : Int32) (hk : kd = 2 ∨ kd = 3 ∨ kd = 4 ∨ kd = 5) : m_M_goesWith T kd (nI t) = some (b2i (fk (gA T 8) kd t), T) := by
  unfold m_M_goesWith fk
  rcases hk with rfl | rfl | rfl | rfl
  · simp only [if_true, m_scope T ht, m_creat T ht, bind_s, b2i_0]
    cases flg (gA T 8) 7 t <;> cases flg (gA T 8) 8 t <;> rfl
  · simp only [q_3_2, if_false, if_true, m_held T ht, m_creat T ht, bind_s, b2i_0]
    cases flg (gA T 8) 6 t <;> cases flg (gA T 8) 8 t <;> rfl
  · simp only [q_4_2, q_4_3, if_false, if_true, m_worn T ht, bind_s, gd_t _ (b2i_B _)]
  · simp only [q_5_2, q_5_3, q_5_4, if_false, m_scope T ht, m_creat T ht, bind_s, b2i_0]
    cases flg (gA T 8) 7 t <;> cases flg (gA T 8) 8 t <;> rfl
/-- lines filled: F of them -/
def TrF (S T : St) (n nc l F m : Nat) : Prop := gI S 26 = nI l ∧ gI S 27 = nI nc ∧ gI S 28 = 0 ∧ gI T 7 = 0 ∧ gI S 29 = (-1) ∧ gI T 8 = (-1) ∧ gI S 11 = nI F ∧ gI T 12 = nI F ∧ EqN F (gA S 11) (gA T 17) ∧ gI S 12 = nI 0 ∧ gI T 11 = nI 0 ∧ Sl S T n nc m
def mFillE (k2 : St → Int32 → Int32 → Option (Int32 × St)) (T : St) (x1 x3 x4 : Int32) (w7 : Int64) : Option (Int32 × St) := (m_M_manyOf T w7).bind fun q1 =>
    if q1.1 = (1 : Int32) then
      (m_M_slot q1.2 x4 (gI q1.2 6)).bind fun q2 =>
      gd (vin ((gI q2 13) - (1 : Int32)) 2) <|
      (m_M_thingOf (sB q2 20 ((gI q2 13) - (1 : Int32)).toNatClampNeg w7) w7 (0 : Int32)).bind fun q3 =>
      gd (vin (gI (sB q2 20 ((gI q2 13) - (1 : Int32)).toNatClampNeg w7) 12) 8) <|
      m_M_isFilled_b197 k2 (sA q3.2 17 (gI (sB q2 20 ((gI q2 13) - (1 : Int32)).toNatClampNeg w7) 12).toNatClampNeg ((20000 : Int32) + q3.1)) x1 x3
    else
      some ((0 : Int32), q1.2)
theorem m_fill_l {T : St} {n : Nat} (hn : n ≤ 40) (e : gI T 3 = nI n) (k2 : St → Int32 → Int32 → Option (Int32 × St)) (x1 x3 kd : Int32) (hk : kd = 2 ∨ kd = 3 ∨ kd = 4 ∨ kd = 5) (w : Int64) : ∀ (r fuel i : Nat), i + r = n → r < fuel → m_M_isFilled_b92 k2 fuel T x1 x3 kd w (bs (fun t => fk (gA T 8) kd t && !bit w t) i) (nI i) = mFillE k2 T x1 x3 kd (bs (fun t => fk (gA T 8) kd t && !bit w t) n)
  | r, 0, i, _, hf => absurd hf (by omega)
  | 0, fuel + 1, i, he, _ => by
    show m_M_isFilled_b92_f _ _ T _ _ _ _ _ _ = _
    rw [show i = n by omega]
    unfold m_M_isFilled_b92_f
    rw [e, if_pos (nI_le (Nat.le_refl n) (by omega))]
    rfl
  | r + 1, fuel + 1, i, he, hf => by
    have ih := m_fill_l hn e k2 x1 x3 kd hk w r fuel (i + 1) (by omega) (by omega)
    show m_M_isFilled_b92_f k2 (m_M_isFilled_b92 k2 fuel) T _ _ _ _ _ _ = _
    simp only [m_M_isFilled_b92_f, m_M_isFilled_b132, m_M_isFilled_b134, e, le_f (show i < n by omega) (by omega), if_false, m_goesW (show i < 40 by omega) kd hk, bind_s, b2i_0, m_has T w (show i < 64 by omega), nI_1]
    simp only [bs] at ih
    cases hf1 : fk (gA T 8) kd i
    · simp only [hf1, Bool.false_and, Bool.false_eq_true, if_false] at ih
      simp only [if_true]
      exact ih
    · simp only [hf1, Bool.true_and] at ih
      simp only [Bool.true_eq_false, if_false]
      cases hw : bit w i
      · simp only [hw, Bool.not_false, if_true] at ih
        simp only [if_true]
        exact ih
      · simp only [hw, Bool.not_true, Bool.false_eq_true, if_false] at ih
        simp only [Bool.true_eq_false, if_false]
        exact ih
theorem m_b59_0 {T : St} (h : gI T 13 = nI 0) (k2 : St → Int32 → Int32 → Option (Int32 × St)) (x1 x3 kd : Int32) : m_M_isFilled_b59 k2 fu T x1 x3 kd 0 0 = m_M_isFilled_b92 k2 fu T x1 x3 kd 0 0 0 := by
  show m_M_isFilled_b59_f k2 (m_M_isFilled_b59 k2 99999) T _ _ _ _ _ = _
  unfold m_M_isFilled_b59_f
  rw [h, if_pos (by decide)]
theorem m_b59_1 {T : St} (h : gI T 13 = nI 1) (k2 : St → Int32 → Int32 → Option (Int32 × St)) (x1 x3 kd : Int32) : m_M_isFilled_b59 k2 fu T x1 x3 kd 0 0 = m_M_isFilled_b92 k2 fu T x1 x3 kd (gB T 20 0) 0 0 := by
  show m_M_isFilled_b59_f k2 (m_M_isFilled_b59 k2 99999) T _ _ _ _ _ = _
  unfold m_M_isFilled_b59_f
  rw [h, if_neg (by decide), gd_t _ (by decide), or_0]
  show m_M_isFilled_b59_f k2 (m_M_isFilled_b59 k2 99998) T _ _ _ _ _ = _
  unfold m_M_isFilled_b59_f
  rw [h, if_pos (by decide)]
  rfl
abbrev MFl (T : St) (m : Nat) (kd : Int32) (nc F : Nat) (v : Int64) (x : Int32) : St := sI (sA (sB (MS T m kd nc) 20 m v) 17 F x) 12 (nI (F + 1))
theorem m_fillE {T : St} {n nc l c i F m : Nat} (hn : n ≤ 40) (e : gI T 3 = nI n) (e6 : gI T 6 = nI nc) (hm : m < 2) (e13 : gI T 13 = nI m) (e12 : gI T 12 = nI F) (hF : F < 8) (hl : l < 60) (hc : c ≤ 8) (e5 : gA T 5 l = nI c) (hi : i < c) (k2 : St → Int32 → Int32 → Option (Int32 × St)) (kd : Int32) (v : Int64) : mFillE k2 T (nI l) (nI i) kd v = if card (bit v) n = 1 then k2 (MFl T m kd nc F v ((20000 : Int32) + nthE (bit v) n 0 0)) (nI l) (nI (nx (gA T 6) (8 * l) (c - (i + 1)) (i + 1))) else some (0, T) := by
  have hcl := card_le (p := bit v) n
  unfold mFillE
  rw [m_many e hn v, bind_s]
  dsimp only
  by_cases h1 : card (bit v) n = 1
  · rw [if_pos h1, h1, if_pos (by decide), e6, m_slot hm e13, bind_s]
    rw [show gI (MS T m kd nc) 13 = nI (m + 1) from rfl, nI_sub1, gd_t _ (vin_nI hm (by omega)), nI_clamp (show m < 2 ^ 31 by omega), show (0 : Int32) = nI 0 from rfl, m_thing (T := sB (MS T m kd nc) 20 m v) (n := n) e hn v (k := 0) (by omega), bind_s]
    rw [show gI (sB (MS T m kd nc) 20 m v) 12 = nI F from e12, gd_t _ (vin_nI hF (by omega)), nI_clamp (show F < 2 ^ 31 by omega)]
    unfold m_M_isFilled_b197
    dsimp only
    rw [show gI (sA (sB (MS T m kd nc) 20 m v) 17 F ((20000 : Int32) + nthE (bit v) n 0 0)) 12 = nI F from e12, nI_1, m_next (T := MFl T m kd nc F v ((20000 : Int32) + nthE (bit v) n 0 0)) hl hc e5 hi, bind_s]
    rfl
  · rw [if_neg h1, if_neg (show ¬ nI (card (bit v) n) = 1 from fun z => h1 ((nI_eq (b := 1) (by omega) (by omega)).mp z))]
theorem EqN.set {F : Nat} {f g : Nat → Int32} {v : Int32} (h : EqN F f g) : EqN (F + 1) (upd f F v) (upd g F v) := h.up

theorem fnd_none {w o : Nat → Int32} {x : Int32} : ∀ (n i : Nat), (∀ k, k < i + n → ¬ w k = x) → fnd w o x n i = (-1)
  | 0, _, _ => rfl
  | n + 1, i, h => by
    simp only [fnd]
    rw [if_neg (h i (by omega)), fnd_none n (i + 1) (fun k hk => h k (by omega))]
theorem VR.none {S T : St} (h : VR S T) : x_Verbs_find S (-1) = some (-1, S) := by
  obtain ⟨a, k, ha, hk, e1, e2, e3, e4, e5, e6, e7, e8, e9⟩ := h
  rw [x_find e3 e4 hk, fnd_none k 0 (fun j hj z => by
    have h8 := e8 j (by omega)
    rw [z] at h8
    exact absurd h8 (by decide))]
/-- whether a command ends at place i -/
theorem ends2 {S T : St} {ni i : Nat} (hV : VR S T) (h : INn S T ni) (hi : i < ni) (x1 x2 : Int32) (k16 : St → Int32 → Int32 → Int32 → Option (Int32 × St)) : (x_G_endsCommand S (nI i) = some (0, S) ∧ m_M_parse_b16_f k16 T x1 x2 (nI i) = k16 T x1 x2 (nI (i + 1))) ∨ (x_G_endsCommand S (nI i) = some (1, S) ∧ m_M_parse_b16_f k16 T x1 x2 (nI i) = m_M_parse_b87 T x1 x2 (nI i)) := by
  obtain ⟨h0, h1, h2, h3, h4⟩ := h
  have hn1 : nI i + (1 : Int32) = nI (i + 1) := nI_1 i
  have hm : m_M_parse_b16_f k16 T x1 x2 (nI i) = if gA S 5 i = 2 then m_M_parse_b87 T x1 x2 (nI i) else if gA S 5 i = 1 then m_M_parse_b55 k16 T x1 x2 (nI i) else if gA S 5 i = 7 then m_M_parse_b55 k16 T x1 x2 (nI i) else k16 T x1 x2 (nI (i + 1)) := by
    unfold m_M_parse_b16_f m_M_parse_b81
    rw [h2, if_neg (nI_ge hi (by omega)), gd_t _ (vin_nI (show i < 60 by omega) (by omega)), gd_t _ (vin_nI (show i < 60 by omega) (by omega)), gd_t _ (vin_nI (show i < 60 by omega) (by omega)), nI_clamp (show i < 2 ^ 31 by omega), ← h3 i hi, hn1]
  have hx : x_G_endsCommand S (nI i) = if gA S 5 i = 2 then some (1, S) else (x_G_isJoin S (gA S 5 i)).bind fun q2 => if q2.1 = 0 then some (0, q2.2) else (x_Row_at 5 q2.2 (nI (i + 1))).bind fun q3 => (x_Verbs_find q3.2 q3.1).bind fun q4 => if q4.1 = (-1) then some (0, q4.2) else some (1, q4.2) := by
    unfold x_G_endsCommand
    rw [x_at (r := 5) h1 (show ni ≤ 60 from h0) (by decide), bind_s]
    dsimp only
    rw [rat_nI hi (by omega), hn1]
  by_cases w2 : gA S 5 i = 2
  · refine Or.inr ⟨?_, ?_⟩
    · rw [hx, if_pos w2]
    · rw [hm, if_pos w2]
  rw [if_neg w2] at hx hm
  have join : (gA S 5 i = 1 ∨ gA S 5 i = 7) → (x_G_endsCommand S (nI i) = some (0, S) ∧ m_M_parse_b55 k16 T x1 x2 (nI i) = k16 T x1 x2 (nI (i + 1))) ∨ (x_G_endsCommand S (nI i) = some (1, S) ∧ m_M_parse_b55 k16 T x1 x2 (nI i) = m_M_parse_b87 T x1 x2 (nI i)) := by
    intro hj
    have hx2 : x_G_endsCommand S (nI i) = (x_Verbs_find S (rat (gA S 5) ni (nI (i + 1)))).bind fun q4 => if q4.1 = (-1) then some (0, q4.2) else some (1, q4.2) := by
      have hjn : x_G_isJoin S (gA S 5 i) = some (1, S) := by
        unfold x_G_isJoin
        rcases hj with hj | hj
        · rw [if_pos hj]
        · by_cases h1 : gA S 5 i = 1
          · rw [if_pos h1]
          · rw [if_neg h1, if_pos hj]
      rw [hx, hjn, bind_s]
      dsimp only
      rw [if_neg one_ne0, x_at (r := 5) h1 (show ni ≤ 60 from h0) (by decide), bind_s]
    unfold m_M_parse_b55 m_M_parse_b81
    rw [h2, hn1]
    by_cases hl : i + 1 < ni
    · obtain ⟨r, r1, r2⟩ := hV.find (gA S 5 (i + 1))
      rw [rat_nI hl (by omega), r1, bind_s] at hx2
      rw [if_neg (nI_ge hl (by omega)), gd_t _ (vin_nI (show i + 1 < 60 by omega) (by omega)), nI_clamp (show i + 1 < 2 ^ 31 by omega), ← h3 (i + 1) hl, r2, bind_s]
      dsimp only at hx2 ⊢
      by_cases hr : r = (-1)
      · rw [if_pos hr] at hx2
        rw [if_pos hr]
        exact Or.inl ⟨hx2, rfl⟩
      · rw [if_neg hr] at hx2
        rw [if_neg hr]
        exact Or.inr ⟨hx2, rfl⟩
    · rw [rat_no (by omega) (by omega), hV.none, bind_s] at hx2
      dsimp only at hx2
      rw [if_pos rfl] at hx2
      rw [if_pos (nI_le (show ni ≤ i + 1 by omega) (by omega))]
      exact Or.inl ⟨hx2, rfl⟩
  by_cases w1 : gA S 5 i = 1
  · rw [if_pos w1] at hm
    rw [hm]; exact join (Or.inl w1)
  rw [if_neg w1] at hm
  by_cases w7 : gA S 5 i = 7
  · rw [if_pos w7] at hm
    rw [hm]; exact join (Or.inr w7)
  rw [if_neg w7] at hm
  refine Or.inl ⟨?_, hm⟩
  rw [hx]
  unfold x_G_isJoin
  rw [if_neg w1, if_neg w7, bind_s]
  dsimp only
  rw [if_pos rfl]
theorem take_l {T : St} {ni : Nat} (x1 x2 : Int32) : ∀ (q fx fm i : Nat) (S : St), VR S T → INn S T ni → i + q = ni → gI S 7 = nI i → (∀ k, k < i → gA S 7 k = gA S 5 k) → q < fx → q < fm → ∃ (e : Nat) (S2 : St), e ≤ ni ∧ x_G_takeCommand_b9 fx S (nI i) = x_G_takeCommand_b49 S2 (nI e) ∧ m_M_parse_b16 fm T x1 x2 (nI i) = m_M_parse_b87 T x1 x2 (nI e) ∧ FrW 7 S S2 ∧ gI S2 7 = nI e ∧ ∀ k, k < e → gA S2 7 k = gA S 5 k
  | q, 0, fm, i, S, _, _, _, _, _, hf, _ => absurd hf (by omega)
  | q, fx + 1, 0, i, S, _, _, _, _, _, _, hf => absurd hf (by omega)
  | 0, fx + 1, fm + 1, i, S, hV, h, he, e7, ek, _, _ => by
    obtain ⟨h0, h1, h2, h3, h4⟩ := id h
    refine ⟨i, S, by omega, ?_, ?_, Fr.rf, e7, ek⟩
    · show x_G_takeCommand_b9_f _ S _ = _
      unfold x_G_takeCommand_b9_f
      rw [x_size, bind_s]
      dsimp only
      rw [h1, if_pos (nI_le (show ni ≤ i by omega) (by omega))]
    · show m_M_parse_b16_f _ T _ _ _ = _
      unfold m_M_parse_b16_f
      rw [h2, if_pos (nI_le (show ni ≤ i by omega) (by omega))]
  | q + 1, fx + 1, fm + 1, i, S, hV, h, he, e7, ek, hfx, hfm => by
    obtain ⟨h0, h1, h2, h3, h4⟩ := id h
    have hi : i < ni := by omega
    have hx : x_G_takeCommand_b9 (fx + 1) S (nI i) = (x_G_endsCommand S (nI i)).bind fun q4 => if q4.1 = 0 then (x_Row_at 5 q4.2 (nI i)).bind fun q5 => (x_Row_add 7 q5.2 q5.1).bind fun q6 => x_G_takeCommand_b9 fx q6 (nI i + 1) else x_G_takeCommand_b49 q4.2 (nI i) := by
      show x_G_takeCommand_b9_f _ S _ = _
      unfold x_G_takeCommand_b9_f
      rw [x_size, bind_s]
      dsimp only
      rw [h1, if_neg (nI_ge hi (by omega))]
    have hm : m_M_parse_b16 (fm + 1) T x1 x2 (nI i) = m_M_parse_b16_f (m_M_parse_b16 fm) T x1 x2 (nI i) := rfl
    rcases ends2 hV h hi x1 x2 (m_M_parse_b16 fm) with ⟨a1, a2⟩ | ⟨a1, a2⟩
    · rw [a1, bind_s] at hx
      dsimp only at hx
      rw [if_pos rfl, x_at (r := 5) h1 (show ni ≤ 60 from h0) (by decide), bind_s] at hx
      dsimp only at hx
      rw [rat_nI hi (by omega), x_add (r := 7) e7 (show i < 60 by omega) (by decide), bind_s, show nI i + (1 : Int32) = nI (i + 1) from nI_1 i] at hx
      have a3 : gA (sI (sA S 7 i (gA S 5 i)) 7 (nI (i + 1))) 7 = upd (gA S 7) i (gA S 5 i) := by rw [gA_sI, gA_sA, if_pos rfl]
      have fr : FrW 7 S (sI (sA S 7 i (gA S 5 i)) 7 (nI (i + 1))) := (Fr.rf.sA rfl).sI rfl
      obtain ⟨e, S2, g1, g2, g3, g4, g5, g6⟩ := take_l x1 x2 q fx fm (i + 1) (sI (sA S 7 i (gA S 5 i)) 7 (nI (i + 1))) hV h (by omega) rfl (by
        intro k hk
        rw [a3]
        by_cases hki : k = i
        · rw [hki, upd_self]; rfl
        · rw [upd_ne hki, ek k (by omega)]; rfl) (by omega) (by omega)
      exact ⟨e, S2, g1, hx.trans g2, hm.trans (a2.trans g3), fr.tr g4, g5, g6⟩
    · rw [a1, bind_s] at hx
      dsimp only at hx
      rw [if_neg one_ne0] at hx
      exact ⟨i, S, by omega, hx, hm.trans a2, Fr.rf, e7, ek⟩
abbrev TBg (T : St) : St := sI (sI (sI T 17 1) 21 0) 22 0
theorem btw_m1 (x : Int32) : btw (-1) 0 x = 0 := by unfold btw; rw [if_pos (by decide)]
theorem btw_out {b a : Nat} (ha : a < 2 ^ 30) (h : a ≤ b) (hb : b < 2 ^ 31) : btw (nI b) 0 (nI a - 1) = 0 := by
  by_cases h2 : btw (nI b) 0 (nI a - 1) = 0
  · exact h2
  · obtain ⟨j, j1, j2⟩ := btw_ix ha h2
    have := (nI_eq (by omega) (by omega)).mp j2
    omega
/-- the place of the error, as OOPS asks for it -/
def PlC (T : St) (x1 : Int32) : Prop := gI T 19 = (-1) ∨ (x1 = 1 ∧ ¬ gI T 18 = 0 ∧ ¬ gI T 18 = 1 ∧ ¬ gI T 18 = 3 ∧ ¬ gI T 18 = 4 ∧ ∃ b : Nat, b ≤ 60 ∧ gI T 19 = nI b)
def Can (T : St) (nc : Nat) : Prop := ∃ b : Nat, b < nc ∧ gI T 19 = nI b
theorem b125_no {T : St} {nc : Nat} {x1 : Int32} (e14 : gI T 14 = nI nc) (hn : nc ≤ 60) (h : PlC T x1) (hc : ¬ Can T nc) (x2 x3 x4 x5 : Int32) : m_M_parse_b125 T x1 x2 x3 x4 x5 = m_M_parse_b183 T x2 x3 x4 x5 := by
  have hw : btw (gI T 19) 0 (nI nc - 1) = 0 := by
    rcases h with h | ⟨-, -, -, -, -, b, b1, b2⟩
    · rw [h]; exact btw_m1 _
    · rw [b2]
      refine btw_out (by omega) ?_ (by omega)
      by_cases hb : nc ≤ b
      · exact hb
      · exact absurd ⟨b, by omega, b2⟩ hc
  unfold m_M_parse_b125
  by_cases c1 : x1 = 0
  · rw [if_pos c1]
  · rw [if_neg c1]
    by_cases c2 : gI T 18 = 0
    · rw [if_pos c2]
    · rw [if_neg c2]
      by_cases c3 : gI T 18 = 1
      · rw [if_pos c3]
      · rw [if_neg c3]
        by_cases c4 : gI T 18 = 3
        · rw [if_pos c4]
        · rw [if_neg c4]
          by_cases c5 : gI T 18 = 4
          · rw [if_pos c5]
          · rw [if_neg c5, m_within, bind_s, e14, hw]
            dsimp only
            rw [if_pos rfl]
theorem b125_can {T : St} {nc : Nat} {x1 : Int32} (e14 : gI T 14 = nI nc) (hn : nc ≤ 60) (h : PlC T x1) (hc : Can T nc) (x2 x3 x4 x5 : Int32) : m_M_parse_b125 T x1 x2 x3 x4 x5 = m_M_parse_b184 T x2 x3 x4 x5 1 := by
  obtain ⟨b, b1, b2⟩ := hc
  rcases h with h | ⟨h1, h2, h3, h4, h5, -⟩
  · rw [b2] at h; exact absurd h (m1_ne (by omega))
  · unfold m_M_parse_b125
    rw [h1, if_neg one_ne0, if_neg h2, if_neg h3, if_neg h4, if_neg h5, m_within, bind_s, e14, b2, btw_nI (by omega) b1]
    dsimp only
    rw [if_neg one_ne0]
/-- what ends the scan, in the reference -/
theorem b87_o {T : St} {nc ni : Nat} {x1 : Int32} (e14 : gI T 14 = nI nc) (hn : nc ≤ 60) (e5 : gI T 5 = nI ni) (hni : ni ≤ 60) (h2 : 2 ≤ ni) (h6 : gA T 14 0 = 6) (h : PlC T x1) (hc : Can T nc) (x2 : Int32) : m_M_parse_b87 T x1 x2 (nI 2) = m_M_parse_b216 (TBg T) x2 (gA T 14 1) (nI (if ni < 2 + 1 then ni else 2 + 1)) := by
  unfold m_M_parse_b87
  rw [if_pos (show nI 2 = 2 from rfl), gd_t _ (by decide), if_pos (show gA T 14 (Int32.toNatClampNeg 0) = 6 from h6)]
  unfold m_M_parse_b108
  rw [if_neg one_ne0, gd_t _ (by decide), b125_can e14 hn h hc]
  unfold m_M_parse_b184 m_M_begins
  rw [bind_s, if_neg one_ne0, if_neg one_ne0]
  show (if gI T 5 ≤ nI 2 then _ else _) = _
  rw [e5]
  by_cases hl : ni ≤ 2
  · rw [if_pos (nI_le hl (by omega)), if_pos (show ni < 2 + 1 by omega), show ni = 2 by omega]
    rfl
  · rw [if_neg (nI_ge (show 2 < ni by omega) (by omega)), if_neg (show ¬ ni < 2 + 1 by omega), show nI 2 + (1 : Int32) = nI (2 + 1) from nI_1 2]
    rfl
theorem b87_4 {T : St} {nc : Nat} {x1 : Int32} (e14 : gI T 14 = nI nc) (hn : nc ≤ 60) (h6 : gA T 14 0 = 6) (h : PlC T x1) (hc : ¬ Can T nc) (x2 : Int32) : m_M_parse_b87 T x1 x2 (nI 2) = m_M_parse_b240 (TBg T) (nI 2) 1 := by
  unfold m_M_parse_b87
  rw [if_pos (show nI 2 = 2 from rfl), gd_t _ (by decide), if_pos (show gA T 14 (Int32.toNatClampNeg 0) = 6 from h6)]
  unfold m_M_parse_b108
  rw [if_neg one_ne0, gd_t _ (by decide), b125_no e14 hn h hc]
  unfold m_M_parse_b183 m_M_parse_b184 m_M_begins
  rw [bind_s, if_neg one_ne0, if_pos rfl]
theorem b87_n {T : St} {nc e : Nat} {x1 : Int32} (e14 : gI T 14 = nI nc) (hn : nc ≤ 60) (he : e ≤ 60) (ho : ¬ (e = 2 ∧ gA T 14 0 = 6)) (h : PlC T x1) (x2 : Int32) : m_M_parse_b87 T x1 x2 (nI e) = m_M_parse_b240 (TBg T) (nI e) 0 := by
  have h107 : m_M_parse_b107 T x1 x2 (nI e) = m_M_parse_b240 (TBg T) (nI e) 0 := by
    unfold m_M_parse_b107 m_M_parse_b108
    rw [if_pos rfl]
    by_cases hc : Can T nc
    · rw [b125_can e14 hn h hc]
      unfold m_M_parse_b184 m_M_begins
      rw [bind_s, if_pos rfl]
    · rw [b125_no e14 hn h hc]
      unfold m_M_parse_b183 m_M_parse_b184 m_M_begins
      rw [bind_s, if_pos rfl]
  unfold m_M_parse_b87
  by_cases h2 : e = 2
  · rw [if_pos (show nI e = 2 by rw [h2]; rfl), gd_t _ (by decide), if_neg (show ¬ gA T 14 (Int32.toNatClampNeg 0) = 6 from fun z => ho ⟨h2, z⟩)]
    exact h107
  · rw [if_neg (n_2 h2 (by omega))]
    exact h107

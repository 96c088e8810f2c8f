theorem Ask15R.up {S T : St} {n nc : Nat} (h : Ask15R S T n nc) (hn : n + 1 ≤ 64) : Ask15R S T (n + 1) nc := by
  obtain ⟨p, b, p1, p2, p3, p4, p5, p6, p7⟩ := h
  have e1 : bs p (n + 1) = bs p n := bs_more hn (by omega) (fun k h1 _ => p1 k h1)
  have e2 : card p (n + 1) = card p n := card_more (n + 1) (by omega) (fun k h1 _ => p1 k h1)
  refine ⟨p, b, fun j hj => p1 j (by omega), p2.trans e1.symm, by rw [e2]; exact p3, ?_, p5, p6, p7⟩
  intro i hi hpi
  by_cases hin : i < n
  · exact p4 i hin hpi
  · rw [p1 i (by omega)] at hpi; cases hpi
theorem DnV.up {n : Nat} {cw : Nat → Int32} {k rs : Int32} {ra : Nat → Int32} {kT : Int32} {wT : Int64} {fT tT uT : Int32} (h : DnV n cw k rs ra kT wT fT tT uT) (hn : n + 1 ≤ 64) : DnV (n + 1) cw k rs ra kT wT fT tT uT := by
  obtain ⟨h1, h2, h3, h4, h5, h6⟩ := h
  refine ⟨h1, h2, h3, fun z => ?_, h5, h6⟩
  obtain ⟨p, p1, p2, p3, p4⟩ := h4 z
  have e1 : bs p (n + 1) = bs p n := bs_more hn (by omega) (fun k h1 _ => p1 k h1)
  have e2 : card p (n + 1) = card p n := card_more (n + 1) (by omega) (fun k h1 _ => p1 k h1)
  refine ⟨p, fun j hj => p1 j (by omega), p2.trans e1.symm, by rw [e2]; exact p3, ?_⟩
  intro i hi hpi
  by_cases hin : i < n
  · exact p4 i hin hpi
  · rw [p1 i (by omega)] at hpi; cases hpi
theorem DnF.up {S T : St} {n : Nat} (h : DnF S T n) (hn : n + 1 ≤ 64) : DnF S T (n + 1) := by
  obtain ⟨h1, m, h2⟩ := h
  refine ⟨h1, m, ?_⟩
  match m, h2 with
  | 0, ⟨s1, s2, s3⟩ => exact ⟨s1, s2, s3⟩
  | 1, ⟨s1, s2, s3⟩ => exact ⟨s1, DnV.up s2 hn, s3⟩
  | 2, ⟨s1, s2, s3⟩ => exact ⟨s1, DnV.up s2 hn, DnV.up s3 hn⟩
theorem RRn.up {S T : St} {n nl nc : Nat} (h : RRn S T n nl nc) (hn : n + 1 ≤ 64) : RRn S T (n + 1) nl nc := by
  obtain ⟨h1, h2, h3, h4, h5, h6, h7⟩ := h
  refine ⟨h1, h2, h3, h4, ?_, ?_, h7⟩
  · rcases h5 with h5 | ⟨a1, a2, a3⟩ | h5
    · exact Or.inl h5
    · exact Or.inr (Or.inl ⟨a1, a2, a3.up hn⟩)
    · exact Or.inr (Or.inr h5)
  · rcases h6 with h6 | ⟨a1, a2, a3, a4⟩
    · exact Or.inl h6
    · exact Or.inr ⟨a1, a2, a3, a4.up hn⟩
theorem RRn.ln {S T : St} {n nl nl2 nc : Nat} (h : RRn S T n nl nc) (hn : nl ≤ nl2) : RRn S T n nl2 nc := by
  obtain ⟨h1, h2, h3, h4, h5, h6, h7⟩ := h
  refine ⟨h1, h2, h3, h4, h5, ?_, h7⟩
  rcases h6 with h6 | ⟨a1, a2, ⟨l, b1, b2⟩, a4⟩
  · exact Or.inl h6
  · exact Or.inr ⟨a1, a2, ⟨l, by omega, b2⟩, a4⟩
theorem g_verb : Good_verb Rel := by
  rintro S T a ⟨n, c, nl, cl, nc, ⟨h1, h2, h3, h4, h5, h6, h7, h8, h9⟩, hR⟩
  rcases verb_step h1 a with ⟨r, e1, e2⟩ | ⟨v, k, e1, e2, e3⟩
  · exact ⟨r, S, T, e1, e2, n, c, nl, cl, nc, ⟨h1, h2, h3, h4, h5, h6, h7, h8, h9⟩, hR⟩
  · exact ⟨_, _, _, e1, e2, n, c, nl, cl, nc, ⟨e3, h2, h3, h4, h5, h6, h7, h8, h9⟩, hR⟩
theorem g_like : Good_like Rel := by
  rintro S T a b ⟨n, c, nl, cl, nc, ⟨h1, h2, h3, h4, h5, h6, h7, h8, h9⟩, hR⟩
  rcases like_step h1 a b with ⟨r, e1, e2⟩ | ⟨r, v, k, e1, e2, e3⟩
  · exact ⟨r, S, T, e1, e2, n, c, nl, cl, nc, ⟨h1, h2, h3, h4, h5, h6, h7, h8, h9⟩, hR⟩
  · exact ⟨_, _, _, e1, e2, n, c, nl, cl, nc, ⟨e3, h2, h3, h4, h5, h6, h7, h8, h9⟩, hR⟩
theorem g_line : Good_line Rel := by
  rintro S T a b d ⟨n, c, nl, cl, nc, ⟨h1, h2, h3, h4, h5, h6, h7, h8, h9⟩, hR⟩ hd
  rcases line_step h1 ⟨nl, cl, h3⟩ a b d hd with ⟨r, e1, e2⟩ | ⟨m, e0, e1, e2, n2, c2, e3⟩
  · exact ⟨r, S, T, e1, e2, n, c, nl, cl, nc, ⟨h1, h2, h3, h4, h5, h6, h7, h8, h9⟩, hR⟩
  · obtain ⟨l0, l1, -⟩ := id h3
    obtain ⟨m0, m1, -⟩ := id e3
    have hm2 : nI (m + 1) = nI n2 := m1
    have hR2 : RRn S T n n2 nc := by
      refine hR.ln ?_
      have q1 : m + 1 < 2 ^ 31 ∨ 2 ^ 31 ≤ m + 1 := by omega
      have q2 : nI m = nI nl := e0.symm.trans l1
      have q3 : nI (nl + 1) = nI n2 := by rw [← nI_1, ← q2, nI_1]; exact hm2
      have q4 := (nI_eq (by omega) (by omega)).mp q3
      omega
    exact ⟨_, _, _, e1, e2, n, c, n2, c2, nc, ⟨h1, h2, e3, h4, h5, h6, h7, h8, h9⟩, hR2⟩
theorem g_token : Good_token Rel := by
  rintro S T a b d ⟨n, c, nl, cl, nc, ⟨h1, h2, h3, h4, h5, h6, h7, h8, h9⟩, hR⟩
  rcases token_step ⟨nl, cl, h3⟩ a b d with ⟨r, e1, e2⟩ | ⟨l, k, e1, e2, ⟨n2, c2, e3⟩, e4⟩
  · exact ⟨r, S, T, e1, e2, n, c, nl, cl, nc, ⟨h1, h2, h3, h4, h5, h6, h7, h8, h9⟩, hR⟩
  · obtain ⟨l0, l1, -⟩ := id h3
    obtain ⟨m0, m1, -⟩ := id e3
    have hm2 : nI nl = nI n2 := l1.symm.trans m1
    have q4 := (nI_eq (by omega) (by omega)).mp hm2
    subst q4
    exact ⟨_, _, _, e1, e2, n, c, nl, c2, nc, ⟨h1, h2, e3, h4, e4 h5, h6, h7, h8, h9⟩, hR⟩
theorem g_thing : Good_thing Rel := by
  rintro S T a ⟨n, c, nl, cl, nc, ⟨h1, h2, h3, h4, h5, h6, h7, h8, h9⟩, hR⟩
  rcases thing_step ⟨n, c, h2⟩ a with ⟨r, e1, e2⟩ | ⟨m, e0, e1, e2, n2, c2, e3⟩
  · exact ⟨r, S, T, e1, e2, n, c, nl, cl, nc, ⟨h1, h2, h3, h4, h5, h6, h7, h8, h9⟩, hR⟩
  · obtain ⟨l0, l1, -⟩ := id h2
    obtain ⟨m0, m1, -⟩ := id e3
    have hm2 : nI (m + 1) = nI n2 := m1
    have q2 : nI m = nI n := e0.symm.trans l1
    have q3 : nI (n + 1) = nI n2 := by rw [← nI_1, ← q2, nI_1]; exact hm2
    have q4 := (nI_eq (by omega) (by omega)).mp q3
    subst q4
    have hR2 := hR.up (by omega)
    exact ⟨_, _, _, e1, e2, n + 1, c2, nl, cl, nc, ⟨h1, e3, h3, h4, h5, h6, h7, h8, h9⟩, hR2⟩
theorem g_name : Good_name Rel := by
  rintro S T a b ⟨n, c, nl, cl, nc, ⟨h1, h2, h3, h4, h5, h6, h7, h8, h9⟩, hR⟩
  rcases name_step ⟨n, c, h2⟩ a b with ⟨r, e1, e2⟩ | ⟨t, k, e1, e2, n2, c2, e3⟩
  · exact ⟨r, S, T, e1, e2, n, c, nl, cl, nc, ⟨h1, h2, h3, h4, h5, h6, h7, h8, h9⟩, hR⟩
  · obtain ⟨l0, l1, -⟩ := id h2
    obtain ⟨m0, m1, -⟩ := id e3
    have hm2 : nI n = nI n2 := l1.symm.trans m1
    have q4 := (nI_eq (by omega) (by omega)).mp hm2
    subst q4
    exact ⟨_, _, _, e1, e2, n, c2, nl, cl, nc, ⟨h1, e3, h3, h4, h5, h6, h7, h8, h9⟩, hR⟩
theorem g_flags : Good_flags Rel := by
  rintro S T a b ⟨n, c, nl, cl, nc, ⟨h1, h2, h3, h4, h5, h6, h7, h8, h9⟩, hR⟩
  rcases flags_step ⟨n, c, h2⟩ a b with ⟨r, e1, e2⟩ | ⟨r, m, t, e1, e2, n2, c2, e3⟩
  · exact ⟨r, S, T, e1, e2, n, c, nl, cl, nc, ⟨h1, h2, h3, h4, h5, h6, h7, h8, h9⟩, hR⟩
  · obtain ⟨l0, l1, -⟩ := id h2
    obtain ⟨m0, m1, -⟩ := id e3
    have hm2 : nI n = nI n2 := l1.symm.trans m1
    have q4 := (nI_eq (by omega) (by omega)).mp hm2
    subst q4
    exact ⟨_, _, _, e1, e2, n, c2, nl, cl, nc, ⟨h1, e3, h3, h4, h5, h6, h7, h8, h9⟩, hR⟩
theorem g_custom : Good_custom Rel := by
  rintro S T a b d ⟨n, c, nl, cl, nc, ⟨h1, h2, h3, h4, h5, h6, h7, h8, h9⟩, hR⟩
  rcases custom_step h4 a b d with ⟨r, e1, e2⟩ | ⟨m, e1, e2, e3⟩ | ⟨m, p, e1, e2, e3⟩
  · exact ⟨r, S, T, e1, e2, n, c, nl, cl, nc, ⟨h1, h2, h3, h4, h5, h6, h7, h8, h9⟩, hR⟩
  · exact ⟨_, _, _, e1, e2, n, c, nl, cl, nc, ⟨h1, h2, h3, e3, h5, h6, h7, h8, h9⟩, hR⟩
  · exact ⟨_, _, _, e1, e2, n, c, nl, cl, nc, ⟨h1, h2, h3, e3, h5, h6, h7, h8, h9⟩, hR⟩
theorem g_word : Good_word Rel := by
  rintro S T w ⟨n, c, nl, cl, nc, ⟨h1, h2, h3, h4, h5, ⟨ni, i0, i1, i2, i3, i4⟩, h7, h8, h9⟩, hR⟩
  have hI : IR S T := ⟨ni, i0, i1, i2, i3, i4⟩
  obtain ⟨r, w1, w2, w3⟩ := word2 S T w
  by_cases hr : r = 0
  · refine ⟨(-102), S, T, ?_, ?_, n, c, nl, cl, nc, ⟨h1, h2, h3, h4, h5, hI, h7, h8, h9⟩, hR⟩
    · unfold x_G_word
      rw [w1, bind_s]
      dsimp only
      rw [if_pos hr]
    · unfold m_M_word
      rw [w2, bind_s]
      dsimp only
      rw [if_pos hr]
  · have hx : x_G_word S w = if nI ni < 60 then (x_Row_add 5 S w).bind fun q3 => (x_Row_size 5 q3).bind fun q4 => some (q4.1, q4.2) else some (-104, S) := by
      unfold x_G_word
      rw [w1, bind_s]
      dsimp only
      rw [if_neg hr, x_size, bind_s]
      dsimp only
      rw [i1]
    have l2 : (nI ni = (60 : Int32)) = (ni = 60) := lit_eq 60 rfl (by omega) (by omega)
    have l3 : (nI ni < (60 : Int32)) = (ni < 60) := lit_lt 60 rfl (by omega) (by omega)
    by_cases h60 : ni < 60
    · have hw := w3 hr
      have a3 : gA (sI (sA S 5 ni w) 5 (nI (ni + 1))) 5 = upd (gA S 5) ni w := by rw [gA_sI, gA_sA, if_pos rfl]
      have b3 : gA (sI (sA T 14 ni w) 5 (nI (ni + 1))) 14 = upd (gA T 14) ni w := by rw [gA_sI, gA_sA, if_pos rfl]
      have hI2 : IR (sI (sA S 5 ni w) 5 (nI (ni + 1))) (sI (sA T 14 ni w) 5 (nI (ni + 1))) := by
        refine ⟨ni + 1, by omega, rfl, rfl, ?_, ?_⟩
        · rw [a3, b3]; exact i3.up
        · intro k hk
          rw [a3]
          by_cases e : k = ni
          · rw [e, upd_self]; exact hw
          · rw [upd_ne e]; exact i4 k (by omega)
      refine ⟨nI (ni + 1), sI (sA S 5 ni w) 5 (nI (ni + 1)), sI (sA T 14 ni w) 5 (nI (ni + 1)), ?_, ?_, n, c, nl, cl, nc, ⟨h1, h2, h3, h4, h5, hI2, h7, h8, h9⟩, hR⟩
      · rw [hx, if_pos (by rw [l3]; exact h60), x_add (r := 5) i1 (show ni < 60 from h60) (by decide), bind_s, x_size, bind_s]
        rfl
      · unfold m_M_word
        rw [w2, bind_s]
        dsimp only
        rw [if_neg hr, i2, if_neg (by rw [l2]; omega), gd_t _ (vin_nI h60 (by omega)), nI_clamp (show ni < 2 ^ 31 by omega), show gI (sA T 14 ni w) 5 = nI ni from i2, nI_1]
        rfl
    · refine ⟨(-104), S, T, ?_, ?_, n, c, nl, cl, nc, ⟨h1, h2, h3, h4, h5, hI, h7, h8, h9⟩, hR⟩
      · rw [hx, if_neg (by rw [l3]; exact h60)]
      · unfold m_M_word
        rw [w2, bind_s]
        dsimp only
        rw [if_neg hr, i2, if_pos (by rw [l2]; omega)]
theorem g_clear : Good_clear Rel := by
  rintro S T ⟨n, c, nl, cl, nc, hS, hR⟩
  obtain ⟨-, -, -, -, -, ⟨ni, i0, i1, i2, -⟩, -⟩ := id hS
  refine ⟨gI S 5, sI S 5 0, sI T 5 0, rfl, ?_, n, c, nl, cl, nc, hS.clear, hR⟩
  unfold m_M_clear
  rw [i2, i1]
theorem g_parse : Good_parse Rel := by
  rintro S T ⟨n, c, nl, cl, nc, h⟩
  obtain ⟨r, S2, T2, nc2, a1, a2, a3⟩ := parse_step h
  exact ⟨r, S2, T2, a1, a2, n, c, nl, cl, nc2, a3⟩
theorem g_answer : Good_answer Rel := by
  rintro S T w ⟨n, c, nl, cl, nc, h⟩
  obtain ⟨r, S2, T2, nc2, a1, a2, a3⟩ := answer_step h w
  exact ⟨r, S2, T2, a1, a2, n, c, nl, cl, nc2, a3⟩
theorem g_object : Good_object Rel := by
  rintro S T a b ⟨n, c, nl, cl, nc, h⟩
  obtain ⟨r, a1, a2⟩ := object_step h a b
  exact ⟨r, S, T, a1, a2, n, c, nl, cl, nc, h⟩
theorem g_asked : Good_asked Rel := by
  rintro S T a ⟨n, c, nl, cl, nc, h⟩
  obtain ⟨r, a1, a2⟩ := asked_step h a
  exact ⟨r, S, T, a1, a2, n, c, nl, cl, nc, h⟩
theorem g_filled : Good_filled Rel := by
  rintro S T a ⟨n, c, nl, cl, nc, h⟩
  obtain ⟨r, a1, a2⟩ := filled_step h a
  exact ⟨r, S, T, a1, a2, n, c, nl, cl, nc, h⟩
theorem g_told : Good_told Rel := by
  rintro S T a ⟨n, c, nl, cl, nc, h⟩
  obtain ⟨r, a1, a2⟩ := told_step h a
  exact ⟨r, S, T, a1, a2, n, c, nl, cl, nc, h⟩
theorem g_trace : Good_trace Rel := by
  rintro S T a b ⟨n, c, nl, cl, nc, h⟩
  obtain ⟨r, a1, a2⟩ := trace_step h a b
  exact ⟨r, S, T, a1, a2, n, c, nl, cl, nc, h⟩
theorem g_said : Good_said Rel := by
  rintro S T a b ⟨n, c, nl, cl, nc, h⟩
  obtain ⟨r, a1, a2⟩ := said_step h a b
  exact ⟨r, S, T, a1, a2, n, c, nl, cl, nc, h⟩
theorem good_all : GoodAll Rel := ⟨g_verb, g_like, g_line, g_token, g_thing, g_name, g_flags, g_custom, g_word, g_clear, g_parse, g_answer, g_object, g_asked, g_filled, g_told, g_trace, g_said⟩
theorem rel_0 : Rel xS0 mS0 := by
  refine ⟨0, fun _ => 0, 0, fun _ => 0, 0, ⟨?_, ?_, ?_, ?_, ?_, ?_, ?_, ?_, rfl⟩, ⟨0, ?_⟩, rfl, rfl, rfl, Or.inl ⟨rfl, ?_, ?_⟩, Or.inl ⟨rfl, rfl⟩, Or.inl rfl⟩
  · exact ⟨0, 0, by omega, by omega, rfl, rfl, rfl, rfl, rfl, fun k hk => absurd hk (by omega), fun k hk => absurd hk (by omega), fun k hk => absurd hk (by omega), fun k hk => absurd hk (by omega)⟩
  · exact ⟨by omega, rfl, rfl, fun k hk => absurd hk (by omega), fun t _ => ⟨Nat.zero_le _, rfl⟩, fun k hk => absurd hk (by omega), fun _ _ => rfl, fun k _ hk => absurd hk (by omega), rfl, rfl, rfl, rfl⟩
  · exact ⟨by omega, rfl, rfl, fun k hk => absurd hk (by omega), fun k hk => absurd hk (by omega), fun k hk => absurd hk (by omega), fun k hk => absurd hk (by omega), fun k hk => absurd hk (by omega), fun t _ => ⟨Nat.zero_le _, rfl⟩, fun k hk => absurd hk (by omega), fun _ _ => rfl, fun k _ hk => absurd hk (by omega), fun k hk => absurd hk (by omega)⟩
  · exact ⟨0, by omega, rfl, rfl, rfl, rfl, fun k hk => absurd hk (by omega), fun k hk => absurd hk (by omega), fun k hk => absurd hk (by omega), fun k hk => absurd hk (by omega)⟩
  · intro l k _ h1 h2 _
    exact absurd h1 (nI_pos (by omega))
  · exact ⟨0, by omega, rfl, rfl, fun k hk => absurd hk (by omega), fun k hk => absurd hk (by omega)⟩
  · exact ⟨by omega, rfl, rfl, fun k hk => absurd hk (by omega), fun k hk => absurd hk (by omega)⟩
  · exact Or.inl ⟨rfl, rfl⟩
  · exact ⟨by omega, rfl, rfl, rfl, rfl, fun k hk => absurd hk (by omega), fun k hk => absurd hk (by omega), fun k hk => absurd hk (by omega)⟩
  · show ¬ (0 : Int32) = 15; decide
  · show ¬ (0 : Int32) = 16; decide

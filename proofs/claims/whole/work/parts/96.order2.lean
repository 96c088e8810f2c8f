theorem x_b56 {S : St} {ni m : Nat} (e5 : gI S 5 = nI ni) (h60 : ni ≤ 60) (e21 : gI S 21 = nI m) (hm : m ≤ ni) : x_G_takeOrder_b56 S 1 = if m < ni ∧ gA S 5 m = 7 then (if m + 1 < ni then (x_Row_dropFirst 5 S (nI (m + 1))).bind fun q5 => (x_Things_firstOf q5 (gL q5 2)).bind fun q6 => some (q6.1, q6.2) else some (-1, S)) else some (-1, S) := by
  unfold x_G_takeOrder_b56
  rw [if_neg one_ne0, e21, x_at (r := 5) e5 (show ni ≤ 60 from h60) (by decide), bind_s]
  dsimp only
  have hr := rat_is (cw := gA S 5) (nc := ni) (a := m) h60 (by omega) (w := 7) (by decide)
  by_cases h7 : m < ni ∧ gA S 5 m = 7
  · have h7r : rat (gA S 5) ni (nI m) = 7 := by rw [hr]; exact h7
    rw [if_pos h7r, if_pos h7, x_size, bind_s]
    dsimp only
    rw [e5, show nI m + (1 : Int32) = nI (m + 1) from nI_1 m]
    by_cases hl : m + 1 < ni
    · rw [if_pos (nI_lt hl (by omega)), if_pos hl]
    · rw [if_neg (nI_nlt (by omega) (by omega)), if_neg hl]
  · have h7r : ¬ rat (gA S 5) ni (nI m) = 7 := by rw [hr]; exact h7
    rw [if_neg h7r, if_neg h7]
theorem creat_iff {p g : Nat → Bool} {n t : Nat} (hn : n ≤ 40) (ht : t < n) (h : ∀ j, j < n → p j = true → j = t) (hp : p t = true) : (bs p n &&& bs g n = 0) ↔ g t = false := by
  rw [bs_and (by omega), bs_zero (by omega)]
  constructor
  · intro z
    have z1 := z t ht
    simp only [hp, Bool.true_and] at z1
    exact z1
  · intro z k hk
    by_cases hpk : p k = true
    · rw [h k hk hpk, z, Bool.and_false]
    · simp [hpk]
/-- who is spoken to -/
theorem order_step {S T : St} {n nl nc : Nat} {c cl : Nat → Nat} (h : RelS S T n c nl cl nc) : ∃ to S2 T2, x_G_takeOrder S = some (to, S2) ∧ m_M_order T = some T2 ∧ RelS (sI S2 35 to) T2 n c nl cl nc ∧ gI S2 31 = gI S 31 ∧ gI S2 32 = gI S 32 ∧ gI S2 35 = gI S 35 ∧ gI T2 17 = gI T 17 ∧ gI T2 18 = gI T 18 ∧ gI T2 19 = gI T 19 ∧ ∀ j : Nat, j ≤ 1 → gI T 5 = nI j → ∃ T0, FrY T T0 ∧ T2 = sI T0 15 (-1) := by
  obtain ⟨hV, hTh, hL, hP, hO, hI, hC, hD, hW⟩ := id h
  obtain ⟨n0, n1, n2, n3, n4, n5, n6, n7, n8, n9, n10, n11⟩ := id hTh
  obtain ⟨ni, i0, i1, i2, i3, i4⟩ := id hI
  obtain ⟨T1, t1, t2⟩ := m_take14_l i0 ni fu 0 T (by omega) (show ni < 100000 by omega)
  obtain ⟨TB, hTB⟩ : ∃ TB, TB = sI T1 6 (nI ni) := ⟨_, rfl⟩
  have fT : FrY T TB := by rw [hTB]; exact t2.y.sI rfl
  have hTk : ∀ k, ¬ k = 6 → gI TB k = gI T k := fun k hk => by rw [hTB, gI_sI, if_neg hk]; exact t2.1.1 k rfl
  have hta : m_M_take_14 T (nI ni) = some TB := by rw [hTB]; exact t1
  obtain ⟨m, hm⟩ : ∃ m, plen (phZ (gA S 19) (gA S 17) c (gA S 5) 0 n) (ni - 0) 0 = m := ⟨_, rfl⟩
  have hml : m ≤ ni := by
    have := (plen_le (z := phZ (gA S 19) (gA S 17) c (gA S 5) 0 n) (ni - 0) 0).1
    omega
  have ew : ∀ k, k < ni → gA S 5 k = gA TB 15 k := by
    intro k hk
    rw [hTB]
    show gA S 5 k = gA T1 15 k
    rw [t2.2.2 k (by omega) hk]
    exact i3 k hk
  have eg : ∀ t k, t < n → k < c t → gA S 19 (4 * t + k) = gA TB 10 (4 * t + k) := by
    intro t k ht hk; rw [fT.2.2.1 10 rfl]; exact n7 t k ht hk
  have ef : ∀ t, t < n → gA S 17 t = gA TB 8 t := by
    intro t ht; rw [fT.2.2.1 8 rfl]; exact n3 t ht
  have hm2 : plen (phZ (gA TB 10) (gA TB 8) c (gA TB 15) 0 n) (ni - 0) 0 = m := by
    rw [← hm]; exact (plen_eq2 (by omega) eg ef ew).symm
  obtain ⟨W, hWW⟩ : ∃ W, bs (phP (gA S 19) (gA S 17) c (gA S 5) 0 m) n = W := ⟨_, rfl⟩
  have hW2 : bs (phP (gA TB 10) (gA TB 8) c (gA TB 15) 0 m) n = W := by
    rw [← hWW]; exact (phbs_eq eg ef (fun k hk => ew k (by omega))).symm
  have hx := x_ph19 (r := 5) (S0 := S) (nc := ni) (a := 0) n1 n0 n4 n8 i1 (show ni ≤ 60 from i0) (by decide) (by decide) (by omega)
  rw [hm, hWW, Nat.zero_add] at hx
  have hx2 : x_Phrase_find_19 5 S (0 : Int32) = some (nz m, sI (sL S 2 W) 21 (nI m)) := hx
  have e6 : gI TB 6 = nI ni := by rw [hTB]; rfl
  have e3 : gI TB 3 = nI n := (fT.1 3 rfl).trans n2
  have hmm := m_ph (T0 := TB) (a := 0) (nr := ni) (c := c) e3 n0 (fun t ht => (n4 t (by omega)).1) (fun t ht => by rw [fT.2.2.1 9 rfl]; exact n5 t ht) e6 i0 (by omega)
  rw [hm2, hW2] at hmm
  have hm3 : m_M_phrase TB (0 : Int32) = some (nI m, sL TB 0 (if m = 0 then 0 else W)) := hmm
  have fX : FrX S (sI (sL S 2 W) 21 (nI m)) := (Fr.rf.sL rfl).sI rfl
  have fY : ∀ V, FrY T (sL TB 0 V) := fun V => fT.sL rfl
  have no : ∀ V, RelS (sI (sI (sL S 2 W) 21 (nI m)) 35 (-1)) (sI (sL TB 0 V) 15 (-1)) n c nl cl nc := fun V => (h.frx fX (fY V)).to (-1)
  by_cases h0 : m = 0
  · refine ⟨-1, sI (sL S 2 W) 21 (nI m), sI (sL TB 0 (if m = 0 then 0 else W)) 15 (-1), ?_, ?_, no _, rfl, rfl, rfl, hTk 17 (by decide), hTk 18 (by decide), hTk 19 (by decide), fun _ _ _ => ⟨_, fY _, rfl⟩⟩
    · unfold x_G_takeOrder
      rw [hx2, bind_s]
      dsimp only
      rw [if_pos (show nz m = 0 by rw [h0]; rfl)]
    · unfold m_M_order
      rw [i2, hta, bind_s, hm3, bind_s]
      dsimp only
      rw [if_pos (show nI m ≤ 0 by rw [h0]; decide)]
  rw [if_neg h0] at hm3
  have hcl := card_le (p := bit W) n
  have h64 : card (bit W) 64 = card (bit W) n := card_more 64 (by omega) (fun k k1 _ => by rw [← hWW, bit_bs (by omega)]; simp [show ¬ k < n by omega])
  have hbW : bs (bit W) n = W := by
    rw [← hWW]
    exact bs_eq n (fun k hk => by rw [bit_bs (by omega)]; simp [hk])
  have hxo : x_G_takeOrder S = if card (bit W) n = 1 then (if W &&& gL S 7 = 0 then x_G_takeOrder_b56 (sI (sL S 2 W) 21 (nI m)) 0 else x_G_takeOrder_b56 (sI (sL S 2 W) 21 (nI m)) 1) else some (-1, sI (sL S 2 W) 21 (nI m)) := by
    unfold x_G_takeOrder
    rw [hx2, bind_s]
    dsimp only
    rw [nz_pos h0, if_neg one_ne0, show gL (sI (sL S 2 W) 21 (nI m)) 2 = W from rfl, x_bitCount, bind_s]
    dsimp only
    rw [h64]
    by_cases h1 : card (bit W) n = 1
    · rw [if_pos (show nI (card (bit W) n) = 1 by rw [h1]; rfl), if_pos h1]
      rw [show gL (sI (sL S 2 W) 21 (nI m)) 2 = W from rfl, show gL (sI (sL S 2 W) 21 (nI m)) 7 = gL S 7 from rfl]
      by_cases hz : W &&& gL S 7 = 0
      · rw [if_pos hz, if_pos (by rw [cmp_eq]; exact hz)]
      · rw [if_neg hz, if_neg (by rw [cmp_eq]; exact hz)]
    · rw [if_neg (n_1 h1 (by omega)), if_neg h1]
  obtain ⟨TC, hTC⟩ : ∃ TC, TC = sI (sL TB 0 W) 15 (-1) := ⟨_, rfl⟩
  have c3 : gI TC 3 = nI n := by rw [hTC]; exact e3
  have cW : gL TC 0 = W := by rw [hTC]; rfl
  have fC17 : gI TC 17 = gI T 17 := by rw [hTC]; exact hTk 17 (by decide)
  have fC18 : gI TC 18 = gI T 18 := by rw [hTC]; exact hTk 18 (by decide)
  have fC19 : gI TC 19 = gI T 19 := by rw [hTC]; exact hTk 19 (by decide)
  have noC : RelS (sI (sI (sL S 2 W) 21 (nI m)) 35 (-1)) TC n c nl cl nc := by rw [hTC]; exact no W
  have hmo : m_M_order T = if card (bit W) n = 1 then ((m_M_thingOf TC W 0).bind fun q4 => (m_M_isCreature q4.2 q4.1).bind fun q5 => if q5.1 = 0 then some q5.2 else (m_M_stands q5.2 (nI m) 7).bind fun q6 => if q6.1 = 0 then some q6.2 else if gI q6.2 5 ≤ nI m + 1 then some q6.2 else (m_M_thingOf q6.2 (gL q6.2 0) 0).bind fun q7 => (m_M_off (sI q7.2 15 q7.1) (nI m + 1)).bind fun q8 => some q8) else some TC := by
    unfold m_M_order
    rw [i2, hta, bind_s, hm3, bind_s]
    dsimp only
    rw [if_neg (nI_nle (by omega) (by omega)), ← hTC, cW, m_many c3 n0, bind_s]
    dsimp only
    rw [cW]
    by_cases h1 : card (bit W) n = 1
    · rw [if_pos (show nI (card (bit W) n) = 1 by rw [h1]; rfl), if_pos h1]
    · rw [if_neg (n_1 h1 (by omega)), if_neg h1]
  rw [hxo, hmo]
  by_cases h1 : card (bit W) n = 1
  · obtain ⟨t, tn, tp, tu⟩ := card_1 n h1
    have hth : nthE (bit W) n 0 0 = nI t := nthE_1 h1 tu
    have hmt : m_M_thingOf TC W 0 = some (nI t, TC) := by
      have := m_thing (k := 0) c3 n0 W (by omega)
      rw [hth] at this
      exact this
    have hcr := creat_iff (g := flg (gA S 17) 8) n0 tn tu tp
    rw [hbW, ← n11] at hcr
    have hfl : flg (gA TC 8) 8 t = flg (gA S 17) 8 t := by
      unfold flg
      rw [hTC]
      rw [show gA (sI (sL TB 0 W) 15 (-1)) 8 t = gA S 17 t from (ef t tn).symm]
    rw [if_pos h1, if_pos h1, hmt, bind_s]
    dsimp only
    rw [m_creat TC (show t < 40 by omega), bind_s, hfl]
    dsimp only
    by_cases hf : flg (gA S 17) 8 t = false
    · have hb0 : b2i (flg (gA S 17) 8 t) = 0 := by rw [hf]; rfl
      rw [if_pos (hcr.mpr hf), if_pos hb0]
      refine ⟨-1, _, _, rfl, rfl, noC, rfl, rfl, rfl, fC17, fC18, fC19, fun _ _ _ => ⟨_, fY W, hTC⟩⟩
    · have hb0 : ¬ b2i (flg (gA S 17) 8 t) = 0 := by rw [b2i_0]; exact hf
      have c6 : gI TC 6 = nI ni := by rw [hTC]; exact e6
      have cw : ∀ k, k < ni → gA S 5 k = gA TC 15 k := by rw [hTC]; exact ew
      have c5 : gI TC 5 = nI ni := by rw [hTC]; exact (fT.1 5 rfl).trans i2
      have c14 : gA TC 14 = gA T 14 := by rw [hTC]; exact fT.2.2.1 14 rfl
      rw [if_neg (fun z => hf (hcr.mp z)), if_neg hb0, m_stands c6 i0 (by omega), bind_s, x_b56 (S := sI (sL S 2 W) 21 (nI m)) i1 i0 rfl hml]
      dsimp only
      rw [show gA (sI (sL S 2 W) 21 (nI m)) 5 = gA S 5 from rfl]
      by_cases h7 : m < ni ∧ gA S 5 m = 7
      · have h7m : m < ni ∧ gA TC 15 m = 7 := ⟨h7.1, by rw [← cw m h7.1]; exact h7.2⟩
        rw [if_pos h7, if_pos h7m, if_neg one_ne0, c5, show nI m + (1 : Int32) = nI (m + 1) from nI_1 m]
        by_cases hl : m + 1 < ni
        · rw [if_pos hl, if_neg (nI_ge hl (by omega)), cW, hmt, bind_s]
          dsimp only
          have hIN : INn (sI (sL S 2 W) 21 (nI m)) (sI TC 15 (nI t)) ni := ⟨i0, i1, c5, by show EqN ni (gA S 5) (gA TC 14); rw [c14]; exact i3, i4⟩
          obtain ⟨S3, d1, d2, d3⟩ := x_drop (m := m + 1) hIN (by omega)
          rw [if_neg (show ¬ ni < m + 1 by omega)] at d3
          obtain ⟨T3, o1, o2, o3⟩ := m_off hIN (by omega) d3
          rw [d1, bind_s, show gL S3 2 = W from d2.2.1 2 rfl, x_first (S := S3) (n := n) ((d2.1 23 rfl).trans n1) n0, bind_s, hth, o1, bind_s]
          dsimp only
          refine ⟨nI t, S3, T3, rfl, rfl, ?_, d2.1 31 rfl, d2.1 32 rfl, d2.1 35 rfl, (o2.1 17 rfl).trans fC17, (o2.1 18 rfl).trans fC18, (o2.1 19 rfl).trans fC19, fun j hj hj5 => absurd ((nI_eq (by omega) (by omega)).mp (i2.symm.trans hj5)) (by omega)⟩
          have fSU : FrU S (sI S3 35 (nI t)) := ((FrX.u fX).tr (FrW.u d2 rfl rfl)).sI rfl
          have fTZ : FrZ T T3 := by
            refine Fr.tr ?_ (FrJ.z o2)
            rw [hTC]
            exact ((FrY.z (fY W)).sI rfl).sI rfl
          refine h.gen fSU fTZ o3 ?_ ?_ ?_
          · have hc2 := noC.2.2.2.2.2.2.1
            unfold CRn at hc2 ⊢
            rw [show gI (sI S3 35 (nI t)) 6 = gI S3 6 from rfl, d2.1 6 rfl, o2.1 14 rfl, show gA (sI S3 35 (nI t)) 6 = gA S3 6 from rfl, d2.2.2.1 6 rfl, o2.2.2.1 24 rfl]
            exact hc2
          · have hc2 := noC.2.2.2.2.2.2.2.1
            unfold DR at hc2 ⊢
            rw [show gI (sI S3 35 (nI t)) 8 = gI S3 8 from rfl, d2.1 8 rfl, o2.1 23 rfl, show gA (sI S3 35 (nI t)) 8 = gA S3 8 from rfl, d2.2.2.1 8 rfl, o2.2.2.1 28 rfl, show gI (sI S3 35 (nI t)) 36 = gI S3 36 from rfl, d2.1 36 rfl, o2.1 24 rfl]
            exact hc2
          · exact (o2.1 15 rfl).symm
        · rw [if_neg hl, if_pos (nI_le (show ni ≤ m + 1 by omega) (by omega))]
          exact ⟨-1, _, _, rfl, rfl, noC, rfl, rfl, rfl, fC17, fC18, fC19, fun _ _ _ => ⟨_, fY W, hTC⟩⟩
      · have h7m : ¬ (m < ni ∧ gA TC 15 m = 7) := fun z => h7 ⟨z.1, by rw [cw m z.1]; exact z.2⟩
        rw [if_neg h7, if_neg h7m, if_pos rfl]
        exact ⟨-1, _, _, rfl, rfl, noC, rfl, rfl, rfl, fC17, fC18, fC19, fun _ _ _ => ⟨_, fY W, hTC⟩⟩
  · rw [if_neg h1, if_neg h1]
    exact ⟨-1, _, _, rfl, rfl, noC, rfl, rfl, rfl, fC17, fC18, fC19, fun _ _ _ => ⟨_, fY W, hTC⟩⟩

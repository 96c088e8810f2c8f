/-- class and reference fill in step -/
theorem fill_l {n nl nc l : Nat} {c cl : Nat → Nat} (hl : l < nl) : ∀ (r i fx fm F : Nat) (S T : St), SC S T n c nl cl nc → i + r = cl l → (∀ j, i ≤ j → j < cl l → ¬ 5 < gA S 24 (8 * l + j)) → TrF S T n nc l F (nsl (gA S 24) (8 * l) i) → F ≤ i → r < fx → r < fm → ∃ x S2 T2, x_Trial_fillFrom_b2 fx S (nI i) = some (x, S2) ∧ m_M_isFilled_b2 fm T (nI l) (nI (nx (gA T 6) (8 * l) r i)) = some (x, T2) ∧ FrF S S2 ∧ FrG T T2 ∧ (x = 0 ∨ (x = 1 ∧ ∃ F', F' ≤ 8 ∧ TrF S2 T2 n nc l F' (nsl (gA S 24) (8 * l) (cl l))))
  | r, i, 0, fm, F, S, T, _, _, _, _, _, hf, _ => absurd hf (by omega)
  | r, i, fx + 1, 0, F, S, T, _, _, _, _, _, _, hf => absurd hf (by omega)
  | 0, i, fx + 1, fm + 1, F, S, T, h, he, h5, ht, hF, _, _ => by
    obtain ⟨g1, g2, g3, g4, g5, g6, g7, g8⟩ := h.lx hl ht.1
    obtain ⟨-, ⟨hnl, f1, f2, f3, f4, f5, f6, f6b, f7, f8, f9, f10, f11⟩, -⟩ := id h
    have h8 := g3 l (by omega)
    have hi : i = cl l := by omega
    refine ⟨1, S, T, ?_, ?_, Fr.rf, Fr.rf, Or.inr ⟨rfl, F, by omega, by rw [← hi]; exact ht⟩⟩
    · show x_Trial_fillFrom_b2_f _ S _ = _
      unfold x_Trial_fillFrom_b2_f
      rw [g6, x_kindsOf g1 g2 g3 g4, bind_s]
      dsimp only
      rw [if_pos (nI_le (show cl l ≤ i by omega) (by omega))]
    · show m_M_isFilled_b2_f _ T _ _ = _
      unfold m_M_isFilled_b2_f
      rw [show nx (gA T 6) (8 * l) 0 i = i from rfl, gd_t _ (vin_nI (show l < 60 by omega) (by omega)), nI_clamp (show l < 2 ^ 31 by omega), f8 l hl, if_pos (nI_le (show cl l ≤ i by omega) (by omega))]
  | r + 1, i, fx + 1, fm + 1, F, S, T, h, he, h5, ht, hF, hfx, hfm => by
    obtain ⟨g1, g2, g3, g4, g5, g6, g7, g8⟩ := h.lx hl ht.1
    obtain ⟨⟨hn, e1, e2, e3, e4, e5, e6, e7, e8, e9, e10, e11⟩, ⟨hnl, f1, f2, f3, f4, f5, f6, f6b, f7, f8, f9, f10, f11⟩, -, ⟨hnc, w1, w2, w3, w4⟩⟩ := id h
    have h8 := g3 l (by omega)
    have hic : i < cl l := by omega
    have hst : x_Trial_fillFrom_b2 (fx + 1) S (nI i) = x_Trial_fillFrom_b2_f (x_Trial_fillFrom_b2 fx) S (nI i) := rfl
    unfold x_Trial_fillFrom_b2_f at hst
    rw [g6, x_kindsOf g1 g2 g3 g4, bind_s] at hst
    dsimp only at hst
    rw [if_neg (nI_ge hic (by omega)), g6, x_kindAt g1 g2 g3 g4, bind_s, rat_nI hic (by omega)] at hst
    dsimp only at hst
    have hb := g5 i hic
    have hb5 := h5 i (Nat.le_refl i) hic
    have hkT := (f10 l i hl hic).1
    have hoT := (f10 l i hl hic).2
    have hns : nsl (gA S 24) (8 * l) (i + 1) = nsl (gA S 24) (8 * l) i + (if gA S 24 (8 * l + i) < 2 then 0 else 1) := rfl
    have h5' : ∀ j, i + 1 ≤ j → j < cl l → ¬ 5 < gA S 24 (8 * l + j) := fun j h1 h2 => h5 j (by omega) h2
    have hnx : nx (gA T 6) (8 * l) (r + 1) i = if gA T 6 (8 * l + i) = 1 then nx (gA T 6) (8 * l) r (i + 1) else i := rfl
    have hmono : nsl (gA S 24) (8 * l) (i + 1) ≤ 2 := Nat.le_trans (nsl_mono (cl l) (by omega)) (f11 l hl).2.2.2
    have hmt : ∀ fm, m_M_isFilled_b2 (fm + 1) T (nI l) (nI i) = if gA T 6 (8 * l + i) = 0 then m_M_isFilled_b197 (m_M_isFilled_b2 fm) (sA T 17 F (gA T 7 (8 * l + i))) (nI l) (nI i) else m_M_isFilled_b59 (m_M_isFilled_b2 fm) fu T (nI l) (nI i) (gA T 6 (8 * l + i)) 0 0 := by
      intro fm
      show m_M_isFilled_b2_f (m_M_isFilled_b2 fm) T _ _ = _
      unfold m_M_isFilled_b2_f
      rw [gd_t _ (vin_nI (show l < 60 by omega) (by omega)), nI_clamp (show l < 2 ^ 31 by omega), f8 l hl, if_neg (nI_ge hic (by omega)), ix8c, gd_t _ (vin_nI (show 8 * l + i < 480 by omega) (by omega)), nI_clamp (show 8 * l + i < 2 ^ 31 by omega)]
      rw [gd_t _ (vin_nI (show 8 * l + i < 480 by omega) (by omega)), ht.2.2.2.2.2.2.2.1, gd_t _ (vin_nI (show F < 8 by omega) (by omega)), nI_clamp (show F < 2 ^ 31 by omega)]
    rw [← hkT] at hnx hmt
    generalize hkd : gA S 24 (8 * l + i) = kd at hst hb hb5 hns hnx hmt
    by_cases h0 : kd = 0
    · rw [if_pos (by rw [h0]; decide), Nat.add_zero] at hns
      rw [if_neg (by rw [h0]; decide)] at hnx
      rw [if_pos h0, g6, x_ofAt g1 g2 g3 g4, bind_s, rat_nI hic (by omega)] at hst
      dsimp only at hst
      rw [x_add (r := 11) (n := F) ht.2.2.2.2.2.2.1 (show F < 8 by omega) (by decide), bind_s] at hst
      unfold x_Trial_fillFrom_b134 at hst
      rw [show nI i + (1 : Int32) = nI (i + 1) from nI_1 i] at hst
      have hm := hmt fm
      unfold m_M_isFilled_b197 at hm
      rw [if_pos h0, show gI (sA T 17 F (gA T 7 (8 * l + i))) 12 = nI F from ht.2.2.2.2.2.2.2.1, nI_1, m_next (T := sI (sA T 17 F (gA T 7 (8 * l + i))) 12 (nI (F + 1))) (l := l) (c := cl l) (k := i) (by omega) h8.1 (f8 l hl) hic, bind_s, show cl l - (i + 1) = r by omega] at hm
      dsimp only at hm
      have fS : FrF S (sI (sA S 11 F (gA S 25 (8 * l + i))) 11 (nI (F + 1))) := (Fr.rf.sA rfl).sI rfl
      have fT : FrG T (sI (sA T 17 F (gA T 7 (8 * l + i))) 12 (nI (F + 1))) := (Fr.rf.sA rfl).sI rfl
      have hTr : TrF (sI (sA S 11 F (gA S 25 (8 * l + i))) 11 (nI (F + 1))) (sI (sA T 17 F (gA T 7 (8 * l + i))) 12 (nI (F + 1))) n nc l (F + 1) (nsl (gA S 24) (8 * l) (i + 1)) := by
        rw [hns]
        obtain ⟨t1, t2, t3, t4, t5, t6, t7, t8, t9, t10, t11, t12⟩ := ht
        refine ⟨t1, t2, t3, t4, t5, t6, rfl, rfl, ?_, t10, t11, ?_⟩
        · rw [show gA (sI (sA S 11 F (gA S 25 (8 * l + i))) 11 (nI (F + 1))) 11 = upd (gA S 11) F (gA S 25 (8 * l + i)) by show gA (sA S 11 F (gA S 25 (8 * l + i))) 11 = _; rw [gA_sA, if_pos rfl], show gA (sI (sA T 17 F (gA T 7 (8 * l + i))) 12 (nI (F + 1))) 17 = upd (gA T 17) F (gA T 7 (8 * l + i)) by show gA (sA T 17 F (gA T 7 (8 * l + i))) 17 = _; rw [gA_sA, if_pos rfl], hoT]
          exact t9.up
        · generalize nsl (gA S 24) (8 * l) i = m at t12 ⊢
          match m, t12 with
          | 0, z => exact z
          | 1, z => exact z
          | 2, z => exact z
      obtain ⟨x, S2, T2, q1, q2, q3, q4, q5⟩ := fill_l hl r (i + 1) fx fm (F + 1) _ _ (h.fr fS.t fT.m) (by omega) h5' hTr (by omega) (by omega) (by omega)
      refine ⟨x, S2, T2, hst.trans q1, ?_, fS.tr q3, fT.tr q4, q5⟩
      rw [hnx, hm]; exact q2
    rw [if_neg h0, x_isSlot, bind_s, btw_slot hb.2] at hst
    dsimp only at hst
    by_cases h2 : kd < 2
    · have hk1 : kd = 1 := (k01 hb.1 h2).resolve_left h0
      rw [if_pos h2, Nat.add_zero] at hns
      rw [if_pos hk1] at hnx
      rw [if_pos h2, if_pos rfl] at hst
      unfold x_Trial_fillFrom_b134 at hst
      rw [show nI i + (1 : Int32) = nI (i + 1) from nI_1 i] at hst
      obtain ⟨x, S2, T2, q1, q2, q3, q4, q5⟩ := fill_l hl r (i + 1) fx (fm + 1) F S T h (by omega) h5' (by rw [hns]; exact ht) (by omega) (by omega) (by omega)
      refine ⟨x, S2, T2, hst.trans q1, ?_, q3, q4, q5⟩
      rw [hnx]; exact q2
    · have hk := k2345 h2 hb5
      rw [if_neg h2] at hns
      rw [if_neg (fun z => by rw [z] at h2; exact h2 (by decide))] at hnx
      rw [if_neg h2, if_neg one_ne0, x_fillers hn e8 e9 e10 e11 kd hk, bind_s] at hst
      dsimp only at hst
      have hm := hmt fm
      rw [if_neg h0] at hm
      rw [hns] at hmono
      generalize hmv : nsl (gA S 24) (8 * l) i = m at ht hns hmono
      have hm2 : m < 2 := by omega
      have ham : ∃ w, gL S 0 ||| gL S 1 = w ∧ m_M_isFilled_b59 (m_M_isFilled_b2 fm) fu T (nI l) (nI i) kd 0 0 = m_M_isFilled_b92 (m_M_isFilled_b2 fm) fu T (nI l) (nI i) kd w 0 0 := by
        obtain ⟨t1, t2, t3, t4, t5, t6, t7, t8, t9, t10, t11, t12⟩ := id ht
        match m, hm2, t12 with
        | 0, _, ⟨s1, s2, s3⟩ => exact ⟨0, by rw [s2.2.1, s3.2.1]; rfl, m_b59_0 s1 _ _ _ _⟩
        | 1, _, ⟨s1, s2, s3⟩ => exact ⟨gB T 20 0, by rw [s3.2.1, or_z]; exact s2.2.2.1, m_b59_1 s1 _ _ _ _⟩
      obtain ⟨w, hw1, hw2⟩ := ham
      have hml := m_fill_l hn e2 (m_M_isFilled_b2 fm) (nI l) (nI i) kd hk w n fu 0 (by omega) (show n < 100000 by omega)
      have heq : bs (fun t => fk (gA T 8) kd t && !bit w t) n = bs (fun t => fk (gA S 17) kd t && !bit w t) n := bs_eq n fun t ht => by unfold fk flg; rw [e3 t ht]
      have h13 : gI T 13 = nI m := by
        obtain ⟨t1, t2, t3, t4, t5, t6, t7, t8, t9, t10, t11, t12⟩ := id ht
        match m, hm2, t12 with
        | 0, _, z => exact z.1
        | 1, _, z => exact z.1
      have h17 : gI S 17 = (-1) ↔ m = 0 := by
        obtain ⟨t1, t2, t3, t4, t5, t6, t7, t8, t9, t10, t11, t12⟩ := id ht
        match m, hm2, t12 with
        | 0, _, z => exact ⟨fun _ => rfl, fun _ => z.2.1.1⟩
        | 1, _, z => exact ⟨fun q => absurd q z.2.1.k, fun q => absurd q (by decide)⟩
      rw [heq, m_fillE (nc := nc) (F := F) (m := m) (c := cl l) hn e2 w2 hm2 h13 ht.2.2.2.2.2.2.2.1 (by omega) (by omega) h8.1 (f8 l hl) hic] at hml
      rw [hw1, bs_nb (by omega)] at hst
      obtain ⟨v, hv⟩ : ∃ v, v = bs (fun t => fk (gA S 17) kd t && !bit w t) n := ⟨_, rfl⟩
      rw [← hv] at hst hml
      have hcd : card (bit v) 64 = card (bit v) n := by
        rw [hv, card_bs (by omega)]
        exact card_eq n fun k hk => by rw [bit_bs (by omega)]; simp [hk]
      rw [x_bitCount, bind_s, hcd] at hst
      dsimp only at hst
      have hcl := card_le (p := bit v) n
      replace hm := (hm.trans hw2).trans hml
      by_cases hc : card (bit v) n = 1
      · rw [if_pos hc] at hm
        rw [if_pos (by rw [hc]; decide), x_fillX g7 g8 ht.2.2.2.2.2.2.1 (show F < 8 by omega), show nI i + (1 : Int32) = nI (i + 1) from nI_1 i] at hst
        generalize (20000 : Int32) + nthE (bit v) n 0 0 = tx at hst hm
        match m, hm2, ht, hns, h17, hm, hmv with
        | 0, _, ht, hns, h17, hm, hmv =>
          rw [if_pos (h17.mpr rfl)] at hst
          have fS : FrF S (XFl0 S kd F v tx) := ((((Fr.rf.sI rfl).sI rfl).sL rfl).sA rfl).sI rfl
          have fT : FrG T (MFl T 0 kd nc F v tx) := ((((((Fr.rf.sA rfl).sA rfl).sB rfl).sI rfl).sB rfl).sA rfl).sI rfl
          have hTr := fill_open0 (x := tx) ht hk hv
          obtain ⟨x, S2, T2, q1, q2, q3, q4, q5⟩ := fill_l hl r (i + 1) fx fm (F + 1) _ _ (h.fr fS.t fT.m) (by omega) h5' (by rw [show nsl (gA (XFl0 S kd F v tx) 24) (8 * l) (i + 1) = 1 from hns]; exact hTr) (by omega) (by omega) (by omega)
          refine ⟨x, S2, T2, hst.trans q1, ?_, fS.tr q3, fT.tr q4, q5⟩
          rw [hnx, hm, show cl l - (i + 1) = r by omega]; exact q2
        | 1, _, ht, hns, h17, hm, hmv =>
          rw [if_neg (fun z => absurd (h17.mp z) (by decide))] at hst
          have fS : FrF S (XFl1 S kd F v tx) := ((((Fr.rf.sI rfl).sI rfl).sL rfl).sA rfl).sI rfl
          have fT : FrG T (MFl T 1 kd nc F v tx) := ((((((Fr.rf.sA rfl).sA rfl).sB rfl).sI rfl).sB rfl).sA rfl).sI rfl
          have hTr := fill_open1 (x := tx) ht hk hv
          obtain ⟨x, S2, T2, q1, q2, q3, q4, q5⟩ := fill_l hl r (i + 1) fx fm (F + 1) _ _ (h.fr fS.t fT.m) (by omega) h5' (by rw [show nsl (gA (XFl1 S kd F v tx) 24) (8 * l) (i + 1) = 2 from hns]; exact hTr) (by omega) (by omega) (by omega)
          refine ⟨x, S2, T2, hst.trans q1, ?_, fS.tr q3, fT.tr q4, q5⟩
          rw [hnx, hm, show cl l - (i + 1) = r by omega]; exact q2
      · rw [if_neg hc] at hm
        rw [if_neg (show ¬ nI (card (bit v) n) = 1 from fun z => hc ((nI_eq (b := 1) (by omega) (by omega)).mp z))] at hst
        exact ⟨0, S, T, hst, by rw [hnx]; exact hm, Fr.rf, Fr.rf, Or.inl rfl⟩
def mEndX (T : St) (x1 x2 x3 x4 : Int32) : Option St := if x3 = 0 then (m_M_fails T (5 : Int32) (gI T 6)).bind fun q4 => some q4 else if x4 = 0 then m_M_ends_b101 T x1 x2 else (m_M_isFilled T x1 x2).bind fun q3 => if q3.1 = 0 then m_M_ends_b101 q3.2 x1 x2 else some q3.2
theorem m_ends_l {T : St} {l c : Nat} (hl : l < 60) (hc : c ≤ 8) (e5 : gA T 5 l = nI c) (x2 : Int32) : ∀ (r fuel i s : Nat) (x4 : Int32), s ≤ i → i + r = c → r < fuel → ∃ (s' : Nat) (x4' : Int32), m_M_ends_b8 fuel T (nI l) x2 (nI s) x4 (nI i) = mEndX T (nI l) x2 (nI s') x4' ∧ s' ≤ 8 ∧ (s' = 0 ↔ s = 0 ∧ c ≤ sfr (gA T 6) (8 * l) r i) ∧ (x4' = 0 ↔ x4 = 0 ∨ ∃ j, i ≤ j ∧ j < c ∧ 5 < gA T 6 (8 * l + j))
  | r, 0, i, s, x4, _, _, hf => absurd hf (by omega)
  | 0, fuel + 1, i, s, x4, hs, he, _ => by
    refine ⟨s, x4, ?_, by omega, ?_, ?_⟩
    · show m_M_ends_b8_f _ T _ _ _ _ _ = _
      unfold m_M_ends_b8_f
      rw [gd_t _ (vin_nI hl (by omega)), nI_clamp (show l < 2 ^ 31 by omega), e5, if_pos (nI_le (show c ≤ i by omega) (by omega))]
      rfl
    · simp only [sfr]; omega
    · exact ⟨fun z => Or.inl z, fun z => z.resolve_right (fun ⟨j, j1, j2, _⟩ => by omega)⟩
  | r + 1, fuel + 1, i, s, x4, hs, he, hf => by
    have hst : m_M_ends_b8 (fuel + 1) T (nI l) x2 (nI s) x4 (nI i) = m_M_ends_b8_f (m_M_ends_b8 fuel) T (nI l) x2 (nI s) x4 (nI i) := rfl
    unfold m_M_ends_b8_f at hst
    rw [gd_t _ (vin_nI hl (by omega)), nI_clamp (show l < 2 ^ 31 by omega), e5, if_neg (nI_ge (show i < c by omega) (by omega)), ix8c, gd_t _ (vin_nI (show 8 * l + i < 480 by omega) (by omega)), nI_clamp (show 8 * l + i < 2 ^ 31 by omega), m_isSlot, bind_s] at hst
    dsimp only at hst
    have hsf : sfr (gA T 6) (8 * l) (r + 1) i = if gA T 6 (8 * l + i) < 2 then sfr (gA T 6) (8 * l) r (i + 1) else i := rfl
    have hex : (∃ j, i ≤ j ∧ j < c ∧ 5 < gA T 6 (8 * l + j)) ↔ 5 < gA T 6 (8 * l + i) ∨ ∃ j, i + 1 ≤ j ∧ j < c ∧ 5 < gA T 6 (8 * l + j) := by
      constructor
      · rintro ⟨j, j1, j2, j3⟩
        by_cases hj : j = i
        · rw [hj] at j3; exact Or.inl j3
        · exact Or.inr ⟨j, by omega, j2, j3⟩
      · rintro (z | ⟨j, j1, j2, j3⟩)
        · exact ⟨i, Nat.le_refl i, by omega, z⟩
        · exact ⟨j, by omega, j2, j3⟩
    have key : ∀ (s1 : Nat), m_M_ends_b47 (m_M_ends_b8 fuel) T (nI l) x2 x4 (nI i) (gA T 6 (8 * l + i)) (nI s1) (nI s) = m_M_ends_b8 fuel T (nI l) x2 (nI (s + s1)) (if x4 = 0 then 0 else if 5 < gA T 6 (8 * l + i) then 0 else 1) (nI (i + 1)) := by
      intro s1
      unfold m_M_ends_b47 m_M_ends_b64 m_M_ends_b65
      rw [nI_add, show nI i + (1 : Int32) = nI (i + 1) from nI_1 i]
      by_cases a : x4 = 0
      · rw [if_pos a, if_pos a]
      · rw [if_neg a, if_neg a]
        by_cases b : 5 < gA T 6 (8 * l + i)
        · rw [if_pos b, if_pos b]
        · rw [if_neg b, if_neg b]
    have k0 := key 0
    have k1 := key 1
    rw [show nI 0 = (0 : Int32) from rfl] at k0
    rw [show nI 1 = (1 : Int32) from rfl] at k1
    have h4 : (if x4 = 0 then (0 : Int32) else if 5 < gA T 6 (8 * l + i) then 0 else 1) = 0 ↔ x4 = 0 ∨ 5 < gA T 6 (8 * l + i) := by
      by_cases a : x4 = 0
      · rw [if_pos a]; exact ⟨fun _ => Or.inl a, fun _ => rfl⟩
      · rw [if_neg a]
        by_cases b : 5 < gA T 6 (8 * l + i)
        · rw [if_pos b]; exact ⟨fun _ => Or.inr b, fun _ => rfl⟩
        · rw [if_neg b]; exact ⟨fun z => absurd z one_ne0, fun z => absurd z (by rintro (z | z); exact a z; exact b z)⟩
    by_cases h2 : gA T 6 (8 * l + i) < 2
    · rw [if_pos h2, if_pos rfl, k0] at hst
      obtain ⟨s', x4', q1, q2, q3, q4⟩ := m_ends_l hl hc e5 x2 r fuel (i + 1) (s + 0) (if x4 = 0 then 0 else if 5 < gA T 6 (8 * l + i) then 0 else 1) (by omega) (by omega) (by omega)
      refine ⟨s', x4', hst.trans q1, q2, ?_, ?_⟩
      · rw [q3, hsf, if_pos h2]; exact Iff.rfl
      · rw [q4, h4, hex, or_assoc]
    · rw [if_neg h2, if_neg one_ne0, k1] at hst
      obtain ⟨s', x4', q1, q2, q3, q4⟩ := m_ends_l hl hc e5 x2 r fuel (i + 1) (s + 1) (if x4 = 0 then 0 else if 5 < gA T 6 (8 * l + i) then 0 else 1) (by omega) (by omega) (by omega)
      refine ⟨s', x4', hst.trans q1, q2, ?_, ?_⟩
      · rw [q3, hsf, if_neg h2]; omega
      · rw [q4, h4, hex, or_assoc]
/-- the words told with the question what -/
theorem tell_l {n nl l L : Nat} {cl : Nat → Nat} (hL : L < cl l) : ∀ (r i fx fm q : Nat) (S T : St), LX S nl cl l n → ORd S → (∀ k, k < cl l → gA S 24 (8 * l + k) = gA T 6 (8 * l + k) ∧ gA S 25 (8 * l + k) = gA T 7 (8 * l + k)) → i + r = L → (∀ j, i ≤ j → j < L → gA S 24 (8 * l + j) < 2) → ¬ gA S 24 (8 * l + L) < 2 → gI S 12 = nI (q + 1) → gI T 11 = nI q → q ≤ i → gA S 12 0 = gA S 24 (8 * l + L) → (∀ j, j < q → gA S 12 (j + 1) = gA T 16 j ∧ 0 < gA T 16 j ∧ gA T 16 j ≤ 19999) → r < fx → r < fm → ∃ S2 T2, x_Trial_fillOrAsk_b59 fx S (nI L) (nI i) = some S2 ∧ m_M_ends_b119 fm T (nI l) (nI i) = some T2 ∧ FrT S S2 ∧ FrM T T2 ∧ gI S2 28 = 16 ∧ gI S2 29 = gI S 27 ∧ gI T2 7 = gI T 7 ∧ gI T2 8 = gI T 8 ∧ gI S2 26 = gI S 26 ∧ Ask16 S2 T2
  | r, i, 0, fm, q, S, T, _, _, _, _, _, _, _, _, _, _, _, hf, _ => absurd hf (by omega)
  | r, i, fx + 1, 0, q, S, T, _, _, _, _, _, _, _, _, _, _, _, _, hf => absurd hf (by omega)
  | 0, i, fx + 1, fm + 1, q, S, T, h, hO, h10, he, hlt, hL2, e12, e11, hq, hk0, htl, _, _ => by
    obtain ⟨g1, g2, g3, g4, g5, g6, g7, g8⟩ := id h
    have h8 := g3 l (by omega)
    have hi : i = L := by omega
    refine ⟨sI (sI S 28 16) 29 (gI S 27), sI T 10 (gA T 6 (8 * l + L)), ?_, ?_, (Fr.rf.sI rfl).sI rfl, Fr.rf.sI rfl, rfl, rfl, rfl, rfl, rfl, q, by omega, e12, e11, ?_, htl⟩
    · show x_Trial_fillOrAsk_b59_f _ S _ _ = _
      unfold x_Trial_fillOrAsk_b59_f
      rw [if_pos (nI_le (show L ≤ i by omega) (by omega))]
      rfl
    · show m_M_ends_b119_f _ T _ _ = _
      unfold m_M_ends_b119_f
      rw [hi, ix8c, gd_t _ (vin_nI (show 8 * l + L < 480 by omega) (by omega)), nI_clamp (show 8 * l + L < 2 ^ 31 by omega), m_isSlot, bind_s]
      dsimp only
      rw [← (h10 L hL).1, if_neg hL2, if_neg one_ne0, gd_t _ (vin_nI (show 8 * l + L < 480 by omega) (by omega)), (h10 L hL).1]
    · exact hk0.trans (h10 L hL).1
  | r + 1, i, fx + 1, fm + 1, q, S, T, h, hO, h10, he, hlt, hL2, e12, e11, hq, hk0, htl, hfx, hfm => by
    obtain ⟨g1, g2, g3, g4, g5, g6, g7, g8⟩ := id h
    have h8 := g3 l (by omega)
    have hic : i < cl l := by omega
    have hb := g5 i hic
    have hst : x_Trial_fillOrAsk_b59 (fx + 1) S (nI L) (nI i) = x_Trial_fillOrAsk_b59_f (x_Trial_fillOrAsk_b59 fx) S (nI L) (nI i) := rfl
    unfold x_Trial_fillOrAsk_b59_f x_Trial_fillOrAsk_b98 at hst
    rw [if_neg (nI_ge (show i < L by omega) (by omega)), g6, x_kindAt g1 g2 g3 g4, bind_s, rat_nI hic (by omega)] at hst
    dsimp only at hst
    have hm : m_M_ends_b119 (fm + 1) T (nI l) (nI i) = m_M_ends_b119_f (m_M_ends_b119 fm) T (nI l) (nI i) := rfl
    unfold m_M_ends_b119_f m_M_ends_b183 at hm
    rw [ix8c, gd_t _ (vin_nI (show 8 * l + i < 480 by omega) (by omega)), nI_clamp (show 8 * l + i < 2 ^ 31 by omega), m_isSlot, bind_s] at hm
    dsimp only at hm
    rw [← (h10 i hic).1, if_pos (hlt i (Nat.le_refl i) (by omega)), if_pos rfl, gd_t _ (vin_nI (show 8 * l + i < 480 by omega) (by omega)), gd_t _ (vin_nI (show 8 * l + i < 480 by omega) (by omega)), e11, gd_t _ (vin_nI (show q < 8 by omega) (by omega)), nI_clamp (show q < 2 ^ 31 by omega), ← (h10 i hic).2] at hm
    by_cases h0 : gA S 24 (8 * l + i) = 0
    · rw [if_pos h0, g6, x_ofAt g1 g2 g3 g4, bind_s, rat_nI hic (by omega)] at hst
      dsimp only at hst
      rw [x_add (r := 12) (n := q + 1) e12 (show q + 1 < 40 by omega) (by decide), bind_s, show nI i + (1 : Int32) = nI (i + 1) from nI_1 i] at hst
      rw [if_pos h0, show gI (sA T 16 q (gA S 25 (8 * l + i))) 11 = nI q from e11, nI_1, show nI i + (1 : Int32) = nI (i + 1) from nI_1 i] at hm
      obtain ⟨S2, T2, k1, k2, k3, k4, k5, k6, k7, k8, k9, k10⟩ := tell_l (n := n) (nl := nl) hL r (i + 1) fx fm (q + 1) (sI (sA S 12 (q + 1) (gA S 25 (8 * l + i))) 12 (nI (q + 1 + 1))) (sI (sA T 16 q (gA S 25 (8 * l + i))) 11 (nI (q + 1))) h hO h10 (by omega) (fun j j1 j2 => hlt j (by omega) j2) hL2 rfl rfl (by omega) (by
        show gA (sA S 12 (q + 1) (gA S 25 (8 * l + i))) 12 0 = _
        rw [gA_sA, if_pos rfl, upd_ne (by omega)]; exact hk0) (by
        intro j hj
        show gA (sA S 12 (q + 1) (gA S 25 (8 * l + i))) 12 (j + 1) = gA (sA T 16 q (gA S 25 (8 * l + i))) 16 j ∧ 0 < gA (sA T 16 q (gA S 25 (8 * l + i))) 16 j ∧ gA (sA T 16 q (gA S 25 (8 * l + i))) 16 j ≤ 19999
        rw [gA_sA, if_pos rfl, gA_sA, if_pos rfl]
        by_cases hjq : j = q
        · rw [hjq, upd_self, upd_self]
          exact ⟨rfl, hO l i (by omega) (by rw [h8.2]; exact nI_lt hic (by omega)) (by omega) h0⟩
        · rw [upd_ne (by omega), upd_ne hjq]; exact htl j (by omega)) (by omega) (by omega)
      exact ⟨S2, T2, hst.trans k1, hm.trans k2, ((Fr.rf.sA rfl).sI rfl).tr k3, ((Fr.rf.sA rfl).sI rfl).tr k4, k5, k6, k7, k8, k9, k10⟩
    · rw [if_neg h0, show nI i + (1 : Int32) = nI (i + 1) from nI_1 i] at hst hm
      obtain ⟨S2, T2, k1, k2, k3, k4, k5, k6, k7, k8, k9, k10⟩ := tell_l (n := n) (nl := nl) hL r (i + 1) fx fm q S T h hO h10 (by omega) (fun j j1 j2 => hlt j (by omega) j2) hL2 e12 e11 (by omega) hk0 htl (by omega) (by omega)
      exact ⟨S2, T2, hst.trans k1, hm.trans k2, k3, k4, k5, k6, k7, k8, k9, k10⟩
theorem sfr_eq {f g : Nat → Int32} {b : Nat} : ∀ r i, (∀ k, k < i + r → f (b + k) = g (b + k)) → sfr f b r i = sfr g b r i
  | 0, _, _ => rfl
  | r + 1, i, h => by
    simp only [sfr]
    rw [h i (by omega), sfr_eq r (i + 1) (fun k hk => h k (by omega))]
theorem Ask16.q12 {S T : St} (h : Ask16 S T) : Q12 S := by
  obtain ⟨q, h1, h2, -⟩ := h
  exact ⟨q + 1, by omega, h2⟩
theorem ends_step {S T : St} {n nl nc l k m : Nat} {c cl : Nat → Nat} (h : SC S T n c nl cl nc) (ht : Tr0 S T n nc l nc m) (hl : l < nl) (hk : k < cl l) (hm : m = nsl (gA S 24) (8 * l) k) (h1 : ¬ gA S 24 (8 * l + k) = 1) : ∃ S2 T2, x_Trial_fillOrAsk S (nI k) = some S2 ∧ m_M_ends T (nI l) (nI k) = some T2 ∧ FrT S S2 ∧ FrM T T2 ∧ (TrE S2 T2 n nc l ∨ ∃ F m', F ≤ 8 ∧ TrF S2 T2 n nc l F m') := by
  have hlx := h.lx hl ht.1
  obtain ⟨g1, g2, g3, g4, g5, g6, g7, g8⟩ := id hlx
  obtain ⟨-, ⟨hnl, f1, f2, f3, f4, f5, f6, f6b, f7, f8, f9, f10, f11⟩, -, ⟨hnc, w1, w2, w3, w4⟩⟩ := id h
  obtain ⟨t1, t2, t3, t4, t5, t6, t7, t8, t9, t10, t11⟩ := id ht
  have h8 := g3 l (by omega)
  have hsl := sfr_le (f := gA S 24) (b := 8 * l) (cl l - k) k
  obtain ⟨Y, hY⟩ : ∃ Y, x_Trial_fillOrAsk S (nI k) = Y := ⟨_, rfl⟩
  have hx := hY
  unfold x_Trial_fillOrAsk at hx
  have hxs := x_slotFrom_l g1 g2 g3 g4 (fun k hk => (g5 k hk).2) (cl l - k) fu k (by omega) (show _ < 100000 by omega)
  rw [g6, show x_Lines_slotFrom S (nI l) (nI k) = _ from hxs, bind_s] at hx
  dsimp only at hx
  obtain ⟨s', x4', q1, q2, q3, q4⟩ := m_ends_l (T := T) (l := l) (c := cl l) (by omega) h8.1 (f8 l hl) (nI k) (cl l - k) fu k 0 1 (by omega) (by omega) (show _ < 100000 by omega)
  have hsf : sfr (gA T 6) (8 * l) (cl l - k) k = sfr (gA S 24) (8 * l) (cl l - k) k := by
    refine sfr_eq _ _ (fun j hj => (f10 l j hl (by omega)).1.symm)
  rw [hsf] at q3
  have hmm : m_M_ends T (nI l) (nI k) = mEndX T (nI l) (nI k) (nI s') x4' := q1
  unfold mEndX at hmm
  have hTF : TrF S T n nc l 0 (nsl (gA S 24) (8 * l) k) := ⟨t1, t2, t3, t4, t5, t6, t7, t8, fun j hj => absurd hj (by omega), t9, t10, by rw [← hm]; exact t11⟩
  by_cases hno : cl l ≤ sfr (gA S 24) (8 * l) (cl l - k) k
  · rw [if_neg (show ¬ sfr (gA S 24) (8 * l) (cl l - k) k < cl l by omega), if_pos rfl] at hx
    rw [q3.mpr ⟨rfl, hno⟩, if_pos (show nI 0 = 0 from rfl)] at hmm
    refine ⟨_, _, hY.trans hx.symm, hmm, (Fr.rf.sI rfl).sI rfl, (Fr.rf.sI rfl).sI rfl, Or.inl ⟨t1, 5, nc, by decide, by decide, rfl, rfl, t2, w2, Nat.le_refl nc, fun z => absurd z (by decide), fun z => absurd z (by decide), ⟨0, by decide, t9⟩⟩⟩
  · have hs0 : ¬ nI s' = 0 := fun z => hno (q3.mp ((nI_eq (b := 0) (by omega) (by omega)).mp z)).2
    rw [if_neg hs0] at hmm
    generalize hLd : sfr (gA S 24) (8 * l) (cl l - k) k = L at hx hno hsl
    have hL : L < cl l := by omega
    have hLs : ¬ gA S 24 (8 * l + L) < 2 := by
      have := sfr_at (f := gA S 24) (b := 8 * l) (cl l - k) k (by rw [hLd]; omega)
      rw [hLd] at this; exact this
    have hLl : ∀ j, k ≤ j → j < L → gA S 24 (8 * l + j) < 2 := fun j h1 h2 => sfr_lt (cl l - k) k j h1 (by rw [hLd]; exact h2)
    rw [if_pos hL, if_neg (m1_ne (by omega))] at hx
    have tell : ∀ (S1 T1 : St), FrF S S1 → FrG T T1 → ∃ S2 T2, ((x_Lines_kindAt S1 (gI S1 26) (nI L)).bind fun q3 => (x_Row_add 12 q3.2 q3.1).bind fun q4 => x_Trial_fillOrAsk_b59 fu q4 (nI L) (nI k)) = some S2 ∧ m_M_ends_b101 T1 (nI l) (nI k) = some T2 ∧ FrT S S2 ∧ FrM T T2 ∧ TrE S2 T2 n nc l := by
      intro S1 T1 fS fT
      have hlx1 := hlx.fr fS
      obtain ⟨a1, a2, a3, a4, a5, a6, a7, a8⟩ := id hlx1
      have hS23 : gA S1 23 = gA S 23 := fS.2.2.1 23 rfl
      have hS24 : gA S1 24 = gA S 24 := fS.2.2.1 24 rfl
      have hS25 : gA S1 25 = gA S 25 := fS.2.2.1 25 rfl
      have hT6 : gA T1 6 = gA T 6 := fT.2.2.1 6 rfl
      have hT7 : gA T1 7 = gA T 7 := fT.2.2.1 7 rfl
      have h12 : gI S1 12 = nI 0 := (fS.1 12 rfl).trans t9
      have h27 : gI S1 27 = nI nc := (fS.1 27 rfl).trans t2
      have h11 : gI T1 11 = nI 0 := (fT.1 11 rfl).trans t10
      have h6 : gI T1 6 = nI nc := (fT.1 6 rfl).trans w2
      obtain ⟨S2, T2, k1, k2, k3, k4, k5, k6, k7, k8, k9, k10⟩ := tell_l (n := n) (nl := nl) hL (L - k) k fu fu 0 (sI (sA S1 12 0 (gA S 24 (8 * l + L))) 12 (nI (0 + 1))) (sI (sI (sI T1 7 16) 8 (gI T1 6)) 12 0) hlx1 (ORd.fr (S := S) w4.2 hS23 hS24 hS25) (by
        intro j hj
        show gA S1 24 _ = gA T1 6 _ ∧ gA S1 25 _ = gA T1 7 _
        rw [hS24, hS25, hT6, hT7]; exact f10 l j hl hj) (by omega) (by
        intro j j1 j2
        show gA S1 24 _ < 2
        rw [hS24]; exact hLl j j1 j2) (by
        show ¬ gA S1 24 _ < 2
        rw [hS24]; exact hLs) rfl h11 (by omega) (by
        show gA (sA S1 12 0 (gA S 24 (8 * l + L))) 12 0 = gA S1 24 _
        rw [gA_sA, if_pos rfl, upd_self, hS24]) (fun j hj => absurd hj (by omega)) (show _ < 100000 by omega) (show _ < 100000 by omega)
      refine ⟨S2, T2, ?_, k2, (fS.t.tr ((Fr.rf.sA rfl).sI rfl)).tr k3, (fT.m.tr (((Fr.rf.sI rfl).sI rfl).sI rfl)).tr k4, ?_⟩
      · rw [a6, x_kindAt a1 a2 a3 a4, bind_s, rat_nI hL (by omega)]
        dsimp only
        rw [hS24, x_add (r := 12) (S := S1) (n := 0) h12 (by decide) (by decide), bind_s]
        exact k1
      · exact ⟨k9.trans a6, 16, nc, by decide, by decide, k5, k7, k6.trans h27, k8.trans h6, Nat.le_refl nc, fun z => absurd z (by decide), fun _ => k10, k10.q12⟩
    by_cases hsg : ∃ j, k ≤ j ∧ j < cl l ∧ 5 < gA S 24 (8 * l + j)
    · obtain ⟨S1, b1, b2⟩ := x_fill_no (r := cl l - k) (i := k) (fx := fu) (F := 0) (S := S) hlx (by omega) hsg t7 (by omega) (show _ < 100000 by omega)
      rw [show x_Trial_fillFrom S (nI k) = _ from b1, bind_s] at hx
      dsimp only at hx
      rw [if_pos rfl] at hx
      have h4 : x4' = 0 := q4.mpr (Or.inr (by
        obtain ⟨j, j1, j2, j3⟩ := hsg
        exact ⟨j, j1, j2, by rw [← (f10 l j hl j2).1]; exact j3⟩))
      rw [if_pos h4] at hmm
      obtain ⟨S2, T2, c1, c2, c3, c4, c5⟩ := tell S1 T b2 Fr.rf
      exact ⟨S2, T2, hY.trans (hx.symm.trans c1), hmm.trans c2, c3, c4, Or.inl c5⟩
    · have h4 : ¬ x4' = 0 := fun z => by
        rcases q4.mp z with z | ⟨j, j1, j2, j3⟩
        · exact one_ne0 z
        · exact hsg ⟨j, j1, j2, by rw [(f10 l j hl j2).1]; exact j3⟩
      rw [if_neg h4] at hmm
      obtain ⟨x, S1, T1, b1, b2, b3, b4, b5⟩ := fill_l hl (cl l - k) k fu fu 0 S T h (by omega) (fun j j1 j2 z => hsg ⟨j, j1, j2, z⟩) hTF (by omega) (show _ < 100000 by omega) (show _ < 100000 by omega)
      have hnk : nx (gA T 6) (8 * l) (cl l - k) k = k := by
        rw [show cl l - k = (cl l - k - 1) + 1 by omega, nx, if_neg (by rw [← (f10 l k hl hk).1]; exact h1)]
      rw [hnk] at b2
      rw [show x_Trial_fillFrom S (nI k) = _ from b1, bind_s] at hx
      rw [show m_M_isFilled T (nI l) (nI k) = _ from b2, bind_s] at hmm
      dsimp only at hx hmm
      rcases b5 with b5 | ⟨b5, F, b6, b7⟩
      · rw [if_pos b5] at hx hmm
        obtain ⟨S2, T2, c1, c2, c3, c4, c5⟩ := tell S1 T1 b3 b4
        exact ⟨S2, T2, hY.trans (hx.symm.trans c1), hmm.trans c2, c3, c4, Or.inl c5⟩
      · rw [if_neg (by rw [b5]; decide)] at hx hmm
        exact ⟨S1, T1, hY.trans hx.symm, hmm, b3.t, b4.m, Or.inr ⟨F, _, b6, b7⟩⟩

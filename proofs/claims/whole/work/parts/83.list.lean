def eachK (kd : Int32) : Int32 := if kd = 6 then 2 else 3
theorem eachK_ok (kd : Int32) : eachK kd = 2 ∨ eachK kd = 3 ∨ eachK kd = 4 ∨ eachK kd = 5 := by
  unfold eachK
  by_cases h : kd = 6
  · rw [if_pos h]; exact Or.inl rfl
  · rw [if_neg h]; exact Or.inr (Or.inl rfl)
/-- the reference's list from a on -/
def mList (T : St) (nc : Nat) (kd fr : Int32) (s fuel a : Nat) : Option (Int32 × St) := (if a < nc then m_M_takesOne T (eachK kd) (nI a) else m_M_lacksOne T (nI a)).bind fun q => m_M_takesSeveral_b259 fuel q.2 kd fr (nI s) q.1
theorem m259_err {T : St} {kd fr x : Int32} {s fuel : Nat} (h : ¬ gI T 7 = 0) : m_M_takesSeveral_b259 (fuel + 1) T kd fr (nI s) x = some (x, T) := by
  show m_M_takesSeveral_b259_f _ T _ _ _ _ = _
  unfold m_M_takesSeveral_b259_f m_M_takesSeveral_b321
  rw [if_neg h, if_neg h]
theorem m259_end {T : St} {kd fr : Int32} {s fuel nc b : Nat} (hs : s < 2) (h : gI T 7 = 0) (e : gI T 6 = nI nc) (hn : nc ≤ 60) (hb : b ≤ nc) (hj : ¬ isJ (gA T 15) nc b) (hz : ¬ gB T 20 s = 0) : m_M_takesSeveral_b259 (fuel + 1) T kd fr (nI s) (nI b) = some (nI b, T) := by
  obtain ⟨r1, j1, j2⟩ := m_joins (T := T) (a := b) e hn (by omega)
  show m_M_takesSeveral_b259_f _ T _ _ _ _ = _
  unfold m_M_takesSeveral_b259_f m_M_takesSeveral_b321
  rw [if_pos h, j1, bind_s]
  dsimp only
  rw [if_pos (j2.mpr hj), if_pos h, gd_t _ (vin_nI hs (by omega)), nI_clamp (show s < 2 ^ 31 by omega)]
  simp only [cmp_eq, hz, if_false]
theorem m259_go {T : St} {kd fr : Int32} {s fuel nc b : Nat} (h : gI T 7 = 0) (e : gI T 6 = nI nc) (hn : nc ≤ 60) (hj : isJ (gA T 15) nc b) : m_M_takesSeveral_b259 (fuel + 1) T kd fr (nI s) (nI b) = mList T nc kd fr s fuel (b + 1) := by
  obtain ⟨r1, j1, j2⟩ := m_joins (T := T) (a := b) e hn (by have := hj.1; omega)
  have hr : ¬ r1 = 0 := fun z => (j2.mp z) hj
  show m_M_takesSeveral_b259_f _ T _ _ _ _ = _
  unfold m_M_takesSeveral_b259_f m_M_takesSeveral_b298 m_M_takesSeveral_b316 mList eachK
  rw [if_pos h, j1, bind_s]
  dsimp only
  rw [if_neg hr, e, nI_1]
  have hlt := hj.1
  by_cases hb : b + 1 < nc
  · rw [if_neg (nI_ge hb (by omega)), if_pos hb]
    by_cases k6 : kd = 6
    · rw [if_pos k6, if_pos k6]
    · rw [if_neg k6, if_neg k6]
  · rw [if_pos (nI_le (show nc ≤ b + 1 by omega) (by omega)), if_neg hb]
theorem or_ne0 {w v : Int64} (h : ¬ v = 0) : ¬ (w ||| v) = 0 := by
  intro z
  refine h (bit_ext fun k hk => ?_)
  have := congrArg (fun y => bit y k) z
  simp only [bit_or, bit_0] at this ⊢
  cases hb : bit v k
  · rfl
  · rw [hb] at this; simp at this
theorem card1_ne {p : Nat → Bool} {n : Nat} (hn : n ≤ 64) (h : card p n = 1) : ¬ bs p n = 0 := by
  intro z
  have := (card_0 n).mpr ((bs_zero hn).mp z)
  omega
theorem SlV_or {n nc : Nat} {cw : Nat → Int32} {k p : Int32} {w v : Int64} {rs : Int32} {ra : Nat → Int32} {kT pT : Int32} {f t u : Int32} {q : Nat → Bool} (hn : n ≤ 64) (h : SlV n nc cw k p w rs ra kT pT w f t u) (hv : v = bs q n) (h8 : kT ≤ 8) : SlV n nc cw k p (w ||| v) rs ra kT pT (w ||| v) f t u := by
  obtain ⟨a1, a2, a3, ⟨q1, a4⟩, a5, a6, a7, a8, a9, a10, a11⟩ := h
  exact ⟨a1, a2, rfl, ⟨_, by rw [a4, hv]; exact bs_or hn⟩, a5, a6, a7, a8, a9, a10, fun z => absurd h8 (Int32.not_le.mpr z)⟩
theorem b24_00 {S : St} {x y : Int32} {fuel : Nat} : x_Trial_takeList_b24 (fuel + 1) S x 0 y = some S := by
  show x_Trial_takeList_b24_f _ S _ _ _ = _
  unfold x_Trial_takeList_b24_f
  rw [if_pos rfl]
/-- phrases with AND or COMMA between: slot 0 -/
theorem list0_l {n nl nc l : Nat} {c cl : Nat → Nat} (kd fr : Int32) : ∀ (r a i fx fm : Nat) (S T : St), SC S T n c nl cl nc → Tr0 S T n nc l a (0 + 1) → a ≤ nc → nc - a ≤ r → i < a → gA T 18 0 ≤ 8 → r + 1 < fx → r + 1 < fm → ∃ S2 T2 x, x_Trial_takeList_b24 fx S (eachK kd) 1 (nI i) = some S2 ∧ mList T nc kd fr 0 fm a = some (x, T2) ∧ FrT S S2 ∧ FrM T T2 ∧ (TrE S2 T2 n nc l ∨ ∃ b, a < b ∧ b ≤ nc ∧ x = nI b ∧ Tr0 S2 T2 n nc l b (0 + 1))
  | r, a, i, 0, fm, S, T, _, _, _, _, _, _, hf, _ => absurd hf (by omega)
  | r, a, i, fx + 1, 0, S, T, _, _, _, _, _, _, _, hf => absurd hf (by omega)
  | r, a, i, fx + 1, fm + 1, S, T, h, ht, ha, hr, hi, hk8, hfx, hfm => by
    obtain ⟨q1, q2, q3, q4, -, ⟨hnc, w1, w2, w3, w4⟩⟩ : True ∧ True ∧ True ∧ True ∧ True ∧ CW S T nc := ⟨trivial, trivial, trivial, trivial, trivial, h.2.2.2⟩
    have hcap : ¬ (60 : Int32) ≤ nI i := nI_ge (b := 60) (by omega) (by omega)
    have hstep : ∀ {v : Int64} {S1 : St}, x_Trial_findOne S (eachK kd) = some (v, S1) → x_Trial_takeList_b24 (fx + 1) S (eachK kd) 1 (nI i) = if (gI (sL S1 0 ((gL S 0) ||| v)) 28) = 0 then (x_Row_at 6 (sL S1 0 ((gL S 0) ||| v)) (gI (sL S1 0 ((gL S 0) ||| v)) 27)).bind fun q3 => (x_G_isJoin q3.2 q3.1).bind fun q4 => if q4.1 = 0 then x_Trial_takeList_b78 (x_Trial_takeList_b24 fx) q4.2 (eachK kd) (nI i) else x_Trial_takeList_b79 (x_Trial_takeList_b24 fx) q4.2 (eachK kd) (nI i) (1 : Int32) else x_Trial_takeList_b78 (x_Trial_takeList_b24 fx) (sL S1 0 ((gL S 0) ||| v)) (eachK kd) (nI i) := by
      intro v S1 hv
      show x_Trial_takeList_b24_f (x_Trial_takeList_b24 fx) S _ _ _ = _
      unfold x_Trial_takeList_b24_f
      rw [if_neg one_ne0, if_neg hcap, hv, bind_s]
    have hend : ∀ Y : St, x_Trial_takeList_b78 (x_Trial_takeList_b24 fx) Y (eachK kd) (nI i) = some Y := by
      intro Y
      unfold x_Trial_takeList_b78 x_Trial_takeList_b79 x_Trial_takeList_b96
      rw [if_pos rfl]
      match fx, hfx with
      | fx + 1, _ => exact b24_00
    obtain ⟨t1, t2, t3, t4, t5, t6, t7, t8, t9, t10, t11⟩ := id ht
    rcases Nat.lt_or_ge a nc with hlt | hge
    · obtain ⟨v, S1, x, T1, o1, o2, o3, o4, o5⟩ := one_step (s := 0) h t2 hlt t9 (by decide) t11.1 t3 t4 (eachK kd) (eachK_ok kd)
      have fl : FrT S (sL S1 0 ((gL S 0) ||| v)) := o3.t.sL rfl
      have hml : mList T nc kd fr 0 (fm + 1) a = m_M_takesSeveral_b259 (fm + 1) T1 kd fr (nI 0) x := by
        unfold mList
        rw [if_pos hlt, o2, bind_s]
      rcases o5 with ⟨b, b1, b2, b3, b4, b5, b6, b7, b8, b9, ⟨p, b10, b11⟩, b12, b13⟩ | ⟨v0, e, q1, q2, q3, q4, q5, q6, q7, q8, q9⟩
      · have hSC := h.fr fl o4.m
        obtain ⟨-, -, -, ⟨hnc, w1, w2, w3, w4⟩⟩ := id hSC
        have hn40 : n ≤ 40 := h.1.1
        obtain ⟨r2, j3, j4⟩ := x_isJoin (sL S1 0 ((gL S 0) ||| v)) (rat (gA (sL S1 0 ((gL S 0) ||| v)) 6) nc (nI b))
        have hat := x_at (r := 6) (S := sL S1 0 ((gL S 0) ||| v)) w1 (show nc ≤ 60 from hnc) (by decide) (nI b)
        have hj : r2 = 0 ↔ ¬ isJ (gA T1 15) nc b := by
          rw [j4, rat_isJ hnc (by omega), isJ_eq w3]
        have hTr : Tr0 (sL S1 0 ((gL S 0) ||| v)) T1 n nc l b (0 + 1) := by
          refine ⟨(o3.1 26 rfl).trans t1, b4, b5, b6, b7.trans t5, b8.trans t6, (o3.1 11 rfl).trans t7, (o4.1 12 rfl).trans t8, b9, (o4.1 11 rfl).trans t10, ?_⟩
          obtain ⟨s1, s2, s3⟩ := t11
          refine ⟨(o4.1 13 rfl).trans s1, ?_, (o3.1 19 rfl).trans s3.1, (o3.2.1 1 rfl).trans s3.2.1, (o3.1 10 rfl).trans s3.2.2⟩
          unfold Sl0 at s2 ⊢
          rw [show gA (sL S1 0 ((gL S 0) ||| v)) 6 = gA S 6 from o3.2.2.1 6 rfl, show gI (sL S1 0 ((gL S 0) ||| v)) 17 = gI S 17 from o3.1 17 rfl, show gI (sL S1 0 ((gL S 0) ||| v)) 18 = gI S 18 from o3.1 18 rfl, show gL (sL S1 0 ((gL S 0) ||| v)) 0 = gL S 0 ||| v from rfl, show gI (sL S1 0 ((gL S 0) ||| v)) 9 = gI S 9 from o3.1 9 rfl, show gA (sL S1 0 ((gL S 0) ||| v)) 9 = gA S 9 from o3.2.2.1 9 rfl, o4.2.2.1 18 rfl, o4.2.2.1 19 rfl, o4.2.2.1 21 rfl, o4.2.2.1 22 rfl, o4.2.2.1 23 rfl, b12]
          have e0 : gL S 0 = gB T 20 0 := s2.2.2.1
          rw [e0] at s2 ⊢
          exact SlV_or (by omega) s2 b10 hk8
        have hne : ¬ gB T1 20 0 = 0 := by
          rw [b12, b10]
          exact or_ne0 (card1_ne (by omega) b11)
        have hx1 := hstep o1
        rw [show gI (sL S1 0 ((gL S 0) ||| v)) 28 = 0 from b5, if_pos rfl, show gI (sL S1 0 ((gL S 0) ||| v)) 27 = nI b from b4, hat, bind_s] at hx1
        dsimp only at hx1
        rw [j3, bind_s] at hx1
        dsimp only at hx1
        by_cases hjj : isJ (gA T1 15) nc b
        · have hr2 : ¬ r2 = 0 := fun z => (hj.mp z) hjj
          have hbn := hjj.1
          rw [if_neg hr2] at hx1
          unfold x_Trial_takeList_b79 x_Trial_takeList_b96 at hx1
          rw [if_neg one_ne0, show gI (sL S1 0 ((gL S 0) ||| v)) 27 = nI b from b4, nI_1, nI_1] at hx1
          have hf2 : FrT S (sI (sL S1 0 ((gL S 0) ||| v)) 27 (nI (b + 1))) := fl.sI rfl
          have hT2 : Tr0 (sI (sL S1 0 ((gL S 0) ||| v)) 27 (nI (b + 1))) T1 n nc l (b + 1) (0 + 1) := by
            obtain ⟨z1, z2, z3⟩ := hTr
            exact ⟨z1, rfl, z3⟩
          match r, hr, hfx, hfm with
          | 0, hr, _, _ => exact absurd hr (by omega)
          | r + 1, hr, hfx, hfm =>
            obtain ⟨S2, T2, y, g1, g2, g3, g4, g5⟩ := list0_l kd fr r (b + 1) (i + 1) fx fm _ T1 (h.fr hf2 o4.m) hT2 (by omega) (by omega) (by omega) (by rw [o4.2.2.1 18 rfl]; exact hk8) (by omega) (by omega)
            refine ⟨S2, T2, y, hx1.trans g1, ?_, hf2.tr g3, o4.m.tr g4, ?_⟩
            · rw [hml, b3, m259_go b6 w2 hnc hjj]
              exact g2
            · rcases g5 with g5 | ⟨b', k1, k2, k3, k4⟩
              · exact Or.inl g5
              · exact Or.inr ⟨b', by omega, k2, k3, k4⟩
        · rw [if_pos (hj.mpr hjj), hend] at hx1
          refine ⟨_, _, _, hx1, ?_, fl, o4.m, Or.inr ⟨b, b1, b2, rfl, hTr⟩⟩
          rw [hml, b3]
          exact m259_end (by decide) b6 w2 hnc b2 hjj hne
      · have hx1 := hstep o1
        rw [show gI (sL S1 0 ((gL S 0) ||| v)) 28 = e from q3, if_neg (pos_ne q1), hend] at hx1
        refine ⟨_, T1, x, hx1, ?_, fl, o4.m, Or.inl ⟨(o3.1 26 rfl).trans t1, e, a, q1, Int32.le_trans q2 (by decide), q3, q4, q5, q6, ha, q8, (fun z => by rw [z] at q2; exact absurd q2 (by decide)), q9⟩⟩
        rw [hml]
        exact m259_err (by rw [q4]; exact pos_ne q1)
    · have hae : a = nc := by omega
      obtain ⟨⟨hn, e1, e2, e3, e4, e5, e6, e7, e8, e9, e10, e11⟩, -⟩ := id h
      obtain ⟨-, x2, -⟩ := x_one hn e1 e4 e8 e9 e10 e11 w1 hnc t2 ha t9 (eachK kd) (eachK_ok kd) 0 (by rw [show nc - a = 0 by omega]; rfl)
      obtain ⟨w, hx⟩ := x2 (fun z => by omega) rfl
      have hx1 := hstep hx
      rw [if_neg (by show ¬ (7 : Int32) = 0; decide), hend] at hx1
      refine ⟨_, sI (sI T 7 7) 8 (nI a), nI a, hx1, ?_, (((((Fr.rf.sL rfl).sI rfl).sI rfl).sI rfl).sL rfl), (Fr.rf.sI rfl).sI rfl, Or.inl ⟨t1, 7, a, by decide, by decide, rfl, rfl, rfl, rfl, ha, fun z => absurd z (by decide), fun z => absurd z (by decide), ⟨0, by decide, t9⟩⟩⟩
      unfold mList
      rw [if_neg (by omega)]
      exact m259_err (T := sI (sI T 7 7) 8 (nI a)) (by show ¬ (7 : Int32) = 0; decide)
theorem b24_01 {S : St} {x y : Int32} {fuel : Nat} : x_Trial_takeList_b24_1 (fuel + 1) S x 0 y = some S := by
  show x_Trial_takeList_b24_1_f _ S _ _ _ = _
  unfold x_Trial_takeList_b24_1_f
  rw [if_pos rfl]
/-- phrases with AND or COMMA between: slot 1 -/
theorem list1_l {n nl nc l : Nat} {c cl : Nat → Nat} (kd fr : Int32) : ∀ (r a i fx fm : Nat) (S T : St), SC S T n c nl cl nc → Tr0 S T n nc l a (1 + 1) → a ≤ nc → nc - a ≤ r → i < a → gA T 18 1 ≤ 8 → r + 1 < fx → r + 1 < fm → ∃ S2 T2 x, x_Trial_takeList_b24_1 fx S (eachK kd) 1 (nI i) = some S2 ∧ mList T nc kd fr 1 fm a = some (x, T2) ∧ FrT S S2 ∧ FrM T T2 ∧ (TrE S2 T2 n nc l ∨ ∃ b, a < b ∧ b ≤ nc ∧ x = nI b ∧ Tr0 S2 T2 n nc l b (1 + 1))
  | r, a, i, 0, fm, S, T, _, _, _, _, _, _, hf, _ => absurd hf (by omega)
  | r, a, i, fx + 1, 0, S, T, _, _, _, _, _, _, _, hf => absurd hf (by omega)
  | r, a, i, fx + 1, fm + 1, S, T, h, ht, ha, hr, hi, hk8, hfx, hfm => by
    obtain ⟨q1, q2, q3, q4, -, ⟨hnc, w1, w2, w3, w4⟩⟩ : True ∧ True ∧ True ∧ True ∧ True ∧ CW S T nc := ⟨trivial, trivial, trivial, trivial, trivial, h.2.2.2⟩
    have hcap : ¬ (60 : Int32) ≤ nI i := nI_ge (b := 60) (by omega) (by omega)
    have hstep : ∀ {v : Int64} {S1 : St}, x_Trial_findOne S (eachK kd) = some (v, S1) → x_Trial_takeList_b24_1 (fx + 1) S (eachK kd) 1 (nI i) = if (gI (sL S1 1 ((gL S 1) ||| v)) 28) = 0 then (x_Row_at 6 (sL S1 1 ((gL S 1) ||| v)) (gI (sL S1 1 ((gL S 1) ||| v)) 27)).bind fun q3 => (x_G_isJoin q3.2 q3.1).bind fun q4 => if q4.1 = 0 then x_Trial_takeList_b78_1 (x_Trial_takeList_b24_1 fx) q4.2 (eachK kd) (nI i) else x_Trial_takeList_b79_1 (x_Trial_takeList_b24_1 fx) q4.2 (eachK kd) (nI i) (1 : Int32) else x_Trial_takeList_b78_1 (x_Trial_takeList_b24_1 fx) (sL S1 1 ((gL S 1) ||| v)) (eachK kd) (nI i) := by
      intro v S1 hv
      show x_Trial_takeList_b24_1_f (x_Trial_takeList_b24_1 fx) S _ _ _ = _
      unfold x_Trial_takeList_b24_1_f
      rw [if_neg one_ne0, if_neg hcap, hv, bind_s]
    have hend : ∀ Y : St, x_Trial_takeList_b78_1 (x_Trial_takeList_b24_1 fx) Y (eachK kd) (nI i) = some Y := by
      intro Y
      unfold x_Trial_takeList_b78_1 x_Trial_takeList_b79_1 x_Trial_takeList_b96_1
      rw [if_pos rfl]
      match fx, hfx with
      | fx + 1, _ => exact b24_01
    obtain ⟨t1, t2, t3, t4, t5, t6, t7, t8, t9, t10, t11⟩ := id ht
    rcases Nat.lt_or_ge a nc with hlt | hge
    · obtain ⟨v, S1, x, T1, o1, o2, o3, o4, o5⟩ := one_step (s := 1) h t2 hlt t9 (by decide) t11.1 t3 t4 (eachK kd) (eachK_ok kd)
      have fl : FrT S (sL S1 1 ((gL S 1) ||| v)) := o3.t.sL rfl
      have hml : mList T nc kd fr 1 (fm + 1) a = m_M_takesSeveral_b259 (fm + 1) T1 kd fr (nI 1) x := by
        unfold mList
        rw [if_pos hlt, o2, bind_s]
      rcases o5 with ⟨b, b1, b2, b3, b4, b5, b6, b7, b8, b9, ⟨p, b10, b11⟩, b12, b13⟩ | ⟨v0, e, q1, q2, q3, q4, q5, q6, q7, q8, q9⟩
      · have hSC := h.fr fl o4.m
        obtain ⟨-, -, -, ⟨hnc, w1, w2, w3, w4⟩⟩ := id hSC
        have hn40 : n ≤ 40 := h.1.1
        obtain ⟨r2, j3, j4⟩ := x_isJoin (sL S1 1 ((gL S 1) ||| v)) (rat (gA (sL S1 1 ((gL S 1) ||| v)) 6) nc (nI b))
        have hat := x_at (r := 6) (S := sL S1 1 ((gL S 1) ||| v)) w1 (show nc ≤ 60 from hnc) (by decide) (nI b)
        have hj : r2 = 0 ↔ ¬ isJ (gA T1 15) nc b := by
          rw [j4, rat_isJ hnc (by omega), isJ_eq w3]
        have hTr : Tr0 (sL S1 1 ((gL S 1) ||| v)) T1 n nc l b (1 + 1) := by
          refine ⟨(o3.1 26 rfl).trans t1, b4, b5, b6, b7.trans t5, b8.trans t6, (o3.1 11 rfl).trans t7, (o4.1 12 rfl).trans t8, b9, (o4.1 11 rfl).trans t10, ?_⟩
          obtain ⟨s1, s2, s3⟩ := t11
          refine ⟨(o4.1 13 rfl).trans s1, ?_, ?_⟩
          · unfold Sl0 at s2 ⊢
            rw [show gA (sL S1 1 ((gL S 1) ||| v)) 6 = gA S 6 from o3.2.2.1 6 rfl, show gI (sL S1 1 ((gL S 1) ||| v)) 17 = gI S 17 from o3.1 17 rfl, show gI (sL S1 1 ((gL S 1) ||| v)) 18 = gI S 18 from o3.1 18 rfl, show gL (sL S1 1 ((gL S 1) ||| v)) 0 = gL S 0 from o3.2.1 0 rfl, show gI (sL S1 1 ((gL S 1) ||| v)) 9 = gI S 9 from o3.1 9 rfl, show gA (sL S1 1 ((gL S 1) ||| v)) 9 = gA S 9 from o3.2.2.1 9 rfl, o4.2.2.1 18 rfl, o4.2.2.1 19 rfl, o4.2.2.1 21 rfl, o4.2.2.1 22 rfl, o4.2.2.1 23 rfl, b13 0 (by decide)]
            exact s2
          · unfold Sl1 at s3 ⊢
            rw [show gA (sL S1 1 ((gL S 1) ||| v)) 6 = gA S 6 from o3.2.2.1 6 rfl, show gI (sL S1 1 ((gL S 1) ||| v)) 19 = gI S 19 from o3.1 19 rfl, show gI (sL S1 1 ((gL S 1) ||| v)) 20 = gI S 20 from o3.1 20 rfl, show gL (sL S1 1 ((gL S 1) ||| v)) 1 = gL S 1 ||| v from rfl, show gI (sL S1 1 ((gL S 1) ||| v)) 10 = gI S 10 from o3.1 10 rfl, show gA (sL S1 1 ((gL S 1) ||| v)) 10 = gA S 10 from o3.2.2.1 10 rfl, o4.2.2.1 18 rfl, o4.2.2.1 19 rfl, o4.2.2.1 21 rfl, o4.2.2.1 22 rfl, o4.2.2.1 23 rfl, b12]
            have e0 : gL S 1 = gB T 20 1 := s3.2.2.1
            rw [e0] at s3 ⊢
            exact SlV_or (by omega) s3 b10 hk8
        have hne : ¬ gB T1 20 1 = 0 := by
          rw [b12, b10]
          exact or_ne0 (card1_ne (by omega) b11)
        have hx1 := hstep o1
        rw [show gI (sL S1 1 ((gL S 1) ||| v)) 28 = 0 from b5, if_pos rfl, show gI (sL S1 1 ((gL S 1) ||| v)) 27 = nI b from b4, hat, bind_s] at hx1
        dsimp only at hx1
        rw [j3, bind_s] at hx1
        dsimp only at hx1
        by_cases hjj : isJ (gA T1 15) nc b
        · have hr2 : ¬ r2 = 0 := fun z => (hj.mp z) hjj
          have hbn := hjj.1
          rw [if_neg hr2] at hx1
          unfold x_Trial_takeList_b79_1 x_Trial_takeList_b96_1 at hx1
          rw [if_neg one_ne0, show gI (sL S1 1 ((gL S 1) ||| v)) 27 = nI b from b4, nI_1, nI_1] at hx1
          have hf2 : FrT S (sI (sL S1 1 ((gL S 1) ||| v)) 27 (nI (b + 1))) := fl.sI rfl
          have hT2 : Tr0 (sI (sL S1 1 ((gL S 1) ||| v)) 27 (nI (b + 1))) T1 n nc l (b + 1) (1 + 1) := by
            obtain ⟨z1, z2, z3⟩ := hTr
            exact ⟨z1, rfl, z3⟩
          match r, hr, hfx, hfm with
          | 0, hr, _, _ => exact absurd hr (by omega)
          | r + 1, hr, hfx, hfm =>
            obtain ⟨S2, T2, y, g1, g2, g3, g4, g5⟩ := list1_l kd fr r (b + 1) (i + 1) fx fm _ T1 (h.fr hf2 o4.m) hT2 (by omega) (by omega) (by omega) (by rw [o4.2.2.1 18 rfl]; exact hk8) (by omega) (by omega)
            refine ⟨S2, T2, y, hx1.trans g1, ?_, hf2.tr g3, o4.m.tr g4, ?_⟩
            · rw [hml, b3, m259_go b6 w2 hnc hjj]
              exact g2
            · rcases g5 with g5 | ⟨b', k1, k2, k3, k4⟩
              · exact Or.inl g5
              · exact Or.inr ⟨b', by omega, k2, k3, k4⟩
        · rw [if_pos (hj.mpr hjj), hend] at hx1
          refine ⟨_, _, _, hx1, ?_, fl, o4.m, Or.inr ⟨b, b1, b2, rfl, hTr⟩⟩
          rw [hml, b3]
          exact m259_end (by decide) b6 w2 hnc b2 hjj hne
      · have hx1 := hstep o1
        rw [show gI (sL S1 1 ((gL S 1) ||| v)) 28 = e from q3, if_neg (pos_ne q1), hend] at hx1
        refine ⟨_, T1, x, hx1, ?_, fl, o4.m, Or.inl ⟨(o3.1 26 rfl).trans t1, e, a, q1, Int32.le_trans q2 (by decide), q3, q4, q5, q6, ha, q8, (fun z => by rw [z] at q2; exact absurd q2 (by decide)), q9⟩⟩
        rw [hml]
        exact m259_err (by rw [q4]; exact pos_ne q1)
    · have hae : a = nc := by omega
      obtain ⟨⟨hn, e1, e2, e3, e4, e5, e6, e7, e8, e9, e10, e11⟩, -⟩ := id h
      obtain ⟨-, x2, -⟩ := x_one hn e1 e4 e8 e9 e10 e11 w1 hnc t2 ha t9 (eachK kd) (eachK_ok kd) 0 (by rw [show nc - a = 0 by omega]; rfl)
      obtain ⟨w, hx⟩ := x2 (fun z => by omega) rfl
      have hx1 := hstep hx
      rw [if_neg (by show ¬ (7 : Int32) = 0; decide), hend] at hx1
      refine ⟨_, sI (sI T 7 7) 8 (nI a), nI a, hx1, ?_, (((((Fr.rf.sL rfl).sI rfl).sI rfl).sI rfl).sL rfl), (Fr.rf.sI rfl).sI rfl, Or.inl ⟨t1, 7, a, by decide, by decide, rfl, rfl, rfl, rfl, ha, fun z => absurd z (by decide), fun z => absurd z (by decide), ⟨0, by decide, t9⟩⟩⟩
      unfold mList
      rw [if_neg (by omega)]
      exact m259_err (T := sI (sI T 7 7) 8 (nI a)) (by show ¬ (7 : Int32) = 0; decide)

theorem sB_sB (S : St) (k i : Nat) (v w : Int64) : sB (sB S k i v) k i w = sB S k i w := by
  unfold sB
  simp only [Prod.mk.injEq, true_and]
  funext j
  by_cases h : j = k
  · simp only [h, if_true, updL_updL]
  · simp only [h, if_false]
theorem sB_self {S : St} {k i : Nat} {v : Int64} (h : gB S k i = v) : sB S k i v = S := by
  obtain ⟨a, b, c, d⟩ := S
  unfold sB
  simp only [Prod.mk.injEq, true_and]
  funext j
  by_cases hj : j = k
  · subst hj
    rw [if_pos rfl]
    funext m
    unfold vp_updL
    by_cases hm : m = i
    · subst hm; rw [if_pos rfl]; exact h.symm
    · rw [if_neg hm]
  · rw [if_neg hj]
/-- what ALL stands for -/
def allK (f : Nat → Int32) (kd : Int32) (t : Nat) : Bool := if kd = 6 then (flg f 7 t && !flg f 6 t) && !flg f 8 t else (flg f 6 t && !flg f 4 t) && !flg f 8 t
theorem flg67 {f : Nat → Int32} {t : Nat} (h : flg f 6 t = true) : flg f 7 t = true := by
  cases h7 : flg f 7 t
  · rw [flg_f, and7] at h7
    have := h7.2
    rw [← flg_f] at this
    rw [this] at h
    cases h
  · rfl
theorem x_allFor {S : St} {n : Nat} (hn : n ≤ 40) (e8 : gL S 4 = bs (flg (gA S 17) 7) n) (e9 : gL S 5 = bs (flg (gA S 17) 6) n) (e10 : gL S 6 = bs (flg (gA S 17) 4) n) (e11 : gL S 7 = bs (flg (gA S 17) 8) n) (kd : Int32) : x_Things_allFor S kd = some (bs (allK (gA S 17) kd) n, S) := by
  unfold x_Things_allFor x_Things_allFor_b35
  by_cases h : kd = 6
  · rw [if_pos h, e8, e9, e11, bs_not (by omega), bs_not (by omega)]
    exact congrArg some (Prod.ext (bs_eq n fun t _ => by unfold allK; rw [if_pos h]) rfl)
  · rw [if_neg h, e9, e10, e11, bs_not (by omega), bs_not (by omega)]
    exact congrArg some (Prod.ext (bs_eq n fun t _ => by unfold allK; rw [if_neg h]) rfl)
theorem m_all_s {T : St} {n i s : Nat} (hn : n ≤ 40) (hs : s < 2) (hi : i < n) (e : gI T 3 = nI n) (kd fr xa : Int32) (q : Nat → Bool) (hq : q i = allK (gA T 8) kd i) (hw : gB T 20 s = bs q i) (k23 : St → Int32 → Int32 → Int32 → Int32 → Int32 → Option (Int32 × St)) : m_M_takesSeveral_b23_f k23 T kd fr (nI s) xa (nI i) = k23 (sB T 20 s (bs q (i + 1))) kd fr (nI s) xa (nI (i + 1)) := by
  have h40 : i < 40 := by omega
  have key : ∀ b : Bool, q i = b → m_M_takesSeveral_b91 k23 T kd fr (nI s) xa (nI i) (b2i b) = k23 (sB T 20 s (bs q (i + 1))) kd fr (nI s) xa (nI (i + 1)) := by
    intro b hb
    unfold m_M_takesSeveral_b91 m_M_takesSeveral_b123
    simp only [b2i_0, gd_t _ (vin_nI hs (by omega)), nI_clamp (show s < 2 ^ 31 by omega), nI_1, hw, bs, hb]
    cases b
    · simp only [if_true, Bool.false_eq_true, if_false]
    · simp only [Bool.true_eq_false, if_false, if_true]
  have k0 := key false
  have k1 := key true
  rw [show b2i false = 0 from rfl] at k0
  rw [show b2i true = 1 from rfl] at k1
  rw [hq] at k0 k1
  unfold m_M_takesSeveral_b23_f m_M_takesSeveral_b90 m_M_takesSeveral_b86
  rw [e, if_neg (nI_ge hi (by omega)), m_scope T h40, bind_s]
  dsimp only
  simp only [b2i_0]
  cases f7 : flg (gA T 8) 7 i
  · rw [if_pos rfl]
    refine k0 ?_
    have f6 : flg (gA T 8) 6 i = false := by
      cases f6 : flg (gA T 8) 6 i
      · rfl
      · rw [flg67 f6] at f7; cases f7
    unfold allK
    rw [f7, f6]
    by_cases h : kd = 6
    · rw [if_pos h]; rfl
    · rw [if_neg h]; rfl
  · rw [if_neg (by decide), m_creat T h40, bind_s]
    dsimp only
    simp only [b2i_0]
    cases f8 : flg (gA T 8) 8 i
    · rw [if_pos rfl]
      by_cases h : kd = 6
      · rw [if_pos h, m_held T h40, bind_s]
        dsimp only
        simp only [b2i_0]
        unfold allK at k0 k1
        rw [if_pos h, f7, f8] at k0 k1
        cases f6 : flg (gA T 8) 6 i
        · rw [if_pos rfl]; exact k1 (by rw [f6]; rfl)
        · rw [if_neg (by decide)]; exact k0 (by rw [f6]; rfl)
      · rw [if_neg h, m_held T h40, bind_s]
        dsimp only
        simp only [b2i_0]
        unfold allK at k0 k1
        rw [if_neg h, f8] at k0 k1
        cases f6 : flg (gA T 8) 6 i
        · rw [if_pos rfl]; exact k0 (by rw [f6]; rfl)
        · rw [if_neg (by decide), m_worn T h40, bind_s]
          dsimp only
          simp only [b2i_0]
          cases f4 : flg (gA T 8) 4 i
          · rw [if_pos rfl]; exact k1 (by rw [f6, f4]; rfl)
          · rw [if_neg (by decide)]; exact k0 (by rw [f6, f4]; rfl)
    · rw [if_neg (by decide)]
      refine k0 ?_
      unfold allK
      rw [f8]
      by_cases h : kd = 6
      · rw [if_pos h]; simp
      · rw [if_neg h]; simp
def mAllE (T : St) (fr : Int32) (s : Nat) (xa : Int32) : Option (Int32 × St) := (m_M_stands T (xa + 1) 3).bind fun q => m_M_takesSeveral_b142 fu q.2 fr (nI s) (xa + 1) q.1
theorem m_all_l {n s : Nat} (hn : n ≤ 40) (hs : s < 2) (kd fr xa : Int32) (f : Nat → Int32) : ∀ (r fuel i : Nat) (T : St), gI T 3 = nI n → gA T 8 = f → gB T 20 s = bs (allK f kd) i → i + r = n → r < fuel → m_M_takesSeveral_b23 fuel T kd fr (nI s) xa (nI i) = mAllE (sB T 20 s (bs (allK f kd) n)) fr s xa
  | r, 0, i, T, _, _, _, _, hf => absurd hf (by omega)
  | 0, fuel + 1, i, T, e, e8, hw, he, _ => by
    show m_M_takesSeveral_b23_f _ T _ _ _ _ _ = _
    obtain rfl : i = n := by omega
    unfold m_M_takesSeveral_b23_f mAllE
    rw [e, if_pos (nI_le (Nat.le_refl i) (by omega)), sB_self hw]
  | r + 1, fuel + 1, i, T, e, e8, hw, he, hf => by
    show m_M_takesSeveral_b23_f (m_M_takesSeveral_b23 fuel) T _ _ _ _ _ = _
    rw [m_all_s hn hs (show i < n by omega) e kd fr xa (allK f kd) (by rw [e8]) hw]
    rw [m_all_l hn hs kd fr xa f r fuel (i + 1) (sB T 20 s (bs (allK f kd) (i + 1))) e e8 (by rw [gB_sB, if_pos rfl, updL_self]) (by omega) (by omega), sB_sB]
theorem SlV_set {n nc : Nat} {cw : Nat → Int32} {k p : Int32} {w wT v : Int64} {rs : Int32} {ra : Nat → Int32} {kT pT : Int32} {f t u : Int32} {q : Nat → Bool} (h : SlV n nc cw k p w rs ra kT pT wT f t u) (hv : v = bs q n) (h8 : kT ≤ 8) : SlV n nc cw k p v rs ra kT pT v f t u := by
  obtain ⟨a1, a2, a3, a4, a5, a6, a7, a8, a9, a10, a11⟩ := h
  exact ⟨a1, a2, rfl, ⟨_, hv⟩, a5, a6, a7, a8, a9, a10, fun z => absurd h8 (Int32.not_le.mpr z)⟩
theorem SlV_open {n nc a : Nat} {cw : Nat → Int32} {kd x : Int32} {w : Int64} {rs : Int32} {ra : Nat → Int32} {f t u : Int32} (h2 : 2 ≤ kd) (h8 : kd ≤ 8) (hx : x = nI a) (ha : a ≤ nc) (hw : w = 0) (hr : rs = nI 0) : SlV n nc cw kd x w rs ra kd (nI a) 0 f t u := by
  refine ⟨rfl, hx, hw, ⟨fun _ => false, by rw [hw]; exact ((bs_zero_f n).symm)⟩, h2, Int32.le_trans h8 (by decide), ⟨a, ha, rfl⟩, ?_, ?_, fun _ => hr, fun _ => hw⟩
  · intro z; rw [z] at h8; exact absurd h8 (by decide)
  · intro z
    rcases z with z | z
    · rw [z] at h8; exact absurd h8 (by decide)
    · rw [z] at h8; exact absurd h8 (by decide)
theorem open0 {S T : St} {n nc l a : Nat} (ht : Tr0 S T n nc l a 0) (ha : a ≤ nc) {kd : Int32} (h2 : 2 ≤ kd) (h8 : kd ≤ 8) : Tr0 (sI (sI S 17 kd) 18 (gI S 27)) (MS T 0 kd a) n nc l a (0 + 1) := by
  obtain ⟨t1, t2, t3, t4, t5, t6, t7, t8, t9, t10, s1, s2, s3⟩ := ht
  refine ⟨t1, t2, t3, t4, t5, t6, t7, t8, t9, t10, rfl, ?_, s3⟩
  unfold Sl0
  rw [MS_18, MS_19, MS_20, upd_self, upd_self, updL_self]
  exact SlV_open h2 h8 t2 ha s2.2.1 s2.2.2
theorem open1 {S T : St} {n nc l a : Nat} (ht : Tr0 S T n nc l a 1) (ha : a ≤ nc) {kd : Int32} (h2 : 2 ≤ kd) (h8 : kd ≤ 8) : Tr0 (sI (sI S 19 kd) 20 (gI S 27)) (MS T 1 kd a) n nc l a (1 + 1) := by
  obtain ⟨t1, t2, t3, t4, t5, t6, t7, t8, t9, t10, s1, s2, s3⟩ := ht
  refine ⟨t1, t2, t3, t4, t5, t6, t7, t8, t9, t10, rfl, ?_, ?_⟩
  · unfold Sl0
    rw [MS_18, MS_19, MS_20, upd_ne (by decide), upd_ne (by decide), updL_ne (by decide)]
    exact s2
  · unfold Sl1
    rw [MS_18, MS_19, MS_20, upd_self, upd_self, updL_self]
    exact SlV_open h2 h8 t2 ha s3.2.1 s3.2.2
theorem k678 {kd : Int32} (hk : kd = 6 ∨ kd = 7 ∨ kd = 8) : 2 ≤ kd ∧ kd ≤ 8 := by
  rcases hk with rfl | rfl | rfl <;> decide
theorem nI_sub1 (s : Nat) : nI (s + 1) - 1 = nI s := by rw [← nI_1]; exact Int32.add_sub_cancel _ _
theorem b321_end {T : St} {fr x : Int32} {s : Nat} (hs : s < 2) (h : gI T 7 = 0) : m_M_takesSeveral_b321 T fr (nI s) x = if gB T 20 s = 0 then some (x, sI (sI T 7 14) 8 fr) else some (x, T) := by
  unfold m_M_takesSeveral_b321
  rw [if_pos h, gd_t _ (vin_nI hs (by omega)), nI_clamp (show s < 2 ^ 31 by omega)]
  simp only [cmp_eq]
  rfl
theorem and_m1 (w : Int64) : w &&& (-1) = w := by
  refine bit_ext fun k hk => ?_
  rw [bit_and, show (-1 : Int64) = 0 ^^^ (-1) from rfl, bit_not 0 hk, bit_0]; simp
/-- the reference's loop with BUT, where no phrase stands -/
theorem m142_no {T T1 : St} {fr x : Int32} {s b nc fuel : Nat} (hs : s < 2) (hx : ¬ x = 0) (h7 : gI T 7 = 0) (e : gI T 6 = nI nc) (hn : nc ≤ 60) (hb : b < nc) (hT1 : gI T1 6 = nI nc) (h : if nc ≤ b + 1 then T1 = T else m_M_phrase T (nI (b + 1)) = some (0, T1)) : m_M_takesSeveral_b142 (fuel + 2) T fr (nI s) (nI b) x = some (nI (b + 1), sI (sI T1 7 7) 8 (nI (b + 1))) := by
  have h191 : m_M_takesSeveral_b176 (m_M_takesSeveral_b142 (fuel + 1)) T1 fr (nI s) (nI (b + 1)) 0 = some (nI (b + 1), sI (sI T1 7 7) 8 (nI (b + 1))) := by
    unfold m_M_takesSeveral_b176 m_M_takesSeveral_b191 m_M_takesSeveral_b217
    rw [if_pos rfl]
    show gd _ _ = _
    rw [gd_t _ (vin_nI hs (by omega)), if_pos rfl, gd_t _ (vin_nI hs (by omega)), nI_clamp (show s < 2 ^ 31 by omega), and_m1, sB_self rfl, show nI (b + 1) + 0 = nI (b + 1) from Int32.add_zero _]
    obtain ⟨r1, j1, -⟩ := m_joins (T := sI (sI T1 7 7) 8 (nI (b + 1))) (a := b + 1) hT1 hn (by omega)
    rw [j1, bind_s]
    dsimp only
    show m_M_takesSeveral_b142_f (m_M_takesSeveral_b142 fuel) _ _ _ _ _ = _
    unfold m_M_takesSeveral_b142_f m_M_takesSeveral_b237 m_M_takesSeveral_b321
    have hne : ¬ gI (sI (sI T1 7 7) 8 (nI (b + 1))) 7 = 0 := by show ¬ (7 : Int32) = 0; decide
    by_cases hr : r1 = 0
    · rw [if_pos hr, if_neg hne]
    · rw [if_neg hr, if_neg hne, if_neg hne]
  show m_M_takesSeveral_b142_f (m_M_takesSeveral_b142 (fuel + 1)) T _ _ _ _ = _
  unfold m_M_takesSeveral_b142_f
  rw [if_neg hx, if_pos h7, e, nI_1]
  by_cases hc : nc ≤ b + 1
  · rw [if_pos hc] at h
    rw [if_pos (nI_le hc (by omega)), ← h]
    exact h191
  · rw [if_neg hc] at h
    rw [if_neg (nI_ge (show b + 1 < nc by omega) (by omega)), h, bind_s]
    exact h191
theorem m142_yes {T T1 : St} {fr x : Int32} {s b m nc fuel : Nat} (hs : s < 2) (hx : ¬ x = 0) (h7 : gI T 7 = 0) (e : gI T 6 = nI nc) (hn : nc ≤ 60) (hb : b + 1 < nc) (hm : ¬ m = 0) (hmn : m < 100) (h : m_M_phrase T (nI (b + 1)) = some (nI m, T1)) : m_M_takesSeveral_b142 (fuel + 1) T fr (nI s) (nI b) x = (m_M_joins (sB T1 20 s (gB T1 20 s &&& (gL T1 0 ^^^ (-1)))) (nI (b + 1 + m))).bind fun q8 => m_M_takesSeveral_b142 fuel q8.2 fr (nI s) (nI (b + 1 + m)) q8.1 := by
  have hm0 : ¬ nI m = 0 := fun z => hm ((nI_eq (b := 0) (by omega) (by omega)).mp z)
  show m_M_takesSeveral_b142_f (m_M_takesSeveral_b142 fuel) T _ _ _ _ = _
  unfold m_M_takesSeveral_b142_f m_M_takesSeveral_b176 m_M_takesSeveral_b191 m_M_takesSeveral_b217
  rw [if_neg hx, if_pos h7, e, nI_1, if_neg (nI_ge hb (by omega)), h, bind_s]
  dsimp only
  rw [if_neg hm0, gd_t _ (vin_nI hs (by omega)), if_neg hm0, gd_t _ (vin_nI hs (by omega)), nI_clamp (show s < 2 ^ 31 by omega), nI_add]
theorem Tr0_set0 {S T : St} {n nc l a b : Nat} {v x3 z0 : Int64} {y : Int32} {q : Nat → Bool} (ht : Tr0 S T n nc l a (0 + 1)) (h8 : gA T 18 0 ≤ 8) (hv : v = bs q n) : Tr0 (sI (sL (sI (sL (sI S 27 (nI (a + 1))) 3 x3) 22 y) 0 v) 27 (nI b)) (sB (sL T 0 z0) 20 0 v) n nc l b (0 + 1) := by
  obtain ⟨t1, t2, t3, t4, t5, t6, t7, t8, t9, t10, s1, s2, s3⟩ := ht
  refine ⟨t1, rfl, t3, t4, t5, t6, t7, t8, t9, t10, s1, ?_, ?_⟩
  · unfold Sl0
    rw [show gB (sB (sL T 0 z0) 20 0 v) 20 0 = v by rw [gB_sB, if_pos rfl, updL_self]]
    exact SlV_set s2 hv h8
  · exact s3
theorem Tr0_all0 {S T : St} {n nc l a b : Nat} {v : Int64} {q : Nat → Bool} (ht : Tr0 S T n nc l a (0 + 1)) (h8 : gA T 18 0 ≤ 8) (hv : v = bs q n) : Tr0 (sI (sL S 0 v) 27 (nI b)) (sB T 20 0 v) n nc l b (0 + 1) := by
  obtain ⟨t1, t2, t3, t4, t5, t6, t7, t8, t9, t10, s1, s2, s3⟩ := ht
  refine ⟨t1, rfl, t3, t4, t5, t6, t7, t8, t9, t10, s1, ?_, ?_⟩
  · unfold Sl0
    rw [show gB (sB T 20 0 v) 20 0 = v by rw [gB_sB, if_pos rfl, updL_self]]
    exact SlV_set s2 hv h8
  · exact s3
theorem but0_l {n nl nc l af : Nat} {c cl : Nat → Nat} : ∀ (r b i fx fm : Nat) (x y : Int32) (S T : St), SC S T n c nl cl nc → Tr0 S T n nc l b (0 + 1) → b ≤ nc → nc - b ≤ r → i < b → gA T 18 0 ≤ 8 → gI S 18 = nI af → af ≤ nc → (x = 0 ↔ y = 0) → (¬ x = 0 → b < nc) → r + 1 < fx → r + 2 < fm → ∃ S2 T2 z, x_Trial_takeAll_b52 fx S x (nI i) = some S2 ∧ m_M_takesSeveral_b142 fm T (nI af) (nI 0) (nI b) y = some (z, T2) ∧ FrT S S2 ∧ FrM T T2 ∧ (TrE S2 T2 n nc l ∨ ∃ b', b ≤ b' ∧ b' ≤ nc ∧ z = nI b' ∧ Tr0 S2 T2 n nc l b' (0 + 1))
  | r, b, i, 0, fm, x, y, S, T, _, _, _, _, _, _, _, _, _, _, hf, _ => absurd hf (by omega)
  | r, b, i, fx + 1, 0, x, y, S, T, _, _, _, _, _, _, _, _, _, _, _, hf => absurd hf (by omega)
  | r, b, i, fx + 1, 1, x, y, S, T, _, _, _, _, _, _, _, _, _, _, _, hf => absurd hf (by omega)
  | r, b, i, fx + 1, fm + 2, x, y, S, T, h, ht, hb, hr, hi, h8, hp, haf, hxy, hxb, hfx, hfm => by
    obtain ⟨t1, t2, t3, t4, t5, t6, t7, t8, t9, t10, t11⟩ := id ht
    obtain ⟨⟨hn, e1, e2, e3, e4, e5, e6, e7, e8, e9, e10, e11⟩, -, -, ⟨hnc, w1, w2, w3, w4⟩⟩ := id h
    have hgl : gL S 0 = gB T 20 0 := by
      obtain ⟨s1, s2, s3⟩ := t11
      exact s2.2.2.1
    by_cases hx : x = 0
    · have hy := hxy.mp hx
      have hxx : x_Trial_takeAll_b52 (fx + 1) S x (nI i) = x_Trial_takeAll_b154 S := by
        show x_Trial_takeAll_b52_f _ S _ _ = _
        unfold x_Trial_takeAll_b52_f
        rw [if_pos hx]
      have hmm : m_M_takesSeveral_b142 (fm + 2) T (nI af) (nI 0) (nI b) y = m_M_takesSeveral_b321 T (nI af) (nI 0) (nI b) := by
        show m_M_takesSeveral_b142_f _ T _ _ _ _ = _
        unfold m_M_takesSeveral_b142_f m_M_takesSeveral_b237
        rw [if_pos hy]
      rw [hxx, hmm, b321_end (by decide) t4]
      unfold x_Trial_takeAll_b154
      simp only [cmp_eq]
      by_cases hz : gB T 20 0 = 0
      · rw [if_pos hz, hgl, if_pos hz, hp]
        exact ⟨_, _, _, rfl, rfl, (Fr.rf.sI rfl).sI rfl, (Fr.rf.sI rfl).sI rfl, Or.inl ⟨t1, 14, af, by decide, by decide, rfl, rfl, rfl, rfl, haf, fun z => absurd z (by decide), fun z => absurd z (by decide), ⟨0, by decide, t9⟩⟩⟩
      · rw [if_neg hz, hgl, if_neg hz]
        exact ⟨_, _, _, rfl, rfl, Fr.rf, Fr.rf, Or.inr ⟨b, Nat.le_refl b, hb, rfl, ht⟩⟩
    · have hy : ¬ y = 0 := fun z => hx (hxy.mpr z)
      have hbn := hxb hx
      have hcap : ¬ (60 : Int32) ≤ nI i := nI_ge (b := 60) (by omega) (by omega)
      have hph := x_ph20 (r := 6) (S0 := sI S 27 (nI (b + 1))) (n := n) (nc := nc) (c := c) e1 hn e4 e8 w1 hnc (by decide) (by decide) (a := b + 1) hbn
      obtain ⟨m, hm⟩ : ∃ m, m = plen (phZ (gA S 19) (gA S 17) c (gA S 6) (b + 1) n) (nc - (b + 1)) 0 := ⟨_, rfl⟩
      have hm2 : m = plen (phZ (gA T 10) (gA T 8) c (gA T 15) (b + 1) n) (nc - (b + 1)) 0 := by
        rw [hm]
        exact plen_eq2 hbn (fun t k ht hk => e7 t k ht hk) (fun t ht => e3 t ht) (fun k hk => w3 k hk)
      have hml := plen_le (z := phZ (gA S 19) (gA S 17) c (gA S 6) (b + 1) n) (nc - (b + 1)) 0
      rw [← hm] at hml
      rw [show gA (sI S 27 (nI (b + 1))) 19 = gA S 19 from rfl, show gA (sI S 27 (nI (b + 1))) 17 = gA S 17 from rfl, show gA (sI S 27 (nI (b + 1))) 6 = gA S 6 from rfl, ← hm] at hph
      have hstep : x_Trial_takeAll_b52 (fx + 1) S x (nI i) = x_Trial_takeAll_b52_f (x_Trial_takeAll_b52 fx) S x (nI i) := rfl
      unfold x_Trial_takeAll_b52_f at hstep
      rw [if_neg hx, if_neg hcap, t2, nI_1, show gI (sI S 27 (nI (b + 1))) 27 = nI (b + 1) from rfl, hph, bind_s] at hstep
      dsimp only at hstep
      by_cases hm0 : m = 0
      · rw [hm0, show nz 0 = 0 from rfl, if_pos rfl] at hstep
        have hmm : ∃ T1, (if nc ≤ b + 1 then T1 = T else m_M_phrase T (nI (b + 1)) = some (0, T1)) ∧ gI T1 6 = nI nc ∧ FrM T T1 := by
          by_cases hc : nc ≤ b + 1
          · exact ⟨T, by rw [if_pos hc], w2, Fr.rf⟩
          · have hmp := m_ph (T0 := T) (a := b + 1) e2 hn (fun t ht => (e4 t (by omega)).1) e5 w2 hnc hbn
            rw [← hm2, hm0, if_pos rfl] at hmp
            exact ⟨sL T 0 0, by rw [if_neg hc]; exact hmp, w2, Fr.rf.sL rfl⟩
        obtain ⟨T1, g1, g2, g3⟩ := hmm
        refine ⟨_, _, _, hstep, m142_no (by decide) hy t4 w2 hnc hbn g2 g1, ((((Fr.rf.sI rfl).sL rfl).sI rfl).sI rfl).sI rfl, (g3.sI rfl).sI rfl, Or.inl ⟨t1, 7, b + 1, by decide, by decide, rfl, rfl, rfl, rfl, hbn, fun z => absurd z (by decide), fun z => absurd z (by decide), ⟨0, by decide, t9⟩⟩⟩
      · have hlt : b + 1 < nc := by omega
        have hmp := m_ph (T0 := T) (a := b + 1) e2 hn (fun t ht => (e4 t (by omega)).1) e5 w2 hnc hbn
        rw [← hm2, if_neg hm0] at hmp
        rw [nz_pos hm0, if_neg one_ne0] at hstep
        have hw : bs (phP (gA T 10) (gA T 8) c (gA T 15) (b + 1) m) n = bs (phP (gA S 19) (gA S 17) c (gA S 6) (b + 1) m) n := phbs_eq (fun t k ht hk => (e7 t k ht hk).symm) (fun t ht => (e3 t ht).symm) (fun k hk => (w3 k (by omega)).symm)
        rw [hw] at hmp
        generalize hwv : bs (phP (gA S 19) (gA S 17) c (gA S 6) (b + 1) m) n = wv at hmp hstep
        have hsq : ∃ q, gB T 20 0 = bs q n := by
          obtain ⟨s1, s2, s3⟩ := t11
          rw [← hgl]
          exact s2.2.2.2.1
        obtain ⟨q, hq⟩ := hsq
        have hv : gB T 20 0 &&& (wv ^^^ (-1)) = bs (fun k => q k && !phP (gA S 19) (gA S 17) c (gA S 6) (b + 1) m k) n := by
          rw [hq, ← hwv]; exact bs_not (by omega)
        have hmy := m142_yes (T := T) (T1 := sL T 0 wv) (fr := nI af) (x := y) (s := 0) (b := b) (m := m) (nc := nc) (fuel := fm + 1) (by decide) hy t4 w2 hnc hlt hm0 (by omega) hmp
        rw [show gB (sL T 0 wv) 20 0 = gB T 20 0 from rfl, show gL (sL T 0 wv) 0 = wv from rfl] at hmy
        rw [show gL (sI (sL (sI S 27 (nI (b + 1))) 3 wv) 22 (nI (b + 1 + m))) 0 = gB T 20 0 from hgl, show gL (sI (sL (sI S 27 (nI (b + 1))) 3 wv) 22 (nI (b + 1 + m))) 3 = wv from rfl] at hstep
        generalize hvv : gB T 20 0 &&& (wv ^^^ (-1)) = vv at hmy hstep hv
        rw [show gI (sL (sI (sL (sI S 27 (nI (b + 1))) 3 wv) 22 (nI (b + 1 + m))) 0 vv) 22 = nI (b + 1 + m) from rfl] at hstep
        have hTr := Tr0_set0 (b := b + 1 + m) (x3 := wv) (z0 := wv) (y := nI (b + 1 + m)) ht h8 hv
        have fS : FrT S (sI (sL (sI (sL (sI S 27 (nI (b + 1))) 3 wv) 22 (nI (b + 1 + m))) 0 vv) 27 (nI (b + 1 + m))) := ((((Fr.rf.sI rfl).sL rfl).sI rfl).sL rfl).sI rfl
        have fT : FrM T (sB (sL T 0 wv) 20 0 vv) := (Fr.rf.sL rfl).sB rfl
        have hSC := h.fr fS fT
        generalize hS3 : sI (sL (sI (sL (sI S 27 (nI (b + 1))) 3 wv) 22 (nI (b + 1 + m))) 0 vv) 27 (nI (b + 1 + m)) = S3 at hstep hTr fS hSC
        have hpl : gI S3 18 = nI af := by rw [← hS3]; exact hp
        have h18 : gA (sB (sL T 0 wv) 20 0 vv) 18 0 ≤ 8 := h8
        generalize sB (sL T 0 wv) 20 0 vv = T3 at hmy hTr fT hSC h18
        obtain ⟨-, -, -, ⟨-, v1, v2, v3, v4⟩⟩ := id hSC
        have hat := x_at (r := 6) (S := S3) v1 (show nc ≤ 60 from hnc) (by decide) (nI (b + 1 + m))
        obtain ⟨r2, j3, j4⟩ := x_isJoin S3 (rat (gA S3 6) nc (nI (b + 1 + m)))
        obtain ⟨r1, j1, j2⟩ := m_joins (T := T3) (a := b + 1 + m) v2 hnc (by omega)
        have hj : r2 = 0 ↔ r1 = 0 := by
          rw [j2, j4, rat_isJ hnc (by omega), isJ_eq v3]
        rw [show gI S3 27 = nI (b + 1 + m) from hTr.2.1, hat, bind_s] at hstep
        dsimp only at hstep
        rw [j3, bind_s] at hstep
        dsimp only at hstep
        rw [j1, bind_s] at hmy
        dsimp only at hmy
        match r, hr, hfx, hfm with
        | 0, hr, _, _ => exact absurd hr (by omega)
        | r + 1, hr, hfx, hfm =>
          obtain ⟨S2, T2, z, g1, g2, g3, g4, g5⟩ := but0_l (af := af) r (b + 1 + m) (i + 1) fx (fm + 1) r2 r1 S3 T3 hSC hTr (by omega) (by omega) (by omega) h18 hpl haf hj (fun z => by
            have : isJ (gA T3 15) nc (b + 1 + m) := Classical.byContradiction fun hh => z (hj.mpr (j2.mpr hh))
            exact this.1) (by omega) (by omega)
          refine ⟨S2, T2, z, ?_, hmy.trans g2, fS.tr g3, fT.tr g4, ?_⟩
          · rw [hstep, show nI i + (1 : Int32) = nI (i + 1) from nI_1 i]; exact g1
          · rcases g5 with g5 | ⟨b', k1, k2, k3, k4⟩
            · exact Or.inl g5
            · exact Or.inr ⟨b', by omega, k2, k3, k4⟩
/-- a slot of several things: slot 0 -/
theorem several0 {S T : St} {n nl nc l a : Nat} {c cl : Nat → Nat} (h : SC S T n c nl cl nc) (ht : Tr0 S T n nc l a 0) (ha : a < nc) (ha1 : 1 ≤ a) (kd : Int32) (hk : kd = 6 ∨ kd = 7 ∨ kd = 8) : ∃ S2 T2 r, (if gA S 6 a = 4 then x_Trial_takeAll S kd else x_Trial_takeList S kd) = some S2 ∧ m_M_takesSeveral (MS T 0 kd a) kd (nI a) = some (r, T2) ∧ FrT S S2 ∧ FrM T T2 ∧ (TrE S2 T2 n nc l ∨ ∃ b, a < b ∧ b ≤ nc ∧ r = nI b ∧ Tr0 S2 T2 n nc l b (0 + 1)) := by
  obtain ⟨k2, k8⟩ := k678 hk
  have hO := open0 ht (Nat.le_of_lt ha) k2 k8
  have hx := x_open0 (S := S) ht.2.2.2.2.2.2.2.2.2.2.2.1.1 kd
  have fS : FrT S (sI (sI S 17 kd) 18 (gI S 27)) := (Fr.rf.sI rfl).sI rfl
  have fT : FrM T (MS T 0 kd a) := FrMS
  have hSC := h.fr fS fT
  have hp : gI (sI (sI S 17 kd) 18 (gI S 27)) 18 = nI a := ht.2.1
  have h6 : gA (sI (sI S 17 kd) 18 (gI S 27)) 6 = gA S 6 := rfl
  have h18 : gA (MS T 0 kd a) 18 0 ≤ 8 := by rw [MS_18, upd_self]; exact k8
  have h20 : gB (MS T 0 kd a) 20 0 = 0 := by rw [MS_20, updL_self]
  generalize sI (sI S 17 kd) 18 (gI S 27) = S1 at hO hx fS hSC hp h6
  have h13 : gI (MS T 0 kd a) 13 = nI (0 + 1) := rfl
  generalize MS T 0 kd a = T1 at hO fT hSC h18 h20 h13
  obtain ⟨⟨hn, e1, e2, e3, e4, e5, e6, e7, e8, e9, e10, e11⟩, -, -, ⟨hnc, w1, w2, w3, w4⟩⟩ := id hSC
  have hst := m_stands (T := T1) (a := a) w2 hnc (by omega) 4
  have hwa : gA T1 15 a = gA S 6 a := by rw [← w3 a ha, h6]
  by_cases h4 : gA S 6 a = 4
  · rw [if_pos h4]
    rw [if_pos ⟨ha, by rw [hwa]; exact h4⟩] at hst
    have hal := x_allFor hn e8 e9 e10 e11 kd
    have heq : bs (allK (gA T1 8) kd) n = bs (allK (gA S1 17) kd) n := bs_eq n fun t ht => by unfold allK flg; rw [e3 t ht]
    have hml := m_all_l (n := n) (s := 0) hn (by decide) kd (nI a) (nI a) (gA T1 8) n fu 0 T1 e2 rfl (by rw [h20]; rfl) (by omega) (show n < 100000 by omega)
    rw [heq] at hml
    generalize hv : bs (allK (gA S1 17) kd) n = v at hal hml
    have hTr := Tr0_all0 (b := a + 1) hO h18 hv.symm
    have fS2 : FrT S1 (sI (sL S1 0 v) 27 (nI (a + 1))) := (Fr.rf.sL rfl).sI rfl
    have fT2 : FrM T1 (sB T1 20 0 v) := Fr.rf.sB rfl
    have hSC2 := hSC.fr fS2 fT2
    have hxx : x_Trial_takeAll S kd = (x_Row_at 6 (sI (sL S1 0 v) 27 (nI (a + 1))) (nI (a + 1))).bind fun q3 => if q3.1 = (3 : Int32) then x_Trial_takeAll_b48 q3.2 (1 : Int32) else x_Trial_takeAll_b48 q3.2 (0 : Int32) := by
      unfold x_Trial_takeAll
      rw [hx, bind_s]
      dsimp only
      rw [if_pos rfl, hal, bind_s]
      dsimp only
      rw [show gI (sL S1 0 v) 27 = nI a from hO.2.1, nI_1]
      rfl
    have hmm : m_M_takesSeveral T1 kd (nI a) = mAllE (sB T1 20 0 v) (nI a) 0 (nI a) := by
      unfold m_M_takesSeveral
      rw [hst, bind_s]
      dsimp only
      rw [if_neg one_ne0, h13, nI_sub1]
      exact hml
    have hp2 : gI (sI (sL S1 0 v) 27 (nI (a + 1))) 18 = nI a := hp
    have h182 : gA (sB T1 20 0 v) 18 0 ≤ 8 := h18
    generalize sI (sL S1 0 v) 27 (nI (a + 1)) = S3 at hxx hTr fS2 hSC2 hp2
    generalize sB T1 20 0 v = T3 at hmm hTr fT2 hSC2 h182
    obtain ⟨-, -, -, ⟨-, v1, v2, v3, v4⟩⟩ := id hSC2
    have hat := x_at (r := 6) (S := S3) v1 (show nc ≤ 60 from hnc) (by decide) (nI (a + 1))
    have hst2 := m_stands (T := T3) (a := a + 1) v2 hnc (by omega) 3
    unfold mAllE at hmm
    rw [nI_1, hst2, bind_s] at hmm
    rw [hat, bind_s] at hxx
    dsimp only at hmm hxx
    have hri := rat_is (cw := gA S3 6) (nc := nc) (a := a + 1) hnc (by omega) (w := 3) (by decide)
    obtain ⟨x, y, g0, g1, g2, g3⟩ : ∃ x y : Int32, x_Trial_takeAll S kd = x_Trial_takeAll_b52 fu S3 x (nI 0) ∧ m_M_takesSeveral T1 kd (nI a) = m_M_takesSeveral_b142 fu T3 (nI a) (nI 0) (nI (a + 1)) y ∧ (x = 0 ↔ y = 0) ∧ (¬ x = 0 → a + 1 < nc) := by
      by_cases hc : a + 1 < nc ∧ gA S3 6 (a + 1) = 3
      · rw [if_pos (by rw [hri]; exact hc)] at hxx
        rw [if_pos ⟨hc.1, by rw [← v3 _ hc.1]; exact hc.2⟩] at hmm
        exact ⟨1, 1, hxx, hmm, Iff.rfl, fun _ => hc.1⟩
      · rw [if_neg (by rw [hri]; exact hc)] at hxx
        rw [if_neg (fun z => hc ⟨z.1, by rw [v3 _ z.1]; exact z.2⟩)] at hmm
        exact ⟨0, 0, hxx, hmm, Iff.rfl, fun z => absurd rfl z⟩
    obtain ⟨S2, T2, z, f1, f2, f3, f4, f5⟩ := but0_l (af := a) nc (a + 1) 0 fu fu x y S3 T3 hSC2 hTr (by omega) (by omega) (by omega) h182 hp2 (by omega) g2 g3 (show _ < 100000 by omega) (show _ < 100000 by omega)
    refine ⟨S2, T2, z, g0.trans f1, g1.trans f2, (fS.tr fS2).tr f3, (fT.tr fT2).tr f4, ?_⟩
    rcases f5 with f5 | ⟨b', q1, q2, q3, q4⟩
    · exact Or.inl f5
    · exact Or.inr ⟨b', by omega, q2, q3, q4⟩
  · rw [if_neg h4]
    rw [if_neg (fun z => h4 (by rw [← hwa]; exact z.2))] at hst
    obtain ⟨S2, T2, z, f1, f2, f3, f4, f5⟩ := list0_l (nl := nl) (cl := cl) kd (nI a) nc a 0 fu fu S1 T1 hSC hO (by omega) (by omega) (by omega) h18 (show _ < 100000 by omega) (show _ < 100000 by omega)
    refine ⟨S2, T2, z, ?_, ?_, fS.tr f3, fT.tr f4, f5⟩
    · unfold x_Trial_takeList
      rw [hx, bind_s]
      dsimp only
      unfold eachK at f1
      by_cases h6 : kd = 6
      · rw [if_pos h6] at f1
        rw [if_pos rfl, if_pos h6]; exact f1
      · rw [if_neg h6] at f1
        rw [if_pos rfl, if_neg h6]; exact f1
    · unfold m_M_takesSeveral
      rw [hst, bind_s]
      dsimp only
      rw [if_pos rfl, h13, nI_sub1]
      unfold mList eachK at f2
      unfold m_M_takesSeveral_b252
      by_cases h6 : kd = 6
      · rw [if_pos ha, if_pos h6] at f2
        rw [if_pos h6]; exact f2
      · rw [if_pos ha, if_neg h6] at f2
        rw [if_neg h6]; exact f2
theorem Tr0_set1 {S T : St} {n nc l a b : Nat} {v x3 z0 : Int64} {y : Int32} {q : Nat → Bool} (ht : Tr0 S T n nc l a (1 + 1)) (h8 : gA T 18 1 ≤ 8) (hv : v = bs q n) : Tr0 (sI (sL (sI (sL (sI S 27 (nI (a + 1))) 3 x3) 22 y) 1 v) 27 (nI b)) (sB (sL T 0 z0) 20 1 v) n nc l b (1 + 1) := by
  obtain ⟨t1, t2, t3, t4, t5, t6, t7, t8, t9, t10, s1, s2, s3⟩ := ht
  refine ⟨t1, rfl, t3, t4, t5, t6, t7, t8, t9, t10, s1, ?_, ?_⟩
  · unfold Sl0
    rw [show gB (sB (sL T 0 z0) 20 1 v) 20 0 = gB T 20 0 by rw [gB_sB, if_pos rfl, updL_ne (by decide)] <;> rfl]
    exact s2
  · unfold Sl1
    rw [show gB (sB (sL T 0 z0) 20 1 v) 20 1 = v by rw [gB_sB, if_pos rfl, updL_self]]
    exact SlV_set s3 hv h8
theorem Tr0_all1 {S T : St} {n nc l a b : Nat} {v : Int64} {q : Nat → Bool} (ht : Tr0 S T n nc l a (1 + 1)) (h8 : gA T 18 1 ≤ 8) (hv : v = bs q n) : Tr0 (sI (sL S 1 v) 27 (nI b)) (sB T 20 1 v) n nc l b (1 + 1) := by
  obtain ⟨t1, t2, t3, t4, t5, t6, t7, t8, t9, t10, s1, s2, s3⟩ := ht
  refine ⟨t1, rfl, t3, t4, t5, t6, t7, t8, t9, t10, s1, ?_, ?_⟩
  · unfold Sl0
    rw [show gB (sB T 20 1 v) 20 0 = gB T 20 0 by rw [gB_sB, if_pos rfl, updL_ne (by decide)] <;> rfl]
    exact s2
  · unfold Sl1
    rw [show gB (sB T 20 1 v) 20 1 = v by rw [gB_sB, if_pos rfl, updL_self]]
    exact SlV_set s3 hv h8
theorem but1_l {n nl nc l af : Nat} {c cl : Nat → Nat} : ∀ (r b i fx fm : Nat) (x y : Int32) (S T : St), SC S T n c nl cl nc → Tr0 S T n nc l b (1 + 1) → b ≤ nc → nc - b ≤ r → i < b → gA T 18 1 ≤ 8 → gI S 20 = nI af → af ≤ nc → (x = 0 ↔ y = 0) → (¬ x = 0 → b < nc) → r + 1 < fx → r + 2 < fm → ∃ S2 T2 z, x_Trial_takeAll_b52_1 fx S x (nI i) = some S2 ∧ m_M_takesSeveral_b142 fm T (nI af) (nI 1) (nI b) y = some (z, T2) ∧ FrT S S2 ∧ FrM T T2 ∧ (TrE S2 T2 n nc l ∨ ∃ b', b ≤ b' ∧ b' ≤ nc ∧ z = nI b' ∧ Tr0 S2 T2 n nc l b' (1 + 1))
  | r, b, i, 0, fm, x, y, S, T, _, _, _, _, _, _, _, _, _, _, hf, _ => absurd hf (by omega)
  | r, b, i, fx + 1, 0, x, y, S, T, _, _, _, _, _, _, _, _, _, _, _, hf => absurd hf (by omega)
  | r, b, i, fx + 1, 1, x, y, S, T, _, _, _, _, _, _, _, _, _, _, _, hf => absurd hf (by omega)
  | r, b, i, fx + 1, fm + 2, x, y, S, T, h, ht, hb, hr, hi, h8, hp, haf, hxy, hxb, hfx, hfm => by
    obtain ⟨t1, t2, t3, t4, t5, t6, t7, t8, t9, t10, t11⟩ := id ht
    obtain ⟨⟨hn, e1, e2, e3, e4, e5, e6, e7, e8, e9, e10, e11⟩, -, -, ⟨hnc, w1, w2, w3, w4⟩⟩ := id h
    have hgl : gL S 1 = gB T 20 1 := by
      obtain ⟨s1, s2, s3⟩ := t11
      exact s3.2.2.1
    by_cases hx : x = 0
    · have hy := hxy.mp hx
      have hxx : x_Trial_takeAll_b52_1 (fx + 1) S x (nI i) = x_Trial_takeAll_b154_1 S := by
        show x_Trial_takeAll_b52_1_f _ S _ _ = _
        unfold x_Trial_takeAll_b52_1_f
        rw [if_pos hx]
      have hmm : m_M_takesSeveral_b142 (fm + 2) T (nI af) (nI 1) (nI b) y = m_M_takesSeveral_b321 T (nI af) (nI 1) (nI b) := by
        show m_M_takesSeveral_b142_f _ T _ _ _ _ = _
        unfold m_M_takesSeveral_b142_f m_M_takesSeveral_b237
        rw [if_pos hy]
      rw [hxx, hmm, b321_end (by decide) t4]
      unfold x_Trial_takeAll_b154_1
      simp only [cmp_eq]
      by_cases hz : gB T 20 1 = 0
      · rw [if_pos hz, hgl, if_pos hz, hp]
        exact ⟨_, _, _, rfl, rfl, (Fr.rf.sI rfl).sI rfl, (Fr.rf.sI rfl).sI rfl, Or.inl ⟨t1, 14, af, by decide, by decide, rfl, rfl, rfl, rfl, haf, fun z => absurd z (by decide), fun z => absurd z (by decide), ⟨0, by decide, t9⟩⟩⟩
      · rw [if_neg hz, hgl, if_neg hz]
        exact ⟨_, _, _, rfl, rfl, Fr.rf, Fr.rf, Or.inr ⟨b, Nat.le_refl b, hb, rfl, ht⟩⟩
    · have hy : ¬ y = 0 := fun z => hx (hxy.mpr z)
      have hbn := hxb hx
      have hcap : ¬ (60 : Int32) ≤ nI i := nI_ge (b := 60) (by omega) (by omega)
      have hph := x_ph20 (r := 6) (S0 := sI S 27 (nI (b + 1))) (n := n) (nc := nc) (c := c) e1 hn e4 e8 w1 hnc (by decide) (by decide) (a := b + 1) hbn
      obtain ⟨m, hm⟩ : ∃ m, m = plen (phZ (gA S 19) (gA S 17) c (gA S 6) (b + 1) n) (nc - (b + 1)) 0 := ⟨_, rfl⟩
      have hm2 : m = plen (phZ (gA T 10) (gA T 8) c (gA T 15) (b + 1) n) (nc - (b + 1)) 0 := by
        rw [hm]
        exact plen_eq2 hbn (fun t k ht hk => e7 t k ht hk) (fun t ht => e3 t ht) (fun k hk => w3 k hk)
      have hml := plen_le (z := phZ (gA S 19) (gA S 17) c (gA S 6) (b + 1) n) (nc - (b + 1)) 0
      rw [← hm] at hml
      rw [show gA (sI S 27 (nI (b + 1))) 19 = gA S 19 from rfl, show gA (sI S 27 (nI (b + 1))) 17 = gA S 17 from rfl, show gA (sI S 27 (nI (b + 1))) 6 = gA S 6 from rfl, ← hm] at hph
      have hstep : x_Trial_takeAll_b52_1 (fx + 1) S x (nI i) = x_Trial_takeAll_b52_1_f (x_Trial_takeAll_b52_1 fx) S x (nI i) := rfl
      unfold x_Trial_takeAll_b52_1_f at hstep
      rw [if_neg hx, if_neg hcap, t2, nI_1, show gI (sI S 27 (nI (b + 1))) 27 = nI (b + 1) from rfl, hph, bind_s] at hstep
      dsimp only at hstep
      by_cases hm0 : m = 0
      · rw [hm0, show nz 0 = 0 from rfl, if_pos rfl] at hstep
        have hmm : ∃ T1, (if nc ≤ b + 1 then T1 = T else m_M_phrase T (nI (b + 1)) = some (0, T1)) ∧ gI T1 6 = nI nc ∧ FrM T T1 := by
          by_cases hc : nc ≤ b + 1
          · exact ⟨T, by rw [if_pos hc], w2, Fr.rf⟩
          · have hmp := m_ph (T0 := T) (a := b + 1) e2 hn (fun t ht => (e4 t (by omega)).1) e5 w2 hnc hbn
            rw [← hm2, hm0, if_pos rfl] at hmp
            exact ⟨sL T 0 0, by rw [if_neg hc]; exact hmp, w2, Fr.rf.sL rfl⟩
        obtain ⟨T1, g1, g2, g3⟩ := hmm
        refine ⟨_, _, _, hstep, m142_no (by decide) hy t4 w2 hnc hbn g2 g1, ((((Fr.rf.sI rfl).sL rfl).sI rfl).sI rfl).sI rfl, (g3.sI rfl).sI rfl, Or.inl ⟨t1, 7, b + 1, by decide, by decide, rfl, rfl, rfl, rfl, hbn, fun z => absurd z (by decide), fun z => absurd z (by decide), ⟨0, by decide, t9⟩⟩⟩
      · have hlt : b + 1 < nc := by omega
        have hmp := m_ph (T0 := T) (a := b + 1) e2 hn (fun t ht => (e4 t (by omega)).1) e5 w2 hnc hbn
        rw [← hm2, if_neg hm0] at hmp
        rw [nz_pos hm0, if_neg one_ne0] at hstep
        have hw : bs (phP (gA T 10) (gA T 8) c (gA T 15) (b + 1) m) n = bs (phP (gA S 19) (gA S 17) c (gA S 6) (b + 1) m) n := phbs_eq (fun t k ht hk => (e7 t k ht hk).symm) (fun t ht => (e3 t ht).symm) (fun k hk => (w3 k (by omega)).symm)
        rw [hw] at hmp
        generalize hwv : bs (phP (gA S 19) (gA S 17) c (gA S 6) (b + 1) m) n = wv at hmp hstep
        have hsq : ∃ q, gB T 20 1 = bs q n := by
          obtain ⟨s1, s2, s3⟩ := t11
          rw [← hgl]
          exact s3.2.2.2.1
        obtain ⟨q, hq⟩ := hsq
        have hv : gB T 20 1 &&& (wv ^^^ (-1)) = bs (fun k => q k && !phP (gA S 19) (gA S 17) c (gA S 6) (b + 1) m k) n := by
          rw [hq, ← hwv]; exact bs_not (by omega)
        have hmy := m142_yes (T := T) (T1 := sL T 0 wv) (fr := nI af) (x := y) (s := 1) (b := b) (m := m) (nc := nc) (fuel := fm + 1) (by decide) hy t4 w2 hnc hlt hm0 (by omega) hmp
        rw [show gB (sL T 0 wv) 20 1 = gB T 20 1 from rfl, show gL (sL T 0 wv) 0 = wv from rfl] at hmy
        rw [show gL (sI (sL (sI S 27 (nI (b + 1))) 3 wv) 22 (nI (b + 1 + m))) 1 = gB T 20 1 from hgl, show gL (sI (sL (sI S 27 (nI (b + 1))) 3 wv) 22 (nI (b + 1 + m))) 3 = wv from rfl] at hstep
        generalize hvv : gB T 20 1 &&& (wv ^^^ (-1)) = vv at hmy hstep hv
        rw [show gI (sL (sI (sL (sI S 27 (nI (b + 1))) 3 wv) 22 (nI (b + 1 + m))) 1 vv) 22 = nI (b + 1 + m) from rfl] at hstep
        have hTr := Tr0_set1 (b := b + 1 + m) (x3 := wv) (z0 := wv) (y := nI (b + 1 + m)) ht h8 hv
        have fS : FrT S (sI (sL (sI (sL (sI S 27 (nI (b + 1))) 3 wv) 22 (nI (b + 1 + m))) 1 vv) 27 (nI (b + 1 + m))) := ((((Fr.rf.sI rfl).sL rfl).sI rfl).sL rfl).sI rfl
        have fT : FrM T (sB (sL T 0 wv) 20 1 vv) := (Fr.rf.sL rfl).sB rfl
        have hSC := h.fr fS fT
        generalize hS3 : sI (sL (sI (sL (sI S 27 (nI (b + 1))) 3 wv) 22 (nI (b + 1 + m))) 1 vv) 27 (nI (b + 1 + m)) = S3 at hstep hTr fS hSC
        have hpl : gI S3 20 = nI af := by rw [← hS3]; exact hp
        have h18 : gA (sB (sL T 0 wv) 20 1 vv) 18 1 ≤ 8 := h8
        generalize sB (sL T 0 wv) 20 1 vv = T3 at hmy hTr fT hSC h18
        obtain ⟨-, -, -, ⟨-, v1, v2, v3, v4⟩⟩ := id hSC
        have hat := x_at (r := 6) (S := S3) v1 (show nc ≤ 60 from hnc) (by decide) (nI (b + 1 + m))
        obtain ⟨r2, j3, j4⟩ := x_isJoin S3 (rat (gA S3 6) nc (nI (b + 1 + m)))
        obtain ⟨r1, j1, j2⟩ := m_joins (T := T3) (a := b + 1 + m) v2 hnc (by omega)
        have hj : r2 = 0 ↔ r1 = 0 := by
          rw [j2, j4, rat_isJ hnc (by omega), isJ_eq v3]
        rw [show gI S3 27 = nI (b + 1 + m) from hTr.2.1, hat, bind_s] at hstep
        dsimp only at hstep
        rw [j3, bind_s] at hstep
        dsimp only at hstep
        rw [j1, bind_s] at hmy
        dsimp only at hmy
        match r, hr, hfx, hfm with
        | 0, hr, _, _ => exact absurd hr (by omega)
        | r + 1, hr, hfx, hfm =>
          obtain ⟨S2, T2, z, g1, g2, g3, g4, g5⟩ := but1_l (af := af) r (b + 1 + m) (i + 1) fx (fm + 1) r2 r1 S3 T3 hSC hTr (by omega) (by omega) (by omega) h18 hpl haf hj (fun z => by
            have : isJ (gA T3 15) nc (b + 1 + m) := Classical.byContradiction fun hh => z (hj.mpr (j2.mpr hh))
            exact this.1) (by omega) (by omega)
          refine ⟨S2, T2, z, ?_, hmy.trans g2, fS.tr g3, fT.tr g4, ?_⟩
          · rw [hstep, show nI i + (1 : Int32) = nI (i + 1) from nI_1 i]; exact g1
          · rcases g5 with g5 | ⟨b', k1, k2, k3, k4⟩
            · exact Or.inl g5
            · exact Or.inr ⟨b', by omega, k2, k3, k4⟩
/-- a slot of several things: slot 1 -/
theorem several1 {S T : St} {n nl nc l a : Nat} {c cl : Nat → Nat} (h : SC S T n c nl cl nc) (ht : Tr0 S T n nc l a 1) (ha : a < nc) (ha1 : 1 ≤ a) (kd : Int32) (hk : kd = 6 ∨ kd = 7 ∨ kd = 8) : ∃ S2 T2 r, (if gA S 6 a = 4 then x_Trial_takeAll S kd else x_Trial_takeList S kd) = some S2 ∧ m_M_takesSeveral (MS T 1 kd a) kd (nI a) = some (r, T2) ∧ FrT S S2 ∧ FrM T T2 ∧ (TrE S2 T2 n nc l ∨ ∃ b, a < b ∧ b ≤ nc ∧ r = nI b ∧ Tr0 S2 T2 n nc l b (1 + 1)) := by
  obtain ⟨k2, k8⟩ := k678 hk
  have hO := open1 ht (Nat.le_of_lt ha) k2 k8
  have hx := x_open1 (S := S) (Sl0.k ht.2.2.2.2.2.2.2.2.2.2.2.1) kd
  have fS : FrT S (sI (sI S 19 kd) 20 (gI S 27)) := (Fr.rf.sI rfl).sI rfl
  have fT : FrM T (MS T 1 kd a) := FrMS
  have hSC := h.fr fS fT
  have hp : gI (sI (sI S 19 kd) 20 (gI S 27)) 20 = nI a := ht.2.1
  have h6 : gA (sI (sI S 19 kd) 20 (gI S 27)) 6 = gA S 6 := rfl
  have h18 : gA (MS T 1 kd a) 18 1 ≤ 8 := by rw [MS_18, upd_self]; exact k8
  have h20 : gB (MS T 1 kd a) 20 1 = 0 := by rw [MS_20, updL_self]
  generalize sI (sI S 19 kd) 20 (gI S 27) = S1 at hO hx fS hSC hp h6
  have h13 : gI (MS T 1 kd a) 13 = nI (1 + 1) := rfl
  generalize MS T 1 kd a = T1 at hO fT hSC h18 h20 h13
  obtain ⟨⟨hn, e1, e2, e3, e4, e5, e6, e7, e8, e9, e10, e11⟩, -, -, ⟨hnc, w1, w2, w3, w4⟩⟩ := id hSC
  have hst := m_stands (T := T1) (a := a) w2 hnc (by omega) 4
  have hwa : gA T1 15 a = gA S 6 a := by rw [← w3 a ha, h6]
  by_cases h4 : gA S 6 a = 4
  · rw [if_pos h4]
    rw [if_pos ⟨ha, by rw [hwa]; exact h4⟩] at hst
    have hal := x_allFor hn e8 e9 e10 e11 kd
    have heq : bs (allK (gA T1 8) kd) n = bs (allK (gA S1 17) kd) n := bs_eq n fun t ht => by unfold allK flg; rw [e3 t ht]
    have hml := m_all_l (n := n) (s := 1) hn (by decide) kd (nI a) (nI a) (gA T1 8) n fu 0 T1 e2 rfl (by rw [h20]; rfl) (by omega) (show n < 100000 by omega)
    rw [heq] at hml
    generalize hv : bs (allK (gA S1 17) kd) n = v at hal hml
    have hTr := Tr0_all1 (b := a + 1) hO h18 hv.symm
    have fS2 : FrT S1 (sI (sL S1 1 v) 27 (nI (a + 1))) := (Fr.rf.sL rfl).sI rfl
    have fT2 : FrM T1 (sB T1 20 1 v) := Fr.rf.sB rfl
    have hSC2 := hSC.fr fS2 fT2
    have hxx : x_Trial_takeAll S kd = (x_Row_at 6 (sI (sL S1 1 v) 27 (nI (a + 1))) (nI (a + 1))).bind fun q3 => if q3.1 = (3 : Int32) then x_Trial_takeAll_b48_1 q3.2 (1 : Int32) else x_Trial_takeAll_b48_1 q3.2 (0 : Int32) := by
      unfold x_Trial_takeAll
      rw [hx, bind_s]
      dsimp only
      rw [if_neg (by decide), if_pos rfl, hal, bind_s]
      dsimp only
      rw [show gI (sL S1 1 v) 27 = nI a from hO.2.1, nI_1]
      rfl
    have hmm : m_M_takesSeveral T1 kd (nI a) = mAllE (sB T1 20 1 v) (nI a) 1 (nI a) := by
      unfold m_M_takesSeveral
      rw [hst, bind_s]
      dsimp only
      rw [if_neg one_ne0, h13, nI_sub1]
      exact hml
    have hp2 : gI (sI (sL S1 1 v) 27 (nI (a + 1))) 20 = nI a := hp
    have h182 : gA (sB T1 20 1 v) 18 1 ≤ 8 := h18
    generalize sI (sL S1 1 v) 27 (nI (a + 1)) = S3 at hxx hTr fS2 hSC2 hp2
    generalize sB T1 20 1 v = T3 at hmm hTr fT2 hSC2 h182
    obtain ⟨-, -, -, ⟨-, v1, v2, v3, v4⟩⟩ := id hSC2
    have hat := x_at (r := 6) (S := S3) v1 (show nc ≤ 60 from hnc) (by decide) (nI (a + 1))
    have hst2 := m_stands (T := T3) (a := a + 1) v2 hnc (by omega) 3
    unfold mAllE at hmm
    rw [nI_1, hst2, bind_s] at hmm
    rw [hat, bind_s] at hxx
    dsimp only at hmm hxx
    have hri := rat_is (cw := gA S3 6) (nc := nc) (a := a + 1) hnc (by omega) (w := 3) (by decide)
    obtain ⟨x, y, g0, g1, g2, g3⟩ : ∃ x y : Int32, x_Trial_takeAll S kd = x_Trial_takeAll_b52_1 fu S3 x (nI 0) ∧ m_M_takesSeveral T1 kd (nI a) = m_M_takesSeveral_b142 fu T3 (nI a) (nI 1) (nI (a + 1)) y ∧ (x = 0 ↔ y = 0) ∧ (¬ x = 0 → a + 1 < nc) := by
      by_cases hc : a + 1 < nc ∧ gA S3 6 (a + 1) = 3
      · rw [if_pos (by rw [hri]; exact hc)] at hxx
        rw [if_pos ⟨hc.1, by rw [← v3 _ hc.1]; exact hc.2⟩] at hmm
        exact ⟨1, 1, hxx, hmm, Iff.rfl, fun _ => hc.1⟩
      · rw [if_neg (by rw [hri]; exact hc)] at hxx
        rw [if_neg (fun z => hc ⟨z.1, by rw [v3 _ z.1]; exact z.2⟩)] at hmm
        exact ⟨0, 0, hxx, hmm, Iff.rfl, fun z => absurd rfl z⟩
    obtain ⟨S2, T2, z, f1, f2, f3, f4, f5⟩ := but1_l (af := a) nc (a + 1) 0 fu fu x y S3 T3 hSC2 hTr (by omega) (by omega) (by omega) h182 hp2 (by omega) g2 g3 (show _ < 100000 by omega) (show _ < 100000 by omega)
    refine ⟨S2, T2, z, g0.trans f1, g1.trans f2, (fS.tr fS2).tr f3, (fT.tr fT2).tr f4, ?_⟩
    rcases f5 with f5 | ⟨b', q1, q2, q3, q4⟩
    · exact Or.inl f5
    · exact Or.inr ⟨b', by omega, q2, q3, q4⟩
  · rw [if_neg h4]
    rw [if_neg (fun z => h4 (by rw [← hwa]; exact z.2))] at hst
    obtain ⟨S2, T2, z, f1, f2, f3, f4, f5⟩ := list1_l (nl := nl) (cl := cl) kd (nI a) nc a 0 fu fu S1 T1 hSC hO (by omega) (by omega) (by omega) h18 (show _ < 100000 by omega) (show _ < 100000 by omega)
    refine ⟨S2, T2, z, ?_, ?_, fS.tr f3, fT.tr f4, f5⟩
    · unfold x_Trial_takeList
      rw [hx, bind_s]
      dsimp only
      unfold eachK at f1
      by_cases h6 : kd = 6
      · rw [if_pos h6] at f1
        rw [if_neg (by decide), if_pos rfl, if_pos h6]; exact f1
      · rw [if_neg h6] at f1
        rw [if_neg (by decide), if_pos rfl, if_neg h6]; exact f1
    · unfold m_M_takesSeveral
      rw [hst, bind_s]
      dsimp only
      rw [if_pos rfl, h13, nI_sub1]
      unfold mList eachK at f2
      unfold m_M_takesSeveral_b252
      by_cases h6 : kd = 6
      · rw [if_pos ha, if_pos h6] at f2
        rw [if_pos h6]; exact f2
      · rw [if_pos ha, if_neg h6] at f2
        rw [if_neg h6]; exact f2

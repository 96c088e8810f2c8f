theorem k2345 {kd : Int32} (h1 : ¬ kd < 2) (h2 : ¬ 5 < kd) : kd = 2 ∨ kd = 3 ∨ kd = 4 ∨ kd = 5 := by
  rw [Int32.lt_iff_toInt_lt] at h1 h2
  rw [show (2 : Int32).toInt = 2 from rfl] at h1
  rw [show (5 : Int32).toInt = 5 from rfl] at h2
  rcases (show kd.toInt = 2 ∨ kd.toInt = 3 ∨ kd.toInt = 4 ∨ kd.toInt = 5 by omega) with h | h | h | h
  · exact Or.inl (Int32.toInt_inj.mp h)
  · exact Or.inr (Or.inl (Int32.toInt_inj.mp h))
  · exact Or.inr (Or.inr (Or.inl (Int32.toInt_inj.mp h)))
  · exact Or.inr (Or.inr (Or.inr (Int32.toInt_inj.mp h)))
theorem k01 {kd : Int32} (h0 : 0 ≤ kd) (h1 : kd < 2) : kd = 0 ∨ kd = 1 := by
  rw [Int32.le_iff_toInt_le] at h0
  rw [Int32.lt_iff_toInt_lt] at h1
  rw [show (2 : Int32).toInt = 2 from rfl] at h1
  rw [show (0 : Int32).toInt = 0 from rfl] at h0
  rcases (show kd.toInt = 0 ∨ kd.toInt = 1 by omega) with h | h
  · exact Or.inl (Int32.toInt_inj.mp h)
  · exact Or.inr (Int32.toInt_inj.mp h)
/-- what the class needs of its lines -/
def LX (S : St) (nl : Nat) (cl : Nat → Nat) (l n : Nat) : Prop := gI S 25 = nI nl ∧ nl ≤ 60 ∧ (∀ l, l < 60 → cl l ≤ 8 ∧ gA S 23 l = nI (cl l)) ∧ l < nl ∧ (∀ k, k < cl l → 0 ≤ gA S 24 (8 * l + k) ∧ gA S 24 (8 * l + k) ≤ 11) ∧ gI S 26 = nI l ∧ gI S 23 = nI n ∧ n ≤ 40
theorem LX.fr {S S2 : St} {nl l n : Nat} {cl : Nat → Nat} (h : LX S nl cl l n) (f : FrF S S2) : LX S2 nl cl l n := by
  unfold LX at h ⊢
  rw [f.1 25 rfl, f.2.2.1 23 rfl, f.2.2.1 24 rfl, f.1 26 rfl, f.1 23 rfl]
  exact h
theorem SC.lx {S T : St} {n nl nc l : Nat} {c cl : Nat → Nat} (h : SC S T n c nl cl nc) (hl : l < nl) (e : gI S 26 = nI l) : LX S nl cl l n := by
  obtain ⟨⟨hn, e1, -⟩, ⟨hnl, f1, f2, f3, f4, f5, f6, f6b, f7, f8, f9, f10, f11⟩, -⟩ := h
  exact ⟨f1, hnl, f7, hl, (f11 l hl).1, e, e1, hn⟩
theorem and_z (w : Int64) : (0 : Int64) &&& w = 0 := by
  refine bit_ext fun k hk => ?_
  rw [bit_and, bit_0, Bool.false_and]
theorem or_z (w : Int64) : w ||| (0 : Int64) = w := by
  refine bit_ext fun k hk => ?_
  rw [bit_or, bit_0, Bool.or_false]
theorem card_z : card (bit 0) 64 = 0 := (card_0 64).mpr fun k _ => bit_0 k
abbrev XFl0 (S : St) (kd : Int32) (F : Nat) (v : Int64) (x : Int32) : St := sI (sA (sL (sI (sI S 17 kd) 18 (gI S 27)) 0 v) 11 F x) 11 (nI (F + 1))
abbrev XFl1 (S : St) (kd : Int32) (F : Nat) (v : Int64) (x : Int32) : St := sI (sA (sL (sI (sI S 19 kd) 20 (gI S 27)) 1 v) 11 F x) 11 (nI (F + 1))
theorem x_fillX {S : St} {n F : Nat} (e1 : gI S 23 = nI n) (hn : n ≤ 40) (e11 : gI S 11 = nI F) (hF : F < 8) (kd x2 : Int32) (v : Int64) (k2 : St → Int32 → Option (Int32 × St)) : ((x_Trial_openSlot S kd).bind fun q6 =>
          if q6.1 = 17 then
            (x_Things_firstOf (sL q6.2 0 v) v).bind fun q7 =>
            (x_Row_add 11 q7.2 ((20000 : Int32) + q7.1)).bind fun q8 =>
            x_Trial_fillFrom_b134 k2 q8 x2
          else
          if q6.1 = 18 then
            (x_Things_firstOf (sL q6.2 1 v) v).bind fun q9 =>
            (x_Row_add 11 q9.2 ((20000 : Int32) + q9.1)).bind fun q10 =>
            x_Trial_fillFrom_b134 k2 q10 x2
          else
          none) = if gI S 17 = (-1) then k2 (XFl0 S kd F v ((20000 : Int32) + nthE (bit v) n 0 0)) (x2 + 1) else k2 (XFl1 S kd F v ((20000 : Int32) + nthE (bit v) n 0 0)) (x2 + 1) := by
  by_cases h : gI S 17 = (-1)
  · rw [if_pos h, x_open0 h, bind_s]
    dsimp only
    rw [if_pos rfl, x_first (S := sL (sI (sI S 17 kd) 18 (gI S 27)) 0 v) (n := n) e1 hn v, bind_s]
    dsimp only
    rw [x_add (r := 11) (S := sL (sI (sI S 17 kd) 18 (gI S 27)) 0 v) (n := F) e11 hF (by decide), bind_s]
    rfl
  · rw [if_neg h, x_open1 h, bind_s]
    dsimp only
    rw [if_neg (by decide), if_pos rfl, x_first (S := sL (sI (sI S 19 kd) 20 (gI S 27)) 1 v) (n := n) e1 hn v, bind_s]
    dsimp only
    rw [x_add (r := 11) (S := sL (sI (sI S 19 kd) 20 (gI S 27)) 1 v) (n := F) e11 hF (by decide), bind_s]
    rfl
theorem x_fill_any (S : St) {kd : Int32} (hk : kd = 2 ∨ kd = 3 ∨ kd = 4 ∨ kd = 5) : ∃ w, x_Things_fillersFor S kd = some (w, S) := by
  unfold x_Things_fillersFor
  rcases hk with rfl | rfl | rfl | rfl
  · rw [if_neg (by decide), if_pos rfl]; exact ⟨_, rfl⟩
  · rw [if_neg (by decide), if_neg (by decide), if_pos rfl]; exact ⟨_, rfl⟩
  · rw [if_neg (by decide), if_neg (by decide), if_neg (by decide), if_pos rfl]; exact ⟨_, rfl⟩
  · rw [if_neg (by decide), if_neg (by decide), if_neg (by decide), if_neg (by decide), if_pos rfl]; exact ⟨_, rfl⟩
/-- the class, where not all that lacks is of one thing -/
theorem x_fill_no {n nl l : Nat} {cl : Nat → Nat} : ∀ (r i fx F : Nat) (S : St), LX S nl cl l n → i + r = cl l → (∃ j, i ≤ j ∧ j < cl l ∧ 5 < gA S 24 (8 * l + j)) → gI S 11 = nI F → F ≤ i → r < fx → ∃ S2, x_Trial_fillFrom_b2 fx S (nI i) = some (0, S2) ∧ FrF S S2
  | r, i, 0, F, S, _, _, _, _, _, hf => absurd hf (by omega)
  | 0, i, fx + 1, F, S, _, he, ⟨j, j1, j2, _⟩, _, _, _ => absurd j2 (by omega)
  | r + 1, i, fx + 1, F, S, h, he, ⟨j, j1, j2, j3⟩, e11, hF, hf => by
    obtain ⟨g1, g2, g3, g4, g5, g6, g7, g8⟩ := id h
    have h8 := g3 l (by omega)
    have hst : x_Trial_fillFrom_b2 (fx + 1) S (nI i) = x_Trial_fillFrom_b2_f (x_Trial_fillFrom_b2 fx) S (nI i) := rfl
    unfold x_Trial_fillFrom_b2_f at hst
    rw [g6, x_kindsOf g1 g2 g3 g4, bind_s] at hst
    dsimp only at hst
    rw [if_neg (nI_ge (show i < cl l by omega) (by omega)), g6, x_kindAt g1 g2 g3 g4, bind_s, rat_nI (show i < cl l by omega) (by omega)] at hst
    dsimp only at hst
    have hb := g5 i (by omega)
    have hj5 : 5 < gA S 24 (8 * l + i) ∨ i + 1 ≤ j := by
      by_cases hji : j = i
      · rw [hji] at j3; exact Or.inl j3
      · exact Or.inr (by omega)
    generalize gA S 24 (8 * l + i) = kd at hst hb hj5
    have hlit : ∀ {v : Int32}, ¬ 5 < kd → v = kd → i + 1 ≤ j := fun h5 _ => hj5.resolve_left h5
    by_cases h0 : kd = 0
    · rw [if_pos h0, g6, x_ofAt g1 g2 g3 g4, bind_s, rat_nI (show i < cl l by omega) (by omega)] at hst
      dsimp only at hst
      rw [x_add (r := 11) (n := F) e11 (show F < 8 by omega) (by decide), bind_s] at hst
      unfold x_Trial_fillFrom_b134 at hst
      rw [show nI i + (1 : Int32) = nI (i + 1) from nI_1 i] at hst
      have fS : FrF S (sI (sA S 11 F (gA S 25 (8 * l + i))) 11 (nI (F + 1))) := (Fr.rf.sA rfl).sI rfl
      obtain ⟨S2, q1, q2⟩ := x_fill_no r (i + 1) fx (F + 1) _ (h.fr fS) (by omega) ⟨j, hj5.resolve_left (by rw [h0]; decide), j2, j3⟩ rfl (by omega) (by omega)
      exact ⟨S2, hst.trans q1, fS.tr q2⟩
    rw [if_neg h0, x_isSlot, bind_s, btw_slot hb.2] at hst
    dsimp only at hst
    by_cases h2 : kd < 2
    · rw [if_pos h2, if_pos rfl] at hst
      unfold x_Trial_fillFrom_b134 at hst
      rw [show nI i + (1 : Int32) = nI (i + 1) from nI_1 i] at hst
      obtain ⟨S2, q1, q2⟩ := x_fill_no r (i + 1) fx F S h (by omega) ⟨j, hj5.resolve_left (fun z => absurd (Int32.lt_trans z h2) (by decide)), j2, j3⟩ e11 (by omega) (by omega)
      exact ⟨S2, hst.trans q1, q2⟩
    rw [if_neg h2, if_neg one_ne0] at hst
    by_cases h5 : 5 < kd
    · rw [x_fillers_no h5, bind_s] at hst
      dsimp only at hst
      rw [and_z, x_bitCount, bind_s, card_z] at hst
      dsimp only at hst
      rw [if_neg (by decide)] at hst
      exact ⟨S, hst, Fr.rf⟩
    · obtain ⟨w, hw⟩ := x_fill_any S (k2345 h2 h5)
      rw [hw, bind_s] at hst
      dsimp only at hst
      generalize (w &&& ((gL S 0 ||| gL S 1) ^^^ (-1))) = v at hst
      rw [x_bitCount, bind_s] at hst
      dsimp only at hst
      by_cases hc : nI (card (bit v) 64) = 1
      · rw [if_pos hc, x_fillX g7 g8 e11 (show F < 8 by omega), show nI i + (1 : Int32) = nI (i + 1) from nI_1 i] at hst
        by_cases hs : gI S 17 = (-1)
        · rw [if_pos hs] at hst
          have fS : FrF S (XFl0 S kd F v ((20000 : Int32) + nthE (bit v) n 0 0)) := ((((Fr.rf.sI rfl).sI rfl).sL rfl).sA rfl).sI rfl
          obtain ⟨S2, q1, q2⟩ := x_fill_no r (i + 1) fx (F + 1) _ (h.fr fS) (by omega) ⟨j, hj5.resolve_left h5, j2, j3⟩ rfl (by omega) (by omega)
          exact ⟨S2, hst.trans q1, fS.tr q2⟩
        · rw [if_neg hs] at hst
          have fS : FrF S (XFl1 S kd F v ((20000 : Int32) + nthE (bit v) n 0 0)) := ((((Fr.rf.sI rfl).sI rfl).sL rfl).sA rfl).sI rfl
          obtain ⟨S2, q1, q2⟩ := x_fill_no r (i + 1) fx (F + 1) _ (h.fr fS) (by omega) ⟨j, hj5.resolve_left h5, j2, j3⟩ rfl (by omega) (by omega)
          exact ⟨S2, hst.trans q1, fS.tr q2⟩
      · rw [if_neg hc] at hst
        exact ⟨S, hst, Fr.rf⟩
theorem MFl_18 (T : St) (m : Nat) (kd : Int32) (nc F : Nat) (v : Int64) (x : Int32) : gA (MFl T m kd nc F v x) 18 = upd (gA T 18) m kd := MS_18 T m kd nc
theorem MFl_19 (T : St) (m : Nat) (kd : Int32) (nc F : Nat) (v : Int64) (x : Int32) : gA (MFl T m kd nc F v x) 19 = upd (gA T 19) m (nI nc) := MS_19 T m kd nc
theorem MFl_17 (T : St) (m : Nat) (kd : Int32) (nc F : Nat) (v : Int64) (x : Int32) : gA (MFl T m kd nc F v x) 17 = upd (gA T 17) F x := by
  show gA (sA (sB (MS T m kd nc) 20 m v) 17 F x) 17 = _
  rw [gA_sA, if_pos rfl]; rfl
theorem MFl_20 (T : St) (m : Nat) (kd : Int32) (nc F : Nat) (v : Int64) (x : Int32) : gB (MFl T m kd nc F v x) 20 = vp_updL (gB T 20) m v := by
  show gB (sB (MS T m kd nc) 20 m v) 20 = _
  rw [gB_sB, if_pos rfl, MS_20, updL_updL]
theorem XFl0_11 (S : St) (kd : Int32) (F : Nat) (v : Int64) (x : Int32) : gA (XFl0 S kd F v x) 11 = upd (gA S 11) F x := by
  show gA (sA (sL (sI (sI S 17 kd) 18 (gI S 27)) 0 v) 11 F x) 11 = _
  rw [gA_sA, if_pos rfl]; rfl
theorem XFl1_11 (S : St) (kd : Int32) (F : Nat) (v : Int64) (x : Int32) : gA (XFl1 S kd F v x) 11 = upd (gA S 11) F x := by
  show gA (sA (sL (sI (sI S 19 kd) 20 (gI S 27)) 1 v) 11 F x) 11 = _
  rw [gA_sA, if_pos rfl]; rfl
theorem fill_open0 {S T : St} {n nc l F : Nat} {kd x : Int32} {v : Int64} {p : Nat → Bool} (ht : TrF S T n nc l F 0) (hk : kd = 2 ∨ kd = 3 ∨ kd = 4 ∨ kd = 5) (hv : v = bs p n) : TrF (XFl0 S kd F v x) (MFl T 0 kd nc F v x) n nc l (F + 1) 1 := by
  obtain ⟨t1, t2, t3, t4, t5, t6, t7, t8, t9, t10, t11, s1, s2, s3⟩ := ht
  refine ⟨t1, t2, t3, t4, t5, t6, rfl, rfl, ?_, t10, t11, rfl, ?_, s3⟩
  · rw [XFl0_11, MFl_17]; exact t9.up
  · unfold Sl0
    rw [MFl_18, MFl_19, MFl_20, upd_self, upd_self, updL_self]
    exact SlV_thing hk t2 (Nat.le_refl nc) hv s2.2.2
theorem fill_open1 {S T : St} {n nc l F : Nat} {kd x : Int32} {v : Int64} {p : Nat → Bool} (ht : TrF S T n nc l F 1) (hk : kd = 2 ∨ kd = 3 ∨ kd = 4 ∨ kd = 5) (hv : v = bs p n) : TrF (XFl1 S kd F v x) (MFl T 1 kd nc F v x) n nc l (F + 1) 2 := by
  obtain ⟨t1, t2, t3, t4, t5, t6, t7, t8, t9, t10, t11, s1, s2, s3⟩ := ht
  refine ⟨t1, t2, t3, t4, t5, t6, rfl, rfl, ?_, t10, t11, rfl, ?_, ?_⟩
  · rw [XFl1_11, MFl_17]; exact t9.up
  · unfold Sl0
    rw [MFl_18, MFl_19, MFl_20, upd_ne (by decide), upd_ne (by decide), updL_ne (by decide)]
    exact s2
  · unfold Sl1
    rw [MFl_18, MFl_19, MFl_20, upd_self, upd_self, updL_self]
    exact SlV_thing hk t2 (Nat.le_refl nc) hv s3.2.2
theorem bs_nb {p : Nat → Bool} {n : Nat} (hn : n ≤ 64) (w : Int64) : bs p n &&& (w ^^^ (-1)) = bs (fun t => p t && !bit w t) n := by
  refine bit_ext fun k hk => ?_
  rw [bit_and, bit_bs hn, bit_not w hk, bit_bs hn, Bool.and_assoc]

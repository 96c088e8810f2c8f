theorem lt_tr {a b : Int32} (h : a < b) : a.toInt < b.toInt := Int32.lt_iff_toInt_lt.mp h
theorem nlt_tr {a b : Int32} (h : ¬ a < b) : b.toInt ≤ a.toInt := by
  have : ¬ a.toInt < b.toInt := fun q => h (Int32.lt_iff_toInt_lt.mpr q)
  omega
/-- a word of any kind -/
theorem word2 (S T : St) (w : Int32) : ∃ r, x_G_isWord S w = some (r, S) ∧ m_M_isAny T w = some (r, T) ∧ (¬ r = 0 → 0 < w ∧ w ≤ 19999) := by
  have t1 : (1 : Int32).toInt = 1 := rfl
  have t7 : (7 : Int32).toInt = 7 := rfl
  have t10 : (10 : Int32).toInt = 10 := rfl
  have t0 : (0 : Int32).toInt = 0 := rfl
  have tw : (19999 : Int32).toInt = 19999 := rfl
  have lo : x_G_isWord_b11 S w = some (btw w 10 19999, S) := by
    unfold x_G_isWord_b11 btw
    by_cases h1 : w < 10
    · rw [if_pos h1, if_pos h1]
    · rw [if_neg h1, if_neg h1]
      by_cases h2 : (19999 : Int32) < w
      · rw [if_pos h2, if_pos h2]
      · rw [if_neg h2, if_neg h2]
  have hb : ¬ btw w 10 19999 = 0 → 0 < w ∧ w ≤ 19999 := by
    intro h
    obtain ⟨h1, h2⟩ := btw_1 h
    have := nlt_tr h1
    have := nlt_tr h2
    exact ⟨Int32.lt_iff_toInt_lt.mpr (by omega), Int32.le_iff_toInt_le.mpr (by omega)⟩
  have hm : m_M_isAny T w = if btw w 1 7 = 0 then (if btw w 10 19999 = 0 then some (0, T) else some (1, T)) else some (1, T) := by
    unfold m_M_isAny
    rw [m_within, bind_s]
    dsimp only
    rw [m_within, bind_s]
  by_cases h1 : w < 1
  · have e1 : btw w 1 7 = 0 := by unfold btw; rw [if_pos h1]
    refine ⟨btw w 10 19999, ?_, ?_, hb⟩
    · unfold x_G_isWord; rw [if_pos h1, lo]
    · rw [hm, if_pos e1]
      rcases btw_01 w 10 19999 with z | z
      · rw [z, if_pos rfl]
      · rw [z, if_neg one_ne0]
  · by_cases h7 : w ≤ 7
    · have h7' : ¬ (7 : Int32) < w := fun q => by
        have := lt_tr q
        have := Int32.le_iff_toInt_le.mp h7
        omega
      have e1 : btw w 1 7 = 1 := by unfold btw; rw [if_neg h1, if_neg h7']
      refine ⟨1, ?_, ?_, fun _ => ?_⟩
      · unfold x_G_isWord; rw [if_neg h1, if_pos h7]
      · rw [hm, e1, if_neg one_ne0]
      · have := nlt_tr h1
        have := Int32.le_iff_toInt_le.mp h7
        exact ⟨Int32.lt_iff_toInt_lt.mpr (by omega), Int32.le_iff_toInt_le.mpr (by omega)⟩
    · have h7' : (7 : Int32) < w := by
        have : ¬ w.toInt ≤ (7 : Int32).toInt := fun q => h7 (Int32.le_iff_toInt_le.mpr q)
        exact Int32.lt_iff_toInt_lt.mpr (by omega)
      have e1 : btw w 1 7 = 0 := by unfold btw; rw [if_neg h1, if_pos h7']
      refine ⟨btw w 10 19999, ?_, ?_, hb⟩
      · unfold x_G_isWord; rw [if_neg h1, if_neg h7, lo]
      · rw [hm, if_pos e1]
        rcases btw_01 w 10 19999 with z | z
        · rw [z, if_pos rfl]
        · rw [z, if_neg one_ne0]
/-- w comes in at place b of row r -/
theorem x_ins_l {r n b : Nat} (w : Int32) (hn : n < xcap r) (hc : xcap r ≤ 60) (hb : b ≤ n) : ∀ (q fuel : Nat) (S : St), gI S r = nI n → b + q ≤ n → q < fuel → ∃ S2, x_Row_insert_b30 r fuel S (nI b) w (nI (b + q)) = some S2 ∧ FrW r S S2 ∧ gI S2 r = nI (n + 1) ∧ (∀ k, k < b → gA S2 r k = gA S r k) ∧ gA S2 r b = w ∧ (∀ k, b < k → k ≤ b + q → gA S2 r k = gA S r (k - 1)) ∧ ∀ k, b + q < k → gA S2 r k = gA S r k
  | q, 0, S, _, _, hf => absurd hf (by omega)
  | 0, fuel + 1, S, e, he, _ => by
    have a3 : gA (sI (sA S r b w) r (nI (n + 1))) r = upd (gA S r) b w := by rw [gA_sI, gA_sA, if_pos rfl]
    refine ⟨sI (sA S r b w) r (nI (n + 1)), ?_, (Fr.rf.sA (beq_tt r)).sI (beq_tt r), by rw [gI_sI, if_pos rfl], ?_, ?_, ?_, ?_⟩
    · show x_Row_insert_b30_f _ _ S _ _ _ = _
      unfold x_Row_insert_b30_f
      rw [if_pos (nI_le (show b + 0 ≤ b by omega) (by omega)), gd_t _ (vin_nI (show b < xcap r by omega) (by omega)), nI_clamp (show b < 2 ^ 31 by omega), gI_sA, e, nI_1]
    · intro k hk; rw [a3, upd_ne (by omega)]
    · rw [a3, upd_self]
    · intro k k1 k2; exact absurd k2 (by omega)
    · intro k hk; rw [a3, upd_ne (by omega)]
  | q + 1, fuel + 1, S, e, he, hf => by
    have a3 : gA (sA S r (b + q + 1) (gA S r (b + q))) r = upd (gA S r) (b + q + 1) (gA S r (b + q)) := by rw [gA_sA, if_pos rfl]
    obtain ⟨S2, q1, q2, q3, q4, q5, q6, q7⟩ := x_ins_l w hn hc hb q fuel (sA S r (b + q + 1) (gA S r (b + q))) e (by omega) (by omega)
    have fr : FrW r S (sA S r (b + q + 1) (gA S r (b + q))) := Fr.rf.sA (beq_tt r)
    refine ⟨S2, ?_, fr.tr q2, q3, ?_, q5, ?_, ?_⟩
    · show x_Row_insert_b30_f _ (x_Row_insert_b30 r fuel) S _ _ _ = _
      unfold x_Row_insert_b30_f
      rw [show b + (q + 1) = b + q + 1 by omega, if_neg (nI_ge (show b < b + q + 1 by omega) (by omega)), nI_pred, pk_m1, gd_t _ (vin_nI (show b + q < xcap r by omega) (by omega)), gd_t _ (vin_nI (show b + q + 1 < xcap r by omega) (by omega)), nI_clamp (show b + q < 2 ^ 31 by omega), nI_clamp (show b + q + 1 < 2 ^ 31 by omega)]
      exact q1
    · intro k hk; rw [q4 k hk, a3, upd_ne (by omega)]
    · intro k k1 k2
      by_cases hk : k = b + q + 1
      · rw [q7 k (by omega), a3, hk, upd_self]; rfl
      · rw [q6 k k1 (by omega), a3, upd_ne (by omega)]
    · intro k hk; rw [q7 k (by omega), a3, upd_ne (by omega)]
abbrev FrC (T T2 : St) : Prop := Fr (isR 14) noL (isR 24) noB T T2
theorem m_ins_l {n b : Nat} (w : Int32) (hn : n < 60) (hb : b ≤ n) : ∀ (q fuel : Nat) (T : St), gI T 14 = nI n → b + q ≤ n → q < fuel → ∃ T2, m_M_comesIn_b5 fuel T (nI b) w (nI (b + q)) = some T2 ∧ FrC T T2 ∧ gI T2 14 = nI (n + 1) ∧ (∀ k, k < b → gA T2 24 k = gA T 24 k) ∧ gA T2 24 b = w ∧ (∀ k, b < k → k ≤ b + q → gA T2 24 k = gA T 24 (k - 1)) ∧ ∀ k, b + q < k → gA T2 24 k = gA T 24 k
  | q, 0, T, _, _, hf => absurd hf (by omega)
  | 0, fuel + 1, T, e, he, _ => by
    have a3 : gA (sI (sA T 24 b w) 14 (nI (n + 1))) 24 = upd (gA T 24) b w := by rw [gA_sI, gA_sA, if_pos rfl]
    refine ⟨sI (sA T 24 b w) 14 (nI (n + 1)), ?_, (Fr.rf.sA rfl).sI rfl, rfl, ?_, ?_, ?_, ?_⟩
    · show m_M_comesIn_b5_f _ T _ _ _ = _
      unfold m_M_comesIn_b5_f
      rw [if_pos (nI_le (show b + 0 ≤ b by omega) (by omega)), gd_t _ (vin_nI (show b < 60 by omega) (by omega)), nI_clamp (show b < 2 ^ 31 by omega), gI_sA, e, nI_1]
    · intro k hk; rw [a3, upd_ne (by omega)]
    · rw [a3, upd_self]
    · intro k k1 k2; exact absurd k2 (by omega)
    · intro k hk; rw [a3, upd_ne (by omega)]
  | q + 1, fuel + 1, T, e, he, hf => by
    have a3 : gA (sA T 24 (b + q + 1) (gA T 24 (b + q))) 24 = upd (gA T 24) (b + q + 1) (gA T 24 (b + q)) := by rw [gA_sA, if_pos rfl]
    obtain ⟨T2, q1, q2, q3, q4, q5, q6, q7⟩ := m_ins_l w hn hb q fuel (sA T 24 (b + q + 1) (gA T 24 (b + q))) e (by omega) (by omega)
    have fr : FrC T (sA T 24 (b + q + 1) (gA T 24 (b + q))) := Fr.rf.sA rfl
    refine ⟨T2, ?_, fr.tr q2, q3, ?_, q5, ?_, ?_⟩
    · show m_M_comesIn_b5_f (m_M_comesIn_b5 fuel) T _ _ _ = _
      unfold m_M_comesIn_b5_f
      rw [show b + (q + 1) = b + q + 1 by omega, if_neg (nI_ge (show b < b + q + 1 by omega) (by omega)), nI_pred, pk_m1, gd_t _ (vin_nI (show b + q < 60 by omega) (by omega)), gd_t _ (vin_nI (show b + q + 1 < 60 by omega) (by omega)), nI_clamp (show b + q < 2 ^ 31 by omega), nI_clamp (show b + q + 1 < 2 ^ 31 by omega)]
      exact q1
    · intro k hk; rw [q4 k hk, a3, upd_ne (by omega)]
    · intro k k1 k2
      by_cases hk : k = b + q + 1
      · rw [q7 k (by omega), a3, hk, upd_self]; rfl
      · rw [q6 k k1 (by omega), a3, upd_ne (by omega)]
    · intro k hk; rw [q7 k (by omega), a3, upd_ne (by omega)]
theorem FrC.z {T T2 : St} (h : FrC T T2) : FrZ T T2 := ⟨fun k hk => h.1 k (beq_ff (fun z => by rw [z] at hk; cases hk)), fun k _ => h.2.1 k rfl, fun k hk => h.2.2.1 k (beq_ff (fun z => by rw [z] at hk; cases hk)), fun k _ => h.2.2.2 k rfl⟩
/-- the answer comes in where the phrase ended -/
theorem ins2 {S T : St} {nc b : Nat} (h : CRn S T nc) (hn : nc < 60) (hb : b ≤ nc) (w : Int32) (hw : 0 < w ∧ w ≤ 19999) : ∃ S2 T2, x_Row_insert 6 S (nI b) w = some S2 ∧ m_M_comesIn T (nI b) w = some T2 ∧ FrW 6 S S2 ∧ FrC T T2 ∧ CRn S2 T2 (nc + 1) := by
  obtain ⟨c0, c1, c2, c3, c4⟩ := h
  obtain ⟨S2, q1, q2, q3, q4, q5, q6, q7⟩ := x_ins_l (r := 6) w (show nc < 60 from hn) (by decide) hb (nc - b) fu S c1 (by omega) (show nc - b < 100000 by omega)
  obtain ⟨T2, r1, r2, r3, r4, r5, r6, r7⟩ := m_ins_l w hn hb (nc - b) fu T c2 (by omega) (show nc - b < 100000 by omega)
  rw [show b + (nc - b) = nc by omega] at q1 q6 r1 r6
  refine ⟨S2, T2, ?_, ?_, q2, r2, by omega, q3, r3, ?_, ?_⟩
  · unfold x_Row_insert
    rw [if_neg (nI_pos (by omega)), c1, if_neg (nI_nlt hb (by omega)), ofN, if_pos (nI_lt (show nc < xcap 6 from hn) (by decide))]
    exact q1
  · unfold m_M_comesIn
    rw [c2]
    exact r1
  · intro k hk
    by_cases k1 : k < b
    · rw [q4 k k1, r4 k k1]; exact c3 k (by omega)
    · by_cases k2 : k = b
      · rw [k2, q5, r5]
      · rw [q6 k (by omega) (by omega), r6 k (by omega) (by omega)]; exact c3 _ (by omega)
  · intro k hk
    by_cases k1 : k < b
    · rw [q4 k k1]; exact c4 k (by omega)
    · by_cases k2 : k = b
      · rw [k2, q5]; exact hw
      · rw [q6 k (by omega) (by omega)]; exact c4 _ (by omega)
theorem CRn.add {S T : St} {m : Nat} (h : CRn S T m) (hm : m < 60) {v : Int32} (hv : 0 < v ∧ v ≤ 19999) : CRn (sI (sA S 6 m v) 6 (nI (m + 1))) (sI (sA T 24 m v) 14 (nI (m + 1))) (m + 1) := by
  obtain ⟨c0, c1, c2, c3, c4⟩ := h
  have a3 : gA (sI (sA S 6 m v) 6 (nI (m + 1))) 6 = upd (gA S 6) m v := by rw [gA_sI, gA_sA, if_pos rfl]
  have b3 : gA (sI (sA T 24 m v) 14 (nI (m + 1))) 24 = upd (gA T 24) m v := by rw [gA_sI, gA_sA, if_pos rfl]
  refine ⟨by omega, rfl, rfl, ?_, ?_⟩
  · rw [a3, b3]; exact c3.up
  · intro k hk
    rw [a3]
    by_cases e : k = m
    · rw [e, upd_self]; exact hv
    · rw [upd_ne e]; exact c4 k (by omega)
theorem m_end {T : St} {m : Nat} (e : gI T 14 = nI m) (hm : m < 60) (v : Int32) : m_M_comesIn T (nI m) v = some (sI (sA T 24 m v) 14 (nI (m + 1))) := by
  unfold m_M_comesIn
  rw [e]
  show m_M_comesIn_b5_f _ T _ _ _ = _
  unfold m_M_comesIn_b5_f
  rw [if_pos (nI_le (show m ≤ m by omega) (by omega)), gd_t _ (vin_nI hm (by omega)), nI_clamp (show m < 2 ^ 31 by omega), gI_sA, e, nI_1]
/-- the words that are told come behind, then the answer -/
theorem told_l {q : Nat} {w : Int32} (hq : q ≤ 8) (hw : 0 < w ∧ w ≤ 19999) : ∀ (r fx fm j m : Nat) (S T : St), j + r = q → CRn S T m → m + r + 1 ≤ 60 → gI S 16 = nI (q + 1) → gI T 11 = nI q → (∀ j, j < q → gA S 16 (j + 1) = gA T 16 j ∧ 0 < gA T 16 j ∧ gA T 16 j ≤ 19999) → r < fx → r < fm → ∃ S2 T2, x_G_putAnswer_b30 fx S w (nI q) (nI (j + 1)) = some S2 ∧ m_M_answer_b103 fm T w (nI j) = m_M_answer_b140 T2 ∧ FrW 6 S S2 ∧ FrC T T2 ∧ CRn S2 T2 (m + r + 1)
  | r, 0, fm, j, m, S, T, _, _, _, _, _, _, hf, _ => absurd hf (by omega)
  | r, fx + 1, 0, j, m, S, T, _, _, _, _, _, _, _, hf => absurd hf (by omega)
  | 0, fx + 1, fm + 1, j, m, S, T, he, h, hm, e16, e11, hk, _, _ => by
    refine ⟨_, _, ?_, ?_, ?_, ?_, h.add (by omega) hw⟩
    · show x_G_putAnswer_b30_f _ S _ _ _ = _
      unfold x_G_putAnswer_b30_f
      rw [if_pos (nI_lt (show q < j + 1 by omega) (by omega)), x_add (r := 6) h.2.1 (show m < 60 by omega) (by decide), bind_s]
    · show m_M_answer_b103_f _ T _ _ = _
      unfold m_M_answer_b103_f
      rw [e11, if_pos (nI_le (show q ≤ j by omega) (by omega)), h.2.2.1, m_end h.2.2.1 (by omega), bind_s]
    · exact (Fr.rf.sA rfl).sI rfl
    · exact (Fr.rf.sA rfl).sI rfl
  | r + 1, fx + 1, fm + 1, j, m, S, T, he, h, hm, e16, e11, hk, hfx, hfm => by
    obtain ⟨v1, v2, v3⟩ := hk j (by omega)
    have h2 := h.add (v := gA T 16 j) (by omega) ⟨v2, v3⟩
    obtain ⟨S2, T2, q1, q2, q3, q4, q5⟩ := told_l hq hw r fx fm (j + 1) (m + 1) _ _ (by omega) h2 (by omega) e16 e11 hk (by omega) (by omega)
    refine ⟨S2, T2, ?_, ?_, Fr.tr ((Fr.rf.sA rfl).sI rfl) q3, Fr.tr ((Fr.rf.sA rfl).sI rfl) q4, by rw [show m + (r + 1) + 1 = m + 1 + r + 1 by omega]; exact q5⟩
    · show x_G_putAnswer_b30_f (x_G_putAnswer_b30 fx) S _ _ _ = _
      unfold x_G_putAnswer_b30_f
      rw [if_neg (nI_nlt (show j + 1 ≤ q by omega) (by omega)), x_at (r := 16) e16 (show q + 1 ≤ 40 by omega) (by decide), bind_s]
      dsimp only
      rw [rat_nI (show j + 1 < q + 1 by omega) (by omega), v1, x_add (r := 6) h.2.1 (show m < 60 by omega) (by decide), bind_s, show nI (j + 1) + (1 : Int32) = nI (j + 1 + 1) from nI_1 (j + 1)]
      exact q1
    · show m_M_answer_b103_f (m_M_answer_b103 fm) T _ _ = _
      unfold m_M_answer_b103_f
      rw [e11, if_neg (nI_ge (show j < q by omega) (by omega)), gd_t _ (vin_nI (show j < 8 by omega) (by omega)), nI_clamp (show j < 2 ^ 31 by omega), h.2.2.1, m_end h.2.2.1 (by omega), bind_s, show nI j + (1 : Int32) = nI (j + 1) from nI_1 j]
      exact q2
/-- .. and the command is tried again -/
theorem again_fin {S S2 T T2 : St} {n nl nc nc2 : Nat} {c cl : Nat → Nat} (h : RelS S T n c nl cl nc) (f : FrW 6 S S2) (g : FrC T T2) (hc : CRn S2 T2 nc2) (h1 : 1 ≤ nc2) : ∃ r S3 T3, ((x_G_tryCommand S2).bind fun q => some (q.1, q.2)) = some (r, S3) ∧ m_M_answer_b140 T2 = some (r, T3) ∧ RelN S3 T3 n c nl cl nc2 := by
  obtain ⟨-, -, -, -, -, hI, -, hD, hW⟩ := id h
  have hR : RelS S2 (TBg T2) n c nl cl nc2 := by
    refine h.gen (FrW.u f rfl rfl) ((((FrC.z g).sI rfl).sI rfl).sI rfl) ?_ hc ?_ ?_
    · unfold IR at hI ⊢
      rw [f.1 5 rfl, f.2.2.1 5 rfl, show gI (TBg T2) 5 = gI T 5 from g.1 5 rfl, show gA (TBg T2) 14 = gA T 14 from g.2.2.1 14 rfl]
      exact hI
    · unfold DR at hD ⊢
      rw [f.1 8 rfl, f.2.2.1 8 rfl, f.1 36 rfl, show gI (TBg T2) 23 = gI T 23 from g.1 23 rfl, show gA (TBg T2) 28 = gA T 28 from g.2.2.1 28 rfl, show gI (TBg T2) 24 = gI T 24 from g.1 24 rfl]
      exact hD
    · rw [f.1 35 rfl, show gI (TBg T2) 15 = gI T 15 from g.1 15 rfl]
      exact hW
  obtain ⟨r, S3, T3, a1, a2, a3⟩ := cmd_fin hR h1 rfl rfl rfl
  exact ⟨r, S3, T3, a1, a2, a3⟩
theorem fnd_some {w o : Nat → Int32} {x : Int32} : ∀ (n i : Nat), ¬ fnd w o x n i = (-1) → ∃ k, k < i + n ∧ w k = x
  | 0, _, h => absurd rfl h
  | n + 1, i, h => by
    simp only [fnd] at h
    by_cases hw : w i = x
    · exact ⟨i, by omega, hw⟩
    · rw [if_neg hw] at h
      obtain ⟨k, k1, k2⟩ := fnd_some n (i + 1) h
      exact ⟨k, by omega, k2⟩
theorem VR.big {S T : St} (h : VR S T) {x r : Int32} {S2 : St} (hf : x_Verbs_find S x = some (r, S2)) (hr : ¬ r = (-1)) : 9 < x := by
  obtain ⟨a, k, ha, hk, e1, e2, e3, e4, e5, e6, e7, e8, e9⟩ := h
  rw [x_find e3 e4 hk] at hf
  have h1 := congrArg Prod.fst (Option.some.inj hf)
  obtain ⟨j, j1, j2⟩ := fnd_some k 0 (fun z => hr (h1.symm.trans z))
  rw [← j2]
  exact e8 j (by omega)
/-- one word alone, a verb's: in the reference the whole of parse() -/
theorem m_parse1 {S T : St} {n nl nc : Nat} {c cl : Nat → Nat} (h : RelS S T n c nl cl nc) (hp : PlC T (gI T 17)) {w : Int32} (hw : 9 < w) (e5 : gI T 5 = nI 1) (e14 : gA T 14 0 = w) : ∃ T3, m_M_parse T = m_M_parse_b391 T3 ∧ FrZ T T3 ∧ gI T3 5 = nI 0 ∧ gI T3 14 = nI 1 ∧ gA T3 24 0 = w ∧ gI T3 15 = (-1) ∧ gI T3 17 = 1 ∧ gI T3 21 = 0 ∧ gI T3 22 = 0 ∧ gI T3 23 = gI T 23 ∧ gI T3 24 = gI T 24 ∧ gA T3 28 = gA T 28 := by
  obtain ⟨to, S1, T1, o1, o2, o3, o4, o5, o6, o7, o8, o9, o10⟩ := order_step h
  obtain ⟨T0, f0, hT1⟩ := o10 1 (by omega) e5
  have hC := h.2.2.2.2.2.2.1
  have k5 : gI T1 5 = nI 1 := by rw [hT1]; exact (f0.1 5 rfl).trans e5
  have k14 : gA T1 14 0 = w := by rw [hT1]; show gA T0 14 0 = w; rw [f0.2.2.1 14 rfl]; exact e14
  have kc : gI T1 14 = nI nc := by rw [hT1]; exact (f0.1 14 rfl).trans hC.2.2.1
  have hPC : PlC T1 (gI T 17) := by unfold PlC at hp ⊢; rw [o8, o9]; exact hp
  have w1 : ¬ w = 1 := fun z => by rw [z] at hw; exact absurd hw (by decide)
  have w2 : ¬ w = 2 := fun z => by rw [z] at hw; exact absurd hw (by decide)
  have w5 : ¬ w = 5 := fun z => by rw [z] at hw; exact absurd hw (by decide)
  have w7 : ¬ w = 7 := fun z => by rw [z] at hw; exact absurd hw (by decide)
  have s1 : ∀ fuel x1 x2, m_M_parse_b16 (fuel + 1) T1 x1 x2 (nI 0) = m_M_parse_b16 fuel T1 x1 x2 (nI 1) := by
    intro fuel x1 x2
    show m_M_parse_b16_f _ T1 _ _ _ = _
    unfold m_M_parse_b16_f m_M_parse_b81
    have k14' : gA T1 14 (Int32.toNatClampNeg (nI 0)) = w := k14
    rw [k5, if_neg (nI_ge (show 0 < 1 by omega) (by omega)), gd_t _ (vin_nI (show 0 < 60 by omega) (by omega)), gd_t _ (vin_nI (show 0 < 60 by omega) (by omega)), gd_t _ (vin_nI (show 0 < 60 by omega) (by omega)), k14', if_neg w2, if_neg w1, if_neg w7, nI_1]
  have s2 : ∀ fuel x1 x2, m_M_parse_b16 (fuel + 1) T1 x1 x2 (nI 1) = m_M_parse_b87 T1 x1 x2 (nI 1) := by
    intro fuel x1 x2
    show m_M_parse_b16_f _ T1 _ _ _ = _
    unfold m_M_parse_b16_f
    rw [k5, if_pos (nI_le (show 1 ≤ 1 by omega) (by omega))]
  have hm : m_M_parse T = m_M_parse_b240 (TBg T1) (nI 1) 0 := by
    unfold m_M_parse
    rw [o2, bind_s]
    show m_M_parse_b16 (99998 + 1 + 1) T1 _ _ (nI 0) = _
    rw [s1, s2, b87_n kc hC.1 (by omega) (fun z => absurd z.1 (by omega)) hPC]
  obtain ⟨T2, m1, m2⟩ := m_b243_l (n := 1) (by omega) 0 1 fu 0 (TBg T1) (by omega) (show 1 < 100000 by omega)
  have j5 : gI (sI T2 14 (nI 1)) 5 = nI 1 := (m2.1.1 5 rfl).trans k5
  obtain ⟨T3, q1, q2, q3, -, -⟩ := m_off_l (n := 1) (d := 1) (by omega) (by omega) 0 fu 1 (sI T2 14 (nI 1)) j5 (by omega) (by omega) (show 0 < 100000 by omega)
  have j24 : gA T3 24 0 = w := by
    rw [q2.2.2.1 24 rfl]
    exact (m2.2.2 0 (by omega) (by omega)).trans k14
  refine ⟨T3, ?_, ?_, q3, q2.1 14 rfl, j24, ?_, ?_, ?_, ?_, ?_, ?_, ?_⟩
  · rw [hm]
    unfold m_M_parse_b240
    refine (show m_M_parse_b243 fu (TBg T1) (nI 1) 0 0 = _ from m1).trans ?_
    unfold m243E
    rw [j5, if_pos (nI_le (show 1 ≤ 1 by omega) (by omega))]
    unfold m_M_parse_b290
    rw [show m_M_off (sI T2 14 (nI 1)) (nI 1) = some T3 from q1, bind_s, if_neg (nI_ne0 (by omega) (by omega)), if_pos rfl, if_pos (show nI 1 = 1 from rfl), gd_t _ (by decide), if_neg (show ¬ gA T3 24 (Int32.toNatClampNeg 0) = 5 from fun z => w5 (j24.symm.trans z))]
  · have g1 : FrZ T T1 := by rw [hT1]; exact (FrY.z f0).sI rfl
    have g2 : FrZ T1 (TBg T1) := ((Fr.rf.sI rfl).sI rfl).sI rfl
    exact (((g1.tr g2).tr (m2.z rfl)).sI rfl).tr (FrJ.z q2)
  · refine (q2.1 15 rfl).trans ((m2.1.1 15 rfl).trans ?_)
    rw [hT1]; rfl
  · exact (q2.1 17 rfl).trans ((m2.1.1 17 rfl).trans rfl)
  · exact (q2.1 21 rfl).trans ((m2.1.1 21 rfl).trans rfl)
  · exact (q2.1 22 rfl).trans ((m2.1.1 22 rfl).trans rfl)
  · refine (q2.1 23 rfl).trans ((m2.1.1 23 rfl).trans ?_)
    rw [hT1]; exact f0.1 23 rfl
  · refine (q2.1 24 rfl).trans ((m2.1.1 24 rfl).trans ?_)
    rw [hT1]; exact f0.1 24 rfl
  · refine (q2.2.2.1 28 rfl).trans ((m2.1.2.2.1 28 rfl).trans ?_)
    rw [hT1]; exact f0.2.2.1 28 rfl
theorem RelS.one {S T : St} {n nl nc : Nat} {c cl : Nat → Nat} (h : RelS S T n c nl cl nc) {w : Int32} (hw : 0 < w ∧ w ≤ 19999) : RelS (sI (sA S 5 0 w) 5 (nI 1)) (sI (sA T 14 0 w) 5 (nI 1)) n c nl cl nc := by
  obtain ⟨h1, h2, h3, h4, h5, h6, h7, h8, h9⟩ := h
  have a3 : gA (sI (sA S 5 0 w) 5 (nI 1)) 5 = upd (gA S 5) 0 w := by rw [gA_sI, gA_sA, if_pos rfl]
  have b3 : gA (sI (sA T 14 0 w) 5 (nI 1)) 14 = upd (gA T 14) 0 w := by rw [gA_sI, gA_sA, if_pos rfl]
  refine ⟨h1, h2, h3, h4, h5, ⟨1, by omega, rfl, rfl, ?_, ?_⟩, h7, h8, h9⟩
  · intro k hk
    rw [a3, b3, show k = 0 by omega, upd_self, upd_self]
  · intro k hk
    rw [a3, show k = 0 by omega, upd_self]; exact hw
theorem answer_step {S T : St} {n nl nc : Nat} {c cl : Nat → Nat} (h : RelN S T n c nl cl nc) (w : Int32) : ∃ r S2 T2 nc2, x_G_answer S w = some (r, S2) ∧ m_M_answer T w = some (r, T2) ∧ RelN S2 T2 n c nl cl nc2 := by
  obtain ⟨hS, hT, r31, r32, r33, hA, hAc, hPl⟩ := id h
  have hC := hS.2.2.2.2.2.2.1
  have hc0 : nc ≤ 60 := hC.1
  obtain ⟨r, w1, w2, w3⟩ := word2 S T w
  unfold x_G_answer m_M_answer
  rw [w1, w2, bind_s, bind_s]
  dsimp only
  by_cases hr : r = 0
  · rw [if_pos hr, if_pos hr]
    exact ⟨_, S, T, nc, rfl, rfl, h⟩
  have hw := w3 hr
  rw [if_neg hr, if_neg hr]
  rcases hA with ⟨a1, a2, a3⟩ | ha
  · have hx1 : x_Report_isAsked S = some (0, S) := by
      unfold x_Report_isAsked
      rw [if_neg a2, if_neg a3]
    rw [hx1, bind_s]
    dsimp only
    rw [if_pos rfl, if_pos a1]
    exact ⟨_, S, T, nc, rfl, rfl, h⟩
  have hx1 : x_Report_isAsked S = some (1, S) := by
    unfold x_Report_isAsked
    rcases ha with ⟨-, b2, -⟩ | ⟨-, b2, -⟩
    · rw [if_pos b2]
    · rw [if_neg (by rw [b2]; decide), if_pos b2]
  have h21 : ¬ gI T 21 = 0 := by
    rcases ha with ⟨b1, -⟩ | ⟨b1, -⟩
    · rw [b1]; decide
    · rw [b1]; decide
  obtain ⟨v, v1, v2⟩ := hS.1.find w
  rw [hx1, bind_s]
  dsimp only
  rw [if_neg one_ne0, if_neg h21, v1, v2, bind_s, bind_s]
  dsimp only
  by_cases hv : v = (-1)
  · rw [if_pos hv, if_pos hv]
    rcases ha with ⟨b1, b2, p, b, b3, b4, b5, b6, b7, b8, b9⟩ | ⟨b1, b2, q, b3, b4, b5, b6, b7⟩
    · have hle : (nI nc + 0 + (1 : Int32) ≤ 60) = (nc + 1 ≤ 60) := by
        rw [Int32.add_zero, nI_1]
        exact lit_le (n := nc + 1) (v := 60) 60 rfl (by omega) (by omega)
      have hle2 : (nI nc + (1 : Int32) ≤ 60) = (nc + 1 ≤ 60) := by
        rw [nI_1]
        exact lit_le (n := nc + 1) (v := 60) 60 rfl (by omega) (by omega)
      rw [if_neg (show ¬ gI S 31 = 16 by rw [b2]; decide), if_neg (show ¬ gI T 21 = 16 by rw [b1]; decide)]
      unfold x_G_answer_b73 m_M_answer_b65
      rw [x_size, bind_s]
      dsimp only
      rw [hC.2.1, hC.2.2.1]
      by_cases hl : nc + 1 ≤ 60
      · obtain ⟨S2, T2, i1, i2, i3, i4, i5⟩ := ins2 hC (by omega) b9 w hw
        obtain ⟨r, S3, T3, z1, z2, z3⟩ := again_fin hS i3 i4 i5 (by omega)
        rw [if_pos (show nI nc + 0 + (1 : Int32) ≤ 60 by rw [hle]; exact hl), if_pos (show nI nc + (1 : Int32) ≤ 60 by rw [hle2]; exact hl), if_pos b1, b8, i2, bind_s]
        have hput : x_G_putAnswer S w 0 = some S2 := by
          unfold x_G_putAnswer
          rw [if_pos b2, b7, i1, bind_s]
        rw [hput, bind_s]
        exact ⟨r, S3, T3, nc + 1, z1, z2, z3⟩
      · rw [if_neg (show ¬ nI nc + 0 + (1 : Int32) ≤ 60 by rw [hle]; exact hl), if_neg (show ¬ nI nc + (1 : Int32) ≤ 60 by rw [hle2]; exact hl)]
        exact ⟨_, S, T, nc, rfl, rfl, h⟩
    · have hle : (nI nc + nI q + (1 : Int32) ≤ 60) = (nc + q + 1 ≤ 60) := by
        rw [nI_add, nI_1]
        exact lit_le (n := nc + q + 1) (v := 60) 60 rfl (by omega) (by omega)
      have hle2 : (nI nc + (nI q + (1 : Int32)) ≤ 60) = (nc + q + 1 ≤ 60) := by
        rw [nI_1, nI_add]
        exact lit_le (n := nc + (q + 1)) (v := 60) 60 rfl (by omega) (by omega)
      rw [if_pos b2, if_pos b1, x_size, bind_s]
      dsimp only
      rw [b4, nI_pred, b5]
      unfold x_G_answer_b73 m_M_answer_b65
      rw [x_size, bind_s]
      dsimp only
      rw [hC.2.1, hC.2.2.1]
      by_cases hl : nc + q + 1 ≤ 60
      · obtain ⟨S2, T2, i1, i2, i3, i4, i5⟩ := told_l b3 hw q fu fu 0 nc S T (by omega) hC (by omega) b4 b5 b7 (show q < 100000 by omega) (show q < 100000 by omega)
        obtain ⟨r, S3, T3, z1, z2, z3⟩ := again_fin hS i3 i4 i5 (by omega)
        rw [if_pos (show nI nc + nI q + (1 : Int32) ≤ 60 by rw [hle]; exact hl), if_pos (show nI nc + (nI q + (1 : Int32)) ≤ 60 by rw [hle2]; exact hl), if_neg (show ¬ gI T 21 = 15 by rw [b1]; decide)]
        have hput : x_G_putAnswer S w (nI q) = some S2 := by
          unfold x_G_putAnswer
          rw [if_neg (show ¬ gI S 31 = 15 by rw [b2]; decide)]
          exact i1
        rw [hput, bind_s]
        exact ⟨r, S3, T3, nc + q + 1, z1, (show m_M_answer_b103 fu T w 0 = _ from i2).trans z2, z3⟩
      · rw [if_neg (show ¬ nI nc + nI q + (1 : Int32) ≤ 60 by rw [hle]; exact hl), if_neg (show ¬ nI nc + (nI q + (1 : Int32)) ≤ 60 by rw [hle2]; exact hl)]
        exact ⟨_, S, T, nc, rfl, rfl, h⟩
  · have hbig := hS.1.big v1 hv
    have hp : PlC T (gI T 17) := by
      unfold PlC
      rw [← r31, ← r32]
      exact hPl
    have e14 : gA (sI (sA T 14 0 w) 5 (nI 1)) 14 0 = w := by rw [gA_sI, gA_sA, if_pos rfl, upd_self]
    obtain ⟨T3, m1, m2, m3, m4, m5, m6, m7, m8, m9, m10, m11, m12⟩ := m_parse1 (T := sI (sA T 14 0 w) 5 (nI 1)) (hS.one hw) hp hbig rfl e14
    obtain ⟨SA, hSA⟩ : ∃ SA, SA = sI (sI (sA (sI (sI S 5 0) 6 0) 6 0 w) 6 (nI (0 + 1))) 35 (-1) := ⟨_, rfl⟩
    have fS : FrU S SA := by
      rw [hSA]
      exact (((((Fr.rf.sI rfl).sI rfl).sA rfl).sI rfl).sI rfl)
    have fT : FrZ T T3 := Fr.tr ((Fr.rf.sA rfl).sI rfl) m2
    have a3 : gA SA 6 = upd (gA S 6) 0 w := by
      rw [hSA]
      show gA (sA (sI (sI S 5 0) 6 0) 6 0 w) 6 = _
      rw [gA_sA, if_pos rfl]; rfl
    have hD := hS.2.2.2.2.2.2.2.1
    have hR : RelS SA T3 n c nl cl 1 := by
      refine hS.gen fS fT ?_ ?_ ?_ ?_
      · exact ⟨0, by omega, by rw [hSA]; rfl, m3, fun k hk => absurd hk (by omega), fun k hk => absurd hk (by omega)⟩
      · refine ⟨by omega, by rw [hSA]; rfl, m4, ?_, ?_⟩
        · intro k hk
          rw [a3, show k = 0 by omega, upd_self, m5]
        · intro k hk
          rw [a3, show k = 0 by omega, upd_self]; exact hw
      · unfold DR at hD ⊢
        rw [show gI SA 8 = gI S 8 by rw [hSA]; rfl, show gA SA 8 = gA S 8 by rw [hSA]; rfl, show gI SA 36 = gI S 36 by rw [hSA]; rfl, show gI T3 23 = gI T 23 from m10, show gI T3 24 = gI T 24 from m11, show gA T3 28 = gA T 28 from m12]
        exact hD
      · rw [m6, hSA]; rfl
    obtain ⟨r, S4, T4, z1, z2, z3⟩ := cmd_fin hR (by omega) m7 m8 m9
    have hnew : x_G_beginAnew S w = some SA := by
      unfold x_G_beginAnew
      rw [x_empty, bind_s, x_empty, bind_s, x_add (r := 6) (S := sI (sI S 5 0) 6 0) (n := 0) rfl (show 0 < 60 by omega) (by decide), bind_s, ← hSA]
    rw [if_neg hv, if_neg hv, hnew, bind_s, gd_t _ (by decide)]
    refine ⟨r, S4, T4, 1, z1, ?_, z3⟩
    rw [show m_M_parse (sI (sA T 14 (Int32.toNatClampNeg 0) w) 5 1) = some (r, T4) from m1.trans z2, bind_s]

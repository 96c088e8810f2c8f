theorem k11 {kd : Int32} (h0 : 0 ≤ kd) (h1 : kd ≤ 11) : kd = 0 ∨ kd = 1 ∨ (kd = 2 ∨ kd = 3 ∨ kd = 4 ∨ kd = 5) ∨ (kd = 6 ∨ kd = 7 ∨ kd = 8) ∨ kd = 9 ∨ kd = 10 ∨ kd = 11 := by
  rw [Int32.le_iff_toInt_le] at h0 h1
  rw [show (11 : Int32).toInt = 11 from rfl] at h1
  rw [show (0 : Int32).toInt = 0 from rfl] at h0
  have key : ∀ v : Int32, kd.toInt = v.toInt → kd = v := fun v h => Int32.toInt_inj.mp h
  have k0 := key 0
  have k1 := key 1
  have k2 := key 2
  have k3 := key 3
  have k4 := key 4
  have k5 := key 5
  have k6 := key 6
  have k7 := key 7
  have k8 := key 8
  have k9 := key 9
  have k10 := key 10
  have k11 := key 11
  rw [show (0 : Int32).toInt = 0 from rfl] at k0
  rw [show (1 : Int32).toInt = 1 from rfl] at k1
  rw [show (2 : Int32).toInt = 2 from rfl] at k2
  rw [show (3 : Int32).toInt = 3 from rfl] at k3
  rw [show (4 : Int32).toInt = 4 from rfl] at k4
  rw [show (5 : Int32).toInt = 5 from rfl] at k5
  rw [show (6 : Int32).toInt = 6 from rfl] at k6
  rw [show (7 : Int32).toInt = 7 from rfl] at k7
  rw [show (8 : Int32).toInt = 8 from rfl] at k8
  rw [show (9 : Int32).toInt = 9 from rfl] at k9
  rw [show (10 : Int32).toInt = 10 from rfl] at k10
  rw [show (11 : Int32).toInt = 11 from rfl] at k11
  rcases (show kd.toInt = 0 ∨ kd.toInt = 1 ∨ (kd.toInt = 2 ∨ kd.toInt = 3 ∨ kd.toInt = 4 ∨ kd.toInt = 5) ∨ (kd.toInt = 6 ∨ kd.toInt = 7 ∨ kd.toInt = 8) ∨ kd.toInt = 9 ∨ kd.toInt = 10 ∨ kd.toInt = 11 by omega) with h | h | (h | h | h | h) | (h | h | h) | h | h | h
  · exact Or.inl (k0 h)
  · exact Or.inr (Or.inl (k1 h))
  · exact Or.inr (Or.inr (Or.inl (Or.inl (k2 h))))
  · exact Or.inr (Or.inr (Or.inl (Or.inr (Or.inl (k3 h)))))
  · exact Or.inr (Or.inr (Or.inl (Or.inr (Or.inr (Or.inl (k4 h))))))
  · exact Or.inr (Or.inr (Or.inl (Or.inr (Or.inr (Or.inr (k5 h))))))
  · exact Or.inr (Or.inr (Or.inr (Or.inl (Or.inl (k6 h)))))
  · exact Or.inr (Or.inr (Or.inr (Or.inl (Or.inr (Or.inl (k7 h))))))
  · exact Or.inr (Or.inr (Or.inr (Or.inl (Or.inr (Or.inr (k8 h))))))
  · exact Or.inr (Or.inr (Or.inr (Or.inr (Or.inl (k9 h)))))
  · exact Or.inr (Or.inr (Or.inr (Or.inr (Or.inr (Or.inl (k10 h))))))
  · exact Or.inr (Or.inr (Or.inr (Or.inr (Or.inr (Or.inr (k11 h))))))
/-- what the class does at a kind -/
def xT (S : St) (kd k : Int32) : Option St := if kd = 0 then x_Trial_takeWord S k else if kd = 9 then x_Trial_takeTopic S k else if kd = 10 then x_Trial_takeNumber S else if kd = 11 then (x_Lines_ofAt S (gI S 26) k).bind fun q => x_Trial_takeCustom q.2 q.1 else (x_G_isOfOneThing S kd).bind fun q6 => if q6.1 = 0 then (x_Row_at 6 q6.2 (gI q6.2 27)).bind fun q7 => if q7.1 = (4 : Int32) then x_Trial_takeAll q7.2 kd else x_Trial_takeList q7.2 kd else x_Trial_takeOne q6.2 kd
theorem xone_y {S : St} {kd : Int32} (hk : kd = 2 ∨ kd = 3 ∨ kd = 4 ∨ kd = 5) : x_G_isOfOneThing S kd = some (1, S) := by
  unfold x_G_isOfOneThing
  rcases hk with rfl | rfl | rfl | rfl <;> rw [if_neg (by decide), if_neg (by decide)]
theorem xone_n {S : St} {kd : Int32} (hk : kd = 6 ∨ kd = 7 ∨ kd = 8) : x_G_isOfOneThing S kd = some (0, S) := by
  unfold x_G_isOfOneThing
  rcases hk with rfl | rfl | rfl <;> rw [if_neg (by decide), if_pos (by decide)]
theorem m_takes_1 {T : St} {l k c a m : Nat} (hl : l < 60) (hc : c ≤ 8) (hk : k < c) (hm : m < 2) (e13 : gI T 13 = nI m) (kd : Int32) (ek : gA T 6 (8 * l + k) = kd) (h0 : ¬ kd = 0) : m_M_takes T (nI l) (nI k) (nI a) = (fun q1 : St => if (5 : Int32) < kd then
      if (8 : Int32) < kd then
        if kd = (9 : Int32) then
          (m_M_takesTopic q1 (nI l) (nI k) (nI a)).bind fun q5 =>
          some (q5.1, q5.2)
        else
          if kd = (10 : Int32) then
            gd (vin (nI a) 60) <|
            gd (vin ((gI q1 13) - (1 : Int32)) 2) <|
            gd (vin (nI a) 60) <|
            if (10000 : Int32) ≤ (gA (sA q1 23 ((gI q1 13) - (1 : Int32)).toNatClampNeg ((gA q1 15 (nI a).toNatClampNeg) - (10000 : Int32))) 15 (nI a).toNatClampNeg) then
              some ((nI a + (1 : Int32)), (sA q1 23 ((gI q1 13) - (1 : Int32)).toNatClampNeg ((gA q1 15 (nI a).toNatClampNeg) - (10000 : Int32))))
            else
              (m_M_fails (sA q1 23 ((gI q1 13) - (1 : Int32)).toNatClampNeg ((gA q1 15 (nI a).toNatClampNeg) - (10000 : Int32))) (8 : Int32) (nI a)).bind fun q4 =>
              some ((nI a + (1 : Int32)), q4)
          else
            gd (vin (nI (8 * l + k)) 480) <|
            gd (vin (nI a) 60) <|
            (m_M_pairOf q1 (gA q1 7 (8 * l + k)) (gA q1 15 (nI a).toNatClampNeg)).bind fun q2 =>
            if (gI q2.2 4) ≤ q2.1 then
              m_M_takes_b225 q2.2 (nI a) q2.1 (0 : Int32) ((gI q1 13) - (1 : Int32))
            else
              gd (vin q2.1 40) <|
              m_M_takes_b225 q2.2 (nI a) q2.1 (gA q2.2 13 q2.1.toNatClampNeg) ((gI q1 13) - (1 : Int32))
      else
        (m_M_takesSeveral q1 kd (nI a)).bind fun q6 =>
        some (q6.1, q6.2)
    else
      (m_M_takesOne q1 kd (nI a)).bind fun q7 => if (gI q7.2 7) = 0 then (m_M_joins q7.2 q7.1).bind fun q8 => if q8.1 = 0 then some (q7.1, q8.2) else (m_M_fails q8.2 (13 : Int32) q7.1).bind fun q9 => some (q7.1, q9) else some (q7.1, q7.2)) (MS T m kd a) := by
  unfold m_M_takes
  rw [ix8c, gd_t _ (vin_nI (show 8 * l + k < 480 by omega) (by omega)), nI_clamp (show 8 * l + k < 2 ^ 31 by omega), ek, if_neg h0, m_slot hm e13, bind_s]
theorem takeOneM {S T : St} {n nl nc l a m : Nat} {c cl : Nat → Nat} (h : SC S T n c nl cl nc) (hm : m < 2) (ht : Tr0 S T n nc l a m) (ha : a < nc) (kd : Int32) (hk : kd = 2 ∨ kd = 3 ∨ kd = 4 ∨ kd = 5) : ∃ S2 T1 T2 r, x_Trial_takeOne S kd = some S2 ∧ m_M_slot T kd (nI a) = some T1 ∧ ((m_M_takesOne T1 kd (nI a)).bind fun q7 => if (gI q7.2 7) = 0 then (m_M_joins q7.2 q7.1).bind fun q8 => if q8.1 = 0 then some (q7.1, q8.2) else (m_M_fails q8.2 (13 : Int32) q7.1).bind fun q9 => some (q7.1, q9) else some (q7.1, q7.2)) = some (r, T2) ∧ FrT S S2 ∧ FrM T T2 ∧ (TrE S2 T2 n nc l ∨ ∃ b, a < b ∧ b ≤ nc ∧ r = nI b ∧ Tr0 S2 T2 n nc l b (m + 1)) :=
  match m, hm, ht with
  | 0, _, ht => takeOne0 h ht ha kd hk
  | 1, _, ht => takeOne1 h ht ha kd hk
theorem severalM {S T : St} {n nl nc l a m : Nat} {c cl : Nat → Nat} (h : SC S T n c nl cl nc) (hm : m < 2) (ht : Tr0 S T n nc l a m) (ha : a < nc) (ha1 : 1 ≤ a) (kd : Int32) (hk : kd = 6 ∨ kd = 7 ∨ kd = 8) : ∃ S2 T2 r, (if gA S 6 a = 4 then x_Trial_takeAll S kd else x_Trial_takeList S kd) = some S2 ∧ m_M_takesSeveral (MS T m kd a) kd (nI a) = some (r, T2) ∧ FrT S S2 ∧ FrM T T2 ∧ (TrE S2 T2 n nc l ∨ ∃ b, a < b ∧ b ≤ nc ∧ r = nI b ∧ Tr0 S2 T2 n nc l b (m + 1)) :=
  match m, hm, ht with
  | 0, _, ht => several0 h ht ha ha1 kd hk
  | 1, _, ht => several1 h ht ha ha1 kd hk
theorem topicM {S T : St} {n nl nc l a k m : Nat} {c cl : Nat → Nat} (h : SC S T n c nl cl nc) (hm : m < 2) (ht : Tr0 S T n nc l a m) (ha : a < nc) (hl : l < nl) (hk : k < cl l) (h0 : k + 1 < cl l → gA S 24 (8 * l + (k + 1)) = 0) : ∃ S2 T2 b, x_Trial_takeTopic S (nI k) = some S2 ∧ m_M_takesTopic (MS T m 9 a) (nI l) (nI k) (nI a) = some (nI b, T2) ∧ FrT S S2 ∧ FrM T T2 ∧ a < b ∧ b ≤ nc ∧ Tr0 S2 T2 n nc l b (m + 1) :=
  match m, hm, ht with
  | 0, _, ht => topic_step0 h ht ha hl hk h0
  | 1, _, ht => topic_step1 h ht ha hl hk h0
theorem Tr0.m13 {S T : St} {n nc l a m : Nat} (ht : Tr0 S T n nc l a m) (hm : m < 2) : gI T 13 = nI m := by
  obtain ⟨t1, t2, t3, t4, t5, t6, t7, t8, t9, t10, t11⟩ := ht
  match m, hm, t11 with
  | 0, _, z => exact z.1
  | 1, _, z => exact z.1
/-- one token is taken -/
theorem take_step {S T : St} {n nl nc l a m k : Nat} {c cl : Nat → Nat} (h : SC S T n c nl cl nc) (ht : Tr0 S T n nc l a m) (ha : a < nc) (ha1 : 1 ≤ a) (hl : l < nl) (hk : k < cl l) (h1 : ¬ gA S 24 (8 * l + k) = 1) (hm : m = nsl (gA S 24) (8 * l) k) : ∃ S2 T2 r, xT S (gA S 24 (8 * l + k)) (nI k) = some S2 ∧ m_M_takes T (nI l) (nI k) (nI a) = some (r, T2) ∧ FrT S S2 ∧ FrM T T2 ∧ (TrE S2 T2 n nc l ∨ ∃ b, a < b ∧ b ≤ nc ∧ r = nI b ∧ Tr0 S2 T2 n nc l b (nsl (gA S 24) (8 * l) (k + 1))) := by
  obtain ⟨-, ⟨hnl, f1, f2, f3, f4, f5, f6, f6b, f7, f8, f9, f10, f11⟩, hPR, ⟨hnc, w1, w2, w3, w4⟩⟩ := id h
  have h8 := f7 l (by omega)
  obtain ⟨tk1, tk2, tk3, tk4⟩ := f11 l hl
  have hns : nsl (gA S 24) (8 * l) (k + 1) = m + (if gA S 24 (8 * l + k) < 2 then 0 else 1) := by rw [hm]; rfl
  have hmono : nsl (gA S 24) (8 * l) (k + 1) ≤ 2 := Nat.le_trans (nsl_mono (cl l) (by omega)) tk4
  have hkb := tk1 k hk
  have hkT := (f10 l k hl hk).1
  have hoT := (f10 l k hl hk).2
  have htp : gA S 24 (8 * l + k) = 9 → k + 1 < cl l → gA S 24 (8 * l + (k + 1)) = 0 := fun z1 z2 => tk3 k z2 z1
  have hw0 : gA S 24 (8 * l + k) = 0 → ∃ S2, x_Trial_takeWord S (nI k) = some S2 ∧ FrT S S2 ∧ if isW (gA S 24) (gA S 25) (8 * l) (cl l) k (gA S 6 a) = true then Tr0 S2 T n nc l (a + 1) m else TrE S2 (sI (sI T 7 5) 8 (nI a)) n nc l := fun z => word_step h ht ha hl hk z
  have hat := x_at (r := 6) (S := S) w1 (show nc ≤ 60 from hnc) (by decide) (nI a)
  rw [rat_nI ha (by omega)] at hat
  have hmt := m_takes_1 (T := T) (l := l) (k := k) (c := cl l) (a := a) (m := m) (by omega) h8.1 hk
  generalize hkd : gA S 24 (8 * l + k) = kd at h1 hns hkb hkT htp hw0
  rcases k11 hkb.1 hkb.2 with z | z | z | z | z | z | z
  · subst z
    obtain ⟨S2, q1, q2, q3⟩ := hw0 rfl
    rw [if_pos (by decide), Nat.add_zero] at hns
    have hmm : m_M_takes T (nI l) (nI k) (nI a) = if isW (gA S 24) (gA S 25) (8 * l) (cl l) k (gA S 6 a) = true then some (nI (a + 1), T) else some (nI (a + 1), sI (sI T 7 5) 8 (nI a)) := by
      unfold m_M_takes
      rw [ix8c, gd_t _ (vin_nI (show 8 * l + k < 480 by omega) (by omega)), nI_clamp (show 8 * l + k < 2 ^ 31 by omega), ← hkT, if_pos rfl, gd_t _ (vin_nI (show a < 60 by omega) (by omega)), nI_clamp (show a < 2 ^ 31 by omega), m_oneOf (T := T) (c := cl l) (by omega) h8.1 (f8 l hl) hk, bind_s]
      rw [← isW_eq hk (fun j hj => (f10 l j hl hj).1) (fun j hj => (f10 l j hl hj).2), ← w3 a ha, show nI a + (1 : Int32) = nI (a + 1) from nI_1 a]
      dsimp only
      cases isW (gA S 24) (gA S 25) (8 * l) (cl l) k (gA S 6 a)
      · rfl
      · rfl
    have hx : xT S 0 (nI k) = some S2 := by unfold xT; rw [if_pos rfl]; exact q1
    by_cases hw : isW (gA S 24) (gA S 25) (8 * l) (cl l) k (gA S 6 a) = true
    · rw [if_pos hw] at hmm q3
      exact ⟨S2, T, _, hx, hmm, q2, Fr.rf, Or.inr ⟨a + 1, by omega, by omega, rfl, by rw [hns]; exact q3⟩⟩
    · rw [if_neg hw] at hmm q3
      exact ⟨S2, _, _, hx, hmm, q2, (Fr.rf.sI rfl).sI rfl, Or.inl q3⟩
  · exact absurd z h1
  · have hlt : ¬ kd < 2 := by rcases z with rfl | rfl | rfl | rfl <;> decide
    have hk0 : ¬ kd = 0 := by rcases z with rfl | rfl | rfl | rfl <;> decide
    have hk5 : ¬ 5 < kd := by rcases z with rfl | rfl | rfl | rfl <;> decide
    rw [if_neg hlt] at hns
    have hm2 : m < 2 := by omega
    obtain ⟨S2, T1, T2, r, q1, q2, q3, q4, q5, q6⟩ := takeOneM h hm2 ht ha kd z
    rw [m_slot hm2 (ht.m13 hm2)] at q2
    obtain rfl := Option.some.inj q2
    refine ⟨S2, T2, r, ?_, ?_, q4, q5, by rw [hns]; exact q6⟩
    · unfold xT
      rw [if_neg hk0, if_neg (by rcases z with rfl | rfl | rfl | rfl <;> decide), if_neg (by rcases z with rfl | rfl | rfl | rfl <;> decide), if_neg (by rcases z with rfl | rfl | rfl | rfl <;> decide), xone_y z, bind_s]
      dsimp only
      rw [if_neg one_ne0]
      exact q1
    · rw [hmt hm2 (ht.m13 hm2) kd hkT.symm hk0]
      dsimp only
      rw [if_neg hk5]
      exact q3
  · have hlt : ¬ kd < 2 := by rcases z with rfl | rfl | rfl <;> decide
    have hk0 : ¬ kd = 0 := by rcases z with rfl | rfl | rfl <;> decide
    have hk5 : 5 < kd := by rcases z with rfl | rfl | rfl <;> decide
    have hk8 : ¬ 8 < kd := by rcases z with rfl | rfl | rfl <;> decide
    rw [if_neg hlt] at hns
    have hm2 : m < 2 := by omega
    obtain ⟨S2, T2, r, q1, q3, q4, q5, q6⟩ := severalM h hm2 ht ha ha1 kd z
    refine ⟨S2, T2, r, ?_, ?_, q4, q5, by rw [hns]; exact q6⟩
    · unfold xT
      rw [if_neg hk0, if_neg (by rcases z with rfl | rfl | rfl <;> decide), if_neg (by rcases z with rfl | rfl | rfl <;> decide), if_neg (by rcases z with rfl | rfl | rfl <;> decide), xone_n z, bind_s]
      dsimp only
      rw [if_pos rfl, ht.2.1, hat, bind_s]
      exact q1
    · rw [hmt hm2 (ht.m13 hm2) kd hkT.symm hk0]
      dsimp only
      rw [if_pos hk5, if_neg hk8, q3]
      rfl
  · subst z
    rw [if_neg (by decide)] at hns
    have hm2 : m < 2 := by omega
    obtain ⟨S2, T2, b, q1, q3, q4, q5, q6, q7, q8⟩ := topicM h hm2 ht ha hl hk (htp rfl)
    refine ⟨S2, T2, nI b, ?_, ?_, q4, q5, Or.inr ⟨b, q6, q7, rfl, by rw [hns]; exact q8⟩⟩
    · unfold xT
      rw [if_neg (by decide), if_pos rfl]
      exact q1
    · rw [hmt hm2 (ht.m13 hm2) 9 hkT.symm (by decide)]
      dsimp only
      rw [if_pos (by decide), if_pos (by decide), if_pos rfl, q3]
      rfl
  · subst z
    rw [if_neg (by decide)] at hns
    have hm2 : m < 2 := by omega
    obtain ⟨S2, q1, q2, q3⟩ := number_step h ht hm2 ha
    have hx : xT S 10 (nI k) = some S2 := by
      unfold xT
      rw [if_neg (by decide), if_neg (by decide), if_pos rfl]
      exact q1
    have hmm := hmt hm2 (ht.m13 hm2) 10 hkT.symm (by decide)
    dsimp only at hmm
    rw [if_pos (by decide), if_pos (by decide), if_neg (by decide), if_pos rfl, gd_t _ (vin_nI (show a < 60 by omega) (by omega)), show gI (MS T m 10 a) 13 = nI (m + 1) from rfl, nI_sub1, gd_t _ (vin_nI hm2 (by omega)), gd_t _ (vin_nI (show a < 60 by omega) (by omega)), nI_clamp (show a < 2 ^ 31 by omega), nI_clamp (show m < 2 ^ 31 by omega)] at hmm
    rw [show gA (MS T m 10 a) 15 a = gA S 6 a from (w3 a ha).symm, show gA (sA (MS T m 10 a) 23 m (gA S 6 a - 10000)) 15 a = gA S 6 a from (w3 a ha).symm, show nI a + (1 : Int32) = nI (a + 1) from nI_1 a] at hmm
    by_cases h4 : (10000 : Int32) ≤ gA S 6 a
    · rw [if_pos h4] at hmm q3
      exact ⟨S2, _, _, hx, hmm, q2, q3.1, Or.inr ⟨a + 1, by omega, by omega, rfl, by rw [hns]; exact q3.2⟩⟩
    · rw [if_neg h4] at hmm q3
      exact ⟨S2, _, _, hx, hmm, q2, q3.1, Or.inl q3.2⟩
  · subst z
    rw [if_neg (by decide)] at hns
    have hm2 : m < 2 := by omega
    obtain ⟨np, p1, p2, p3, p4, p5, p6, p7, p8, p9⟩ := hPR
    obtain ⟨S2, q1, q2, q3⟩ := custom_tok h ht hm2 ha (gA S 25 (8 * l + k)) p4 (by omega)
    have hx : xT S 11 (nI k) = some S2 := by
      unfold xT
      rw [if_neg (by decide), if_neg (by decide), if_neg (by decide), if_pos rfl, ht.1, x_ofAt f1 hnl f7 hl, bind_s, rat_nI hk (by omega)]
      exact q1
    have hmm := hmt hm2 (ht.m13 hm2) 11 hkT.symm (by decide)
    dsimp only at hmm
    rw [if_pos (by decide), if_pos (by decide), if_neg (by decide), if_neg (by decide), gd_t _ (vin_nI (show 8 * l + k < 480 by omega) (by omega)), gd_t _ (vin_nI (show a < 60 by omega) (by omega)), nI_clamp (show a < 2 ^ 31 by omega), m_pix (T := MS T m 11 a) p5 p1, bind_s] at hmm
    dsimp only at hmm
    rw [show gI (MS T m 11 a) 13 = nI (m + 1) from rfl, nI_sub1, show gA (MS T m 11 a) 15 a = gA S 6 a from (w3 a ha).symm, show gA (MS T m 11 a) 7 (8 * l + k) = gA S 25 (8 * l + k) from hoT.symm, show gA (MS T m 11 a) 11 = gA T 11 from rfl, show gA (MS T m 11 a) 12 = gA T 12 from rfl, ← pix_eq np 0 (fun j hj => p6 j (by omega)) (fun j hj => p7 j (by omega)), show gI (MS T m 11 a) 4 = nI np from p5] at hmm
    have hpl := pix_le (a := gA S 2) (b := gA S 3) (c := gA S 25 (8 * l + k)) (w := gA S 6 a) np 0
    generalize hpx : pix (gA S 2) (gA S 3) (gA S 25 (8 * l + k)) (gA S 6 a) np 0 = px at hmm q3 hpl
    unfold m_M_takes_b225 at hmm
    rw [gd_t _ (vin_nI hm2 (by omega)), gd_t _ (vin_nI hm2 (by omega)), nI_clamp (show m < 2 ^ 31 by omega), show nI a + (1 : Int32) = nI (a + 1) from nI_1 a] at hmm
    rw [show gI (sA (MS T m 11 a) 23 m 0) 4 = nI np from p5] at hmm
    by_cases h4 : px < np
    · rw [if_pos h4] at q3
      rw [if_neg (nI_ge h4 (by omega)), gd_t _ (vin_nI (show px < 40 by omega) (by omega)), nI_clamp (show px < 2 ^ 31 by omega), show gA (MS T m 11 a) 13 px = gA S 4 px from (p8 px h4).symm, show gI (sA (MS T m 11 a) 23 m (gA S 4 px)) 4 = nI np from p5, if_neg (fun z => by have := (nI_eq (by omega) (by omega)).mp z; omega)] at hmm
      exact ⟨S2, _, _, hx, hmm, q2, q3.1, Or.inr ⟨a + 1, by omega, by omega, rfl, by rw [hns]; exact q3.2⟩⟩
    · rw [if_neg h4] at q3
      rw [if_pos (nI_le (show np ≤ px by omega) (by omega)), if_pos (by rw [show px = np by omega])] at hmm
      exact ⟨S2, _, _, hx, hmm, q2, q3.1, Or.inl q3.2⟩

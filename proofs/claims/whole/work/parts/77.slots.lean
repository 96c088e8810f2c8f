/-- a slot that is open: the class's kind, place, things, row; the reference's kind, place, things, from, to, number -/
def SlV (n nc : Nat) (cw : Nat → Int32) (k p : Int32) (w : Int64) (rs : Int32) (ra : Nat → Int32) (kT pT : Int32) (wT : Int64) (fT tT uT : Int32) : Prop := k = kT ∧ p = pT ∧ w = wT ∧ (∃ q, w = bs q n) ∧ 2 ≤ kT ∧ kT ≤ 11 ∧ (∃ a : Nat, a ≤ nc ∧ pT = nI a) ∧ (kT = 9 → ∃ fr t : Nat, fT = nI fr ∧ tT = nI t ∧ fr < t ∧ t ≤ nc ∧ rs = nI (t - fr) ∧ ∀ j, j < t - fr → ra j = cw (fr + j)) ∧ ((kT = 10 ∨ kT = 11) → rs = nI 1 ∧ ra 0 = uT) ∧ (kT ≤ 8 → rs = nI 0) ∧ (8 < kT → w = 0)
def Sl0 (S T : St) (n nc : Nat) : Prop := SlV n nc (gA S 6) (gI S 17) (gI S 18) (gL S 0) (gI S 9) (gA S 9) (gA T 18 0) (gA T 19 0) (gB T 20 0) (gA T 21 0) (gA T 22 0) (gA T 23 0)
def Sl1 (S T : St) (n nc : Nat) : Prop := SlV n nc (gA S 6) (gI S 19) (gI S 20) (gL S 1) (gI S 10) (gA S 10) (gA T 18 1) (gA T 19 1) (gB T 20 1) (gA T 21 1) (gA T 22 1) (gA T 23 1)
def Em0 (S : St) : Prop := gI S 17 = (-1) ∧ gL S 0 = 0 ∧ gI S 9 = nI 0
def Em1 (S : St) : Prop := gI S 19 = (-1) ∧ gL S 1 = 0 ∧ gI S 10 = nI 0
/-- the slots: m of them are open -/
def Sl (S T : St) (n nc : Nat) : Nat → Prop
  | 0 => gI T 13 = nI 0 ∧ Em0 S ∧ Em1 S
  | 1 => gI T 13 = nI 1 ∧ Sl0 S T n nc ∧ Em1 S
  | 2 => gI T 13 = nI 2 ∧ Sl0 S T n nc ∧ Sl1 S T n nc
  | _ => False
/-- a line is tried, no error yet: the words from a on are left -/
def Tr0 (S T : St) (n nc l a m : Nat) : Prop := gI S 26 = nI l ∧ gI S 27 = nI a ∧ gI S 28 = 0 ∧ gI T 7 = 0 ∧ gI S 29 = (-1) ∧ gI T 8 = (-1) ∧ gI S 11 = nI 0 ∧ gI T 12 = nI 0 ∧ gI S 12 = nI 0 ∧ gI T 11 = nI 0 ∧ Sl S T n nc m
/-- it is asked what -/
def Ask16 (S T : St) : Prop := ∃ q : Nat, q ≤ 8 ∧ gI S 12 = nI (q + 1) ∧ gI T 11 = nI q ∧ gA S 12 0 = gI T 10 ∧ ∀ j, j < q → gA S 12 (j + 1) = gA T 16 j ∧ 0 < gA T 16 j ∧ gA T 16 j ≤ 19999
/-- .. with an error -/
def TrE (S T : St) (n nc l : Nat) : Prop := gI S 26 = nI l ∧ ∃ (e : Int32) (b : Nat), 4 < e ∧ e ≤ 16 ∧ gI S 28 = e ∧ gI T 7 = e ∧ gI S 29 = nI b ∧ gI T 8 = nI b ∧ b ≤ nc ∧ (e = 15 → Ask15 S T n nc) ∧ (e = 16 → Ask16 S T) ∧ Q12 S
theorem Sl0.k {S T : St} {n nc : Nat} (h : Sl0 S T n nc) : ¬ gI S 17 = (-1) := by
  obtain ⟨h1, -, -, -, h2, -⟩ := h
  intro q
  rw [← h1, q] at h2
  exact absurd h2 (by decide)
theorem x_open0 {S : St} (h : gI S 17 = (-1)) (kd : Int32) : x_Trial_openSlot S kd = some (17, sI (sI S 17 kd) 18 (gI S 27)) := by
  unfold x_Trial_openSlot
  rw [if_pos h]
  rfl
theorem x_open1 {S : St} (h : ¬ gI S 17 = (-1)) (kd : Int32) : x_Trial_openSlot S kd = some (18, sI (sI S 19 kd) 20 (gI S 27)) := by
  unfold x_Trial_openSlot
  rw [if_neg h]
  rfl
abbrev MS (T : St) (m : Nat) (kd : Int32) (a : Nat) : St := sI (sB (sA (sA T 18 m kd) 19 m (nI a)) 20 m 0) 13 (nI (m + 1))
theorem m_slot {T : St} {m : Nat} (hm : m < 2) (e : gI T 13 = nI m) (kd : Int32) (a : Nat) : m_M_slot T kd (nI a) = some (MS T m kd a) := by
  unfold m_M_slot
  simp only [gI_sA, gI_sB, e, gd_t _ (vin_nI hm (by omega)), nI_clamp (show m < 2 ^ 31 by omega), nI_1]
theorem or_0 (w : Int64) : (0 : Int64) ||| w = w := by
  refine bit_ext fun k _ => ?_
  rw [bit_or, bit_0, Bool.false_or]
theorem MS_18 (T : St) (m : Nat) (kd : Int32) (a : Nat) : gA (MS T m kd a) 18 = upd (gA T 18) m kd := by
  show gA (sA (sA T 18 m kd) 19 m (nI a)) 18 = _
  rw [gA_sA, if_neg (by decide), gA_sA, if_pos rfl]
theorem MS_19 (T : St) (m : Nat) (kd : Int32) (a : Nat) : gA (MS T m kd a) 19 = upd (gA T 19) m (nI a) := by
  show gA (sA (sA T 18 m kd) 19 m (nI a)) 19 = _
  rw [gA_sA, if_pos rfl]
  rfl
theorem MS_20 (T : St) (m : Nat) (kd : Int32) (a : Nat) : gB (MS T m kd a) 20 = vp_updL (gB T 20) m 0 := by
  show gB (sB (sA (sA T 18 m kd) 19 m (nI a)) 20 m 0) 20 = _
  rw [gB_sB, if_pos rfl]
  rfl
theorem FrMS {T : St} {m : Nat} {kd : Int32} {a : Nat} : FrM T (MS T m kd a) := (((Fr.rf.sA rfl).sA rfl).sB rfl).sI rfl

/-- outside of what the tests p.. tell nothing has changed -/
def Fr (pI pL pA pB : Nat → Bool) (S S2 : St) : Prop := (∀ k, pI k = false → gI S2 k = gI S k) ∧ (∀ k, pL k = false → gL S2 k = gL S k) ∧ (∀ k, pA k = false → gA S2 k = gA S k) ∧ ∀ k, pB k = false → gB S2 k = gB S k
section FR
variable {pI pL pA pB : Nat → Bool} {S S1 S2 S3 : St}
theorem Fr.rf : Fr pI pL pA pB S S := ⟨fun _ _ => rfl, fun _ _ => rfl, fun _ _ => rfl, fun _ _ => rfl⟩
theorem Fr.tr (h : Fr pI pL pA pB S1 S2) (h2 : Fr pI pL pA pB S2 S3) : Fr pI pL pA pB S1 S3 := ⟨fun k hk => (h2.1 k hk).trans (h.1 k hk), fun k hk => (h2.2.1 k hk).trans (h.2.1 k hk), fun k hk => (h2.2.2.1 k hk).trans (h.2.2.1 k hk), fun k hk => (h2.2.2.2 k hk).trans (h.2.2.2 k hk)⟩
theorem Fr.sI (h : Fr pI pL pA pB S S2) {k : Nat} {v : Int32} (hk : pI k = true) : Fr pI pL pA pB S (sI S2 k v) := ⟨fun j hj => by rw [gI_sI, if_neg (fun e => by rw [e, hk] at hj; cases hj)]; exact h.1 j hj, h.2.1, h.2.2.1, h.2.2.2⟩
theorem Fr.sL (h : Fr pI pL pA pB S S2) {k : Nat} {v : Int64} (hk : pL k = true) : Fr pI pL pA pB S (sL S2 k v) := ⟨h.1, fun j hj => by rw [gL_sL, if_neg (fun e => by rw [e, hk] at hj; cases hj)]; exact h.2.1 j hj, h.2.2.1, h.2.2.2⟩
theorem Fr.sA (h : Fr pI pL pA pB S S2) {k i : Nat} {v : Int32} (hk : pA k = true) : Fr pI pL pA pB S (sA S2 k i v) := ⟨h.1, h.2.1, fun j hj => by rw [gA_sA, if_neg (fun e => by rw [e, hk] at hj; cases hj)]; exact h.2.2.1 j hj, h.2.2.2⟩
theorem Fr.sB (h : Fr pI pL pA pB S S2) {k i : Nat} {v : Int64} (hk : pB k = true) : Fr pI pL pA pB S (sB S2 k i v) := ⟨h.1, h.2.1, h.2.2.1, fun j hj => by rw [gB_sB, if_neg (fun e => by rw [e, hk] at hj; cases hj)]; exact h.2.2.2 j hj⟩
end FR
/-- the class's trial -/
def trI (k : Nat) : Bool := [9, 10, 11, 12, 17, 18, 19, 20, 22, 26, 27, 28, 29].contains k
def trL (k : Nat) : Bool := [0, 1, 3].contains k
def trA (k : Nat) : Bool := [9, 10, 11, 12].contains k
def noB (_ : Nat) : Bool := false
/-- the reference's -/
def tmI (k : Nat) : Bool := [7, 8, 9, 10, 11, 12, 13].contains k
def tmL (k : Nat) : Bool := [0, 1].contains k
def tmA (k : Nat) : Bool := [16, 17, 18, 19, 21, 22, 23].contains k
def tmB (k : Nat) : Bool := k == 20
abbrev FrT (S S2 : St) : Prop := Fr trI trL trA noB S S2
abbrev FrM (T T2 : St) : Prop := Fr tmI tmL tmA tmB T T2
/-- the command's words: the class's row 6, the reference's row -/
def CW (S T : St) (nc : Nat) : Prop := nc ≤ 60 ∧ gI S 6 = nI nc ∧ gI T 6 = nI nc ∧ EqN nc (gA S 6) (gA T 15) ∧ (∀ k, k < nc → 0 < gA S 6 k ∧ gA S 6 k ≤ 19999) ∧ ORd S
theorem TRn.fr {S S2 T T2 : St} {n : Nat} {c : Nat → Nat} (h : TRn S T n c) (f : FrT S S2) (g : FrM T T2) : TRn S2 T2 n c := by
  unfold TRn at h ⊢
  rw [f.1 23 rfl, g.1 3 rfl, f.2.2.1 17 rfl, g.2.2.1 8 rfl, f.2.2.1 18 rfl, g.2.2.1 9 rfl, f.2.2.1 19 rfl, g.2.2.1 10 rfl, f.2.1 4 rfl, f.2.1 5 rfl, f.2.1 6 rfl, f.2.1 7 rfl]
  exact h
theorem LRn.fr {S S2 T T2 : St} {n : Nat} {c : Nat → Nat} (h : LRn S T n c) (f : FrT S S2) (g : FrM T T2) : LRn S2 T2 n c := by
  unfold LRn at h ⊢
  rw [f.1 25 rfl, g.1 2 rfl, f.2.2.1 20 rfl, g.2.2.1 2 rfl, f.2.2.1 21 rfl, g.2.2.1 3 rfl, f.2.2.1 22 rfl, g.2.2.1 4 rfl, f.2.2.1 23 rfl, g.2.2.1 5 rfl, f.2.2.1 24 rfl, g.2.2.1 6 rfl, f.2.2.1 25 rfl, g.2.2.1 7 rfl]
  exact h
theorem PR.fr {S S2 T T2 : St} (h : PR S T) (f : FrT S S2) (g : FrM T T2) : PR S2 T2 := by
  unfold PR at h ⊢
  rw [f.1 2 rfl, f.1 3 rfl, f.1 4 rfl, g.1 4 rfl, f.2.2.1 2 rfl, f.2.2.1 3 rfl, f.2.2.1 4 rfl, g.2.2.1 11 rfl, g.2.2.1 12 rfl, g.2.2.1 13 rfl]
  exact h
theorem CW.fr {S S2 T T2 : St} {nc : Nat} (h : CW S T nc) (f : FrT S S2) (g : FrM T T2) : CW S2 T2 nc := by
  unfold CW ORd at h ⊢
  rw [f.1 6 rfl, g.1 6 rfl, f.2.2.1 6 rfl, g.2.2.1 15 rfl, f.2.2.1 23 rfl, f.2.2.1 24 rfl, f.2.2.1 25 rfl]
  exact h
/-- what stands still while a line is tried -/
def SC (S T : St) (n : Nat) (c : Nat → Nat) (nl : Nat) (cl : Nat → Nat) (nc : Nat) : Prop := TRn S T n c ∧ LRn S T nl cl ∧ PR S T ∧ CW S T nc
theorem SC.fr {S S2 T T2 : St} {n nl nc : Nat} {c cl : Nat → Nat} (h : SC S T n c nl cl nc) (f : FrT S S2) (g : FrM T T2) : SC S2 T2 n c nl cl nc := ⟨h.1.fr f g, h.2.1.fr f g, h.2.2.1.fr f g, h.2.2.2.fr f g⟩
theorem m_stands {T : St} {nc a : Nat} (e : gI T 6 = nI nc) (hn : nc ≤ 60) (ha : a < 2 ^ 31) (w : Int32) : m_M_stands T (nI a) w = some (if a < nc ∧ gA T 15 a = w then 1 else 0, T) := by
  unfold m_M_stands
  by_cases h : a < nc
  · simp only [e, le_f h (by omega), if_false, gd_t _ (vin_nI (show a < 60 by omega) (by omega)), nI_clamp ha]
    by_cases hw : gA T 15 a = w
    · rw [if_pos hw, if_pos ⟨h, hw⟩]
    · rw [if_neg hw, if_neg (fun z => hw z.2)]
  · simp only [e, le_t (show nc ≤ a by omega) ha, if_true]
    rw [if_neg (fun z => h z.1)]
/-- AND or COMMA stands there -/
def isJ (cw : Nat → Int32) (nc a : Nat) : Prop := a < nc ∧ (cw a = 1 ∨ cw a = 7)
theorem m_joins {T : St} {nc a : Nat} (e : gI T 6 = nI nc) (hn : nc ≤ 60) (ha : a < 2 ^ 31) : ∃ r, m_M_joins T (nI a) = some (r, T) ∧ (r = 0 ↔ ¬ isJ (gA T 15) nc a) := by
  unfold m_M_joins isJ
  rw [m_stands e hn ha, bind_s]
  dsimp only
  rw [m_stands e hn ha]
  by_cases h : a < nc
  · by_cases h1 : gA T 15 a = 1
    · simp only [h, h1, and_self, if_true, one_ne0, if_false]
      exact ⟨_, rfl, by simp⟩
    · by_cases h7 : gA T 15 a = 7
      · simp only [h, h1, h7, and_self, and_false, if_true, one_ne0, if_false, bind_s]
        exact ⟨_, rfl, by simp⟩
      · simp only [h, h1, h7, and_false, if_true, if_false, bind_s]
        exact ⟨_, rfl, by simp⟩
  · simp only [h, false_and, if_true, if_false, bind_s]
    exact ⟨_, rfl, by simp⟩
theorem x_isJoin (S : St) (w : Int32) : ∃ r, x_G_isJoin S w = some (r, S) ∧ (r = 0 ↔ ¬ (w = 1 ∨ w = 7)) := by
  unfold x_G_isJoin
  by_cases h1 : w = 1
  · simp only [h1, if_true]
    exact ⟨_, rfl, by simp⟩
  · by_cases h7 : w = 7
    · simp only [h1, h7, if_true, if_false]
      exact ⟨_, rfl, by simp⟩
    · simp only [h1, h7, if_false]
      exact ⟨_, rfl, by simp⟩
theorem rat_isJ {cw : Nat → Int32} {nc a : Nat} (hn : nc ≤ 60) (ha : a < 2 ^ 31) : (rat cw nc (nI a) = 1 ∨ rat cw nc (nI a) = 7) ↔ isJ cw nc a := by
  unfold isJ
  by_cases h : a < nc
  · rw [rat_nI h (by omega)]; simp [h]
  · rw [rat_no (by omega) ha]; simp [h]
theorem isJ_eq {cw cw2 : Nat → Int32} {nc a : Nat} (h : EqN nc cw cw2) : isJ cw nc a ↔ isJ cw2 nc a := by
  unfold isJ
  by_cases ha : a < nc
  · rw [h a ha]
  · simp [ha]

/-- the first d of row r are dropped -/
theorem x_drop_l {r n d : Nat} (hn : n ≤ xcap r) (hc : xcap r ≤ 60) (hd : d ≤ n) : ∀ (q fuel i : Nat) (S : St), gI S r = nI n → i + q = n → d ≤ i → q < fuel → ∃ S2, x_Row_dropFirst_b15 r fuel S (nI d) (nI i) = some S2 ∧ FrW r S S2 ∧ gI S2 r = nI (n - d) ∧ (∀ k, k < i - d → gA S2 r k = gA S r k) ∧ ∀ k, i - d ≤ k → k + d < n → gA S2 r k = gA S r (k + d)
  | q, 0, i, S, _, _, _, hf => absurd hf (by omega)
  | 0, fuel + 1, i, S, e, he, hi, _ => by
    refine ⟨sI S r (nI (n - d)), ?_, Fr.rf.sI (beq_tt r), by rw [gI_sI, if_pos rfl], fun _ _ => rfl, fun k k1 k2 => absurd k2 (by omega)⟩
    show x_Row_dropFirst_b15_f _ _ S _ _ = _
    unfold x_Row_dropFirst_b15_f
    rw [e, if_pos (nI_le (show n ≤ i by omega) (by omega)), pk_sub hd]
  | q + 1, fuel + 1, i, S, e, he, hi, hf => by
    have a3 : gA (sA S r (i - d) (gA S r i)) r = upd (gA S r) (i - d) (gA S r i) := by rw [gA_sA, if_pos rfl]
    obtain ⟨S2, q1, q2, q3, q4, q5⟩ := x_drop_l hn hc hd q fuel (i + 1) (sA S r (i - d) (gA S r i)) e (by omega) (by omega) (by omega)
    have fr : FrW r S (sA S r (i - d) (gA S r i)) := Fr.rf.sA (beq_tt r)
    refine ⟨S2, ?_, fr.tr q2, q3, ?_, ?_⟩
    · show x_Row_dropFirst_b15_f _ (x_Row_dropFirst_b15 r fuel) S _ _ = _
      unfold x_Row_dropFirst_b15_f
      rw [e, if_neg (nI_ge (show i < n by omega) (by omega)), gd_t _ (vin_nI (show i < xcap r by omega) (by omega)), pk_sub hi, gd_t _ (vin_nI (show i - d < xcap r by omega) (by omega)), nI_clamp (show i < 2 ^ 31 by omega), nI_clamp (show i - d < 2 ^ 31 by omega), show nI i + (1 : Int32) = nI (i + 1) from nI_1 i]
      exact q1
    · intro k hk
      rw [q4 k (by omega), a3, upd_ne (by omega)]
    · intro k k1 k2
      by_cases hk : k = i - d
      · rw [q4 k (by omega), a3, hk, upd_self, show i - d + d = i by omega]
      · rw [q5 k (by omega) k2, a3, upd_ne (by omega)]
theorem x_dropE {r n m : Nat} {S : St} (e : gI S r = nI n) (hn : n ≤ 60) (hm : m ≤ 61) : x_Row_dropFirst r S (nI m) = x_Row_dropFirst_b15 r fu S (nI (if n < m then n else m)) (nI (if n < m then n else m)) := by
  have h1 : (if (gI S r) < nI m then gI S r else nI m) = nI (if n < m then n else m) := by
    rw [e]
    by_cases h : n < m
    · rw [if_pos (nI_lt h (by omega)), if_pos h]
    · rw [if_neg (nI_nlt (by omega) (by omega)), if_neg h]
  have hd2 : (if n < m then n else m) ≤ 61 := by
    by_cases h : n < m
    · rw [if_pos h]; omega
    · rw [if_neg h]; omega
  have h2 : ∀ d : Nat, d ≤ 61 → (if (0 : Int32) < nI d then nI d else 0) = nI d := by
    intro d hd
    by_cases h : d = 0
    · rw [h]; decide
    · have h3 := nI_lt (a := 0) (b := d) (by omega) (by omega)
      rw [nI_0] at h3
      rw [if_pos h3]
  unfold x_Row_dropFirst
  rw [h1, h2 _ hd2]
abbrev FrJ (T T2 : St) : Prop := Fr (isR 5) noL (isR 14) noB T T2
theorem m_off_l {n d : Nat} (hn : n ≤ 60) (hd : d ≤ n) : ∀ (q fuel i : Nat) (T : St), gI T 5 = nI n → i + q = n → d ≤ i → q < fuel → ∃ T2, m_M_off_b2 fuel T (nI d) (nI i) = some T2 ∧ FrJ T T2 ∧ gI T2 5 = nI (n - d) ∧ (∀ k, k < i - d → gA T2 14 k = gA T 14 k) ∧ ∀ k, i - d ≤ k → k + d < n → gA T2 14 k = gA T 14 (k + d)
  | q, 0, i, T, _, _, _, hf => absurd hf (by omega)
  | 0, fuel + 1, i, T, e, he, hi, _ => by
    refine ⟨sI T 5 (nI (n - d)), ?_, Fr.rf.sI rfl, rfl, fun _ _ => rfl, fun k k1 k2 => absurd k2 (by omega)⟩
    show m_M_off_b2_f _ T _ _ = _
    unfold m_M_off_b2_f
    rw [e, if_pos (nI_le (show n ≤ i by omega) (by omega)), pk_sub hd]
  | q + 1, fuel + 1, i, T, e, he, hi, hf => by
    have a3 : gA (sA T 14 (i - d) (gA T 14 i)) 14 = upd (gA T 14) (i - d) (gA T 14 i) := by rw [gA_sA, if_pos rfl]
    obtain ⟨T2, q1, q2, q3, q4, q5⟩ := m_off_l hn hd q fuel (i + 1) (sA T 14 (i - d) (gA T 14 i)) e (by omega) (by omega) (by omega)
    have fr : FrJ T (sA T 14 (i - d) (gA T 14 i)) := Fr.rf.sA rfl
    refine ⟨T2, ?_, fr.tr q2, q3, ?_, ?_⟩
    · show m_M_off_b2_f (m_M_off_b2 fuel) T _ _ = _
      unfold m_M_off_b2_f
      rw [e, if_neg (nI_ge (show i < n by omega) (by omega)), gd_t _ (vin_nI (show i < 60 by omega) (by omega)), pk_sub hi, gd_t _ (vin_nI (show i - d < 60 by omega) (by omega)), nI_clamp (show i < 2 ^ 31 by omega), nI_clamp (show i - d < 2 ^ 31 by omega), show nI i + (1 : Int32) = nI (i + 1) from nI_1 i]
      exact q1
    · intro k hk
      rw [q4 k (by omega), a3, upd_ne (by omega)]
    · intro k k1 k2
      by_cases hk : k = i - d
      · rw [q4 k (by omega), a3, hk, upd_self, show i - d + d = i by omega]
      · rw [q5 k (by omega) k2, a3, upd_ne (by omega)]
/-- the words that wait, n of them -/
def INn (S T : St) (n : Nat) : Prop := n ≤ 60 ∧ gI S 5 = nI n ∧ gI T 5 = nI n ∧ EqN n (gA S 5) (gA T 14) ∧ ∀ k, k < n → 0 < gA S 5 k ∧ gA S 5 k ≤ 19999
/-- what the class has left of them -/
def Lft (S S2 : St) (n d : Nat) : Prop := gI S2 5 = nI (n - d) ∧ ∀ k, k + d < n → gA S2 5 k = gA S 5 (k + d)
theorem x_drop {S T : St} {n m : Nat} (h : INn S T n) (hm : m ≤ 61) : ∃ S2, x_Row_dropFirst 5 S (nI m) = some S2 ∧ FrW 5 S S2 ∧ Lft S S2 n (if n < m then n else m) := by
  obtain ⟨h0, h1, h2, h3, h4⟩ := h
  rw [x_dropE h1 h0 hm]
  have hd : (if n < m then n else m) ≤ n := by
    by_cases h : n < m
    · rw [if_pos h]; omega
    · rw [if_neg h]; omega
  obtain ⟨d, hdd⟩ : ∃ d, (if n < m then n else m) = d := ⟨_, rfl⟩
  rw [hdd] at hd ⊢
  obtain ⟨S2, q1, q2, q3, q4, q5⟩ := x_drop_l (r := 5) (n := n) (d := d) h0 (by decide) hd (n - d) fu d S h1 (by omega) (by omega) (show n - d < 100000 by omega)
  exact ⟨S2, q1, q2, q3, fun k hk => q5 k (by omega) hk⟩
theorem m_off {S S2 T : St} {n d : Nat} (h : INn S T n) (hd : d ≤ n) (hl : Lft S S2 n d) : ∃ T2, m_M_off T (nI d) = some T2 ∧ FrJ T T2 ∧ IR S2 T2 := by
  obtain ⟨h0, h1, h2, h3, h4⟩ := h
  obtain ⟨T2, q1, q2, q3, q4, q5⟩ := m_off_l h0 hd (n - d) fu d T h2 (by omega) (by omega) (show n - d < 100000 by omega)
  refine ⟨T2, q1, q2, n - d, by omega, hl.1, q3, ?_, ?_⟩
  · intro k hk
    rw [hl.2 k (by omega), q5 k (by omega) (by omega)]
    exact h3 _ (by omega)
  · intro k hk
    rw [hl.2 k (by omega)]
    exact h4 _ (by omega)
/-- everything but what is made of verbs, lines, things, values may have changed -/
def uxI (k : Nat) : Bool := [5, 6, 7, 8, 9, 10, 11, 12, 13, 14, 15, 16, 17, 18, 19, 20, 21, 22, 26, 27, 28, 29, 30, 31, 32, 33, 34, 35, 36].contains k
def uxA (k : Nat) : Bool := [5, 6, 7, 8, 9, 10, 11, 12, 13, 14, 15, 16].contains k
def uyI (k : Nat) : Bool := [5, 6, 7, 8, 9, 10, 11, 12, 13, 14, 15, 16, 17, 18, 19, 20, 21, 22, 23, 24].contains k
def uyA (k : Nat) : Bool := [14, 15, 16, 17, 18, 19, 21, 22, 23, 24, 25, 26, 27, 28].contains k
abbrev FrU (S S2 : St) : Prop := Fr uxI sxL uxA noB S S2
abbrev FrZ (T T2 : St) : Prop := Fr uyI syL uyA tmB T T2
theorem FrX.u {S S2 : St} (h : FrX S S2) : FrU S S2 := ⟨fun k hk => h.1 k (cont_sub (by decide) hk), h.2.1, fun k hk => h.2.2.1 k (cont_sub (by decide) hk), h.2.2.2⟩
theorem FrY.z {S S2 : St} (h : FrY S S2) : FrZ S S2 := ⟨fun k hk => h.1 k (cont_sub (by decide) hk), h.2.1, fun k hk => h.2.2.1 k (cont_sub (by decide) hk), h.2.2.2⟩
theorem FrW.u {r : Nat} {S S2 : St} (h : FrW r S S2) (h1 : uxI r = true) (h2 : uxA r = true) : FrU S S2 := ⟨fun k hk => h.1 k (beq_ff (fun z => by rw [z, h1] at hk; cases hk)), fun k _ => h.2.1 k rfl, fun k hk => h.2.2.1 k (beq_ff (fun z => by rw [z, h2] at hk; cases hk)), h.2.2.2⟩
theorem FrJ.z {T T2 : St} (h : FrJ T T2) : FrZ T T2 := ⟨fun k hk => h.1 k (beq_ff (fun z => by rw [z] at hk; cases hk)), fun k _ => h.2.1 k rfl, fun k hk => h.2.2.1 k (beq_ff (fun z => by rw [z] at hk; cases hk)), fun k _ => h.2.2.2 k rfl⟩
theorem Cp.z {a b n i : Nat} {T T2 : St} (h : Cp a b n i T T2) (h2 : uyA b = true) : FrZ T T2 := ⟨fun k _ => h.1.1 k rfl, fun k _ => h.1.2.1 k rfl, fun k hk => h.1.2.2.1 k (beq_ff (fun z => by rw [z, h2] at hk; cases hk)), fun k _ => h.1.2.2.2 k rfl⟩
theorem RelS.gen {S S2 T T2 : St} {n nl nc nc2 : Nat} {c cl : Nat → Nat} (h : RelS S T n c nl cl nc) (f : FrU S S2) (g : FrZ T T2) (hi : IR S2 T2) (hc : CRn S2 T2 nc2) (hd : DR S2 T2) (hw : gI S2 35 = gI T2 15) : RelS S2 T2 n c nl cl nc2 := by
  obtain ⟨h1, h2, h3, h4, h5, -⟩ := h
  refine ⟨?_, ?_, ?_, ?_, ?_, hi, hc, hd, hw⟩
  · unfold VR at h1 ⊢
    rw [f.1 24 rfl, f.1 0 rfl, f.1 1 rfl, f.2.2.1 0 rfl, f.2.2.1 1 rfl, g.1 0 rfl, g.1 1 rfl, g.2.2.1 0 rfl, g.2.2.1 1 rfl]
    exact h1
  · unfold TRn at h2 ⊢
    rw [f.1 23 rfl, g.1 3 rfl, f.2.2.1 17 rfl, g.2.2.1 8 rfl, f.2.2.1 18 rfl, g.2.2.1 9 rfl, f.2.2.1 19 rfl, g.2.2.1 10 rfl, f.2.1 4 rfl, f.2.1 5 rfl, f.2.1 6 rfl, f.2.1 7 rfl]
    exact h2
  · unfold LRn at h3 ⊢
    rw [f.1 25 rfl, g.1 2 rfl, f.2.2.1 20 rfl, g.2.2.1 2 rfl, f.2.2.1 21 rfl, g.2.2.1 3 rfl, f.2.2.1 22 rfl, g.2.2.1 4 rfl, f.2.2.1 23 rfl, g.2.2.1 5 rfl, f.2.2.1 24 rfl, g.2.2.1 6 rfl, f.2.2.1 25 rfl, g.2.2.1 7 rfl]
    exact h3
  · unfold PR at h4 ⊢
    rw [f.1 2 rfl, f.1 3 rfl, f.1 4 rfl, g.1 4 rfl, f.2.2.1 2 rfl, f.2.2.1 3 rfl, f.2.2.1 4 rfl, g.2.2.1 11 rfl, g.2.2.1 12 rfl, g.2.2.1 13 rfl]
    exact h4
  · exact h5.fr (f.2.2.1 23 rfl) (f.2.2.1 24 rfl) (f.2.2.1 25 rfl)
theorem RelS.to {S T : St} {n nl nc : Nat} {c cl : Nat → Nat} (h : RelS S T n c nl cl nc) (w : Int32) : RelS (sI S 35 w) (sI T 15 w) n c nl cl nc := by
  obtain ⟨h1, h2, h3, h4, h5, h6, h7, h8, -⟩ := h
  exact ⟨h1, h2, h3, h4, h5, h6, h7, h8, rfl⟩
theorem card_1 {p : Nat → Bool} : ∀ n, card p n = 1 → ∃ t, t < n ∧ p t = true ∧ ∀ j, j < n → p j = true → j = t
  | 0, h => by simp only [card] at h; exact absurd h (by decide)
  | n + 1, h => by
    by_cases hp : p n = true
    · simp only [card, hp, if_true] at h
      have h0 := (card_0 n).mp (show card p n = 0 by omega)
      refine ⟨n, by omega, hp, fun j hj hpj => ?_⟩
      by_cases hjn : j = n
      · exact hjn
      · rw [h0 j (by omega)] at hpj; cases hpj
    · simp only [card, hp, if_false] at h
      obtain ⟨t, t1, t2, t3⟩ := card_1 n (by simpa using h)
      refine ⟨t, by omega, t2, fun j hj hpj => ?_⟩
      by_cases hjn : j = n
      · rw [hjn] at hpj; exact absurd hpj hp
      · exact t3 j (by omega) hpj
theorem nthE_1 {p : Nat → Bool} {n t : Nat} (hc : card p n = 1) (h : ∀ j, j < n → p j = true → j = t) : nthE p n 0 0 = nI t := by
  have hE : Enum p n (fun _ => nI t) := fun i hi hp => by rw [h i hi hp]
  rw [nthE_enum hE n 0 0 (by omega)]
  have h0 : card p 0 + 0 < card p n := by rw [hc]; show 0 + 0 < 1; omega
  rw [if_pos h0]

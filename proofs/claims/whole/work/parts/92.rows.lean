/-- only row r has changed -/
def isR (r k : Nat) : Bool := k == r
abbrev FrW (r : Nat) (S S2 : St) : Prop := Fr (isR r) noL (isR r) noB S S2
theorem beq_ff {k r : Nat} (h : k ≠ r) : (k == r) = false := by
  cases hb : (k == r)
  · rfl
  · exact absurd (eq_of_beq hb) h
theorem beq_tt (r : Nat) : isR r r = true := beq_self_eq_true r
theorem x_bec_l {r r1 n : Nat} (hne : r1 ≠ r) (h1 : n ≤ xcap r1) (h2 : n ≤ xcap r) (hc : xcap r ≤ 60) (hc1 : xcap r1 ≤ 60) : ∀ (q fuel i : Nat) (S : St), gI S r1 = nI n → gI S r = nI i → i + q = n → q < fuel → ∃ S2, x_Row_become_b6 r r1 fuel S (nI i) = some S2 ∧ FrW r S S2 ∧ gI S2 r = nI n ∧ (∀ k, k < i → gA S2 r k = gA S r k) ∧ (∀ k, i ≤ k → k < n → gA S2 r k = gA S r1 k)
  | q, 0, i, S, _, _, _, hf => absurd hf (by omega)
  | 0, fuel + 1, i, S, e1, e, he, _ => by
    refine ⟨S, ?_, Fr.rf, by rw [e, show i = n by omega], fun _ _ => rfl, fun k k1 k2 => absurd k2 (by omega)⟩
    show x_Row_become_b6_f _ _ _ S _ = _
    unfold x_Row_become_b6_f
    rw [e1, if_pos (nI_le (show n ≤ i by omega) (by omega))]
  | q + 1, fuel + 1, i, S, e1, e, he, hf => by
    have a1 : gI (sI (sA S r i (gA S r1 i)) r (nI (i + 1))) r1 = nI n := by rw [gI_sI, if_neg hne]; exact e1
    have a2 : gI (sI (sA S r i (gA S r1 i)) r (nI (i + 1))) r = nI (i + 1) := by rw [gI_sI, if_pos rfl]
    have a3 : gA (sI (sA S r i (gA S r1 i)) r (nI (i + 1))) r = upd (gA S r) i (gA S r1 i) := by rw [gA_sI, gA_sA, if_pos rfl]
    have a4 : gA (sI (sA S r i (gA S r1 i)) r (nI (i + 1))) r1 = gA S r1 := by rw [gA_sI, gA_sA, if_neg hne]
    obtain ⟨S2, q1, q2, q3, q4, q5⟩ := x_bec_l hne h1 h2 hc hc1 q fuel (i + 1) (sI (sA S r i (gA S r1 i)) r (nI (i + 1))) a1 a2 (by omega) (by omega)
    have fr : FrW r S (sI (sA S r i (gA S r1 i)) r (nI (i + 1))) := (Fr.rf.sA (beq_tt r)).sI (beq_tt r)
    refine ⟨S2, ?_, fr.tr q2, q3, ?_, ?_⟩
    · show x_Row_become_b6_f _ _ (x_Row_become_b6 r r1 fuel) S _ = _
      unfold x_Row_become_b6_f
      rw [e1, if_neg (nI_ge (show i < n by omega) (by omega)), gd_t _ (vin_nI (show i < xcap r1 by omega) (by omega)), nI_clamp (show i < 2 ^ 31 by omega), x_add e (show i < xcap r by omega) hc, bind_s, show nI i + (1 : Int32) = nI (i + 1) from nI_1 i]
      exact q1
    · intro k hk
      rw [q4 k (by omega), a3, upd_ne (by omega)]
    · intro k k1 k2
      by_cases hk : k = i
      · rw [hk, q4 i (by omega), a3, upd_self]
      · rw [q5 k (by omega) k2, a4]
theorem x_bec {r r1 n : Nat} (hne : r1 ≠ r) (h1 : n ≤ xcap r1) (h2 : n ≤ xcap r) (hc : xcap r ≤ 60) (hc1 : xcap r1 ≤ 60) (S : St) (e1 : gI S r1 = nI n) : ∃ S2, x_Row_become r r1 S = some S2 ∧ FrW r S S2 ∧ gI S2 r = nI n ∧ EqN n (gA S2 r) (gA S r1) := by
  obtain ⟨S2, q1, q2, q3, q4, q5⟩ := x_bec_l hne h1 h2 hc hc1 n fu 0 (sI S r 0) (by rw [gI_sI, if_neg hne]; exact e1) (by rw [gI_sI, if_pos rfl]; rfl) (by omega) (show n < 100000 by omega)
  have fr : FrW r S (sI S r 0) := Fr.rf.sI (beq_tt r)
  exact ⟨S2, q1, fr.tr q2, q3, fun k hk => q5 k (by omega) hk⟩
/-- array b has got a's from i to n -/
def Cp (a b n i : Nat) (T T2 : St) : Prop := Fr noL noL (isR b) noB T T2 ∧ (∀ k, k < i → gA T2 b k = gA T b k) ∧ ∀ k, i ≤ k → k < n → gA T2 b k = gA T a k
theorem Cp.rf {a b n i : Nat} {T : St} (h : n ≤ i) : Cp a b n i T T := ⟨Fr.rf, fun _ _ => rfl, fun k h1 h2 => absurd h2 (by omega)⟩
theorem Cp.step {a b n i : Nat} {T T2 : St} (hab : a ≠ b) (h : Cp a b n (i + 1) (sA T b i (gA T a i)) T2) : Cp a b n i T T2 := by
  obtain ⟨h1, h2, h3⟩ := h
  have fr : Fr noL noL (isR b) noB T (sA T b i (gA T a i)) := Fr.rf.sA (beq_tt b)
  refine ⟨fr.tr h1, fun k hk => ?_, fun k k1 k2 => ?_⟩
  · rw [h2 k (by omega), gA_sA, if_pos rfl, upd_ne (by omega)]
  · by_cases hk : k = i
    · rw [hk, h2 i (by omega), gA_sA, if_pos rfl, upd_self]
    · rw [h3 k (by omega) k2, gA_sA, if_neg hab]
theorem m_take24_l {n : Nat} (hn : n ≤ 60) : ∀ (q fuel i : Nat) (T : St), i + q = n → q < fuel → ∃ T2, m_M_take_24_b2 fuel T (nI n) (nI i) = some (sI T2 6 (nI n)) ∧ Cp 24 15 n i T T2
  | q, 0, i, T, _, hf => absurd hf (by omega)
  | 0, fuel + 1, i, T, he, _ => by
    refine ⟨T, ?_, Cp.rf (by omega)⟩
    show m_M_take_24_b2_f _ T _ _ = _
    unfold m_M_take_24_b2_f
    rw [if_pos (nI_le (show n ≤ i by omega) (by omega))]
  | q + 1, fuel + 1, i, T, he, hf => by
    obtain ⟨T2, q1, q2⟩ := m_take24_l hn q fuel (i + 1) (sA T 15 i (gA T 24 i)) (by omega) (by omega)
    refine ⟨T2, ?_, q2.step (by decide)⟩
    show m_M_take_24_b2_f (m_M_take_24_b2 fuel) T _ _ = _
    unfold m_M_take_24_b2_f
    rw [if_neg (nI_ge (show i < n by omega) (by omega)), gd_t _ (vin_nI (show i < 60 by omega) (by omega)), gd_t _ (vin_nI (show i < 60 by omega) (by omega)), nI_clamp (show i < 2 ^ 31 by omega), show nI i + (1 : Int32) = nI (i + 1) from nI_1 i]
    exact q1
theorem m_take14_l {n : Nat} (hn : n ≤ 60) : ∀ (q fuel i : Nat) (T : St), i + q = n → q < fuel → ∃ T2, m_M_take_14_b2 fuel T (nI n) (nI i) = some (sI T2 6 (nI n)) ∧ Cp 14 15 n i T T2
  | q, 0, i, T, _, hf => absurd hf (by omega)
  | 0, fuel + 1, i, T, he, _ => by
    refine ⟨T, ?_, Cp.rf (by omega)⟩
    show m_M_take_14_b2_f _ T _ _ = _
    unfold m_M_take_14_b2_f
    rw [if_pos (nI_le (show n ≤ i by omega) (by omega))]
  | q + 1, fuel + 1, i, T, he, hf => by
    obtain ⟨T2, q1, q2⟩ := m_take14_l hn q fuel (i + 1) (sA T 15 i (gA T 14 i)) (by omega) (by omega)
    refine ⟨T2, ?_, q2.step (by decide)⟩
    show m_M_take_14_b2_f (m_M_take_14_b2 fuel) T _ _ = _
    unfold m_M_take_14_b2_f
    rw [if_neg (nI_ge (show i < n by omega) (by omega)), gd_t _ (vin_nI (show i < 60 by omega) (by omega)), gd_t _ (vin_nI (show i < 60 by omega) (by omega)), nI_clamp (show i < 2 ^ 31 by omega), show nI i + (1 : Int32) = nI (i + 1) from nI_1 i]
    exact q1
theorem m_b242_l {n lb : Nat} (hn : n ≤ 60) (hl : lb < 60) : ∀ (q fuel i : Nat) (T : St), gI T 14 = nI n → i + q = n → q < fuel → ∃ T2, m_M_isTried_b242 fuel T (nI lb) (nI i) = some (gA T 3 lb, T2) ∧ Cp 24 28 n i T T2
  | q, 0, i, T, _, _, hf => absurd hf (by omega)
  | 0, fuel + 1, i, T, e, he, _ => by
    refine ⟨T, ?_, Cp.rf (by omega)⟩
    show m_M_isTried_b242_f _ T _ _ = _
    unfold m_M_isTried_b242_f
    rw [e, if_pos (nI_le (show n ≤ i by omega) (by omega)), gd_t _ (vin_nI hl (by omega)), nI_clamp (show lb < 2 ^ 31 by omega)]
  | q + 1, fuel + 1, i, T, e, he, hf => by
    obtain ⟨T2, q1, q2⟩ := m_b242_l hn hl q fuel (i + 1) (sA T 28 i (gA T 24 i)) e (by omega) (by omega)
    refine ⟨T2, ?_, q2.step (by decide)⟩
    show m_M_isTried_b242_f (m_M_isTried_b242 fuel) T _ _ = _
    unfold m_M_isTried_b242_f
    rw [e, if_neg (nI_ge (show i < n by omega) (by omega)), gd_t _ (vin_nI (show i < 60 by omega) (by omega)), gd_t _ (vin_nI (show i < 60 by omega) (by omega)), nI_clamp (show i < 2 ^ 31 by omega), show nI i + (1 : Int32) = nI (i + 1) from nI_1 i]
    exact q1
theorem m_b362_l {n : Nat} (hn : n ≤ 60) : ∀ (q fuel i : Nat) (T : St), gI T 23 = nI n → i + q = n → q < fuel → ∃ T2, m_M_parse_b362 fuel T (nI i) = m_M_parse_b391 T2 ∧ Cp 28 24 n i T T2
  | q, 0, i, T, _, _, hf => absurd hf (by omega)
  | 0, fuel + 1, i, T, e, he, _ => by
    refine ⟨T, ?_, Cp.rf (by omega)⟩
    show m_M_parse_b362_f _ T _ = _
    unfold m_M_parse_b362_f
    rw [e, if_pos (nI_le (show n ≤ i by omega) (by omega))]
  | q + 1, fuel + 1, i, T, e, he, hf => by
    obtain ⟨T2, q1, q2⟩ := m_b362_l hn q fuel (i + 1) (sA T 24 i (gA T 28 i)) e (by omega) (by omega)
    refine ⟨T2, ?_, q2.step (by decide)⟩
    show m_M_parse_b362_f (m_M_parse_b362 fuel) T _ = _
    unfold m_M_parse_b362_f
    rw [e, if_neg (nI_ge (show i < n by omega) (by omega)), gd_t _ (vin_nI (show i < 60 by omega) (by omega)), gd_t _ (vin_nI (show i < 60 by omega) (by omega)), nI_clamp (show i < 2 ^ 31 by omega), show nI i + (1 : Int32) = nI (i + 1) from nI_1 i]
    exact q1
def m243E (T : St) (n : Nat) (x4 : Int32) : Option (Int32 × St) := if (gI (sI T 14 (nI n)) 5) ≤ nI n then m_M_parse_b290 (sI T 14 (nI n)) (nI n) x4 (nI n) else m_M_parse_b290 (sI T 14 (nI n)) (nI n) x4 (nI n + (1 : Int32))
theorem m_b243_l {n : Nat} (hn : n ≤ 60) (x4 : Int32) : ∀ (q fuel i : Nat) (T : St), i + q = n → q < fuel → ∃ T2, m_M_parse_b243 fuel T (nI n) x4 (nI i) = m243E T2 n x4 ∧ Cp 14 24 n i T T2
  | q, 0, i, T, _, hf => absurd hf (by omega)
  | 0, fuel + 1, i, T, he, _ => by
    refine ⟨T, ?_, Cp.rf (by omega)⟩
    show m_M_parse_b243_f _ T _ _ _ = _
    unfold m_M_parse_b243_f
    rw [if_pos (nI_le (show n ≤ i by omega) (by omega))]
    rfl
  | q + 1, fuel + 1, i, T, he, hf => by
    obtain ⟨T2, q1, q2⟩ := m_b243_l hn x4 q fuel (i + 1) (sA T 24 i (gA T 14 i)) (by omega) (by omega)
    refine ⟨T2, ?_, q2.step (by decide)⟩
    show m_M_parse_b243_f (m_M_parse_b243 fuel) T _ _ _ = _
    unfold m_M_parse_b243_f
    rw [if_neg (nI_ge (show i < n by omega) (by omega)), gd_t _ (vin_nI (show i < 60 by omega) (by omega)), gd_t _ (vin_nI (show i < 60 by omega) (by omega)), nI_clamp (show i < 2 ^ 31 by omega), show nI i + (1 : Int32) = nI (i + 1) from nI_1 i]
    exact q1
/-- the class's own scratch and report; the reference's -/
def sxI (k : Nat) : Bool := [7, 9, 10, 11, 12, 13, 14, 15, 16, 17, 18, 19, 20, 21, 22, 26, 27, 28, 29, 30, 31, 32, 33, 34].contains k
def sxL (k : Nat) : Bool := [0, 1, 2, 3].contains k
def sxA (k : Nat) : Bool := [7, 9, 10, 11, 12, 13, 14, 15, 16].contains k
def syI (k : Nat) : Bool := [6, 7, 8, 9, 10, 11, 12, 13, 16, 17, 18, 19, 20, 21, 22].contains k
def syL (k : Nat) : Bool := [0, 1].contains k
def syA (k : Nat) : Bool := [15, 16, 17, 18, 19, 21, 22, 23, 25, 26, 27].contains k
def sdI (k : Nat) : Bool := [7, 8, 9, 10, 11, 12, 13, 16].contains k
def sdA (k : Nat) : Bool := [16, 17, 18, 19, 21, 22, 23, 25, 26, 27].contains k
abbrev FrX (S S2 : St) : Prop := Fr sxI sxL sxA noB S S2
abbrev FrY (T T2 : St) : Prop := Fr syI syL syA tmB T T2
abbrev FrD (T T2 : St) : Prop := Fr sdI syL sdA tmB T T2
theorem Fr.sym {pI pL pA pB : Nat → Bool} {S S2 : St} (h : Fr pI pL pA pB S S2) : Fr pI pL pA pB S2 S := ⟨fun k hk => (h.1 k hk).symm, fun k hk => (h.2.1 k hk).symm, fun k hk => (h.2.2.1 k hk).symm, fun k hk => (h.2.2.2 k hk).symm⟩
theorem FrT.x {S S2 : St} (h : FrT S S2) : FrX S S2 := ⟨fun k hk => h.1 k (cont_sub (by decide) hk), fun k hk => h.2.1 k (cont_sub (by decide) hk), fun k hk => h.2.2.1 k (cont_sub (by decide) hk), h.2.2.2⟩
theorem FrM.d {T T2 : St} (h : FrM T T2) : FrD T T2 := ⟨fun k hk => h.1 k (cont_sub (by decide) hk), h.2.1, fun k hk => h.2.2.1 k (cont_sub (by decide) hk), h.2.2.2⟩
theorem FrD.y {T T2 : St} (h : FrD T T2) : FrY T T2 := ⟨fun k hk => h.1 k (cont_sub (by decide) hk), h.2.1, fun k hk => h.2.2.1 k (cont_sub (by decide) hk), h.2.2.2⟩
theorem TRn.frx {S S2 T T2 : St} {n : Nat} {c : Nat → Nat} (h : TRn S T n c) (f : FrX S S2) (g : FrY T T2) : TRn S2 T2 n c := by
  unfold TRn at h ⊢
  rw [f.1 23 rfl, g.1 3 rfl, f.2.2.1 17 rfl, g.2.2.1 8 rfl, f.2.2.1 18 rfl, g.2.2.1 9 rfl, f.2.2.1 19 rfl, g.2.2.1 10 rfl, f.2.1 4 rfl, f.2.1 5 rfl, f.2.1 6 rfl, f.2.1 7 rfl]
  exact h
theorem LRn.frx {S S2 T T2 : St} {n : Nat} {c : Nat → Nat} (h : LRn S T n c) (f : FrX S S2) (g : FrY T T2) : LRn S2 T2 n c := by
  unfold LRn at h ⊢
  rw [f.1 25 rfl, g.1 2 rfl, f.2.2.1 20 rfl, g.2.2.1 2 rfl, f.2.2.1 21 rfl, g.2.2.1 3 rfl, f.2.2.1 22 rfl, g.2.2.1 4 rfl, f.2.2.1 23 rfl, g.2.2.1 5 rfl, f.2.2.1 24 rfl, g.2.2.1 6 rfl, f.2.2.1 25 rfl, g.2.2.1 7 rfl]
  exact h
theorem PR.frx {S S2 T T2 : St} (h : PR S T) (f : FrX S S2) (g : FrY T T2) : PR S2 T2 := by
  unfold PR at h ⊢
  rw [f.1 2 rfl, f.1 3 rfl, f.1 4 rfl, g.1 4 rfl, f.2.2.1 2 rfl, f.2.2.1 3 rfl, f.2.2.1 4 rfl, g.2.2.1 11 rfl, g.2.2.1 12 rfl, g.2.2.1 13 rfl]
  exact h
theorem VR.frx {S S2 T T2 : St} (h : VR S T) (f : FrX S S2) (g : FrY T T2) : VR S2 T2 := by
  unfold VR at h ⊢
  rw [f.1 24 rfl, f.1 0 rfl, f.1 1 rfl, f.2.2.1 0 rfl, f.2.2.1 1 rfl, g.1 0 rfl, g.1 1 rfl, g.2.2.1 0 rfl, g.2.2.1 1 rfl]
  exact h
theorem ORd.frx {S S2 : St} (h : ORd S) (f : FrX S S2) : ORd S2 := h.fr (f.2.2.1 23 rfl) (f.2.2.1 24 rfl) (f.2.2.1 25 rfl)
theorem CW.frx {S S2 T T2 : St} {nc : Nat} (h : CW S T nc) (f : FrX S S2) (g : FrD T T2) : CW S2 T2 nc := by
  unfold CW ORd at h ⊢
  rw [f.1 6 rfl, g.1 6 rfl, f.2.2.1 6 rfl, g.2.2.1 15 rfl, f.2.2.1 23 rfl, f.2.2.1 24 rfl, f.2.2.1 25 rfl]
  exact h
theorem SC.frx {S S2 T T2 : St} {n nl nc : Nat} {c cl : Nat → Nat} (h : SC S T n c nl cl nc) (f : FrX S S2) (g : FrD T T2) : SC S2 T2 n c nl cl nc := ⟨h.1.frx f g.y, h.2.1.frx f g.y, h.2.2.1.frx f g.y, h.2.2.2.frx f g⟩
/-- the words that wait -/
def IR (S T : St) : Prop := ∃ ni : Nat, ni ≤ 60 ∧ gI S 5 = nI ni ∧ gI T 5 = nI ni ∧ EqN ni (gA S 5) (gA T 14) ∧ ∀ k, k < ni → 0 < gA S 5 k ∧ gA S 5 k ≤ 19999
/-- the command -/
def CRn (S T : St) (nc : Nat) : Prop := nc ≤ 60 ∧ gI S 6 = nI nc ∧ gI T 14 = nI nc ∧ EqN nc (gA S 6) (gA T 24) ∧ ∀ k, k < nc → 0 < gA S 6 k ∧ gA S 6 k ≤ 19999
/-- the command that came to an action last -/
def DR (S T : St) : Prop := (gI S 8 = nI 0 ∧ gI T 23 = (-1)) ∨ ∃ nd : Nat, 1 ≤ nd ∧ nd ≤ 60 ∧ gI S 8 = nI nd ∧ gI T 23 = nI nd ∧ EqN nd (gA S 8) (gA T 28) ∧ (∀ k, k < nd → 0 < gA S 8 k ∧ gA S 8 k ≤ 19999) ∧ gI S 36 = gI T 24
theorem IR.frx {S S2 T T2 : St} (h : IR S T) (f : FrX S S2) (g : FrY T T2) : IR S2 T2 := by
  unfold IR at h ⊢
  rw [f.1 5 rfl, g.1 5 rfl, f.2.2.1 5 rfl, g.2.2.1 14 rfl]; exact h
theorem CRn.frx {S S2 T T2 : St} {nc : Nat} (h : CRn S T nc) (f : FrX S S2) (g : FrY T T2) : CRn S2 T2 nc := by
  unfold CRn at h ⊢
  rw [f.1 6 rfl, g.1 14 rfl, f.2.2.1 6 rfl, g.2.2.1 24 rfl]; exact h
theorem DR.frx {S S2 T T2 : St} (h : DR S T) (f : FrX S S2) (g : FrY T T2) : DR S2 T2 := by
  unfold DR at h ⊢
  rw [f.1 8 rfl, g.1 23 rfl, f.2.2.1 8 rfl, g.2.2.1 28 rfl, f.1 36 rfl, g.1 24 rfl]; exact h
/-- all but the report -/
def RelS (S T : St) (n : Nat) (c : Nat → Nat) (nl : Nat) (cl : Nat → Nat) (nc : Nat) : Prop := VR S T ∧ TRn S T n c ∧ LRn S T nl cl ∧ PR S T ∧ ORd S ∧ IR S T ∧ CRn S T nc ∧ DR S T ∧ gI S 35 = gI T 15
theorem RelS.frx {S S2 T T2 : St} {n nl nc : Nat} {c cl : Nat → Nat} (h : RelS S T n c nl cl nc) (f : FrX S S2) (g : FrY T T2) : RelS S2 T2 n c nl cl nc := by
  obtain ⟨h1, h2, h3, h4, h5, h6, h7, h8, h9⟩ := h
  exact ⟨h1.frx f g, h2.frx f g, h3.frx f g, h4.frx f g, h5.frx f, h6.frx f g, h7.frx f g, h8.frx f g, by rw [f.1 35 rfl, g.1 15 rfl]; exact h9⟩
def Tried (S T : St) (nt : Nat) : Prop := nt ≤ 60 ∧ gI S 13 = nI nt ∧ gI S 14 = nI nt ∧ gI S 15 = nI nt ∧ gI T 16 = nI nt ∧ EqN nt (gA S 13) (gA T 25) ∧ EqN nt (gA S 14) (gA T 26) ∧ EqN nt (gA S 15) (gA T 27)
/-- it is asked which, in the report -/
def Ask15R (S T : St) (n nc : Nat) : Prop := ∃ (p : Nat → Bool) (b : Nat), (∀ j, n ≤ j → p j = false) ∧ gL T 1 = bs p n ∧ gI S 16 = nI (card p n) ∧ Enum p n (gA S 16) ∧ gI S 34 = nI b ∧ gI T 9 = nI b ∧ b ≤ nc
def Ask16R (S T : St) : Prop := ∃ q : Nat, q ≤ 8 ∧ gI S 16 = nI (q + 1) ∧ gI T 11 = nI q ∧ gA S 16 0 = gI T 10 ∧ ∀ j, j < q → gA S 16 (j + 1) = gA T 16 j ∧ 0 < gA T 16 j ∧ gA T 16 j ≤ 19999
def AskR (S T : St) (n nc : Nat) : Prop := (gI T 21 = 0 ∧ ¬ gI S 31 = 15 ∧ ¬ gI S 31 = 16) ∨ (gI T 21 = 15 ∧ gI S 31 = 15 ∧ Ask15R S T n nc) ∨ (gI T 21 = 16 ∧ gI S 31 = 16 ∧ Ask16R S T)
def ActR (S T : St) (n nl : Nat) : Prop := (gI S 30 = (-1) ∧ gI T 22 = 0) ∨ (0 < gI S 30 ∧ gI T 22 = 1 ∧ (∃ l : Nat, l < nl ∧ gI S 33 = nI l) ∧ DnF S T n)
def PlR (S T : St) : Prop := gI S 32 = (-1) ∨ (gI T 17 = 1 ∧ ¬ gI S 31 = 0 ∧ ¬ gI S 31 = 1 ∧ ¬ gI S 31 = 3 ∧ ¬ gI S 31 = 4 ∧ ∃ b : Nat, b ≤ 60 ∧ gI S 32 = nI b)
def RRn (S T : St) (n nl nc : Nat) : Prop := (∃ nt, Tried S T nt) ∧ gI S 31 = gI T 18 ∧ gI S 32 = gI T 19 ∧ gI S 33 = gI T 20 ∧ AskR S T n nc ∧ ActR S T n nl ∧ PlR S T
def RelN (S T : St) (n : Nat) (c : Nat → Nat) (nl : Nat) (cl : Nat → Nat) (nc : Nat) : Prop := RelS S T n c nl cl nc ∧ RRn S T n nl nc
/-- the relation of the two objects -/
def Rel (S T : St) : Prop := ∃ (n : Nat) (c : Nat → Nat) (nl : Nat) (cl : Nat → Nat) (nc : Nat), RelN S T n c nl cl nc

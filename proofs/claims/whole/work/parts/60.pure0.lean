/-! PURE: what the functions x_.. and m_.. say, without the machine -/
theorem gI_sI (S : St) (k j : Nat) (v : Int32) : gI (sI S k v) j = if j = k then v else gI S j := rfl
theorem gI_sL (S : St) (k j : Nat) (v : Int64) : gI (sL S k v) j = gI S j := rfl
theorem gI_sA (S : St) (k i j : Nat) (v : Int32) : gI (sA S k i v) j = gI S j := rfl
theorem gI_sB (S : St) (k i j : Nat) (v : Int64) : gI (sB S k i v) j = gI S j := rfl
theorem gL_sI (S : St) (k j : Nat) (v : Int32) : gL (sI S k v) j = gL S j := rfl
theorem gL_sL (S : St) (k j : Nat) (v : Int64) : gL (sL S k v) j = if j = k then v else gL S j := rfl
theorem gL_sA (S : St) (k i j : Nat) (v : Int32) : gL (sA S k i v) j = gL S j := rfl
theorem gL_sB (S : St) (k i j : Nat) (v : Int64) : gL (sB S k i v) j = gL S j := rfl
theorem gA_sI (S : St) (k j : Nat) (v : Int32) : gA (sI S k v) j = gA S j := rfl
theorem gA_sL (S : St) (k j : Nat) (v : Int64) : gA (sL S k v) j = gA S j := rfl
theorem gA_sA (S : St) (k i j : Nat) (v : Int32) : gA (sA S k i v) j = if j = k then upd (gA S k) i v else gA S j := by
  funext n
  show (if j = k then upd (S.2.2.1 k) i v else S.2.2.1 j) n = _
  by_cases h : j = k
  · rw [if_pos h, if_pos h]; rfl
  · rw [if_neg h, if_neg h]; rfl
theorem gA_sB (S : St) (k i j : Nat) (v : Int64) : gA (sB S k i v) j = gA S j := rfl
theorem gB_sI (S : St) (k j : Nat) (v : Int32) : gB (sI S k v) j = gB S j := rfl
theorem gB_sL (S : St) (k j : Nat) (v : Int64) : gB (sL S k v) j = gB S j := rfl
theorem gB_sA (S : St) (k i j : Nat) (v : Int32) : gB (sA S k i v) j = gB S j := rfl
theorem gB_sB (S : St) (k i j : Nat) (v : Int64) : gB (sB S k i v) j = if j = k then vp_updL (gB S k) i v else gB S j := by
  funext n
  show (if j = k then vp_updL (S.2.2.2 k) i v else S.2.2.2 j) n = _
  by_cases h : j = k
  · rw [if_pos h, if_pos h]; rfl
  · rw [if_neg h, if_neg h]; rfl
theorem bind_s {α β : Type} (a : α) (k : α → Option β) : (some a).bind k = k a := rfl
theorem gd_t {α : Type} {b : Bool} (a : Option α) (h : b = true) : gd b a = a := by unfold gd; rw [if_pos h]
theorem vin_nI {j n : Nat} (h : j < n) (hn : n < 2 ^ 31) : vin (nI j) n = true := by
  have h1 := vp_in_nI h hn
  unfold vin
  exact decide_eq_true h1
theorem vin_no {j n : Nat} (h : n ≤ j) (hj : j < 2 ^ 31) : vin (nI j) n = false := by
  unfold vin
  refine decide_eq_false (fun q => q (Or.inr ?_))
  rw [nI_clamp hj]; exact h
theorem vin_neg {i : Int32} {n : Nat} (h : i < 0) : vin i n = false := by
  unfold vin
  exact decide_eq_false (fun q => q (Or.inl h))
/-- two arrays alike as far as they are used -/
def EqN (n : Nat) (f g : Nat → Int32) : Prop := ∀ k, k < n → f k = g k
theorem EqN.up {n : Nat} {f g : Nat → Int32} {v : Int32} (h : EqN n f g) : EqN (n + 1) (upd f n v) (upd g n v) := by
  intro k hk
  unfold upd
  by_cases e : k = n
  · rw [if_pos e, if_pos e]
  · rw [if_neg e, if_neg e]; exact h k (by omega)
theorem EqN.st {n k : Nat} {f g : Nat → Int32} {v : Int32} (h : EqN n f g) : EqN n (upd f k v) (upd g k v) := by
  intro j hj
  unfold upd
  by_cases e : j = k
  · rw [if_pos e, if_pos e]
  · rw [if_neg e, if_neg e]; exact h j hj
theorem EqN.le {n m : Nat} {f g : Nat → Int32} (h : EqN n f g) (hm : m ≤ n) : EqN m f g := fun k hk => h k (by omega)
theorem EqN.rf {n : Nat} {f : Nat → Int32} : EqN n f f := fun _ _ => rfl
/-- what Row.at answers -/
def rat (f : Nat → Int32) (n : Nat) (i : Int32) : Int32 := if vin i n = true then f i.toNatClampNeg else (-1)
theorem rat_nI {f : Nat → Int32} {n j : Nat} (h : j < n) (hn : n < 2 ^ 31) : rat f n (nI j) = f j := by
  unfold rat
  rw [if_pos (vin_nI h hn), nI_clamp (by omega)]
theorem rat_no {f : Nat → Int32} {n j : Nat} (h : n ≤ j) (hj : j < 2 ^ 31) : rat f n (nI j) = (-1) := by
  unfold rat
  rw [if_neg (by rw [vin_no h hj]; decide)]
theorem rat_neg {f : Nat → Int32} {n : Nat} {i : Int32} (h : i < 0) : rat f n i = (-1) := by
  unfold rat
  rw [if_neg (by rw [vin_neg h]; decide)]
theorem rat_eq {f g : Nat → Int32} {n : Nat} (h : EqN n f g) (i : Int32) : rat f n i = rat g n i := by
  unfold rat
  by_cases hv : vin i n = true
  · rw [if_pos hv, if_pos hv]
    have h1 : ¬ (i < 0 ∨ n ≤ i.toNatClampNeg) := vin_in hv
    exact h _ (by omega)
  · rw [if_neg hv, if_neg hv]
theorem int_cases (i : Int32) : i < 0 ∨ ∃ j : Nat, j < 2 ^ 31 ∧ i = nI j := by
  by_cases h : i < 0
  · exact Or.inl h
  · exact Or.inr (nI_of h)
theorem x_size (r : Nat) (S : St) : x_Row_size r S = some (gI S r, S) := rfl
theorem x_at {r : Nat} {S : St} {n : Nat} (h : gI S r = nI n) (hn : n ≤ xcap r) (hc : xcap r ≤ 60) (i : Int32) : x_Row_at r S i = some (rat (gA S r) n i, S) := by
  unfold x_Row_at
  rcases int_cases i with hi | ⟨j, hj, rfl⟩
  · rw [if_pos hi, rat_neg hi]
  · rw [if_neg (nI_pos hj), h]
    by_cases hjn : n ≤ j
    · rw [if_pos ((nI_leI (by omega) hj).mpr hjn), rat_no hjn hj]
    · rw [if_neg (fun q => hjn ((nI_leI (by omega) hj).mp q)), gd_t _ (vin_nI (by omega) (by omega)), rat_nI (by omega) (by omega), nI_clamp hj]
theorem ofN (n : Nat) : Int32.ofNat n = nI n := rfl
theorem x_add {r : Nat} {S : St} {n : Nat} (h : gI S r = nI n) (hn : n < xcap r) (hc : xcap r ≤ 60) (v : Int32) : x_Row_add r S v = some (sI (sA S r n v) r (nI (n + 1))) := by
  unfold x_Row_add
  rw [h, if_neg (nI_pos (by omega)), ofN, if_neg (nI_ge (by omega) (by omega)), gd_t _ (vin_nI (by omega) (by omega)), nI_clamp (by omega), gI_sA, h]
  rw [show nI n + (1 : Int32) = nI (n + 1) from nI_1 n]
theorem x_empty (r : Nat) (S : St) : x_Row_empty r S = some (sI S r 0) := rfl

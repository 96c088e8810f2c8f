/-- a bit of a set -/
def bit (w : Int64) (k : Nat) : Bool := w.toBitVec.getLsbD k
theorem bit_and (a b : Int64) (k : Nat) : bit (a &&& b) k = (bit a k && bit b k) := by
  unfold bit
  rw [Int64.toBitVec_and, BitVec.getLsbD_and]
theorem bit_or (a b : Int64) (k : Nat) : bit (a ||| b) k = (bit a k || bit b k) := by
  unfold bit
  rw [Int64.toBitVec_or, BitVec.getLsbD_or]
theorem bit_not (a : Int64) {k : Nat} (hk : k < 64) : bit (a ^^^ (-1)) k = !bit a k := by
  unfold bit
  rw [Int64.toBitVec_xor, BitVec.getLsbD_xor, show (-1 : Int64).toBitVec = BitVec.allOnes 64 from by decide, BitVec.getLsbD_allOnes, decide_eq_true hk]
  cases a.toBitVec.getLsbD k <;> rfl
theorem bit_0 (k : Nat) : bit 0 k = false := by
  unfold bit
  rw [show (0 : Int64).toBitVec = 0#64 from rfl]
  exact BitVec.getLsbD_zero
theorem bit_ext {a b : Int64} (h : ∀ k, k < 64 → bit a k = bit b k) : a = b := by
  refine Int64.toBitVec_inj.mp (BitVec.eq_of_getLsbD_eq fun i hi => h i hi)
theorem one_shl : ∀ k : Fin 64, ((1 : Int64) <<< ((nI k.val).toInt64 &&& 63)).toBitVec = BitVec.twoPow 64 k.val := by decide +kernel
theorem shr_amt : ∀ k : Fin 64, ((((nI k.val).toInt64 &&& 63).toBitVec).smod 64).toNat = k.val := by decide +kernel
theorem bit_one {k j : Nat} (hk : k < 64) : bit ((1 : Int64) <<< ((nI k).toInt64 &&& 63)) j = decide (k = j) := by
  unfold bit
  rw [one_shl ⟨k, hk⟩, BitVec.getLsbD_twoPow]
  by_cases e : k = j
  · rw [decide_eq_true e, decide_eq_true (show k < 64 from hk)]; rfl
  · rw [decide_eq_false e]; simp
/-- the set of those below n that p holds of -/
def bs (p : Nat → Bool) : Nat → Int64
  | 0 => 0
  | n + 1 => if p n = true then bs p n ||| ((1 : Int64) <<< ((nI n).toInt64 &&& 63)) else bs p n
theorem bit_bs {p : Nat → Bool} : ∀ {n k : Nat}, n ≤ 64 → bit (bs p n) k = (decide (k < n) && p k)
  | 0, k, _ => by simp only [bs, bit_0]; simp
  | n + 1, k, h => by
    simp only [bs]
    have ih := bit_bs (p := p) (n := n) (k := k) (by omega)
    by_cases hp : p n = true
    · rw [if_pos hp, bit_or, ih, bit_one (by omega)]
      by_cases e : n = k
      · subst e; simp [hp]
      · have h1 : decide (k < n + 1) = decide (k < n) := decide_eq_decide.mpr (by omega)
        rw [decide_eq_false e, h1]; simp
    · rw [if_neg hp, ih]
      by_cases e : n = k
      · subst e; simp [hp]
      · have h1 : decide (k < n + 1) = decide (k < n) := decide_eq_decide.mpr (by omega)
        rw [h1]
theorem bs_and {p q : Nat → Bool} {n : Nat} (h : n ≤ 64) : bs p n &&& bs q n = bs (fun k => p k && q k) n := by
  refine bit_ext fun k _ => ?_
  rw [bit_and, bit_bs h, bit_bs h, bit_bs h]
  cases decide (k < n) <;> simp
theorem bs_not {p q : Nat → Bool} {n : Nat} (h : n ≤ 64) : bs p n &&& (bs q n ^^^ (-1)) = bs (fun k => p k && !q k) n := by
  refine bit_ext fun k hk => ?_
  rw [bit_and, bit_not _ hk, bit_bs h, bit_bs h, bit_bs h]
  cases decide (k < n) <;> simp
theorem bs_or {p q : Nat → Bool} {n : Nat} (h : n ≤ 64) : bs p n ||| bs q n = bs (fun k => p k || q k) n := by
  refine bit_ext fun k _ => ?_
  rw [bit_or, bit_bs h, bit_bs h, bit_bs h]
  cases decide (k < n) <;> simp
theorem bs_eq {p q : Nat → Bool} : ∀ n, (∀ k, k < n → p k = q k) → bs p n = bs q n
  | 0, _ => rfl
  | n + 1, h => by
    simp only [bs]
    rw [bs_eq n (fun k hk => h k (by omega)), h n (by omega)]
theorem bs_not_eq {p q : Nat → Bool} {n : Nat} (h : n ≤ 64) (e : bs p n = bs q n) : ∀ k, k < n → p k = q k := by
  intro k hk
  have h1 := bit_bs (p := p) (k := k) h
  have h2 := bit_bs (p := q) (k := k) h
  rw [e, h2] at h1
  simpa [hk] using h1.symm
theorem bs_zero {p : Nat → Bool} {n : Nat} (h : n ≤ 64) : bs p n = 0 ↔ ∀ k, k < n → p k = false := by
  constructor
  · intro e k hk
    have h1 := bit_bs (p := p) (k := k) h
    rw [e, bit_0] at h1
    simpa [hk] using h1.symm
  · intro e
    refine bit_ext fun k _ => ?_
    rw [bit_0, bit_bs h]
    by_cases hk : k < n
    · rw [e k hk]; simp
    · simp [hk]
/-- more of them: the set stays, if no bit is new -/
theorem bs_more {p : Nat → Bool} {n m : Nat} (hm : m ≤ 64) (h : n ≤ m) (hp : ∀ k, n ≤ k → k < m → p k = false) : bs p m = bs p n := by
  refine bit_ext fun k _ => ?_
  rw [bit_bs hm, bit_bs (by omega)]
  by_cases h1 : k < n
  · simp [h1, show k < m by omega]
  · by_cases h2 : k < m
    · simp [h1, h2, hp k (by omega) h2]
    · simp [h1, h2]
theorem tst (w : Int64) {k : Nat} (hk : k < 64) : ((w >>> ((nI k).toInt64 &&& 63)) &&& 1) = if bit w k = true then 1 else 0 := by
  refine bit_ext fun j hj => ?_
  rw [bit_and]
  have h1 : bit 1 j = decide (0 = j) := by
    unfold bit
    rw [show (1 : Int64).toBitVec = BitVec.twoPow 64 0 from by decide, BitVec.getLsbD_twoPow]
    simp
  have h2 : bit (w >>> ((nI k).toInt64 &&& 63)) 0 = bit w k := by
    unfold bit
    rw [Int64.toBitVec_shiftRight, BitVec.sshiftRight_eq', shr_amt ⟨k, hk⟩, BitVec.getLsbD_sshiftRight]
    simp [hk]
  rw [h1]
  by_cases e : 0 = j
  · subst e
    rw [h2]
    cases hb : bit w k
    · simp [bit_0]
    · simp [h1]
  · rw [decide_eq_false e, Bool.and_false]
    cases hb : bit w k
    · simp [bit_0]
    · simp only [if_true]; rw [h1, decide_eq_false e]
theorem cmp_eq (x y : Int64) : (lg_cmp x y = 0) = (x = y) := by
  unfold lg_cmp
  by_cases h1 : y < x
  · have : ¬ x = y := fun e => by rw [e] at h1; exact absurd h1 (Int64.lt_irrefl)
    simp [h1, this]
  · by_cases h2 : x = y
    · simp [h2]
    · simp [h1, h2]
theorem tst0 (w : Int64) {k : Nat} (hk : k < 64) : (lg_cmp ((w >>> ((nI k).toInt64 &&& 63)) &&& 1) 0 = 0) = (bit w k = false) := by
  rw [cmp_eq, tst w hk]
  cases bit w k <;> simp
theorem tst1 (w : Int64) {k : Nat} (hk : k < 64) : (lg_cmp ((w >>> ((nI k).toInt64 &&& 63)) &&& 1) 1 = 0) = (bit w k = true) := by
  rw [cmp_eq, tst w hk]
  cases bit w k <;> simp

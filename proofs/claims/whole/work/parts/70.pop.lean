def uN (x : Int64) : Nat := x.toUInt64.toNat
theorem uN_lt (x : Int64) : uN x < 18446744073709551616 := x.toUInt64.toNat_lt
theorem uN_inj {x y : Int64} (h : uN x = uN y) : x = y := congrArg UInt64.toInt64 (UInt64.toNat_inj.mp h)
theorem uN_add (x y : Int64) : uN (x + y) = (uN x + uN y) % 18446744073709551616 := by
  show (x.toUInt64 + y.toUInt64).toNat = _
  exact UInt64.toNat_add _ _
theorem uN_shr (x : Int64) (s : UInt64) : uN (x.toUInt64 >>> s).toInt64 = uN x / 2 ^ (s.toNat % 64) := by
  show (x.toUInt64 >>> s).toNat = _
  rw [UInt64.toNat_shiftRight, Nat.shiftRight_eq_div_pow]
  rfl
theorem uN_and (x y : Int64) : uN (x &&& y) = uN x &&& uN y := UInt64.toNat_and _ _
theorem uN_sub {x y : Int64} (h : uN y ≤ uN x) : uN (x - y) = uN x - uN y := by
  have h1 : uN (x - y + y) = (uN (x - y) + uN y) % 18446744073709551616 := uN_add _ _
  rw [Int64.sub_add_cancel] at h1
  have h2 := uN_lt (x - y)
  have h3 := uN_lt x
  have h4 := uN_lt y
  omega
/-- byte by byte -/
def mapB (f : Nat → Nat) : Nat → Nat → Nat
  | 0, _ => 0
  | k + 1, n => f (n % 256) + 256 * mapB f k (n / 256)
def rep (m : Nat) : Nat → Nat
  | 0 => 0
  | k + 1 => m + 256 * rep m k
theorem and_split (a0 a1 m0 m1 : Nat) (ha : a0 < 256) (hm : m0 < 256) : (a0 + 256 * a1) &&& (m0 + 256 * m1) = (a0 &&& m0) + 256 * (a1 &&& m1) := by
  have hlt : a0 &&& m0 < 2 ^ 8 := Nat.lt_of_le_of_lt Nat.and_le_left ha
  apply Nat.eq_of_testBit_eq
  intro j
  rw [show a0 + 256 * a1 = 2 ^ 8 * a1 + a0 by omega, show m0 + 256 * m1 = 2 ^ 8 * m1 + m0 by omega, show (a0 &&& m0) + 256 * (a1 &&& m1) = 2 ^ 8 * (a1 &&& m1) + (a0 &&& m0) by omega]
  rw [Nat.testBit_and, Nat.testBit_two_pow_mul_add _ (show a0 < 2 ^ 8 from ha), Nat.testBit_two_pow_mul_add _ (show m0 < 2 ^ 8 from hm), Nat.testBit_two_pow_mul_add _ hlt]
  by_cases h : j < 8
  · simp only [h, if_true, Nat.testBit_and]
  · simp only [h, if_false, Nat.testBit_and]
theorem sh1 : ∀ (b : Fin 256) (e : Fin 2), (b.val / 2 + 128 * e.val) &&& 85 = b.val / 2 &&& 85 := by decide +kernel
theorem sh2 : ∀ (b : Fin 256) (e : Fin 4), (b.val / 4 + 64 * e.val) &&& 51 = b.val / 4 &&& 51 := by decide +kernel
theorem st1 : ∀ k n, (n / 2) &&& rep 85 k = mapB (fun b => b / 2 &&& 85) k n
  | 0, n => by simp only [rep, mapB, Nat.and_zero]
  | k + 1, n => by
    simp only [rep, mapB]
    rw [show n / 2 = (n % 256 / 2 + 128 * (n / 256 % 2)) + 256 * (n / 256 / 2) by omega, and_split _ _ _ _ (by omega) (by omega), st1 k (n / 256)]
    rw [show (n % 256 / 2 + 128 * (n / 256 % 2)) &&& 85 = n % 256 / 2 &&& 85 from sh1 ⟨n % 256, by omega⟩ ⟨n / 256 % 2, by omega⟩]
theorem st2 : ∀ k n, (n / 4) &&& rep 51 k = mapB (fun b => b / 4 &&& 51) k n
  | 0, n => by simp only [rep, mapB, Nat.and_zero]
  | k + 1, n => by
    simp only [rep, mapB]
    rw [show n / 4 = (n % 256 / 4 + 64 * (n / 256 % 4)) + 256 * (n / 256 / 4) by omega, and_split _ _ _ _ (by omega) (by omega), st2 k (n / 256)]
    rw [show (n % 256 / 4 + 64 * (n / 256 % 4)) &&& 51 = n % 256 / 4 &&& 51 from sh2 ⟨n % 256, by omega⟩ ⟨n / 256 % 4, by omega⟩]
theorem st3 : ∀ k n, n &&& rep 51 k = mapB (fun b => b &&& 51) k n
  | 0, n => by simp only [rep, mapB, Nat.and_zero]
  | k + 1, n => by
    simp only [rep, mapB]
    rw [← st3 k (n / 256), ← and_split _ _ _ _ (by omega) (by omega), show n % 256 + 256 * (n / 256) = n by omega]
theorem mapB_add (f g : Nat → Nat) : ∀ k n, mapB f k n + mapB g k n = mapB (fun b => f b + g b) k n
  | 0, n => rfl
  | k + 1, n => by
    simp only [mapB]
    rw [← mapB_add f g k (n / 256)]
    omega
theorem mapB_le {f g : Nat → Nat} (h : ∀ b, b < 256 → g b ≤ f b) : ∀ k n, mapB g k n ≤ mapB f k n
  | 0, n => Nat.le_refl 0
  | k + 1, n => by
    simp only [mapB]
    have h1 := h (n % 256) (by omega)
    have h2 := mapB_le h k (n / 256)
    omega
theorem mapB_sub {f g : Nat → Nat} (h : ∀ b, b < 256 → g b ≤ f b) : ∀ k n, mapB f k n - mapB g k n = mapB (fun b => f b - g b) k n
  | 0, n => rfl
  | k + 1, n => by
    simp only [mapB]
    have h1 := h (n % 256) (by omega)
    have h2 := mapB_le h k (n / 256)
    rw [← mapB_sub h k (n / 256)]
    omega
theorem mapB_id : ∀ k n, n < 256 ^ k → mapB (fun b => b) k n = n
  | 0, n, h => by simp only [mapB]; omega
  | k + 1, n, h => by
    simp only [mapB]
    rw [mapB_id k (n / 256) (by rw [Nat.pow_succ] at h; omega)]
    omega
theorem mapB_co {f g : Nat → Nat} (h : ∀ b, b < 256 → f b < 256) : ∀ k n, mapB g k (mapB f k n) = mapB (fun b => g (f b)) k n
  | 0, n => rfl
  | k + 1, n => by
    simp only [mapB]
    have h1 := h (n % 256) (by omega)
    rw [show (f (n % 256) + 256 * mapB f k (n / 256)) % 256 = f (n % 256) by omega, show (f (n % 256) + 256 * mapB f k (n / 256)) / 256 = mapB f k (n / 256) by omega, mapB_co h k (n / 256)]
theorem mapB_ext {f g : Nat → Nat} (h : ∀ b, b < 256 → f b = g b) : ∀ k n, mapB f k n = mapB g k n
  | 0, n => rfl
  | k + 1, n => by
    simp only [mapB]
    rw [h _ (by omega), mapB_ext h k (n / 256)]
theorem mapB_16 {f : Nat → Nat} (h : ∀ b, b < 256 → f b % 16 ≤ 4 ∧ f b / 16 ≤ 4) : ∀ k n, mapB f k n % 16 ≤ 4
  | 0, n => by simp only [mapB]; omega
  | k + 1, n => by
    simp only [mapB]
    have := h (n % 256) (by omega)
    omega
theorem st4 {f : Nat → Nat} (h : ∀ b, b < 256 → f b % 16 ≤ 4 ∧ f b / 16 ≤ 4) : ∀ k n, (mapB f k n + mapB f k n / 16) &&& rep 15 k = mapB (fun b => (f b + f b / 16) % 16) k n
  | 0, n => by simp only [rep, mapB, Nat.and_zero]
  | k + 1, n => by
    have h1 := h (n % 256) (by omega)
    have h2 := mapB_16 h k (n / 256)
    have ih := st4 h k (n / 256)
    simp only [rep, mapB]
    generalize mapB f k (n / 256) = N at h2 ih
    generalize f (n % 256) = c at h1
    rw [show c + 256 * N + (c + 256 * N) / 16 = (c + c / 16 + 16 * (N % 16)) + 256 * (N + N / 16) by omega, and_split _ _ _ _ (by omega) (by omega), ih]
    rw [show (c + c / 16 + 16 * (N % 16)) &&& 15 = (c + c / 16 + 16 * (N % 16)) % 16 from Nat.and_two_pow_sub_one_eq_mod _ 4]
    rw [show (c + c / 16 + 16 * (N % 16)) % 16 = (c + c / 16) % 16 by omega]
def g1B (b : Nat) : Nat := b - (b / 2 &&& 85)
def g2B (b : Nat) : Nat := (g1B b &&& 51) + (g1B b / 4 &&& 51)
def pcB (b : Nat) : Nat := (g2B b + g2B b / 16) % 16
theorem g1B_le : ∀ b : Fin 256, (b.val / 2 &&& 85) ≤ b.val ∧ g1B b.val < 256 := by decide +kernel
theorem g2B_ok : ∀ b : Fin 256, g2B b.val % 16 ≤ 4 ∧ g2B b.val / 16 ≤ 4 ∧ g2B b.val < 256 := by decide +kernel
theorem pcB_ok : ∀ b : Fin 256, pcB b.val = card (fun j => b.val.testBit j) 8 ∧ pcB b.val ≤ 8 := by decide +kernel
def bc1 (w : Int64) : Int64 := w - ((w.toUInt64 >>> ((1 : Int32).toInt64.toUInt64 &&& Int64.toUInt64 63)).toInt64 &&& (6148914691236517205 : Int64))
def bc2 (w : Int64) : Int64 := (w &&& (3689348814741910323 : Int64)) + ((w.toUInt64 >>> ((2 : Int32).toInt64.toUInt64 &&& Int64.toUInt64 63)).toInt64 &&& (3689348814741910323 : Int64))
def bc3 (w : Int64) : Int64 := (w + (w.toUInt64 >>> ((4 : Int32).toInt64.toUInt64 &&& Int64.toUInt64 63)).toInt64) &&& (1085102592571150095 : Int64)
def bc4 (w : Int64) : Int64 := w + (w.toUInt64 >>> ((8 : Int32).toInt64.toUInt64 &&& Int64.toUInt64 63)).toInt64
def bc5 (w : Int64) : Int64 := w + (w.toUInt64 >>> ((16 : Int32).toInt64.toUInt64 &&& Int64.toUInt64 63)).toInt64
def bc6 (w : Int64) : Int64 := w + (w.toUInt64 >>> ((32 : Int32).toInt64.toUInt64 &&& Int64.toUInt64 63)).toInt64
theorem x_bc (S : St) (w : Int64) : x_JLong_bitCount S w = some ((bc6 (bc5 (bc4 (bc3 (bc2 (bc1 w)))))).toInt32 &&& 127, S) := rfl
theorem u1 (w : Int64) : uN (bc1 w) = mapB g1B 8 (uN w) := by
  have hs : uN ((w.toUInt64 >>> ((1 : Int32).toInt64.toUInt64 &&& Int64.toUInt64 63)).toInt64 &&& (6148914691236517205 : Int64)) = mapB (fun b => b / 2 &&& 85) 8 (uN w) := by
    rw [uN_and, uN_shr, show ((1 : Int32).toInt64.toUInt64 &&& Int64.toUInt64 63).toNat % 64 = 1 by decide, show uN 6148914691236517205 = rep 85 8 by decide, Nat.pow_one, st1]
  have hid := mapB_id 8 (uN w) (uN_lt w)
  unfold bc1
  have hle := mapB_le (f := fun b => b) (g := fun b => b / 2 &&& 85) (fun b hb => (g1B_le ⟨b, hb⟩).1) 8 (uN w)
  rw [hid] at hle
  rw [uN_sub (by rw [hs]; exact hle), hs]
  have h2 := mapB_sub (f := fun b => b) (g := fun b => b / 2 &&& 85) (fun b hb => (g1B_le ⟨b, hb⟩).1) 8 (uN w)
  rw [hid] at h2
  rw [h2]
  rfl
theorem mapB_lt {f : Nat → Nat} (h : ∀ b, b < 256 → f b < 256) : ∀ k n, mapB f k n < 256 ^ k
  | 0, n => by simp only [mapB]; omega
  | k + 1, n => by
    simp only [mapB]
    have h1 := h (n % 256) (by omega)
    have h2 := mapB_lt h k (n / 256)
    rw [Nat.pow_succ]
    omega
theorem u2 (w : Int64) : uN (bc2 (bc1 w)) = mapB g2B 8 (uN w) := by
  have e : mapB (fun b => b &&& 51) 8 (mapB g1B 8 (uN w)) + mapB (fun b => b / 4 &&& 51) 8 (mapB g1B 8 (uN w)) = mapB g2B 8 (uN w) := by
    rw [mapB_add, mapB_co (fun b hb => (g1B_le ⟨b, hb⟩).2)]
    rfl
  have hlt := mapB_lt (f := g2B) (fun b hb => (g2B_ok ⟨b, hb⟩).2.2) 8 (uN w)
  unfold bc2
  rw [uN_add, uN_and, uN_and, uN_shr, show ((2 : Int32).toInt64.toUInt64 &&& Int64.toUInt64 63).toNat % 64 = 2 by decide, show uN 3689348814741910323 = rep 51 8 by decide, u1, show (2 : Nat) ^ 2 = 4 from rfl, st2, st3, e]
  exact Nat.mod_eq_of_lt hlt
theorem u3 (w : Int64) : uN (bc3 (bc2 (bc1 w))) = mapB pcB 8 (uN w) := by
  have hlt : mapB g2B 8 (uN w) < 81 * 256 ^ 7 := by
    simp only [mapB]
    have h : ∀ b, b < 256 → g2B b ≤ 68 := fun b hb => by
      have q : g2B b % 16 ≤ 4 ∧ g2B b / 16 ≤ 4 ∧ g2B b < 256 := g2B_ok ⟨b, hb⟩
      omega
    have q0 := h (uN w % 256) (by omega)
    have q1 := h (uN w / 256 % 256) (by omega)
    have q2 := h (uN w / 256 / 256 % 256) (by omega)
    have q3 := h (uN w / 256 / 256 / 256 % 256) (by omega)
    have q4 := h (uN w / 256 / 256 / 256 / 256 % 256) (by omega)
    have q5 := h (uN w / 256 / 256 / 256 / 256 / 256 % 256) (by omega)
    have q6 := h (uN w / 256 / 256 / 256 / 256 / 256 / 256 % 256) (by omega)
    have q7 := h (uN w / 256 / 256 / 256 / 256 / 256 / 256 / 256 % 256) (by omega)
    omega
  unfold bc3
  rw [uN_and, uN_add, uN_shr, show ((4 : Int32).toInt64.toUInt64 &&& Int64.toUInt64 63).toNat % 64 = 4 by decide, show uN 1085102592571150095 = rep 15 8 by decide, u2, show (2 : Nat) ^ 4 = 16 from rfl, Nat.mod_eq_of_lt (by omega), st4 (fun b hb => ⟨(g2B_ok ⟨b, hb⟩).1, (g2B_ok ⟨b, hb⟩).2.1⟩)]
  rfl
/-- the bytes' counts together -/
def sumB : Nat → Nat → Nat
  | 0, _ => 0
  | k + 1, n => pcB (n % 256) + sumB k (n / 256)
theorem card_shift {p : Nat → Bool} (a : Nat) : ∀ m, card p (a + m) = card p a + card (fun j => p (a + j)) m
  | 0 => rfl
  | m + 1 => by
    show card p (a + m) + (if p (a + m) = true then 1 else 0) = card p a + (card (fun j => p (a + j)) m + (if p (a + m) = true then 1 else 0))
    rw [card_shift a m]
    omega
theorem sumB_card : ∀ k n, sumB k n = card (fun j => n.testBit j) (8 * k)
  | 0, n => rfl
  | k + 1, n => by
    have h1 : pcB (n % 256) = card (fun j => (n % 256).testBit j) 8 := (pcB_ok ⟨n % 256, by omega⟩).1
    rw [show 8 * (k + 1) = 8 + 8 * k by omega, card_shift]
    simp only [sumB]
    rw [sumB_card k (n / 256), h1]
    congr 1
    · refine card_eq 8 (fun j hj => ?_)
      rw [show (256 : Nat) = 2 ^ 8 from rfl, Nat.testBit_mod_two_pow]
      simp [hj]
    · refine card_eq _ (fun j _ => ?_)
      rw [show (256 : Nat) = 2 ^ 8 from rfl, Nat.testBit_div_two_pow, Nat.add_comm]
theorem div_lo {a b m : Nat} (h : a < m) : (a + m * b) / m = b := by rw [Nat.add_mul_div_left _ _ (by omega), Nat.div_eq_of_lt h, Nat.zero_add]
theorem pop_fin {p0 p1 p2 p3 p4 p5 p6 p7 y1 y2 y3 y4 y5 y6 z3 z4 z5 z6 : Nat} (q0 : p0 ≤ 8) (q1 : p1 ≤ 8) (q2 : p2 ≤ 8) (q3 : p3 ≤ 8) (q4 : p4 ≤ 8) (q5 : p5 ≤ 8) (q6 : p6 ≤ 8) (q7 : p7 ≤ 8) (e3 : z3 = p0 + 256 * y1) (r1 : y1 = p1 + 256 * y2) (r2 : y2 = p2 + 256 * y3) (r3 : y3 = p3 + 256 * y4) (r4 : y4 = p4 + 256 * y5) (r5 : y5 = p5 + 256 * y6) (r6 : y6 = p6 + 256 * p7) (e4 : z4 = z3 + z3 / 256) (e5 : z5 = z4 + z4 / 65536) (e6 : z6 = z5 + z5 / 4294967296) : z6 % 128 = p0 + (p1 + (p2 + (p3 + (p4 + (p5 + (p6 + p7)))))) := by
  have f3 : z3 / 256 = y1 := by rw [e3]; exact div_lo (by omega)
  rw [f3] at e4
  have f4 : z4 / 65536 = y2 + y3 := by
    rw [show z4 = (p0 + p1 + 256 * (p1 + p2)) + 65536 * (y2 + y3) by omega]
    exact div_lo (by omega)
  rw [f4] at e5
  have f5 : z5 / 4294967296 = y4 + y5 + y6 + p7 := by
    rw [show z5 = (p0 + p1 + p2 + p3 + 256 * (p1 + p2 + p3 + p4) + 65536 * (p2 + p3 + p4 + p5) + 16777216 * (p3 + p4 + p5 + p6)) + 4294967296 * (y4 + y5 + y6 + p7) by omega]
    exact div_lo (by omega)
  rw [f5] at e6
  rw [show z6 = (p0 + (p1 + (p2 + (p3 + (p4 + (p5 + (p6 + p7))))))) + 128 * (2 * (y1 + y2 + y3 + y4 + y5 + y6 + p7)) by omega, Nat.add_mul_mod_self_left]
  exact Nat.mod_eq_of_lt (by omega)
theorem uN_plus {x y : Int64} (h : uN x < 2 ^ 62) (h2 : uN y ≤ uN x) : uN (x + y) = uN x + uN y := by
  rw [uN_add]
  exact Nat.mod_eq_of_lt (by omega)
theorem pop_lt {p0 p1 p2 p3 p4 p5 p6 p7 : Nat} (q0 : p0 ≤ 8) (q1 : p1 ≤ 8) (q2 : p2 ≤ 8) (q3 : p3 ≤ 8) (q4 : p4 ≤ 8) (q5 : p5 ≤ 8) (q6 : p6 ≤ 8) (q7 : p7 ≤ 8) : p0 + 256 * (p1 + 256 * (p2 + 256 * (p3 + 256 * (p4 + 256 * (p5 + 256 * (p6 + 256 * p7)))))) < 2 ^ 60 := by omega
theorem u6 (w : Int64) : uN (bc6 (bc5 (bc4 (bc3 (bc2 (bc1 w)))))) % 128 = sumB 8 (uN w) := by
  have h : ∀ b, b < 256 → pcB b ≤ 8 := fun b hb => (pcB_ok ⟨b, hb⟩).2
  have lt : ∀ m : Nat, m % 256 < 256 := fun m => Nat.mod_lt _ (by decide)
  have e3 := u3 w
  generalize bc3 (bc2 (bc1 w)) = x at e3 ⊢
  have l3 : uN x < 2 ^ 60 := by
    rw [e3]
    exact pop_lt (h _ (lt _)) (h _ (lt _)) (h _ (lt _)) (h _ (lt _)) (h _ (lt _)) (h _ (lt _)) (h _ (lt _)) (h _ (lt _))
  have e4 : uN (bc4 x) = uN x + uN x / 256 := by
    unfold bc4
    rw [uN_plus (by omega) (by rw [uN_shr]; exact Nat.div_le_self _ _), uN_shr, show ((8 : Int32).toInt64.toUInt64 &&& Int64.toUInt64 63).toNat % 64 = 8 by decide, show (2 : Nat) ^ 8 = 256 from rfl]
  have l4 : uN (bc4 x) < 2 ^ 61 := by
    have := Nat.div_le_self (uN x) 256
    omega
  have e5 : uN (bc5 (bc4 x)) = uN (bc4 x) + uN (bc4 x) / 65536 := by
    unfold bc5
    rw [uN_plus (by omega) (by rw [uN_shr]; exact Nat.div_le_self _ _), uN_shr, show ((16 : Int32).toInt64.toUInt64 &&& Int64.toUInt64 63).toNat % 64 = 16 by decide, show (2 : Nat) ^ 16 = 65536 from rfl]
  have l5 : uN (bc5 (bc4 x)) < 2 ^ 62 := by
    have := Nat.div_le_self (uN (bc4 x)) 65536
    omega
  have e6 : uN (bc6 (bc5 (bc4 x))) = uN (bc5 (bc4 x)) + uN (bc5 (bc4 x)) / 4294967296 := by
    unfold bc6
    rw [uN_plus l5 (by rw [uN_shr]; exact Nat.div_le_self _ _), uN_shr, show ((32 : Int32).toInt64.toUInt64 &&& Int64.toUInt64 63).toNat % 64 = 32 by decide, show (2 : Nat) ^ 32 = 4294967296 from rfl]
  exact pop_fin (h _ (lt _)) (h _ (lt _)) (h _ (lt _)) (h _ (lt _)) (h _ (lt _)) (h _ (lt _)) (h _ (lt _)) (h _ (lt _)) e3 rfl rfl rfl rfl rfl rfl e4 e5 e6
theorem toI32_and (x : Int64) : x.toInt32 &&& 127 = nI (uN x % 128) := by
  have h := pk_and x.toInt32 (m := 127) 7 (by decide)
  rw [h]
  congr 1
  show (x.toBitVec.signExtend 32).toNat % 2 ^ 7 = _
  have h2 : (x.toBitVec.signExtend 32).toNat % 2 ^ 7 = x.toBitVec.toNat % 2 ^ 7 := by
    apply Nat.eq_of_testBit_eq
    intro j
    rw [Nat.testBit_mod_two_pow, Nat.testBit_mod_two_pow]
    by_cases hj : j < 7
    · have h3 : (x.toBitVec.signExtend 32).toNat.testBit j = (x.toBitVec.signExtend 32).getLsbD j := rfl
      rw [h3, BitVec.getLsbD_signExtend]
      simp [hj, show j < 32 by omega, show j < 64 by omega]
      rfl
    · simp [hj]
  rw [h2]
  rfl
theorem x_bitCount (S : St) (w : Int64) : x_JLong_bitCount S w = some (nI (card (bit w) 64), S) := by
  rw [x_bc, toI32_and, u6, sumB_card]
  rfl
theorem card_bs {p : Nat → Bool} {n : Nat} (hn : n ≤ 64) : card (bit (bs p n)) 64 = card p n := by
  rw [card_more (p := bit (bs p n)) (n := n) 64 hn (fun k h1 h2 => by rw [bit_bs hn]; simp [show ¬ k < n by omega])]
  exact card_eq n (fun k hk => by rw [bit_bs hn]; simp [hk])

theorem upd_upd (f : Nat → Int32) (k : Nat) (a b : Int32) : upd (upd f k a) k b = upd f k b := by
  funext j
  unfold upd
  by_cases h : j = k
  · rw [if_pos h, if_pos h]
  · rw [if_neg h, if_neg h, if_neg h]
theorem updL_updL (f : Nat → Int64) (k : Nat) (a b : Int64) : vp_updL (vp_updL f k a) k b = vp_updL f k b := by
  funext j
  unfold vp_updL
  by_cases h : j = k
  · rw [if_pos h, if_pos h]
  · rw [if_neg h, if_neg h, if_neg h]
theorem sL_sL (S : St) (k : Nat) (a b : Int64) : sL (sL S k a) k b = sL S k b := by simp only [sL, updL_updL]
theorem sI_sI (S : St) (k : Nat) (a b : Int32) : sI (sI S k a) k b = sI S k b := by simp only [sI, upd_upd]
theorem sIL_col (S : St) (k j : Nat) (a c : Int64) (b d : Int32) : sI (sL (sI (sL S k a) j b) k c) j d = sI (sL S k c) j d := by simp only [sI, sL, upd_upd, updL_updL]
/-- a thing has a word as a name -/
def nm (g : Nat → Int32) (c : Nat → Nat) (t : Nat) (w : Int32) : Bool := nmu g (4 * t) w (c t) 0
/-- .. has r words from at + j on -/
def alf (g : Nat → Int32) (c : Nat → Nat) (cw : Nat → Int32) (a t : Nat) : Nat → Nat → Bool
  | 0, _ => true
  | r + 1, j => nm g c t (cw (a + j)) && alf g c cw a t r (j + 1)
theorem alf_snoc {g : Nat → Int32} {c : Nat → Nat} {cw : Nat → Int32} {a t : Nat} : ∀ r j, alf g c cw a t (r + 1) j = (alf g c cw a t r j && nm g c t (cw (a + (j + r))))
  | 0, j => by simp [alf]
  | r + 1, j => by
    rw [alf, alf_snoc r (j + 1)]
    conv => rhs; rw [alf]
    rw [show j + 1 + r = j + (r + 1) by omega, Bool.and_assoc]
/-- those in scope that have the first m words from a on -/
def phP (g f : Nat → Int32) (c : Nat → Nat) (cw : Nat → Int32) (a m t : Nat) : Bool := flg f 7 t && alf g c cw a t m 0
def phZ (g f : Nat → Int32) (c : Nat → Nat) (cw : Nat → Int32) (a n m : Nat) : Bool := decide (bs (phP g f c cw a m) n = 0)
theorem phP_mono {g f : Nat → Int32} {c : Nat → Nat} {cw : Nat → Int32} {a m t : Nat} (h : phP g f c cw a (m + 1) t = true) : phP g f c cw a m t = true := by
  unfold phP at h ⊢
  rw [alf_snoc] at h
  simp only [Bool.and_eq_true] at h ⊢
  exact ⟨h.1, h.2.1⟩
theorem phZ_mono {g f : Nat → Int32} {c : Nat → Nat} {cw : Nat → Int32} {a n m : Nat} (hn : n ≤ 64) (h : phZ g f c cw a n m = true) : phZ g f c cw a n (m + 1) = true := by
  have h1 := (bs_zero hn).mp (of_decide_eq_true h)
  refine decide_eq_true ((bs_zero hn).mpr fun k hk => ?_)
  cases hb : phP g f c cw a (m + 1) k
  · rfl
  · have := phP_mono hb
    rw [h1 k hk] at this
    cases this
/-- how many words a phrase has: greedily, .. -/
def plen (z : Nat → Bool) : Nat → Nat → Nat
  | 0, m => m
  | r + 1, m => if z (m + 1) = true then m else plen z r (m + 1)
/-- .. or from the greatest down -/
def pdown (z : Nat → Bool) : Nat → Nat
  | 0 => 0
  | m + 1 => if z (m + 1) = true then pdown z m else m + 1
theorem plen_le {z : Nat → Bool} : ∀ r m, plen z r m ≤ m + r ∧ m ≤ plen z r m
  | 0, m => by simp only [plen]; omega
  | r + 1, m => by
    simp only [plen]
    by_cases h : z (m + 1) = true
    · rw [if_pos h]; omega
    · rw [if_neg h]; have := plen_le (z := z) r (m + 1); omega
theorem pdown_z {z : Nat → Bool} {m : Nat} (hm : m = 0 ∨ z m = false) : ∀ d, (∀ j, m < j → j ≤ m + d → z j = true) → pdown z (m + d) = m
  | 0, _ => by
    cases m with
    | zero => rfl
    | succ m =>
      rcases hm with h | h
      · cases h
      · show (if z (m + 1) = true then pdown z m else m + 1) = m + 1
        rw [h]; rfl
  | d + 1, h => by
    show (if z (m + d + 1) = true then pdown z (m + d) else m + d + 1) = m
    rw [if_pos (h _ (by omega) (by omega))]
    exact pdown_z hm d (fun j h1 h2 => h j h1 (by omega))
theorem plen_down {z : Nat → Bool} (mono : ∀ m, z m = true → z (m + 1) = true) : ∀ r m, (m = 0 ∨ z m = false) → plen z r m = pdown z (m + r)
  | 0, m, h => by
    simp only [plen]
    exact (pdown_z h 0 (fun j h1 h2 => absurd h2 (by omega))).symm
  | r + 1, m, h => by
    simp only [plen]
    by_cases hz : z (m + 1) = true
    · rw [if_pos hz]
      refine (pdown_z h (r + 1) ?_).symm
      intro j h1 h2
      have : ∀ d, z (m + 1 + d) = true := by
        intro d
        induction d with
        | zero => exact hz
        | succ d ih => exact mono _ ih
      have h3 := this (j - (m + 1))
      rw [show m + 1 + (j - (m + 1)) = j by omega] at h3
      exact h3
    · rw [if_neg hz, plen_down mono r (m + 1) (Or.inr (by simpa using hz)), show m + 1 + r = m + (r + 1) by omega]
def nz : Nat → Int32
  | 0 => 0
  | _ + 1 => 1
theorem nz_pos {m : Nat} (h : ¬ m = 0) : nz m = 1 := by
  cases m with
  | zero => exact absurd rfl h
  | succ m => rfl
theorem or_idem (a b : Int64) : (a ||| b) ||| b = a ||| b := by
  refine bit_ext fun k _ => ?_
  rw [bit_or, bit_or]
  cases bit a k <;> cases bit b k <;> rfl
theorem x_nmo_in {S : St} {t c : Nat} (ht : t < 40) (hc : c ≤ 4) (e2 : gA S 18 t = nI c) (k6 : St → Int64 → Int32 → Int64 → Int32 → Option (Int64 × St)) (w1 : Int64) (w : Int32) : ∀ (r fuel i : Nat) (w4 : Int64), i + r = c → r < fuel → x_Things_namedOf_b36 k6 fuel S w1 w w4 (nI t) 1 (nI i) = k6 S w1 w (if nmu (gA S 19) (4 * t) w r i = true then w4 ||| ((1 : Int64) <<< ((nI t).toInt64 &&& 63)) else w4) (nI (t + 1))
  | r, 0, i, _, _, hf => absurd hf (by omega)
  | 0, fuel + 1, i, w4, he, _ => by
    show x_Things_namedOf_b36_f k6 _ S _ _ _ _ _ _ = _
    simp only [x_Things_namedOf_b36_f, x_Things_namedOf_b84, one_ne0, if_false, gd_t _ (vin_nI (show t < 40 by omega) (by omega)), nI_clamp (show t < 2 ^ 31 by omega), e2, le_t (show c ≤ i by omega) (by omega), if_true, nmu, nI_1, Bool.false_eq_true]
  | r + 1, fuel + 1, i, w4, he, hf => by
    have ih := x_nmo_in (S := S) ht hc e2 k6 w1 w r fuel (i + 1)
    show x_Things_namedOf_b36_f k6 (x_Things_namedOf_b36 k6 fuel) S _ _ _ _ _ _ = _
    simp only [x_Things_namedOf_b36_f, x_Things_namedOf_b78, one_ne0, if_false, gd_t _ (vin_nI (show t < 40 by omega) (by omega)), nI_clamp (show t < 2 ^ 31 by omega), e2, le_f (show i < c by omega) (by omega), ix4, gd_t _ (vin_nI (show 4 * t + i < 160 by omega) (by omega)), nI_clamp (show 4 * t + i < 2 ^ 31 by omega), nI_1, nmu]
    by_cases h : gA S 19 (4 * t + i) = w
    · simp only [h, if_true]
      rw [ih _ (by omega) (by omega), or_idem]
      by_cases h2 : nmu (gA S 19) (4 * t) w r (i + 1) = true
      · rw [if_pos h2]
      · rw [if_neg h2]
    · simp only [h, if_false]
      exact ih _ (by omega) (by omega)
theorem x_nmo_no {S : St} (k6 : St → Int64 → Int32 → Int64 → Int32 → Option (Int64 × St)) (w1 : Int64) (w : Int32) (w4 : Int64) (t : Nat) (i : Int32) (fuel : Nat) : x_Things_namedOf_b36 k6 (fuel + 1) S w1 w w4 (nI t) 0 i = k6 S w1 w w4 (nI (t + 1)) := by
  show x_Things_namedOf_b36_f k6 _ S _ _ _ _ _ _ = _
  simp only [x_Things_namedOf_b36_f, x_Things_namedOf_b84, if_true, nI_1]
theorem x_nmo_l {S : St} {n : Nat} {c : Nat → Nat} (e : gI S 23 = nI n) (hn : n ≤ 40) (e4 : ∀ t, t < 40 → c t ≤ 4 ∧ gA S 18 t = nI (c t)) (w1 : Int64) (w : Int32) : ∀ (r fuel i : Nat), i + r = n → r < fuel → x_Things_namedOf_b6 fuel S w1 w (bs (fun t => bit w1 t && nm (gA S 19) c t w) i) (nI i) = some (bs (fun t => bit w1 t && nm (gA S 19) c t w) n, S)
  | r, 0, i, _, hf => absurd hf (by omega)
  | 0, fuel + 1, i, he, _ => by
    show x_Things_namedOf_b6_f _ S _ _ _ _ = _
    simp only [x_Things_namedOf_b6_f, e, le_t (show n ≤ i by omega) (by omega), if_true]
    rw [show i = n by omega]
  | r + 1, fuel + 1, i, he, hf => by
    have ih := x_nmo_l e hn e4 w1 w r fuel (i + 1) (by omega) (by omega)
    have h4 := e4 i (by omega)
    show x_Things_namedOf_b6_f (x_Things_namedOf_b6 fuel) S _ _ _ _ = _
    simp only [x_Things_namedOf_b6_f, x_Things_namedOf_b31, e, le_f (show i < n by omega) (by omega), if_false, tst0 w1 (show i < 64 by omega)]
    simp only [bs] at ih
    cases hb : bit w1 i
    · simp only [hb, Bool.false_and, Bool.false_eq_true, if_false] at ih
      simp only [if_true]
      rw [show fu = 99999 + 1 from rfl, x_nmo_no]
      exact ih
    · simp only [hb, Bool.true_and] at ih
      simp only [Bool.true_eq_false, if_false]
      rw [show (0 : Int32) = nI 0 from rfl, x_nmo_in (S := S) (show i < 40 by omega) h4.1 h4.2 _ w1 w (c i) fu 0 _ (by omega) (show c i < 100000 by omega)]
      exact ih
theorem x_nmo {S : St} {n : Nat} {c : Nat → Nat} (e : gI S 23 = nI n) (hn : n ≤ 40) (e4 : ∀ t, t < 40 → c t ≤ 4 ∧ gA S 18 t = nI (c t)) (w1 : Int64) (w : Int32) : x_Things_namedOf S w1 w = some (bs (fun t => bit w1 t && nm (gA S 19) c t w) n, S) := x_nmo_l e hn e4 w1 w n fu 0 (by omega) (show n < 100000 by omega)
theorem ph_next {g f : Nat → Int32} {c : Nat → Nat} {cw : Nat → Int32} {a n m : Nat} (hn : n ≤ 64) : bs (fun t => bit (bs (phP g f c cw a m) n) t && nm g c t (cw (a + m))) n = bs (phP g f c cw a (m + 1)) n := by
  refine bs_eq n (fun k hk => ?_)
  rw [bit_bs hn, decide_eq_true hk]
  unfold phP
  rw [alf_snoc, Nat.zero_add, Bool.true_and, Bool.and_assoc]
theorem x_ph20_l {r : Nat} {S0 : St} {n nc : Nat} {c : Nat → Nat} (e : gI S0 23 = nI n) (hn : n ≤ 40) (e4 : ∀ t, t < 40 → c t ≤ 4 ∧ gA S0 18 t = nI (c t)) (er : gI S0 r = nI nc) (hr : nc ≤ xcap r) (hrc : xcap r ≤ 60) (hr17 : r < 17) (a : Nat) : ∀ (q fuel m : Nat), a + m + q = nc → q < fuel → x_Phrase_find_20_b18 r fuel (sI (sL S0 3 (bs (phP (gA S0 19) (gA S0 17) c (gA S0 r) a m) n)) 22 (nI (a + m))) (nI a) (nI (a + m)) = some (nz (plen (phZ (gA S0 19) (gA S0 17) c (gA S0 r) a n) q m), sI (sL S0 3 (bs (phP (gA S0 19) (gA S0 17) c (gA S0 r) a (plen (phZ (gA S0 19) (gA S0 17) c (gA S0 r) a n) q m)) n)) 22 (nI (a + plen (phZ (gA S0 19) (gA S0 17) c (gA S0 r) a n) q m)))
  | q, 0, m, _, hf => absurd hf (by omega)
  | 0, fuel + 1, m, he, _ => by
    have eS : gI (sI (sL S0 3 (bs (phP (gA S0 19) (gA S0 17) c (gA S0 r) a m) n)) 22 (nI (a + m))) r = nI nc := by rw [gI_sI, if_neg (by omega), gI_sL]; exact er
    show x_Phrase_find_20_b18_f r _ _ _ _ = _
    simp only [x_Phrase_find_20_b18_f, x_Phrase_find_20_b73, x_size, bind_s, eS, le_t (show nc ≤ a + m by omega) (by omega), if_true, plen]
    rw [show gI (sI (sL S0 3 (bs (phP (gA S0 19) (gA S0 17) c (gA S0 r) a m) n)) 22 (nI (a + m))) 22 = nI (a + m) from rfl]
    by_cases h0 : m = 0
    · subst h0; rw [if_pos (nI_le (by omega) (by omega))]; rfl
    · rw [if_neg (nI_ge (by omega) (by omega)), nz_pos h0]
  | q + 1, fuel + 1, m, he, hf => by
    have eS : gI (sI (sL S0 3 (bs (phP (gA S0 19) (gA S0 17) c (gA S0 r) a m) n)) 22 (nI (a + m))) r = nI nc := by rw [gI_sI, if_neg (by omega), gI_sL]; exact er
    have ih := x_ph20_l e hn e4 er hr hrc hr17 a q fuel (m + 1) (by omega) (by omega)
    show x_Phrase_find_20_b18_f r (x_Phrase_find_20_b18 r fuel) _ _ _ = _
    simp only [x_Phrase_find_20_b18_f, x_Phrase_find_20_b73, x_size, bind_s, eS, le_f (show a + m < nc by omega) (by omega), if_false, x_at eS hr hrc, rat_nI (show a + m < nc by omega) (by omega)]
    rw [x_nmo (S := sI (sL S0 3 (bs (phP (gA S0 19) (gA S0 17) c (gA S0 r) a m) n)) 22 (nI (a + m))) (n := n) (c := c) e hn e4, bind_s]
    dsimp only
    rw [show gA (sI (sL S0 3 (bs (phP (gA S0 19) (gA S0 17) c (gA S0 r) a m) n)) 22 (nI (a + m))) r = gA S0 r from rfl, show gA (sI (sL S0 3 (bs (phP (gA S0 19) (gA S0 17) c (gA S0 r) a m) n)) 22 (nI (a + m))) 19 = gA S0 19 from rfl, show gL (sI (sL S0 3 (bs (phP (gA S0 19) (gA S0 17) c (gA S0 r) a m) n)) 22 (nI (a + m))) 3 = bs (phP (gA S0 19) (gA S0 17) c (gA S0 r) a m) n from rfl, ph_next (by omega), show gI (sI (sL S0 3 (bs (phP (gA S0 19) (gA S0 17) c (gA S0 r) a m) n)) 22 (nI (a + m))) 22 = nI (a + m) from rfl]
    simp only [cmp_eq, plen]
    by_cases hz : bs (phP (gA S0 19) (gA S0 17) c (gA S0 r) a (m + 1)) n = 0
    · rw [if_pos hz, if_pos (show phZ (gA S0 19) (gA S0 17) c (gA S0 r) a n (m + 1) = true from decide_eq_true hz)]
      by_cases h0 : m = 0
      · subst h0; rw [if_pos (nI_le (by omega) (by omega))]; rfl
      · rw [if_neg (nI_ge (by omega) (by omega)), nz_pos h0]
    · have hz2 : ¬ phZ (gA S0 19) (gA S0 17) c (gA S0 r) a n (m + 1) = true := fun z => hz (of_decide_eq_true z)
      rw [if_neg hz, if_neg hz2, sIL_col, nI_1]
      exact ih
theorem x_ph20 {r : Nat} {S0 : St} {n nc : Nat} {c : Nat → Nat} (e : gI S0 23 = nI n) (hn : n ≤ 40) (e4 : ∀ t, t < 40 → c t ≤ 4 ∧ gA S0 18 t = nI (c t)) (es : gL S0 4 = bs (flg (gA S0 17) 7) n) (er : gI S0 r = nI nc) (hr : nc ≤ xcap r) (hrc : xcap r ≤ 60) (hr17 : r < 17) {a : Nat} (ha : a ≤ nc) : x_Phrase_find_20 r S0 (nI a) = some (nz (plen (phZ (gA S0 19) (gA S0 17) c (gA S0 r) a n) (nc - a) 0), sI (sL S0 3 (bs (phP (gA S0 19) (gA S0 17) c (gA S0 r) a (plen (phZ (gA S0 19) (gA S0 17) c (gA S0 r) a n) (nc - a) 0)) n)) 22 (nI (a + plen (phZ (gA S0 19) (gA S0 17) c (gA S0 r) a n) (nc - a) 0))) := by
  have h := x_ph20_l e hn e4 er hr hrc hr17 a (nc - a) fu 0 (by omega) (show nc - a < 100000 by omega)
  rw [show bs (phP (gA S0 19) (gA S0 17) c (gA S0 r) a 0) n = gL S0 4 by rw [es]; exact bs_eq n (fun k _ => by simp [phP, alf])] at h
  exact h
theorem x_ph19_l {r : Nat} {S0 : St} {n nc : Nat} {c : Nat → Nat} (e : gI S0 23 = nI n) (hn : n ≤ 40) (e4 : ∀ t, t < 40 → c t ≤ 4 ∧ gA S0 18 t = nI (c t)) (er : gI S0 r = nI nc) (hr : nc ≤ xcap r) (hrc : xcap r ≤ 60) (hr17 : r < 17) (a : Nat) : ∀ (q fuel m : Nat), a + m + q = nc → q < fuel → x_Phrase_find_19_b18 r fuel (sI (sL S0 2 (bs (phP (gA S0 19) (gA S0 17) c (gA S0 r) a m) n)) 21 (nI (a + m))) (nI a) (nI (a + m)) = some (nz (plen (phZ (gA S0 19) (gA S0 17) c (gA S0 r) a n) q m), sI (sL S0 2 (bs (phP (gA S0 19) (gA S0 17) c (gA S0 r) a (plen (phZ (gA S0 19) (gA S0 17) c (gA S0 r) a n) q m)) n)) 21 (nI (a + plen (phZ (gA S0 19) (gA S0 17) c (gA S0 r) a n) q m)))
  | q, 0, m, _, hf => absurd hf (by omega)
  | 0, fuel + 1, m, he, _ => by
    have eS : gI (sI (sL S0 2 (bs (phP (gA S0 19) (gA S0 17) c (gA S0 r) a m) n)) 21 (nI (a + m))) r = nI nc := by rw [gI_sI, if_neg (by omega), gI_sL]; exact er
    show x_Phrase_find_19_b18_f r _ _ _ _ = _
    simp only [x_Phrase_find_19_b18_f, x_Phrase_find_19_b73, x_size, bind_s, eS, le_t (show nc ≤ a + m by omega) (by omega), if_true, plen]
    rw [show gI (sI (sL S0 2 (bs (phP (gA S0 19) (gA S0 17) c (gA S0 r) a m) n)) 21 (nI (a + m))) 21 = nI (a + m) from rfl]
    by_cases h0 : m = 0
    · subst h0; rw [if_pos (nI_le (by omega) (by omega))]; rfl
    · rw [if_neg (nI_ge (by omega) (by omega)), nz_pos h0]
  | q + 1, fuel + 1, m, he, hf => by
    have eS : gI (sI (sL S0 2 (bs (phP (gA S0 19) (gA S0 17) c (gA S0 r) a m) n)) 21 (nI (a + m))) r = nI nc := by rw [gI_sI, if_neg (by omega), gI_sL]; exact er
    have ih := x_ph19_l e hn e4 er hr hrc hr17 a q fuel (m + 1) (by omega) (by omega)
    show x_Phrase_find_19_b18_f r (x_Phrase_find_19_b18 r fuel) _ _ _ = _
    simp only [x_Phrase_find_19_b18_f, x_Phrase_find_19_b73, x_size, bind_s, eS, le_f (show a + m < nc by omega) (by omega), if_false, x_at eS hr hrc, rat_nI (show a + m < nc by omega) (by omega)]
    rw [x_nmo (S := sI (sL S0 2 (bs (phP (gA S0 19) (gA S0 17) c (gA S0 r) a m) n)) 21 (nI (a + m))) (n := n) (c := c) e hn e4, bind_s]
    dsimp only
    rw [show gA (sI (sL S0 2 (bs (phP (gA S0 19) (gA S0 17) c (gA S0 r) a m) n)) 21 (nI (a + m))) r = gA S0 r from rfl, show gA (sI (sL S0 2 (bs (phP (gA S0 19) (gA S0 17) c (gA S0 r) a m) n)) 21 (nI (a + m))) 19 = gA S0 19 from rfl, show gL (sI (sL S0 2 (bs (phP (gA S0 19) (gA S0 17) c (gA S0 r) a m) n)) 21 (nI (a + m))) 2 = bs (phP (gA S0 19) (gA S0 17) c (gA S0 r) a m) n from rfl, ph_next (by omega), show gI (sI (sL S0 2 (bs (phP (gA S0 19) (gA S0 17) c (gA S0 r) a m) n)) 21 (nI (a + m))) 21 = nI (a + m) from rfl]
    simp only [cmp_eq, plen]
    by_cases hz : bs (phP (gA S0 19) (gA S0 17) c (gA S0 r) a (m + 1)) n = 0
    · rw [if_pos hz, if_pos (show phZ (gA S0 19) (gA S0 17) c (gA S0 r) a n (m + 1) = true from decide_eq_true hz)]
      by_cases h0 : m = 0
      · subst h0; rw [if_pos (nI_le (by omega) (by omega))]; rfl
      · rw [if_neg (nI_ge (by omega) (by omega)), nz_pos h0]
    · have hz2 : ¬ phZ (gA S0 19) (gA S0 17) c (gA S0 r) a n (m + 1) = true := fun z => hz (of_decide_eq_true z)
      rw [if_neg hz, if_neg hz2, sIL_col, nI_1]
      exact ih
theorem x_ph19 {r : Nat} {S0 : St} {n nc : Nat} {c : Nat → Nat} (e : gI S0 23 = nI n) (hn : n ≤ 40) (e4 : ∀ t, t < 40 → c t ≤ 4 ∧ gA S0 18 t = nI (c t)) (es : gL S0 4 = bs (flg (gA S0 17) 7) n) (er : gI S0 r = nI nc) (hr : nc ≤ xcap r) (hrc : xcap r ≤ 60) (hr17 : r < 17) {a : Nat} (ha : a ≤ nc) : x_Phrase_find_19 r S0 (nI a) = some (nz (plen (phZ (gA S0 19) (gA S0 17) c (gA S0 r) a n) (nc - a) 0), sI (sL S0 2 (bs (phP (gA S0 19) (gA S0 17) c (gA S0 r) a (plen (phZ (gA S0 19) (gA S0 17) c (gA S0 r) a n) (nc - a) 0)) n)) 21 (nI (a + plen (phZ (gA S0 19) (gA S0 17) c (gA S0 r) a n) (nc - a) 0))) := by
  have h := x_ph19_l e hn e4 er hr hrc hr17 a (nc - a) fu 0 (by omega) (show nc - a < 100000 by omega)
  rw [show bs (phP (gA S0 19) (gA S0 17) c (gA S0 r) a 0) n = gL S0 4 by rw [es]; exact bs_eq n (fun k _ => by simp [phP, alf])] at h
  exact h

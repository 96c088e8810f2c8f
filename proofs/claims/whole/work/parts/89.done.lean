/-- a slot that stands when the line fits -/
def DnV (n : Nat) (cw : Nat → Int32) (k rs : Int32) (ra : Nat → Int32) (kT : Int32) (wT : Int64) (fT tT uT : Int32) : Prop := k = kT ∧ 2 ≤ kT ∧ kT ≤ 11 ∧ (kT ≤ 8 → ∃ p : Nat → Bool, (∀ j, n ≤ j → p j = false) ∧ wT = bs p n ∧ rs = nI (card p n) ∧ Enum p n ra) ∧ (kT = 9 → ∃ fr t : Nat, fT = nI fr ∧ tT = nI t ∧ fr < t ∧ t ≤ 60 ∧ rs = nI (t - fr) ∧ ∀ j, j < t - fr → ra j = cw (fr + j)) ∧ ((kT = 10 ∨ kT = 11) → rs = nI 1 ∧ ra 0 = uT)
def Dn0 (S T : St) (n : Nat) : Prop := DnV n (gA T 15) (gI S 17) (gI S 9) (gA S 9) (gA T 18 0) (gB T 20 0) (gA T 21 0) (gA T 22 0) (gA T 23 0)
def Dn1 (S T : St) (n : Nat) : Prop := DnV n (gA T 15) (gI S 19) (gI S 10) (gA S 10) (gA T 18 1) (gB T 20 1) (gA T 21 1) (gA T 22 1) (gA T 23 1)
def Dn (S T : St) (n : Nat) : Nat → Prop
  | 0 => gI T 13 = nI 0 ∧ gI S 17 = (-1) ∧ gI S 19 = (-1)
  | 1 => gI T 13 = nI 1 ∧ Dn0 S T n ∧ gI S 19 = (-1)
  | 2 => gI T 13 = nI 2 ∧ Dn0 S T n ∧ Dn1 S T n
  | _ => False
/-- what stands when a line fits: the slots and what was filled in -/
def DnF (S T : St) (n : Nat) : Prop := (∃ F : Nat, F ≤ 8 ∧ gI S 11 = nI F ∧ gI T 12 = nI F ∧ EqN F (gA S 11) (gA T 17)) ∧ ∃ m, Dn S T n m
def TrK (S T : St) (n l : Nat) : Prop := gI S 26 = nI l ∧ gI S 28 = 0 ∧ gI T 7 = 0 ∧ gI S 29 = (-1) ∧ gI T 8 = (-1) ∧ DnF S T n
def rI (k : Nat) : Bool := [9, 10].contains k
abbrev FrR (S S2 : St) : Prop := Fr rI noL rI noB S S2
theorem FrR.t {S S2 : St} (h : FrR S S2) : FrT S S2 := ⟨fun k hk => h.1 k (cont_sub (by decide) hk), fun k _ => h.2.1 k rfl, fun k hk => h.2.2.1 k (cont_sub (by decide) hk), h.2.2.2⟩
theorem Ask15.fr {S S2 T : St} {n nc : Nat} (h : Ask15 S T n nc) (e1 : gI S2 12 = gI S 12) (e2 : gA S2 12 = gA S 12) (e3 : gI S2 22 = gI S 22) : Ask15 S2 T n nc := by
  unfold Ask15 at h ⊢
  rw [e1, e2, e3]; exact h
theorem Ask16.fr {S S2 T : St} (h : Ask16 S T) (e1 : gI S2 12 = gI S 12) (e2 : gA S2 12 = gA S 12) : Ask16 S2 T := by
  unfold Ask16 at h ⊢
  rw [e1, e2]; exact h
theorem TrE.fr {S S2 T : St} {n nc l : Nat} (h : TrE S T n nc l) (f : FrR S S2) : TrE S2 T n nc l := by
  obtain ⟨t1, e, b, h1, h2, h3, h4, h5, h6, h7, h8, h9, h10, h11, h12⟩ := h
  exact ⟨(f.1 26 rfl).trans t1, e, b, h1, h2, (f.1 28 rfl).trans h3, h4, (f.1 29 rfl).trans h5, h6, h7, fun z => (h8 z).fr (f.1 12 rfl) (f.2.2.1 12 rfl) (f.1 22 rfl), fun z => (h9 z).fr (f.1 12 rfl) (f.2.2.1 12 rfl), h10, h11, (f.1 12 rfl).trans h12⟩
theorem x_addT {r : Nat} {S : St} {w : Int64} {b : Nat} (hr : r = 9 ∨ r = 10) (e : gI S r = nI b) (hb : b + card (bit w) 40 ≤ 60) : ∃ S2, x_Row_addThings r S w = some S2 ∧ FrR S S2 ∧ (∀ k, k ≠ r → gI S2 k = gI S k) ∧ (∀ k, k ≠ r → gA S2 k = gA S k) ∧ gI S2 r = nI (b + card (bit w) 40) ∧ (∀ k, k < b → gA S2 r k = gA S r k) ∧ ∀ j, j < 40 → bit w j = true → gA S2 r (b + card (bit w) j) = nI j := by
  have hx : xcap r = 60 := by rcases hr with rfl | rfl <;> rfl
  obtain ⟨S2, g1, g2, g3, g4, g5, g6, g7, g8⟩ := x_addT_l (r := r) (by omega) w b 40 fu 0 S (by omega) (show 40 < 100000 by omega) e (by omega)
  refine ⟨S2, g1, ⟨fun k hk => g3 k ?_, fun k _ => g4 k, fun k hk => g5 k ?_, fun k _ => g6 k⟩, g3, g5, g2, fun k hk => g7 k (by omega), fun j hj => g8 j (by omega) hj⟩
  · intro z; subst z; rcases hr with rfl | rfl <;> cases hk
  · intro z; subst z; rcases hr with rfl | rfl <;> cases hk
theorem SlV.dn {n nc b : Nat} {cw cwT : Nat → Int32} {k p : Int32} {w : Int64} {rs rs2 : Int32} {ra ra2 : Nat → Int32} {kT pT : Int32} {wT : Int64} {f t u : Int32} (h : SlV n nc cw k p w rs ra kT pT wT f t u) (hn : n ≤ 40) (hnc : nc ≤ 60) (hcw : EqN nc cw cwT) (e : rs = nI b) (hb : b ≤ 60) (e2 : rs2 = nI (b + card (bit w) 40)) (h1 : ∀ k, k < b → ra2 k = ra k) (h2 : ∀ j, j < 40 → bit w j = true → ra2 (b + card (bit w) j) = nI j) : DnV n cwT k rs2 ra2 kT wT f t u := by
  obtain ⟨a1, a2, a3, ⟨q, a4⟩, a5, a6, a7, a8, a9, a10, a11⟩ := h
  refine ⟨a1, a5, a6, ?_, ?_, ?_⟩
  · intro z
    have b0 : b = 0 := by
      have := a10 z
      rw [e] at this
      exact (nI_eq (by omega) (by omega)).mp this
    subst b0
    have hz : ∀ j, n ≤ j → bit w j = false := by
      intro j hj
      rw [a4, bit_bs (by omega)]
      simp [show ¬ j < n by omega]
    refine ⟨bit w, hz, ?_, ?_, ?_⟩
    · rw [← a3]
      conv => lhs; rw [a4]
      exact bs_eq n fun k hk => by rw [a4, bit_bs (by omega)]; simp [hk]
    · rw [e2, Nat.zero_add, card_more 40 hn (fun k h1 _ => hz k h1)]
    · intro i hi hq
      have := h2 i (by omega) hq
      rw [Nat.zero_add] at this
      exact this
  · intro z
    have hw : w = 0 := a11 (by rw [z]; decide)
    obtain ⟨fr, t', b1, b2, b3, b4, b5, b6⟩ := a8 z
    have hbt : b = t' - fr := (nI_eq (by omega) (by omega)).mp (e.symm.trans b5)
    refine ⟨fr, t', b1, b2, b3, by omega, ?_, ?_⟩
    · rw [e2, hw, card_zz, hbt]; rfl
    · intro j hj
      rw [h1 j (by omega), b6 j hj, hcw _ (by omega)]
  · intro z
    have hw : w = 0 := a11 (by rcases z with z | z <;> (rw [z]; decide))
    obtain ⟨b1, b2⟩ := a9 z
    have hbt : b = 1 := (nI_eq (by omega) (by omega)).mp (e.symm.trans b1)
    refine ⟨?_, ?_⟩
    · rw [e2, hw, card_zz, hbt]
    · rw [h1 0 (by omega)]; exact b2
/-- the rows of both slots get their things -/
theorem add_both {S : St} (h : RyB S) : ∃ S2, ((x_Row_addThings 9 S (gL S 0)).bind fun q4 => (x_Row_addThings 10 q4 (gL q4 1)).bind fun q5 => some q5) = some S2 ∧ FrR S S2 ∧ (∀ {T : St} {n nc m : Nat}, Sl S T n nc m → n ≤ 40 → nc ≤ 60 → EqN nc (gA S 6) (gA T 15) → Dn S2 T n m) := by
  obtain ⟨⟨b0, e0, c0⟩, ⟨b1, e1, c1⟩⟩ := h
  obtain ⟨S1, p1, p2, p3, p4, p5, p6, p7⟩ := x_addT (Or.inl rfl) e0 c0
  have hL1 : gL S1 1 = gL S 1 := p2.2.1 1 rfl
  obtain ⟨S2, r1, r2, r3, r4, r5, r6, r7⟩ := x_addT (S := S1) (w := gL S 1) (b := b1) (Or.inr rfl) (by rw [p3 10 (by decide)]; exact e1) c1
  refine ⟨S2, ?_, p2.tr r2, ?_⟩
  · rw [p1, bind_s, hL1, r1, bind_s]
  · intro T n nc m hs hn hnc hcw
    have f := p2.tr r2
    have d0 : Sl0 S T n nc → Dn0 S2 T n := by
      intro s
      unfold Dn0
      rw [f.1 17 rfl, r3 9 (by decide), r4 9 (by decide)]
      exact s.dn hn hnc hcw e0 (by omega) p5 p6 p7
    have d1 : Sl1 S T n nc → Dn1 S2 T n := by
      intro s
      unfold Dn1
      rw [f.1 19 rfl]
      exact s.dn hn hnc hcw e1 (by omega) r5 (fun k hk => by rw [r6 k hk, p4 10 (by decide)]) r7
    match m, hs with
    | 0, ⟨s1, s2, s3⟩ => exact ⟨s1, (f.1 17 rfl).trans s2.1, (f.1 19 rfl).trans s3.1⟩
    | 1, ⟨s1, s2, s3⟩ => exact ⟨s1, d0 s2, (f.1 19 rfl).trans s3.1⟩
    | 2, ⟨s1, s2, s3⟩ => exact ⟨s1, d0 s2, d1 s3⟩
theorem finish_step {S T : St} {n nl nc l F m : Nat} {c cl : Nat → Nat} (h : SC S T n c nl cl nc) (ht : TrF S T n nc l F m) (hF : F ≤ 8) : ∃ S2 T2, x_Trial_finish S = some S2 ∧ m_M_others T = some T2 ∧ FrT S S2 ∧ FrM T T2 ∧ (TrE S2 T2 n nc l ∨ TrK S2 T2 n l) := by
  obtain ⟨⟨hn, -⟩, -, -, ⟨hnc, w1, w2, w3, w4⟩⟩ := id h
  obtain ⟨S1, T1, p1, p2, p3, p4, p5, p6⟩ := out_step (by omega) hnc ht
  obtain ⟨S2, q1, q2, q3⟩ := add_both p5
  refine ⟨S2, T1, ?_, p2, p3.tr q2.t, p4, ?_⟩
  · unfold x_Trial_finish
    rw [x_size, bind_s]
    dsimp only
    rw [w1, ht.2.1, if_pos (Int32.le_refl _)]
    cases h1 : x_Trial_takeOut_17_18 S with
    | none => rw [h1] at p1; cases p1
    | some Y =>
      rw [h1, bind_s] at p1
      rw [bind_s, p1, bind_s]
      exact q1
  · rcases p6 with p6 | p6
    · exact Or.inl (p6.fr q2)
    · obtain ⟨t1, t2, t3, t4, t5, t6, t7, t8, t9, t10, t11, t12⟩ := p6
      obtain ⟨-, -, -, ⟨-, -, -, v3, -⟩⟩ := h.fr p3 p4
      refine Or.inr ⟨(q2.1 26 rfl).trans t1, (q2.1 28 rfl).trans t3, t4, (q2.1 29 rfl).trans t5, t6, ⟨F, hF, (q2.1 11 rfl).trans t7, t8, ?_⟩, m, q3 t12 hn hnc v3⟩
      rw [q2.2.2.1 11 rfl]; exact t9

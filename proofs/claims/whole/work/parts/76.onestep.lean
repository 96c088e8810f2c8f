def oI (k : Nat) : Bool := [12, 22, 27, 28, 29].contains k
def oL (k : Nat) : Bool := k == 3
def oA (k : Nat) : Bool := k == 12
def pI (k : Nat) : Bool := [7, 8, 9].contains k
def pL (k : Nat) : Bool := [0, 1].contains k
def noA (_ : Nat) : Bool := false
abbrev FrO (S S2 : St) : Prop := Fr oI oL oA noB S S2
abbrev FrN (T T2 : St) : Prop := Fr pI pL noA tmB T T2
theorem cont_sub {l l2 : List Nat} (h : ∀ x, x ∈ l → x ∈ l2) {k : Nat} (hk : l2.contains k = false) : l.contains k = false := by
  cases hc : l.contains k
  · rfl
  · have := List.contains_iff_mem.mpr (h k (List.contains_iff_mem.mp hc))
    rw [hk] at this
    cases this
theorem FrO.t {S S2 : St} (h : FrO S S2) : FrT S S2 := by
  refine ⟨fun k hk => h.1 k (cont_sub (by decide) hk), fun k hk => h.2.1 k ?_, fun k hk => h.2.2.1 k ?_, h.2.2.2⟩
  · have := cont_sub (l := [3]) (by decide) hk
    simpa [oL] using this
  · have := cont_sub (l := [12]) (by decide) hk
    simpa [oA] using this
theorem FrN.m {T T2 : St} (h : FrN T T2) : FrM T T2 := ⟨fun k hk => h.1 k (cont_sub (by decide) hk), fun k hk => h.2.1 k hk, fun k _ => h.2.2.1 k rfl, h.2.2.2⟩
/-- it is asked which of the things -/
def Ask15 (S T : St) (n nc : Nat) : Prop := ∃ (p : Nat → Bool) (b : Nat), gL T 1 = bs p n ∧ gI S 12 = nI (card p n) ∧ Enum p n (gA S 12) ∧ gI S 22 = nI b ∧ gI T 9 = nI b ∧ b ≤ nc ∧ 1 < card p n
theorem updL_self {f : Nat → Int64} {k : Nat} {v : Int64} : vp_updL f k v k = v := by unfold vp_updL; rw [if_pos rfl]
theorem updL_ne {f : Nat → Int64} {k j : Nat} {v : Int64} (h : j ≠ k) : vp_updL f k v j = f j := by unfold vp_updL; rw [if_neg h]
def OKone (S T S2 T2 : St) (v : Int64) (r : Int32) (n nc a s : Nat) : Prop := ∃ b : Nat, a < b ∧ b ≤ nc ∧ r = nI b ∧ gI S2 27 = nI b ∧ gI S2 28 = 0 ∧ gI T2 7 = 0 ∧ gI S2 29 = gI S 29 ∧ gI T2 8 = gI T 8 ∧ gI S2 12 = nI 0 ∧ (∃ p, v = bs p n ∧ card p n = 1) ∧ gB T2 20 s = gB T 20 s ||| v ∧ ∀ j, j ≠ s → gB T2 20 j = gB T 20 j
/-- the question's row is no longer than its room -/
def Q12 (S : St) : Prop := ∃ q : Nat, q ≤ 40 ∧ gI S 12 = nI q
def ERone (S2 T2 : St) (v : Int64) (n nc a : Nat) : Prop := v = 0 ∧ ∃ e : Int32, 4 < e ∧ e ≤ 15 ∧ gI S2 28 = e ∧ gI T2 7 = e ∧ gI S2 29 = nI a ∧ gI T2 8 = nI a ∧ gI S2 27 = nI a ∧ (e = 15 → Ask15 S2 T2 n nc) ∧ Q12 S2
theorem one_step {S T : St} {n nl nc a s : Nat} {c cl : Nat → Nat} (h : SC S T n c nl cl nc) (ec : gI S 27 = nI a) (ha : a < nc) (eq : gI S 12 = nI 0) (hs : s < 2) (es : gI T 13 = nI (s + 1)) (he : gI S 28 = 0) (hT : gI T 7 = 0) (kd : Int32) (hk : kd = 2 ∨ kd = 3 ∨ kd = 4 ∨ kd = 5) : ∃ v S2 r T2, x_Trial_findOne S kd = some (v, S2) ∧ m_M_takesOne T kd (nI a) = some (r, T2) ∧ FrO S S2 ∧ FrN T T2 ∧ (OKone S T S2 T2 v r n nc a s ∨ ERone S2 T2 v n nc a) := by
  obtain ⟨⟨hn, e1, e2, e3, e4, e5, e6, e7, e8, e9, e10, e11⟩, -, -, ⟨hr, w1, w2, w3, w4⟩⟩ := h
  obtain ⟨m, hm⟩ : ∃ m, m = plen (phZ (gA S 19) (gA S 17) c (gA S 6) a n) (nc - a) 0 := ⟨_, rfl⟩
  have hm2 : m = plen (phZ (gA T 10) (gA T 8) c (gA T 15) a n) (nc - a) 0 := by
    rw [hm]
    exact plen_eq2 (Nat.le_of_lt ha) (fun t k ht hk => e7 t k ht hk) (fun t ht => e3 t ht) (fun k hk => w3 k hk)
  have hml := plen_le (z := phZ (gA S 19) (gA S 17) c (gA S 6) a n) (nc - a) 0
  rw [← hm] at hml
  obtain ⟨x1, x2, x3, x4, x5⟩ := x_one hn e1 e4 e8 e9 e10 e11 w1 hr ec (Nat.le_of_lt ha) eq kd hk m hm
  have hmo := m_one hn kd hk e2 (fun t ht => (e4 t (by omega)).1) e5 w2 hr ha hs es m hm2
  have hwa : gA T 15 a = gA S 6 a := (w3 a ha).symm
  rw [hwa] at hmo
  have hQ : ∀ t, t < n → (ck (gA T 8) kd t && phP (gA T 10) (gA T 8) c (gA T 15) a m t) = (ck (gA S 17) kd t && phP (gA S 19) (gA S 17) c (gA S 6) a m t) := by
    intro t ht
    rw [phP_eq (g2 := gA S 19) (f2 := gA S 17) (cw2 := gA S 6) (fun k hk => (e7 t k ht hk).symm) (e3 t ht).symm (fun k hk => (w3 k (by omega)).symm)]
    unfold ck flg
    rw [e3 t ht]
  rw [bs_eq n hQ, card_eq n hQ] at hmo
  by_cases h4 : gA S 6 a = 4
  · refine ⟨_, _, _, _, x1 ⟨ha, h4⟩, by rw [hmo, if_pos h4], (Fr.rf.sI rfl).sI rfl, (Fr.rf.sI rfl).sI rfl, Or.inr ⟨rfl, 13, by decide, by decide, rfl, rfl, rfl, rfl, ec, fun q => absurd q (by decide), ⟨0, by decide, eq⟩⟩⟩
  have h4n : ¬ (a < nc ∧ gA S 6 a = 4) := fun q => h4 q.2
  rw [if_neg h4] at hmo
  by_cases h0 : m = 0
  · obtain ⟨w, hx⟩ := x2 h4n h0
    refine ⟨_, _, _, _, hx, by rw [hmo, if_pos h0], (((Fr.rf.sL rfl).sI rfl).sI rfl).sI rfl, ((Fr.rf.sL rfl).sI rfl).sI rfl, Or.inr ⟨rfl, 7, by decide, by decide, rfl, rfl, rfl, rfl, ec, fun q => absurd q (by decide), ⟨0, by decide, eq⟩⟩⟩
  rw [if_neg h0] at hmo
  unfold oneM at hmo
  generalize hqd : (fun t => ck (gA S 17) kd t && phP (gA S 19) (gA S 17) c (gA S 6) a m t) = Q at hmo x3 x4 x5
  by_cases c0 : card Q n = 0
  · obtain ⟨w, hx⟩ := x3 h4n h0 c0
    refine ⟨_, _, _, _, hx, by rw [hmo, if_pos c0], (((Fr.rf.sL rfl).sI rfl).sI rfl).sI rfl, ((Fr.rf.sL rfl).sI rfl).sI rfl, Or.inr ⟨rfl, errK kd, ?_, ?_, rfl, rfl, rfl, rfl, ec, ?_, ⟨0, by decide, eq⟩⟩⟩
    · rcases hk with rfl | rfl | rfl | rfl <;> decide
    · rcases hk with rfl | rfl | rfl | rfl <;> decide
    · intro q
      rcases hk with rfl | rfl | rfl | rfl <;> exact absurd q (by decide)
  rw [if_neg c0] at hmo
  by_cases c1 : card Q n = 1
  · obtain ⟨w, hx⟩ := x4 h4n h0 c1
    refine ⟨_, _, _, _, hx, by rw [hmo, if_pos c1], ((Fr.rf.sL rfl).sI rfl).sI rfl, (Fr.rf.sL rfl).sB rfl, Or.inl ⟨a + m, by omega, by omega, rfl, rfl, he, hT, rfl, rfl, eq, ⟨Q, rfl, c1⟩, ?_, ?_⟩⟩
    · show gB (sB (sL T 0 _) 20 s _) 20 s = _
      rw [gB_sB, if_pos rfl, updL_self]
      rfl
    · intro j hj
      show gB (sB (sL T 0 _) 20 s _) 20 j = _
      rw [gB_sB, if_pos rfl, updL_ne hj]
      rfl
  rw [if_neg c1] at hmo
  obtain ⟨w, S2, hadd, hx⟩ := x5 h4n h0 (by omega)
  have hcb : card (bit (bs Q n)) 40 = card Q n := by
    rw [card_more (p := bit (bs Q n)) (n := n) 40 hn (fun k h1 h2 => by rw [bit_bs (by omega)]; simp [show ¬ k < n by omega])]
    exact card_eq n (fun k hk => by rw [bit_bs (by omega)]; simp [hk])
  have hcj : ∀ j, j ≤ n → card (bit (bs Q n)) j = card Q j := fun j hj => card_eq j (fun k hk => by rw [bit_bs (by omega)]; simp [show k < n by omega])
  obtain ⟨S3, g1, g2, g3, g4, g5, g6, g7, g8⟩ := x_addT_l (r := 12) (by decide) (bs Q n) 0 40 fu 0 (Sph S w (a + m)) (by omega) (show 40 < 100000 by omega) (by rw [Nat.zero_add]; exact eq) (by rw [Nat.zero_add, hcb]; exact Nat.le_trans (card_le n) hn)
  have g1 : x_Row_addThings 12 (Sph S w (a + m)) (bs Q n) = some S3 := g1
  rw [g1] at hadd
  obtain rfl := Option.some.inj hadd
  have hfr : FrO S S3 := by
    refine ⟨fun k hk => ?_, fun k hk => ?_, fun k hk => ?_, fun k hk => g6 k⟩
    · have hk12 : k ≠ 12 := fun e => by subst e; cases hk
      have hk22 : k ≠ 22 := fun e => by subst e; cases hk
      rw [g3 k hk12, gI_sI, if_neg hk22]; rfl
    · have hk3 : k ≠ 3 := fun e => by subst e; cases hk
      rw [g4 k, gL_sI, gL_sL, if_neg hk3]
    · have hk12 : k ≠ 12 := fun e => by subst e; cases hk
      rw [g5 k hk12]; rfl
  refine ⟨_, _, _, _, hx, hmo, (hfr.sI rfl).sI rfl, ((((Fr.rf.sL rfl).sI rfl).sI rfl).sL rfl).sI rfl, Or.inr ⟨rfl, 15, by decide, by decide, rfl, rfl, ?_, rfl, ?_, ?_, ⟨card (bit (bs Q n)) 40, card_le 40, by show gI S3 12 = _; rw [g2, Nat.zero_add]⟩⟩⟩
  · show gI S3 27 = nI a
    rw [g3 27 (by decide)]; exact ec
  · show gI S3 27 = nI a
    rw [g3 27 (by decide)]; exact ec
  · intro _
    refine ⟨Q, a + m, rfl, ?_, ?_, ?_, rfl, by omega, by omega⟩
    · show gI S3 12 = _
      rw [g2, Nat.zero_add, hcb]
    · intro i hi hq
      show gA S3 12 (card Q i) = nI i
      have := g8 i (Nat.zero_le i) (by omega) (by rw [bit_bs (by omega)]; simp [hi, hq])
      rw [Nat.zero_add, hcj i (by omega)] at this
      exact this
    · show gI S3 22 = _
      rw [g3 22 (by decide)]; rfl
theorem pos_ne {e : Int32} (h : 4 < e) : ¬ e = 0 := fun z => by rw [z] at h; exact absurd h (by decide)

theorem x_verbOf {S : St} {n l : Nat} (e : gI S 25 = nI n) (hn : n ≤ 60) (hl : l < n) : x_Lines_verbOf S (nI l) = some (gA S 20 l, S) := by
  unfold x_Lines_verbOf
  rw [x_hasL e hn, bind_s, btw_nI (by omega) hl]
  dsimp only
  rw [if_neg one_ne0, gd_t _ (vin_nI (show l < 60 by omega) (by omega)), nI_clamp (show l < 2 ^ 31 by omega)]
theorem x_actionOf {S : St} {n l : Nat} (e : gI S 25 = nI n) (hn : n ≤ 60) (hl : l < n) : x_Lines_actionOf S (nI l) = some (gA S 21 l, S) := by
  unfold x_Lines_actionOf
  rw [x_hasL e hn, bind_s, btw_nI (by omega) hl]
  dsimp only
  rw [if_neg one_ne0, gd_t _ (vin_nI (show l < 60 by omega) (by omega)), nI_clamp (show l < 2 ^ 31 by omega)]
abbrev N3 (S : St) (nt l : Nat) (e p : Int32) : St := sI (sA (sI (sA (sI (sA S 13 nt (nI l)) 13 (nI (nt + 1))) 14 nt e) 14 (nI (nt + 1))) 15 nt p) 15 (nI (nt + 1))
theorem N3_13 (S : St) (nt l : Nat) (e p : Int32) : gA (N3 S nt l e p) 13 = upd (gA S 13) nt (nI l) := by
  show gA (sA S 13 nt (nI l)) 13 = _
  rw [gA_sA, if_pos rfl]
theorem N3_14 (S : St) (nt l : Nat) (e p : Int32) : gA (N3 S nt l e p) 14 = upd (gA S 14) nt e := by
  show gA (sA (sI (sA S 13 nt (nI l)) 13 (nI (nt + 1))) 14 nt e) 14 = _
  rw [gA_sA, if_pos rfl]; rfl
theorem N3_15 (S : St) (nt l : Nat) (e p : Int32) : gA (N3 S nt l e p) 15 = upd (gA S 15) nt p := by
  show gA (sA (sI (sA (sI (sA S 13 nt (nI l)) 13 (nI (nt + 1))) 14 nt e) 14 (nI (nt + 1))) 15 nt p) 15 = _
  rw [gA_sA, if_pos rfl]; rfl
/-- the report alone -/
def qI (k : Nat) : Bool := [13, 14, 15, 16, 30, 31, 32, 33, 34].contains k
def qA (k : Nat) : Bool := [13, 14, 15, 16].contains k
abbrev FrQ (S S2 : St) : Prop := Fr qI noL qA noB S S2
theorem FrQ.x {S S2 : St} (h : FrQ S S2) : FrX S S2 := ⟨fun k hk => h.1 k (cont_sub (by decide) hk), fun k _ => h.2.1 k rfl, fun k hk => h.2.2.1 k (cont_sub (by decide) hk), h.2.2.2⟩
theorem frN3 {S : St} {nt l : Nat} {e p : Int32} : FrQ S (N3 S nt l e p) := (((((Fr.rf.sA rfl).sI rfl).sA rfl).sI rfl).sA rfl).sI rfl
theorem note_h {S : St} {nt l : Nat} {act : Int32} (h13 : gI S 13 = nI nt) (h14 : gI S 14 = nI nt) (h15 : gI S 15 = nI nt) (hnt : nt < 60) (e26 : gI S 26 = nI l) : x_Report_note S act = if gI S 28 = 0 then some (sI (sI (sI (sI (N3 S nt l (gI S 28) (gI S 29)) 30 act) 31 0) 32 (-1)) 33 (nI l)) else if gI S 28 ≤ gI S 31 then some (N3 S nt l (gI S 28) (gI S 29)) else (x_Row_become 16 12 (sI (sI (sI (N3 S nt l (gI S 28) (gI S 29)) 31 (gI S 28)) 32 (gI S 29)) 33 (nI l))).bind fun q5 => some (sI q5 34 (gI q5 22)) := by
  unfold x_Report_note
  rw [e26, x_add (r := 13) h13 (show nt < 60 from hnt) (by decide), bind_s, x_add (r := 14) (S := sI (sA S 13 nt (nI l)) 13 (nI (nt + 1))) h14 (show nt < 60 from hnt) (by decide), bind_s, x_add (r := 15) (S := sI (sA (sI (sA S 13 nt (nI l)) 13 (nI (nt + 1))) 14 nt (gI (sI (sA S 13 nt (nI l)) 13 (nI (nt + 1))) 28)) 14 (nI (nt + 1))) h15 (show nt < 60 from hnt) (by decide), bind_s]
  have e28 : gI (N3 S nt l (gI S 28) (gI S 29)) 28 = gI S 28 := rfl
  show (if gI (N3 S nt l (gI S 28) (gI S 29)) 28 = 0 then _ else _) = _
  by_cases h0 : gI S 28 = 0
  · rw [if_pos (e28.trans h0), if_pos h0]
    show some (sI (sI (sI (sI (N3 S nt l (gI S 28) (gI S 29)) 30 act) 31 0) 32 (-1)) 33 (gI S 26)) = _
    rw [e26]
  · rw [if_neg (fun z => h0 (e28.symm.trans z)), if_neg h0]
    show (if gI S 28 ≤ gI S 31 then _ else _) = _
    by_cases h1 : gI S 28 ≤ gI S 31
    · rw [if_pos h1, if_pos h1]
      rfl
    · rw [if_neg h1, if_neg h1]
      show (some (sI (sI (sI (N3 S nt l (gI S 28) (gI S 29)) 31 (gI S 28)) 32 (gI S 29)) 33 (gI S 26))).bind _ = _
      rw [bind_s, e26]
/-- the line that counts so far: best in the reference, the report in the class -/
def Bst (S : St) (nl : Nat) (best gr : Int32) : Prop := (best = (-1) ∧ gr = 0 ∧ gI S 31 = 0 ∧ gI S 32 = (-1) ∧ gI S 33 = (-1)) ∨ ∃ (lb qn : Nat) (Sb Sc : St), lb < nl ∧ best = nI lb ∧ x_Trial_tryLine Sb (nI lb) = some Sc ∧ FrX Sb S ∧ gr = gI S 31 ∧ ¬ gI Sc 28 = 0 ∧ gI S 31 = gI Sc 28 ∧ gI S 32 = gI Sc 29 ∧ gI S 33 = nI lb ∧ gI Sc 12 = nI qn ∧ qn ≤ 40 ∧ gI S 16 = nI qn ∧ EqN qn (gA S 16) (gA Sc 12) ∧ gI S 34 = gI Sc 22
/-- .. untouched by a line that doesn't count more -/
theorem Bst.fr {S S2 : St} {nl : Nat} {best gr : Int32} (h : Bst S nl best gr) (f : FrX S S2) (e1 : gI S2 31 = gI S 31) (e2 : gI S2 32 = gI S 32) (e3 : gI S2 33 = gI S 33) (e4 : gI S2 16 = gI S 16) (e5 : gA S2 16 = gA S 16) (e6 : gI S2 34 = gI S 34) : Bst S2 nl best gr := by
  unfold Bst at h ⊢
  rw [e1, e2, e3, e4, e5, e6]
  rcases h with h | ⟨lb, qn, Sb, Sc, b1, b2, b3, b4, b5⟩
  · exact Or.inl h
  · exact Or.inr ⟨lb, qn, Sb, Sc, b1, b2, b3, b4.tr f, b5⟩
abbrev NT (T : St) (nt l : Nat) : St := sI (sA (sA (sA T 25 nt (nI l)) 26 nt (gI T 7)) 27 nt (gI T 8)) 16 (nI (nt + 1))
theorem NT_25 (T : St) (nt l : Nat) : gA (NT T nt l) 25 = upd (gA T 25) nt (nI l) := by
  show gA (sA T 25 nt (nI l)) 25 = _
  rw [gA_sA, if_pos rfl]
theorem NT_26 (T : St) (nt l : Nat) : gA (NT T nt l) 26 = upd (gA T 26) nt (gI T 7) := by
  show gA (sA (sA T 25 nt (nI l)) 26 nt (gI T 7)) 26 = _
  rw [gA_sA, if_pos rfl]; rfl
theorem NT_27 (T : St) (nt l : Nat) : gA (NT T nt l) 27 = upd (gA T 27) nt (gI T 8) := by
  show gA (sA (sA (sA T 25 nt (nI l)) 26 nt (gI T 7)) 27 nt (gI T 8)) 27 = _
  rw [gA_sA, if_pos rfl]; rfl
theorem frNT {T : St} {nt l : Nat} : FrD T (NT T nt l) := (((Fr.rf.sA rfl).sA rfl).sA rfl).sI rfl
theorem m38_step {T T2 : St} {nl l nt fuel : Nat} {v best gr : Int32} (e2 : gI T 2 = nI nl) (hnl : nl ≤ 60) (hl : l < nl) (hv : ¬ v = (-1)) (ev : gA T 2 l = v) (ht : m_M_tries T (nI l) = some T2) (e16 : gI T2 16 = nI nt) (hnt : nt < 60) : m_M_isTried_b38 (fuel + 1) T v best gr 0 (nI l) = m_M_isTried_b133 (m_M_isTried_b38 fuel) (NT T2 nt l) v best gr (nI l) (if gI T2 7 = 0 then 1 else 0) := by
  show m_M_isTried_b38_f _ T _ _ _ _ _ = _
  unfold m_M_isTried_b38_f
  rw [e2, if_neg (nI_ge hl (by omega)), if_neg hv, if_pos rfl, gd_t _ (vin_nI (show l < 60 by omega) (by omega)), nI_clamp (show l < 2 ^ 31 by omega), if_pos ev, ht, bind_s]
  rw [e16, gd_t _ (vin_nI hnt (by omega)), nI_clamp (show nt < 2 ^ 31 by omega)]
  rw [show gI (sA T2 25 nt (nI l)) 16 = nI nt from e16, gd_t _ (vin_nI hnt (by omega)), nI_clamp (show nt < 2 ^ 31 by omega)]
  rw [show gI (sA T2 25 nt (nI l)) 7 = gI T2 7 from rfl, show gI (sA (sA T2 25 nt (nI l)) 26 nt (gI T2 7)) 16 = nI nt from e16, gd_t _ (vin_nI hnt (by omega)), nI_clamp (show nt < 2 ^ 31 by omega)]
  rw [show gI (sA (sA T2 25 nt (nI l)) 26 nt (gI T2 7)) 8 = gI T2 8 from rfl, show gI (sA (sA (sA T2 25 nt (nI l)) 26 nt (gI T2 7)) 27 nt (gI T2 8)) 16 = nI nt from e16, nI_1]
  rw [show gI (sI (sA (sA (sA T2 25 nt (nI l)) 26 nt (gI T2 7)) 27 nt (gI T2 8)) 16 (nI (nt + 1))) 7 = gI T2 7 from rfl]
  by_cases h0 : gI T2 7 = 0
  · rw [if_pos h0, if_pos h0]
  · rw [if_neg h0, if_neg h0]
/-- a line fits: what class and reference hold then -/
def Fit (S T : St) (nl : Nat) (best : Int32) : Prop := ∃ (lb nt : Nat) (Sb Sc : St), lb < nl ∧ best = nI lb ∧ x_Trial_tryLine Sb (nI lb) = some Sc ∧ FrX Sb S ∧ FrQ Sc S ∧ gI Sc 28 = 0 ∧ Tried S T nt ∧ ¬ nt = 0 ∧ gI S 30 = gA S 21 lb ∧ gI S 31 = 0 ∧ gI S 32 = (-1) ∧ gI S 33 = nI lb
def NoFit (S T : St) (nl : Nat) (best : Int32) : Prop := ∃ (nt : Nat) (gr : Int32), Tried S T nt ∧ gI S 30 = (-1) ∧ Bst S nl best gr ∧ (nt = 0 ↔ best = (-1))
theorem Tried.add {S S2 S3 T T2 : St} {nt l : Nat} (h : Tried S T nt) (hnt : nt < 60) (f : FrT S S2) (g : FrM T T2) (e13 : gA S3 13 = upd (gA S2 13) nt (nI l)) (e14 : gA S3 14 = upd (gA S2 14) nt (gI S2 28)) (e15 : gA S3 15 = upd (gA S2 15) nt (gI S2 29)) (i13 : gI S3 13 = nI (nt + 1)) (i14 : gI S3 14 = nI (nt + 1)) (i15 : gI S3 15 = nI (nt + 1)) (h7 : gI S2 28 = gI T2 7) (h8 : gI S2 29 = gI T2 8) : Tried S3 (NT T2 nt l) (nt + 1) := by
  obtain ⟨h0, h1, h2, h3, h4, h5, h6, h9⟩ := h
  refine ⟨by omega, i13, i14, i15, rfl, ?_, ?_, ?_⟩
  · rw [e13, NT_25, f.2.2.1 13 rfl, g.2.2.1 25 rfl]; exact h5.up
  · rw [e14, NT_26, f.2.2.1 14 rfl, g.2.2.1 26 rfl, h7]; exact h6.up
  · rw [e15, NT_27, f.2.2.1 15 rfl, g.2.2.1 27 rfl, h8]; exact h9.up
theorem cmd_l {n nl nc : Nat} {c cl : Nat → Nat} (hnc : 1 ≤ nc) (v : Int32) (hv : ¬ v = (-1)) : ∀ (r l fx fm nt : Nat) (best gr : Int32) (S T : St), SC S T n c nl cl nc → l + r = nl → Tried S T nt → nt ≤ l → gI S 30 = (-1) → Bst S nl best gr → (nt = 0 ↔ best = (-1)) → r + 1 < fx → r + 1 < fm → ∃ S2 T2 best2 x4, x_G_tryCommand_b25 fx S v (nI l) = x_G_tryCommand_b97 S2 ∧ m_M_isTried_b38 fm T v best gr 0 (nI l) = m_M_isTried_b167 T2 best2 x4 ∧ FrX S S2 ∧ FrD T T2 ∧ ((x4 = 0 ∧ NoFit S2 T2 nl best2) ∨ (x4 = 1 ∧ Fit S2 T2 nl best2))
  | r, l, 0, fm, nt, best, gr, S, T, _, _, _, _, _, _, _, hf, _ => absurd hf (by omega)
  | r, l, fx + 1, 0, nt, best, gr, S, T, _, _, _, _, _, _, _, _, hf => absurd hf (by omega)
  | 0, l, fx + 1, fm + 1, nt, best, gr, S, T, h, he, hT, hnt, h30, hB, hnb, _, _ => by
    obtain ⟨-, ⟨hnl, f1, f2, -⟩, -, -⟩ := id h
    refine ⟨S, T, best, 0, ?_, ?_, Fr.rf, Fr.rf, Or.inl ⟨rfl, nt, gr, hT, h30, hB, hnb⟩⟩
    · show x_G_tryCommand_b25_f _ S _ _ = _
      unfold x_G_tryCommand_b25_f x_Lines_count
      rw [bind_s]
      dsimp only
      rw [f1, if_pos (nI_le (show nl ≤ l by omega) (by omega))]
    · show m_M_isTried_b38_f _ T _ _ _ _ _ = _
      unfold m_M_isTried_b38_f
      rw [f2, if_pos (nI_le (show nl ≤ l by omega) (by omega))]
  | r + 1, l, fx + 1, fm + 1, nt, best, gr, S, T, h, he, hT, hnt, h30, hB, hnb, hfx, hfm => by
    obtain ⟨-, ⟨hnl, f1, f2, f3, f4, f5, f6, f6b, f7, f8, f9, f10, f11⟩, -, -⟩ := id h
    have hl : l < nl := by omega
    have hx : x_G_tryCommand_b25 (fx + 1) S v (nI l) = if gA S 20 l = v then (x_Trial_tryLine S (nI l)).bind fun q11 => (x_Lines_actionOf q11 (nI l)).bind fun q12 => (x_Report_note q12.2 q12.1).bind fun q13 => x_G_tryCommand_b25 fx q13 v (nI (l + 1)) else x_G_tryCommand_b25 fx S v (nI (l + 1)) := by
      show x_G_tryCommand_b25_f _ S _ _ = _
      unfold x_G_tryCommand_b25_f x_Lines_count x_G_tryCommand_b91
      rw [bind_s]
      dsimp only
      rw [f1, if_neg (nI_ge hl (by omega)), if_pos h30, if_neg hv, x_verbOf f1 hnl hl, bind_s]
      dsimp only
      rw [show nI l + (1 : Int32) = nI (l + 1) from nI_1 l]
    by_cases hvl : gA S 20 l = v
    · rw [if_pos hvl] at hx
      obtain ⟨S2, T2, q1, q2, q3, q4, q5⟩ := line_try h hl hnc
      have hnt60 : nt < 60 := by omega
      obtain ⟨k0, k1, k2, k3, k4, k5, k6, k7⟩ := id hT
      rw [q1, bind_s, x_actionOf (S := S2) (n := nl) (by rw [q3.1 25 rfl]; exact f1) hnl hl, bind_s] at hx
      dsimp only at hx
      have e26 : gI S2 26 = nI l := by
        rcases q5 with q5 | q5
        · exact q5.1
        · exact q5.1
      rw [note_h (nt := nt) (l := l) (by rw [q3.1 13 rfl]; exact k1) (by rw [q3.1 14 rfl]; exact k2) (by rw [q3.1 15 rfl]; exact k3) hnt60 e26] at hx
      have hm := m38_step (nl := nl) (l := l) (nt := nt) (fuel := fm) (v := v) (best := best) (gr := gr) f2 hnl hl hv (by rw [← f3 l hl]; exact hvl) q2 (by rw [q4.1 16 rfl]; exact k4) hnt60
      unfold m_M_isTried_b133 m_M_isTried_b153 m_M_isTried_b161 at hm
      rw [show gI (NT T2 nt l) 7 = gI T2 7 from rfl, show nI l + (1 : Int32) = nI (l + 1) from nI_1 l] at hm
      rcases q5 with q5 | q5
      · have hne := q5.ne
        obtain ⟨-, e, b, p1, p2, p3, p4, p5, p6, p7, p8, p9, qn, p10, p11⟩ := id q5
        rw [if_neg hne.1] at hx
        rw [if_neg hne.2, if_pos rfl] at hm
        have fX : FrX S S2 := FrT.x q3
        have fD : FrD T (NT T2 nt l) := (FrM.d q4).tr frNT
        by_cases hle : gI S2 28 ≤ gI S2 31
        · rw [if_pos hle, bind_s] at hx
          have hTr : Tried (N3 S2 nt l (gI S2 28) (gI S2 29)) (NT T2 nt l) (nt + 1) := hT.add hnt60 q3 q4 (N3_13 _ _ _ _ _) (N3_14 _ _ _ _ _) (N3_15 _ _ _ _ _) rfl rfl rfl (p3.trans p4.symm) (p5.trans p6.symm)
          have hB2 : Bst (N3 S2 nt l (gI S2 28) (gI S2 29)) nl best gr := hB.fr (fX.tr (FrQ.x frN3)) (q3.1 31 rfl) (q3.1 32 rfl) (q3.1 33 rfl) (q3.1 16 rfl) (q3.2.2.1 16 rfl) (q3.1 34 rfl)
          have hgr : ¬ best = (-1) ∧ gr = gI S 31 := by
            rcases hB with ⟨b1, b2, b3, -⟩ | ⟨lb, -, -, -, b1, b2, -, -, b5, -⟩
            · exfalso
              rw [q3.1 31 rfl, b3, p3] at hle
              exact absurd (Int32.lt_of_lt_of_le p1 hle) (by decide)
            · exact ⟨by rw [b2]; exact m1_ne (by omega), b5⟩
          rw [if_neg hgr.1, if_pos (by rw [hgr.2, ← q3.1 31 rfl, p4, ← p3]; exact hle)] at hm
          obtain ⟨S3, T3, best2, x4, g1, g2, g3, g4, g5⟩ := cmd_l hnc v hv r (l + 1) fx fm (nt + 1) best gr _ _ (h.frx (fX.tr (FrQ.x frN3)) fD) (by omega) hTr (by omega) (show gI S2 30 = _ by rw [q3.1 30 rfl]; exact h30) hB2 ⟨fun z => absurd z (by omega), fun z => absurd z hgr.1⟩ (by omega) (by omega)
          exact ⟨S3, T3, best2, x4, hx.trans g1, hm.trans g2, (fX.tr (FrQ.x frN3)).tr g3, fD.tr g4, g5⟩
        · rw [if_neg hle] at hx
          obtain ⟨S3, b1, b2, b3, b4⟩ := x_bec (r := 16) (r1 := 12) (n := qn) (by decide) (show qn ≤ 40 from p10) (show qn ≤ 40 from p10) (by decide) (by decide) (sI (sI (sI (N3 S2 nt l (gI S2 28) (gI S2 29)) 31 (gI S2 28)) 32 (gI S2 29)) 33 (nI l)) p11
          rw [b1, bind_s, bind_s, show gI S3 22 = gI S2 22 from b2.1 22 rfl] at hx
          have fQ1 : FrQ S2 (sI (sI (sI (N3 S2 nt l (gI S2 28) (gI S2 29)) 31 (gI S2 28)) 32 (gI S2 29)) 33 (nI l)) := ((frN3.sI rfl).sI rfl).sI rfl
          have fQ2 : FrQ (sI (sI (sI (N3 S2 nt l (gI S2 28) (gI S2 29)) 31 (gI S2 28)) 32 (gI S2 29)) 33 (nI l)) S3 := by
            refine ⟨fun k hk => b2.1 k ?_, fun k _ => b2.2.1 k rfl, fun k hk => b2.2.2.1 k ?_, b2.2.2.2⟩
            · exact beq_ff (fun z => by subst z; cases hk)
            · exact beq_ff (fun z => by subst z; cases hk)
          have fQ : FrQ S2 (sI S3 34 (gI S2 22)) := (fQ1.tr fQ2).sI rfl
          have hTr : Tried (sI S3 34 (gI S2 22)) (NT T2 nt l) (nt + 1) := hT.add hnt60 q3 q4 (by show gA S3 13 = _; rw [b2.2.2.1 13 rfl]; exact N3_13 _ _ _ _ _) (by show gA S3 14 = _; rw [b2.2.2.1 14 rfl]; exact N3_14 _ _ _ _ _) (by show gA S3 15 = _; rw [b2.2.2.1 15 rfl]; exact N3_15 _ _ _ _ _) (by show gI S3 13 = _; rw [b2.1 13 rfl]; rfl) (by show gI S3 14 = _; rw [b2.1 14 rfl]; rfl) (by show gI S3 15 = _; rw [b2.1 15 rfl]; rfl) (p3.trans p4.symm) (p5.trans p6.symm)
          have e31 : gI (sI S3 34 (gI S2 22)) 31 = gI S2 28 := b2.1 31 rfl
          have hB2 : Bst (sI S3 34 (gI S2 22)) nl (nI l) (gI T2 7) := by
            refine Or.inr ⟨l, qn, S, S2, hl, rfl, q1, fX.tr (FrQ.x fQ), ?_, hne.1, e31, b2.1 32 rfl, b2.1 33 rfl, p11, p10, b3, b4, rfl⟩
            rw [e31, p4, p3]
          have hgo : ¬ best = (-1) → ¬ gI T2 7 ≤ gr := by
            intro hb
            rcases hB with ⟨b1, -⟩ | ⟨lb, -, -, -, -, -, -, -, b5, -⟩
            · exact absurd b1 hb
            · rw [b5, ← q3.1 31 rfl, p4, ← p3]; exact hle
          have hm2 : m_M_isTried_b38 (fm + 1) T v best gr 0 (nI l) = m_M_isTried_b38 fm (NT T2 nt l) v (nI l) (gI T2 7) 0 (nI (l + 1)) := by
            rw [hm]
            by_cases hb : best = (-1)
            · rw [if_pos hb]
            · rw [if_neg hb, if_neg (hgo hb)]
          obtain ⟨S4, T3, best2, x4, g1, g2, g3, g4, g5⟩ := cmd_l hnc v hv r (l + 1) fx fm (nt + 1) (nI l) (gI T2 7) _ _ (h.frx (fX.tr (FrQ.x fQ)) fD) (by omega) hTr (by omega) (show gI S3 30 = _ by rw [b2.1 30 rfl]; show gI S2 30 = _; rw [q3.1 30 rfl]; exact h30) hB2 ⟨fun z => absurd z (by omega), fun z => absurd z (m1_ne (by omega))⟩ (by omega) (by omega)
          exact ⟨S4, T3, best2, x4, hx.trans g1, hm2.trans g2, (fX.tr (FrQ.x fQ)).tr g3, fD.tr g4, g5⟩
      · obtain ⟨-, p1, p2, p3, p4, p5⟩ := id q5
        rw [if_pos p1, bind_s] at hx
        rw [if_pos p2, if_neg one_ne0] at hm
        have fX : FrX S S2 := FrT.x q3
        have fD : FrD T (NT T2 nt l) := (FrM.d q4).tr frNT
        have fQ : FrQ S2 (sI (sI (sI (sI (N3 S2 nt l (gI S2 28) (gI S2 29)) 30 (gA S2 21 l)) 31 0) 32 (-1)) 33 (nI l)) := (((frN3.sI rfl).sI rfl).sI rfl).sI rfl
        have hTr : Tried (sI (sI (sI (sI (N3 S2 nt l (gI S2 28) (gI S2 29)) 30 (gA S2 21 l)) 31 0) 32 (-1)) 33 (nI l)) (NT T2 nt l) (nt + 1) := hT.add hnt60 q3 q4 (N3_13 _ _ _ _ _) (N3_14 _ _ _ _ _) (N3_15 _ _ _ _ _) rfl rfl rfl (p1.trans p2.symm) (p3.trans p4.symm)
        have h30b : ¬ gI (sI (sI (sI (sI (N3 S2 nt l (gI S2 28) (gI S2 29)) 30 (gA S2 21 l)) 31 0) 32 (-1)) 33 (nI l)) 30 = (-1) := by
          show ¬ gA S2 21 l = (-1)
          intro z
          have := f6b l hl
          rw [← q3.2.2.1 21 rfl, z] at this
          exact absurd this (by decide)
        have hSC := h.frx (fX.tr (FrQ.x fQ)) fD
        obtain ⟨-, ⟨-, v1, v2, -⟩, -, -⟩ := id hSC
        have hFit : Fit (sI (sI (sI (sI (N3 S2 nt l (gI S2 28) (gI S2 29)) 30 (gA S2 21 l)) 31 0) 32 (-1)) 33 (nI l)) (NT T2 nt l) nl (nI l) := ⟨l, nt + 1, S, S2, hl, rfl, q1, fX.tr (FrQ.x fQ), fQ, p1, hTr, by omega, rfl, rfl, rfl, rfl⟩
        refine ⟨_, NT T2 nt l, nI l, 1, ?_, ?_, fX.tr (FrQ.x fQ), fD, Or.inr ⟨rfl, hFit⟩⟩
        · rw [hx]
          match fx, hfx with
          | fx + 1, _ =>
            show x_G_tryCommand_b25_f _ _ _ _ = _
            unfold x_G_tryCommand_b25_f x_Lines_count
            rw [bind_s]
            dsimp only
            rw [v1, if_neg h30b]
            by_cases hc : nI nl ≤ nI (l + 1)
            · rw [if_pos hc]
            · rw [if_neg hc]
        · rw [hm]
          match fm, hfm with
          | fm + 1, _ =>
            show m_M_isTried_b38_f _ _ _ _ _ _ _ = _
            unfold m_M_isTried_b38_f
            rw [v2, if_neg hv, if_neg one_ne0]
            by_cases hc : nI nl ≤ nI (l + 1)
            · rw [if_pos hc]
            · rw [if_neg hc]
    · rw [if_neg hvl] at hx
      have hm : m_M_isTried_b38 (fm + 1) T v best gr 0 (nI l) = m_M_isTried_b38 fm T v best gr 0 (nI (l + 1)) := by
        show m_M_isTried_b38_f _ T _ _ _ _ _ = _
        unfold m_M_isTried_b38_f m_M_isTried_b161
        rw [f2, if_neg (nI_ge hl (by omega)), if_neg hv, if_pos rfl, gd_t _ (vin_nI (show l < 60 by omega) (by omega)), nI_clamp (show l < 2 ^ 31 by omega), if_neg (by rw [← f3 l hl]; exact hvl), show nI l + (1 : Int32) = nI (l + 1) from nI_1 l]
      obtain ⟨S2, T2, best2, x4, g1, g2, g3, g4, g5⟩ := cmd_l hnc v hv r (l + 1) fx fm nt best gr S T h (by omega) hT (by omega) h30 hB hnb (by omega) (by omega)
      exact ⟨S2, T2, best2, x4, hx.trans g1, hm.trans g2, g3, g4, g5⟩
theorem cmd_none {S : St} {nl : Nat} (f1 : gI S 25 = nI nl) (hnl : nl ≤ 60) (h30 : gI S 30 = (-1)) : ∀ (r l fx : Nat), l + r = nl → r < fx → x_G_tryCommand_b25 fx S (-1) (nI l) = x_G_tryCommand_b97 S
  | r, l, 0, _, hf => absurd hf (by omega)
  | 0, l, fx + 1, he, _ => by
    show x_G_tryCommand_b25_f _ S _ _ = _
    unfold x_G_tryCommand_b25_f x_Lines_count
    rw [bind_s]
    dsimp only
    rw [f1, if_pos (nI_le (show nl ≤ l by omega) (by omega))]
  | r + 1, l, fx + 1, he, hf => by
    show x_G_tryCommand_b25_f (x_G_tryCommand_b25 fx) S _ _ = _
    unfold x_G_tryCommand_b25_f x_Lines_count x_G_tryCommand_b91
    rw [bind_s]
    dsimp only
    rw [f1, if_neg (nI_ge (show l < nl by omega) (by omega)), if_pos h30, if_pos rfl, show nI l + (1 : Int32) = nI (l + 1) from nI_1 l]
    exact cmd_none f1 hnl h30 r (l + 1) fx (by omega) (by omega)

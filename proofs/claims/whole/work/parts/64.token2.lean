theorem m_b58 {T : St} {l c : Nat} (hl : l < 60) (hc : c ≤ 8) (e : gA T 5 l = nI c) (kd o : Int32) : m_M_token_b58 T (nI l) kd o = m_tokX T (nI l) kd o (nI c) (lastK (gA T 6) (8 * l) c) (nI (nsl (gA T 6) (8 * l) c)) := by
  unfold m_M_token_b58
  simp only [gd_t _ (vin_nI (show l < 60 by omega) (by omega)), nI_clamp (show l < 2 ^ 31 by omega), e]
  cases c with
  | zero =>
    rw [if_pos nI_0]
    exact m_tok_l hl hc kd o (-1) 0 fu 0 rfl (by decide)
  | succ c =>
    rw [if_neg (nI_ne0 (by omega) (by omega)), ix8c, show nI (8 * l + (c + 1)) - 1 = nI (8 * l + c) from nI_pred (8 * l + c), gd_t _ (vin_nI (show 8 * l + c < 480 by omega) (by omega)), nI_clamp (show 8 * l + c < 2 ^ 31 by omega)]
    exact m_tok_l hl hc kd o _ (c + 1) fu 0 (by omega) (show c + 1 < 100000 by omega)
theorem m_tokX_no {T : St} {l c ns : Nat} (hn : ns ≤ 2) (kd o la : Int32) (h : ¬ tokGo kd la ns) : m_tokX T (nI l) kd o (nI c) la (nI ns) = some ((-103), T) := by
  have l2 : (nI ns = (2 : Int32)) = (ns = 2) := lit_eq 2 rfl (by omega) (by omega)
  unfold m_tokX m_M_token_b154 m_M_token_b167
  simp only [m_isSlot, bind_s, l2]
  unfold tokGo at h
  by_cases k1 : kd = 1
  · subst k1
    have h1 : ¬ (la = 0 ∨ la = 1) := by
      intro q
      refine h ⟨fun _ => q, ?_, fun q2 => absurd (by decide) q2⟩
      intro q9
      rw [q9] at q
      exact absurd q (by decide)
    simp only [eq_false (fun q => h1 (Or.inl q)), eq_false (fun q => h1 (Or.inr q)), if_true, if_false]
  · simp only [k1, if_false]
    by_cases k2 : kd < 2
    · have h9 : la = 9 ∧ ¬ kd = 0 := by
        by_cases q : la = 9 ∧ ¬ kd = 0
        · exact q
        · exact absurd ⟨fun z => absurd z k1, fun z => Classical.byContradiction fun w => q ⟨z, w⟩, fun z => absurd k2 z⟩ h
      simp only [k2, if_true, h9.1, h9.2, if_false]
    · simp only [k2, if_false, one_ne0]
      by_cases n2 : ns = 2
      · simp only [n2, if_true]
      · have h9 : la = 9 ∧ ¬ kd = 0 := by
          by_cases q : la = 9 ∧ ¬ kd = 0
          · exact q
          · exact absurd ⟨fun z => absurd z k1, fun z => Classical.byContradiction fun w => q ⟨z, w⟩, fun _ => by omega⟩ h
        simp only [n2, h9.1, h9.2, if_true, if_false]
theorem m_tokX_go {T : St} {l c ns : Nat} (kd o la : Int32) (h : tokGo kd la ns) (hn : ns ≤ 2) : m_tokX T (nI l) kd o (nI c) la (nI ns) = m_M_token_b181 T (nI l) kd o (nI c) := by
  have l2 : (nI ns = (2 : Int32)) = (ns = 2) := lit_eq 2 rfl (by omega) (by omega)
  obtain ⟨h1, h2, h3⟩ := h
  unfold m_tokX m_M_token_b154 m_M_token_b167
  simp only [m_isSlot, bind_s, l2]
  by_cases k1 : kd = 1
  · subst k1
    have k2 : (1 : Int32) < 2 := by decide
    have a9 : ¬ la = 9 := fun q => absurd (h2 q) one_ne0
    rcases h1 rfl with q | q
    · simp only [q, k2, if_true, eq_false (show ¬ (0 : Int32) = 9 by decide), if_false]
    · simp only [q, k2, if_true, one_ne0, if_false, eq_false (show ¬ (1 : Int32) = 9 by decide)]
  · by_cases k2 : kd < 2
    · by_cases a9 : la = 9
      · simp only [k1, k2, a9, h2 a9, if_true, if_false, show ((0 : Int32) < 2) = True from eq_true (by decide), show ((0 : Int32) = 1) = False from eq_false (by decide)]
      · simp only [k1, k2, a9, if_true, if_false]
    · have n2 : ¬ ns = 2 := by have := h3 k2; omega
      by_cases a9 : la = 9
      · exact absurd (by rw [h2 a9]; decide) k2
      · simp only [k1, k2, a9, n2, one_ne0, if_false]
theorem m_b181 {T : St} {l c : Nat} (hl : l < 60) (hc : c ≤ 8) (e : gA T 5 l = nI c) (kd o : Int32) : m_M_token_b181 T (nI l) kd o (nI c) = if c = 8 then some ((-104), T) else some (nI (c + 1), MT T l c kd o) := by
  have l2 : (nI c = (8 : Int32)) = (c = 8) := lit_eq 8 rfl (by omega) (by omega)
  unfold m_M_token_b181
  by_cases h8 : c = 8
  · simp only [l2, eq_true h8, if_true]
  · simp only [l2, h8, if_false, ix8c, gd_t _ (vin_nI (show l < 60 by omega) (by omega)), nI_clamp (show l < 2 ^ 31 by omega), gd_t _ (vin_nI (show 8 * l + c < 480 by omega) (by omega)), nI_clamp (show 8 * l + c < 2 ^ 31 by omega)]
    rw [show gA (sA (sA T 6 (8 * l + c) kd) 7 (8 * l + c) o) 5 l = nI c from e, nI_1]
theorem lastK_eq {f g : Nat → Int32} {b c : Nat} (h : ∀ k, k < c → f (b + k) = g (b + k)) : lastK f b c = lastK g b c := by
  cases c with
  | zero => rfl
  | succ c => exact h c (by omega)
theorem nsl_up {f : Nat → Int32} {b m : Nat} {v : Int32} : ∀ n, n ≤ m → nsl (upd f (b + m) v) b n = nsl f b n
  | 0, _ => rfl
  | n + 1, h => by
    simp only [nsl]
    rw [nsl_up n (by omega), upd_ne (by omega)]
/-- one kind more: the kinds that may come still are such -/
theorem Tk.add {f : Nat → Int32} {b n : Nat} {kd : Int32} (h : Tk f b n) (h0 : 0 ≤ kd) (h11 : kd ≤ 11) (hg : tokGo kd (lastK f b n) (nsl f b n)) : Tk (upd f (b + n) kd) b (n + 1) := by
  obtain ⟨t1, t2, t3, t4⟩ := h
  obtain ⟨g1, g2, g3⟩ := hg
  refine ⟨?_, ?_, ?_, ?_⟩
  · intro k hk
    by_cases e : k = n
    · rw [e, upd_self]; exact ⟨h0, h11⟩
    · rw [upd_ne (by omega)]; exact t1 k (by omega)
  · intro k hk
    by_cases e : k = n
    · subst e
      rw [upd_self]
      intro q
      cases k with
      | zero =>
        have z : ((-1 : Int32) = 0 ∨ (-1 : Int32) = 1) := g1 q
        exact absurd z (by decide)
      | succ k => exact ⟨k, rfl, by rw [upd_ne (by omega)]; exact g1 q⟩
    · rw [upd_ne (by omega)]
      intro q
      obtain ⟨j, rfl, hj⟩ := t2 k (by omega) q
      exact ⟨j, rfl, by rw [upd_ne (by omega)]; exact hj⟩
  · intro k hk
    rw [upd_ne (by omega)]
    intro q
    by_cases e : k + 1 = n
    · subst e
      rw [upd_self]
      exact g2 q
    · rw [upd_ne (by omega)]; exact t3 k (by omega) q
  · simp only [nsl]
    rw [nsl_up n (Nat.le_refl n), upd_self]
    by_cases k2 : kd < 2
    · rw [if_pos k2]; exact t4
    · rw [if_neg k2]; have := g3 k2; omega
theorem Tk.other {f : Nat → Int32} {b n p : Nat} {kd : Int32} (h : Tk f b n) (hp : p < b ∨ b + n ≤ p) : Tk (upd f p kd) b n := by
  have e : ∀ k, k < n → upd f p kd (b + k) = f (b + k) := fun k hk => upd_ne (by omega)
  obtain ⟨t1, t2, t3, t4⟩ := h
  refine ⟨fun k hk => by rw [e k hk]; exact t1 k hk, fun k hk => ?_, fun k hk => ?_, ?_⟩
  · rw [e k hk]
    intro q
    obtain ⟨j, rfl, hj⟩ := t2 k hk q
    exact ⟨j, rfl, by rw [e j (by omega)]; exact hj⟩
  · rw [e k (by omega), e (k + 1) hk]; exact t3 k hk
  · rw [nsl_eq n e]; exact t4
/-- the words of a line's tokens are words -/
def ORd (S : St) : Prop := ∀ l k : Nat, l < 60 → nI k < gA S 23 l → k < 8 → gA S 24 (8 * l + k) = 0 → 0 < gA S 25 (8 * l + k) ∧ gA S 25 (8 * l + k) ≤ 19999
theorem ORd.fr {S S2 : St} (h : ORd S) (e1 : gA S2 23 = gA S 23) (e2 : gA S2 24 = gA S 24) (e3 : gA S2 25 = gA S 25) : ORd S2 := by
  unfold ORd at h ⊢
  rw [e1, e2, e3]; exact h
theorem ORd.add {S : St} {l c : Nat} {kd o : Int32} (h : ORd S) (hl : l < 60) (hc : c < 8) (e : gA S 23 l = nI c) (ho : kd = 0 → 0 < o ∧ o ≤ 19999) : ORd (XT S l c kd o) := by
  intro l2 k hl2 hk hk8 h0
  have e23 : gA (XT S l c kd o) 23 = upd (gA S 23) l (nI (c + 1)) := by
    show gA (sA (sA (sA S 24 (8 * l + c) kd) 25 (8 * l + c) o) 23 l (nI (c + 1))) 23 = _
    rw [gA_sA, if_pos rfl]; rfl
  have e24 : gA (XT S l c kd o) 24 = upd (gA S 24) (8 * l + c) kd := by
    show gA (sA S 24 (8 * l + c) kd) 24 = _
    rw [gA_sA, if_pos rfl]
  have e25 : gA (XT S l c kd o) 25 = upd (gA S 25) (8 * l + c) o := by
    show gA (sA (sA S 24 (8 * l + c) kd) 25 (8 * l + c) o) 25 = _
    rw [gA_sA, if_pos rfl]; rfl
  rw [e23] at hk
  rw [e24] at h0
  rw [e25]
  by_cases hi : 8 * l2 + k = 8 * l + c
  · rw [hi, upd_self] at h0
    rw [hi, upd_self]
    exact ho h0
  · rw [upd_ne hi] at h0 ⊢
    refine h l2 k hl2 ?_ hk8 h0
    by_cases e2 : l2 = l
    · subst e2
      rw [upd_self] at hk
      have := (nI_ltI (show k < 2 ^ 31 by omega) (show c + 1 < 2 ^ 31 by omega)).mp hk
      rw [e]
      exact nI_lt (by omega) (by omega)
    · rw [upd_ne e2] at hk; exact hk
theorem tokOK_w {o : Int32} (h : ¬ tokOK 0 o = 0) : 0 < o ∧ o ≤ 19999 := by
  unfold tokOK at h
  rw [if_neg (by decide), if_pos rfl] at h
  obtain ⟨h1, h2⟩ := btw_1 h
  have h1 := Int32.not_lt.mp h1
  have h2 := Int32.not_lt.mp h2
  exact ⟨Int32.lt_of_lt_of_le (by decide) h1, Int32.le_trans h2 (by decide)⟩
theorem token_step {S T : St} (h2 : LR S T) (v kd o : Int32) : (∃ r, x_G_token S v kd o = some (r, S) ∧ m_M_token T v kd o = some (r, T)) ∨ ∃ (l c : Nat), x_G_token S v kd o = some (nI (c + 1), XT S l c kd o) ∧ m_M_token T v kd o = some (nI (c + 1), MT T l c kd o) ∧ LR (XT S l c kd o) (MT T l c kd o) ∧ (ORd S → ORd (XT S l c kd o)) := by
  obtain ⟨n, c, hn, f1, f2, f3, f4, f5, f6, f6b, f7, f8, f9, f10, f11⟩ := h2
  by_cases hv : btw v 0 (nI n - 1) = 0
  · refine Or.inl ⟨(-101), ?_, ?_⟩
    · unfold x_G_token; simp only [x_hasL f1 hn, bind_s, hv, if_true]
    · unfold m_M_token; simp only [m_within, f2, bind_s, hv, if_true]
  obtain ⟨l, hl, rfl⟩ := btw_ix (by omega) hv
  by_cases hb : btw kd 0 11 = 0
  · have ht : tokOK kd o = 0 := by unfold tokOK; rw [if_pos hb]
    refine Or.inl ⟨(-102), ?_, ?_⟩
    · unfold x_G_token; simp only [x_hasL f1 hn, bind_s, hv, if_false, x_mayBeToken, ht, if_true]
    · unfold m_M_token; simp only [m_within, f2, bind_s, hv, if_false, hb, if_true]
  have hm : m_M_token T (nI l) kd o = if tokOK kd o = 0 then some ((-102 : Int32), T) else m_M_token_b58 T (nI l) kd o := by
    rw [← m_tokGo (nI l) kd o hb]
    unfold m_M_token
    simp only [m_within, f2, bind_s, hv, if_false, hb]
  by_cases ht : tokOK kd o = 0
  · refine Or.inl ⟨(-102), ?_, ?_⟩
    · unfold x_G_token; simp only [x_hasL f1 hn, bind_s, hv, if_false, x_mayBeToken, ht, if_true]
    · rw [hm, if_pos ht]
  obtain ⟨b0, b1⟩ := btw_1 hb
  have k0 : 0 ≤ kd := Int32.not_lt.mp b0
  have k11 : kd ≤ 11 := Int32.not_lt.mp b1
  have h8 := f7 l (by omega)
  have hT := f11 l hl
  have e6 : ∀ k, k < c l → gA S 24 (8 * l + k) = gA T 6 (8 * l + k) := fun k hk => (f10 l k hl hk).1
  have en : nsl (gA T 6) (8 * l) (c l) = nsl (gA S 24) (8 * l) (c l) := (nsl_eq (c l) e6).symm
  have el : lastK (gA T 6) (8 * l) (c l) = lastK (gA S 24) (8 * l) (c l) := (lastK_eq e6).symm
  rw [if_neg ht, m_b58 (by omega) h8.1 (f8 l hl), en, el] at hm
  obtain ⟨r, hr, hri⟩ := x_allows f1 hn f7 hl (fun k hk => (hT.1 k hk).2) hT.2.2.2 kd k11
  by_cases hg : tokGo kd (lastK (gA S 24) (8 * l) (c l)) (nsl (gA S 24) (8 * l) (c l))
  · have hr0 : ¬ r = 0 := fun q => (hri.mp q) hg
    rw [m_tokX_go kd o _ hg hT.2.2.2, m_b181 (by omega) h8.1 (f8 l hl)] at hm
    have l2 : (nI (c l) < (8 : Int32)) = (c l < 8) := lit_lt 8 rfl (by omega) (by omega)
    by_cases hc : c l = 8
    · refine Or.inl ⟨(-104), ?_, ?_⟩
      · unfold x_G_token
        simp only [x_hasL f1 hn, bind_s, hv, if_false, x_mayBeToken, ht, hr, hr0, x_kindsOf f1 hn f7 hl, l2, eq_false (show ¬ c l < 8 by omega)]
      · rw [hm, if_pos hc]
    · have hc8 : c l < 8 := by omega
      refine Or.inr ⟨l, c l, ?_, ?_, ?_, fun h => h.add (by omega) hc8 h8.2 (fun z => by subst z; exact tokOK_w ht)⟩
      · unfold x_G_token
        simp only [x_hasL f1 hn, bind_s, hv, if_false, x_mayBeToken, ht, hr, hr0, x_kindsOf f1 hn f7 hl, l2, hc8, if_true, x_addKind f1 hn f7 hl hc8]
      · rw [hm, if_neg hc]
      · refine ⟨n, fun j => if j = l then c l + 1 else c j, hn, f1, f2, f3, f4, f5, f6, f6b, ?_, ?_, ?_, ?_, ?_⟩
        · intro j hj
          show (if j = l then c l + 1 else c j) ≤ 8 ∧ upd (gA S 23) l (nI (c l + 1)) j = nI (if j = l then c l + 1 else c j)
          by_cases e : j = l
          · rw [e, upd_self, if_pos rfl]; exact ⟨by omega, rfl⟩
          · rw [upd_ne e, if_neg e]; exact f7 j hj
        · intro j hj
          show upd (gA T 5) l (nI (c l + 1)) j = nI (if j = l then c l + 1 else c j)
          by_cases e : j = l
          · rw [e, upd_self, if_pos rfl]
          · rw [upd_ne e, if_neg e]; exact f8 j hj
        · intro j hj
          show (if j = l then c l + 1 else c j) = 0
          rw [if_neg (by omega)]; exact f9 j hj
        · intro j k hj hk
          show upd (gA S 24) (8 * l + c l) kd (8 * j + k) = upd (gA T 6) (8 * l + c l) kd (8 * j + k) ∧ upd (gA S 25) (8 * l + c l) o (8 * j + k) = upd (gA T 7) (8 * l + c l) o (8 * j + k)
          by_cases e : j = l
          · subst e
            have hk : k < c j + 1 := by simpa using hk
            by_cases e2 : k = c j
            · subst e2; simp only [upd_self]; exact ⟨trivial, trivial⟩
            · simp only [upd_ne (show 8 * j + k ≠ 8 * j + c j by omega)]
              exact f10 j k hj (by omega)
          · have hk : k < c j := by simpa [e] using hk
            have := f7 j (by omega)
            simp only [upd_ne (show 8 * j + k ≠ 8 * l + c l by omega)]
            exact f10 j k hj hk
        · intro j hj
          show Tk (upd (gA S 24) (8 * l + c l) kd) (8 * j) (if j = l then c l + 1 else c j)
          by_cases e : j = l
          · subst e
            rw [if_pos rfl]
            exact hT.add k0 k11 hg
          · rw [if_neg e]
            have := f7 j (by omega)
            exact (f11 j hj).other (by omega)
  · have hr0 : r = 0 := hri.mpr hg
    rw [m_tokX_no hT.2.2.2 kd o _ hg] at hm
    refine Or.inl ⟨(-103), ?_, hm⟩
    unfold x_G_token
    simp only [x_hasL f1 hn, bind_s, hv, if_false, x_mayBeToken, ht, hr, hr0, if_true]

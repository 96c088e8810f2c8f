section APP
variable {D : va_G} {cl : List vw_C} {w1 w2 : va_W} {H : Heap} {A : Nat → Prop}
theorem ap_l {k : Nat} {q : Nat × va_E} (hk : w1[k]? = some q) : (w1 ++ w2)[k]? = some q := by rw [List.getElem?_append_left (List.getElem?_eq_some_iff.mp hk).1]; exact hk
theorem ap_r {k : Nat} {q : Nat × va_E} (hk : w2[k]? = some q) : (w1 ++ w2)[w1.length + k]? = some q := by rw [List.getElem?_append_right (by omega), Nat.add_sub_cancel_left]; exact hk
theorem P_l (h : va_P D cl (w1 ++ w2) H) : va_P D cl w1 H := fun k q hk => h k q (ap_l hk)
theorem P_r (h : va_P D cl (w1 ++ w2) H) : va_P D cl w2 H := fun k q hk => h (w1.length + k) q (ap_r hk)
theorem D_l (h : va_D A (w1 ++ w2)) : va_D A w1 := ⟨fun i j x y hi hj e => h.1 i j x y (ap_l hi) (ap_l hj) e, fun k q hk => h.2 k q (ap_l hk)⟩
theorem D_r (h : va_D A (w1 ++ w2)) : va_D A w2 := ⟨fun i j x y hi hj e => by have := h.1 _ _ x y (ap_r hi) (ap_r hj) e; omega, fun k q hk => h.2 _ q (ap_r hk)⟩
theorem D_dis (h : va_D A (w1 ++ w2)) {i j : Nat} {x y : Nat × va_E} (hi : w1[i]? = some x) (hj : w2[j]? = some y) (e : x.1 = y.1) : False := by
  have h1 := h.1 _ _ x y (ap_l hi) (ap_r hj) e
  have h2 := (List.getElem?_eq_some_iff.mp hi).1
  omega
end APP
set_option maxHeartbeats 4000000 in
set_option maxRecDepth 100000 in
theorem whole_of {Rel : St → St → Prop} (h0 : Rel xS0 mS0) (hg : GoodAll Rel) {p : Program} {e : Env} {s : State} {m : MethodId} {below : List Frame} {meth : Method} {c : Code} (l : Launch) {b L : Nat} {xs : Nat → Int32} (hL : L ≤ 2048) (C0 : lw_At p s m meth c b L xs) : W p l e room_1 s m #[Value.ref b] below meth c s.heap [] 0 0 (lw_Z below #[Value.ref b] s) (entryFrame m ([Value.ref b] : List Value).toArray 4) := by
  obtain ⟨hx, hb, hr, hml, hown, hts, hX, hbl, hlocks, hgv⟩ := id C0
  have htg : ∀ w ∈ gw, w.before #[Value.ref b] s = true := fun w h => hts w (List.mem_filter.mp h).1
  have hN : NW s := fun w h => va_Nw.of (nest_tab (List.mem_filter.mp h).2) (hts w (List.mem_filter.mp h).1)
  have hA : ∀ q : Nat, s.heap.size ≤ q → (fun q : Nat => s.heap.size ≤ q) q := fun _ h => h
  obtain ⟨c0, i0, hKn0⟩ := u_known (C := R_Row) (T := F_Row) (N := 2) (n := 2) htg in_Row (htg _ k_inst_Row)
  obtain ⟨c1, i1, hKn1⟩ := u_known (C := R_Slot) (T := F_Slot) (N := 4) (n := 4) htg in_Slot (htg _ k_inst_Slot)
  obtain ⟨c2, i2, hKn2⟩ := u_known (C := R_Phrase) (T := F_Phrase) (N := 3) (n := 3) htg in_Phrase (htg _ k_inst_Phrase)
  obtain ⟨c3, i3, hKn3⟩ := u_known (C := R_Things) (T := F_Things) (N := 8) (n := 8) htg in_Things (htg _ k_inst_Things)
  obtain ⟨c4, i4, hKn4⟩ := u_known (C := R_Verbs) (T := F_Verbs) (N := 3) (n := 3) htg in_Verbs (htg _ k_inst_Verbs)
  obtain ⟨c5, i5, hKn5⟩ := u_known (C := R_Lines) (T := F_Lines) (N := 7) (n := 7) htg in_Lines (htg _ k_inst_Lines)
  obtain ⟨c6, i6, hKn6⟩ := u_known (C := R_Values) (T := F_Values) (N := 3) (n := 3) htg in_Values (htg _ k_inst_Values)
  obtain ⟨c7, i7, hKn7⟩ := u_known (C := R_Trial) (T := F_Trial) (N := 13) (n := 13) htg in_Trial (htg _ k_inst_Trial)
  obtain ⟨c8, i8, hKn8⟩ := u_known (C := R_Report) (T := F_Report) (N := 9) (n := 9) htg in_Report (htg _ k_inst_Report)
  obtain ⟨c9, i9, hKn9⟩ := u_known (C := R_G) (T := F_G) (N := 13) (n := 13) htg in_G (htg _ k_inst_G)
  obtain ⟨c10, i10, hKn10⟩ := u_known (C := R_M) (T := F_M) (N := 56) (n := 56) htg in_M (htg _ k_inst_M)
  obtain ⟨dC, dI, hKc⟩ : ∃ (dC : Nat → ClassId) (dI : Nat → Nat → Nat), ∀ (k : Nat) (q : vw_C), classes[k]? = some q → u_Kn s q.1 q.2.1 q.2.2 (dC k) (dI k) := by
    refine ⟨fun k => [c0, c1, c2, c3, c4, c5, c6, c7, c8, c9, c10].getD k c0, fun k => [i0, i1, i2, i3, i4, i5, i6, i7, i8, i9, i10].getD k i0, ?_⟩
    intro k q hq
    match k, hq with
    | 0, hq => cases hq; exact hKn0
    | 1, hq => cases hq; exact hKn1
    | 2, hq => cases hq; exact hKn2
    | 3, hq => cases hq; exact hKn3
    | 4, hq => cases hq; exact hKn4
    | 5, hq => cases hq; exact hKn5
    | 6, hq => cases hq; exact hKn6
    | 7, hq => cases hq; exact hKn7
    | 8, hq => cases hq; exact hKn8
    | 9, hq => cases hq; exact hKn9
    | 10, hq => cases hq; exact hKn10
    | k + 11, hq => simp [classes] at hq
  obtain ⟨cI, kI, pI, aI1, aI2, aI3⟩ := Cond.arrayClass_spec (htg _ k_arr_int)
  obtain ⟨cZ, kZ, pZ, aZ1, aZ2, aZ3⟩ := Cond.arrayClass_spec (htg _ k_arr_boolean)
  obtain ⟨cJ, kJ, pJ, aJ1, aJ2, aJ3⟩ := Cond.arrayClass_spec (htg _ k_arr_long)
  have hK : va_K (dC, dI) classes [(cI, .int), (cZ, .boolean), (cJ, .long)] s := by
    refine ⟨hKc, fun k q h => ?_⟩
    match k, h with
    | 0, h => cases h; exact ⟨fun n z => ⟨fun k h => (by cases h), kI, aI2, pI, aI3⟩, aI1⟩
    | 1, h => cases h; exact ⟨fun n z => ⟨fun k h => (by cases h), kZ, aZ2, pZ, aZ3⟩, aZ1⟩
    | 2, h => cases h; exact ⟨fun n z => ⟨fun k h => (by cases h), kJ, aJ2, pJ, aJ3⟩, aJ1⟩
    | k + 3, h => simp at h
  have hS : va_S (fun q : Nat => s.heap.size ≤ q) s.heap s.heap [] := va_S.rf
  have hP : va_P (dC, dI) classes [] s.heap := fun k q h => by simp at h
  have hD : va_D (fun q : Nat => s.heap.size ≤ q) [] := ⟨fun i j p q h => by simp at h, fun k q h => by simp at h⟩
  have hl := lv_entry ([.ref b]) (n := 4) (Nat.le_of_ble_eq_true rfl)
  rw [lg_entry_eq]
  generalize (lg_sl ([.ref b]) ++ List.replicate (4 - (lg_sl ([.ref b])).length) Slot.unset).toArray = ls at hl ⊢
  have hl : lv_has ls 4 [(0, .ref b)] := hl
  refine va_new (ci := 9) (fs := [.null, .null, .null, .null, .null, .null, .null, .null, .null, .null, .null, .int 0, .int 0]) (C := R_G) (T := F_G) (N := 13) hx hb htg in_G t_G t_G_ok hown (htg _ k_k_L_7) (htg _ k_inst_G) (htg _ ji_G) hK hP hD hS hA rfl (by intro j hj; match j, hj with | 0, _ => rfl | 1, _ => rfl | 2, _ => rfl | 3, _ => rfl | 4, _ => rfl | 5, _ => rfl | 6, _ => rfl | 7, _ => rfl | 8, _ => rfl | 9, _ => rfl | 10, _ => rfl | 11, _ => rfl | 12, _ => rfl | j + 13, h => exact absurd h (by omega)) (by decide) (by decide) d_L_law_0 (fun q0 H hP hD hS => ?_)
  refine W.widen (k := 1) (n := 13) (by decide) (by decide) ?_
  refine lv_dup hx hb d_L_law_3 rfl ?_
  refine cn_I (w0 := [(q0, .inr (9, [.null, .null, .null, .null, .null, .null, .null, .null, .null, .null, .null, .int 0, .int 0]))]) (As := []) (rest := [.ref q0]) (wr := []) hx hb hml hown htg hK hN (cn_G (l := l) q0 H.size) okn_G k_m_L_9 rfl rfl hl.1 (Nat.le_of_ble_eq_true rfl) d_L_law_4 ⟨by decide, by decide⟩ ⟨by decide, by decide⟩ hP hD hS hA [0] [] rfl rfl (by decide) (by decide) (by decide) rfl (fun w1 H locs hE hP hD hS => ?_)
  obtain ⟨ao, aa, rfl, rfl⟩ := hE
  have hP : va_P (dC, dI) classes (xW cI cZ cJ ao aa xS0) H := hP
  have hD : va_D (fun q : Nat => s.heap.size ≤ q) (xW cI cZ cJ ao aa xS0) := hD
  refine W.widen (k := 54) (n := 2564) (by decide) (by decide) ?_
  refine lv_astore_n (lv' := [(1, .ref (ao 27)), (0, .ref b)]) hx hb d_L_law_7 rfl hl (by decide) rfl (fun ls hl => ?_)
  refine va_new (ci := 10) (fs := [.int 0, .int 0, .null, .null, .int 0, .null, .null, .null, .null, .null, .null, .int 0, .null, .null, .null, .int 0, .null, .null, .null, .int 0, .null, .null, .int 0, .long 0, .int 0, .int 0, .long 0, .int 0, .int 0, .int 0, .null, .int 0, .null, .int 0, .null, .null, .null, .null, .null, .null, .int 0, .null, .int 0, .int 0, .null, .null, .null, .int 0, .int 0, .int 0, .int 0, .int 0, .int 0, .int 0, .null, .int 0]) (C := R_M) (T := F_M) (N := 56) hx hb htg in_M t_M t_M_ok hown (htg _ k_k_L_10) (htg _ k_inst_M) (htg _ ji_M) hK hP hD hS hA rfl (by intro j hj; match j, hj with | 0, _ => rfl | 1, _ => rfl | 2, _ => rfl | 3, _ => rfl | 4, _ => rfl | 5, _ => rfl | 6, _ => rfl | 7, _ => rfl | 8, _ => rfl | 9, _ => rfl | 10, _ => rfl | 11, _ => rfl | 12, _ => rfl | 13, _ => rfl | 14, _ => rfl | 15, _ => rfl | 16, _ => rfl | 17, _ => rfl | 18, _ => rfl | 19, _ => rfl | 20, _ => rfl | 21, _ => rfl | 22, _ => rfl | 23, _ => rfl | 24, _ => rfl | 25, _ => rfl | 26, _ => rfl | 27, _ => rfl | 28, _ => rfl | 29, _ => rfl | 30, _ => rfl | 31, _ => rfl | 32, _ => rfl | 33, _ => rfl | 34, _ => rfl | 35, _ => rfl | 36, _ => rfl | 37, _ => rfl | 38, _ => rfl | 39, _ => rfl | 40, _ => rfl | 41, _ => rfl | 42, _ => rfl | 43, _ => rfl | 44, _ => rfl | 45, _ => rfl | 46, _ => rfl | 47, _ => rfl | 48, _ => rfl | 49, _ => rfl | 50, _ => rfl | 51, _ => rfl | 52, _ => rfl | 53, _ => rfl | 54, _ => rfl | 55, _ => rfl | j + 56, h => exact absurd h (by omega)) (by decide) (by decide) d_L_law_8 (fun q1 H hP hD hS => ?_)
  refine W.widen (k := 55) (n := 2620) (by decide) (by decide) ?_
  refine lv_dup hx hb d_L_law_11 rfl ?_
  refine cn_I (w0 := [(q1, .inr (10, [.int 0, .int 0, .null, .null, .int 0, .null, .null, .null, .null, .null, .null, .int 0, .null, .null, .null, .int 0, .null, .null, .null, .int 0, .null, .null, .int 0, .long 0, .int 0, .int 0, .long 0, .int 0, .int 0, .int 0, .null, .int 0, .null, .int 0, .null, .null, .null, .null, .null, .null, .int 0, .null, .int 0, .int 0, .null, .null, .null, .int 0, .int 0, .int 0, .int 0, .int 0, .int 0, .int 0, .null, .int 0]))]) (As := []) (rest := [.ref q1]) (wr := xW cI cZ cJ ao aa xS0) hx hb hml hown htg hK hN (cn_M (l := l) q1 H.size) okn_M k_m_L_12 rfl rfl hl.1 (Nat.le_of_ble_eq_true rfl) d_L_law_12 ⟨by decide, by decide⟩ ⟨by decide, by decide⟩ hP hD hS hA [54] [0, 1, 2, 3, 4, 5, 6, 7, 8, 9, 10, 11, 12, 13, 14, 15, 16, 17, 18, 19, 20, 21, 22, 23, 24, 25, 26, 27, 28, 29, 30, 31, 32, 33, 34, 35, 36, 37, 38, 39, 40, 41, 42, 43, 44, 45, 46, 47, 48, 49, 50, 51, 52, 53] rfl rfl (by decide) (by decide) (by decide) rfl (fun w1 H locs hE hP hD hS => ?_)
  obtain ⟨mo, ma, rfl, rfl⟩ := hE
  refine W.widen (k := 84) (n := 4748) (by decide) (by decide) ?_
  refine lv_astore_n (lv' := [(2, .ref (mo 0)), (1, .ref (ao 27)), (0, .ref b)]) hx hb d_L_law_15 rfl hl (by decide) rfl (fun ls hl => ?_)
  refine lv_iconst (v := 0) hx hb d_L_law_16 (by decide) ?_
  refine lv_istore_n (lv' := [(3, .int 0), (2, .ref (mo 0)), (1, .ref (ao 27)), (0, .ref b)]) hx hb d_L_law_17 rfl hl (by decide) rfl (fun ls hl => ?_)
  refine W.widen (k := 600000) (n := 7302250) (by decide) (by decide) ?_
  have C : LC p s m meth c b L xs (dC, dI) cI cZ cJ ao aa mo ma := ⟨hx, hb, hr, hml, hown, htg, hlocks, hX, hbl, hK, hN, fun S => ⟨(D_fst (D_l hD) (w2 := xW cI cZ cJ ao aa S) rfl).1, x_mem⟩, fun S => ⟨(D_fst (D_r hD) (w2 := mW cI cZ cJ mo ma S) rfl).1, m_mem⟩, fun q h1 h2 => by
      obtain ⟨k1, r1, g1, e1⟩ := x_cell (cI := cI) (cZ := cZ) (cJ := cJ) (S := xS0) h1
      obtain ⟨k2, r2, g2, e2⟩ := m_cell (cI := cI) (cZ := cZ) (cJ := cJ) (S := mS0) h2
      exact D_dis hD g1 g2 (e1.trans e2.symm), fun q h1 => by
      obtain ⟨k1, r1, g1, e1⟩ := x_cell (cI := cI) (cZ := cZ) (cJ := cJ) (S := xS0) h1
      rw [← e1]; exact (D_l hD).2 k1 r1 g1, fun q h1 => by
      obtain ⟨k1, r1, g1, e1⟩ := m_cell (cI := cI) (cZ := cZ) (cJ := cJ) (S := mS0) h1
      rw [← e1]; exact (D_r hD).2 k1 r1 g1⟩
  exact law_loop hg C hL 2053 0 (by omega) (by omega) xS0 mS0 h0 H locs ls (P_l hP) (P_r hP) hS (lv_sub hl [3, 2, 1, 0] rfl)

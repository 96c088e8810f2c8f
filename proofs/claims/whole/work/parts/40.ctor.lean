theorem cI_eq {D : va_G} {cI cZ cJ cA : ClassId} {s : State} (h : va_K D classes ([(cI, .int), (cZ, .boolean), (cJ, .long)] ++ [(cA, .int)]) s) : cA = cI := Option.some.inj (((h.2 3 (cA, .int) rfl).2 : s.vm.findClass _ = some cA).symm.trans ((h.2 0 (cI, .int) rfl).2 : s.vm.findClass _ = some cI))
theorem cZ_eq {D : va_G} {cI cZ cJ cA : ClassId} {s : State} (h : va_K D classes ([(cI, .int), (cZ, .boolean), (cJ, .long)] ++ [(cA, .boolean)]) s) : cA = cZ := Option.some.inj (((h.2 3 (cA, .boolean) rfl).2 : s.vm.findClass _ = some cA).symm.trans ((h.2 1 (cZ, .boolean) rfl).2 : s.vm.findClass _ = some cZ))
theorem cJ_eq {D : va_G} {cI cZ cJ cA : ClassId} {s : State} (h : va_K D classes ([(cI, .int), (cZ, .boolean), (cJ, .long)] ++ [(cA, .long)]) s) : cA = cJ := Option.some.inj (((h.2 3 (cA, .long) rfl).2 : s.vm.findClass _ = some cA).symm.trans ((h.2 2 (cJ, .long) rfl).2 : s.vm.findClass _ = some cJ))
def QN (D : va_G) (A : Nat → Prop) (E : va_W → Prop) : Array Value → State → Outcome → State → Prop := fun _ st oc t => (oc = .returned none ∧ ∃ w1 : va_W, E w1 ∧ va_P D classes w1 t.heap ∧ va_D A w1) ∧ va_F A st t
def PN (D : va_G) (tys : List (ClassId × FieldType)) (av : List Value) (w0 : va_W) (sz : Nat) : Array Value → State → Prop := va_Pc av (fun U => U.heap.size = sz ∧ va_P D classes w0 U.heap ∧ va_K D classes tys U ∧ NW U ∧ va_D (fun _ => True) w0)
theorem PN_blind {D : va_G} {tys : List (ClassId × FieldType)} {av : List Value} {w0 : va_W} {sz : Nat} : FrameBlind (PN D tys av w0 sz) := fun a U g mk q => by
  obtain ⟨q0, qz, qP, qK, qN, qD⟩ := q
  exact ⟨q0, qz, qP, va_K.moved (u := U) (U := U.calling g mk a) (Vm.Alike.refl U.vm) qK, NW.same (s := U) (U := U.calling g mk a) rfl qN, qD⟩
/-- a constructor: from its own cell, w0, to the cells that E tells; mc cells of ms slots are new -/
def CtN (l : Launch) (y : MethodName) (ws : List Cond) (rm : Room) (D : va_G) (tys : List (ClassId × FieldType)) (av : List Value) (w0 : va_W) (sz : Nat) (E : va_W → Prop) (mc ms : Nat) : Prop := Met l y ws rm (PN D tys av w0 sz) (QN D (va_A w0 sz) E) mc ms (va_A w0 sz)
def CalN (y : MethodName) (bytes : ByteArray) (maxL : Nat) (n : Nat) (rm : Room) (mc ms : Nat) : Prop := Cond.code y bytes maxL none ∈ gw ∧ Cond.instanceMethod y ∈ gw ∧ Cond.initialized y.cls ∈ gw ∧ nm2 y n ∧ y.name = "<init>" ∧ rm.cells = mc ∧ rm.slots = ms
section CN
variable {p : Program} {l : Launch} {e : Env} {R : Room} {s : State} {m : MethodId} {args : Array Value} {below : List Frame} {meth : Method} {c : Code} {H : Heap} {locs : List Loc} {Q : State → Prop} {cells slots : Nat}
variable {D : va_G} {tys : List (ClassId × FieldType)} {A : Nat → Prop} {y : MethodName} {bytes cc : ByteArray} {maxL nL n index pc mc ms : Nat} {rm : Room} {own host : String} {b : Addr} {As rest st0 : List Value} {ls : Array Slot} {a : Array Value} {E : va_W → Prop} {ws w0 wr : va_W}
theorem fin_cn (hr : va_Run p l e R s m args below meth c H locs cells slots mc ms (F0 m pc ls st0) rest (QN D (va_A w0 H.size) E a) (va_A w0 H.size)) (hP : va_P D classes ws H) (hD : va_D A ws) (hS : va_S A s.heap H locs) (hA : ∀ q, s.heap.size ≤ q → A q) (isC isR : List Nat) (hC : isC.map (fun i => ws[i]?) = w0.map some) (hR : isR.map (fun i => ws[i]?) = wr.map some) (hn : va_nd isR = true) (hdis : ∀ i ∈ isR, i ∉ isC)
    (kk : ∀ (w1 : va_W) (H1 : Heap) (locs1 : List Loc), E w1 → va_P D classes (wr ++ w1) H1 → va_D A (wr ++ w1) → va_S A s.heap H1 locs1 → W p l e R s m args below meth c H1 locs1 (cells + mc) (slots + ms) Q (F0 m (pc + 3) ls rest)) : W p l e R s m args below meth c H locs cells slots Q (F0 m pc ls st0) := by
  have hF := va_free hD hS hA isC hC
  intro T hT X
  obtain ⟨w, st₀, t, T2, L, h0, X2, hL, e1, e2, ⟨⟨hv, w1, hE, hp, hd⟩, hz, hk⟩, st⟩ := hr T hT X
  cases hv
  rw [h0] at hz hk
  obtain ⟨hP1, hD1⟩ := va_join (wr := wr) (w1 := w1) (H1 := T2.heap) hP hD isC isR hC hR hn hdis (fun q h1 h2 => by rw [e1]; exact hk q h1 h2) hF (by rw [e1]; exact hp) hd
  obtain ⟨t2, a1, b1⟩ := kk w1 T2.heap (locs ++ L) hE hP1 hD1 ⟨Nat.le_trans hS.1 (by rw [e1]; exact hz), fun q h1 h2 => by rw [e1, hk q (Nat.lt_of_lt_of_le h1 hS.1) (fun z => h2 (hF q z))]; exact hS.2.1 q h1 h2, fun q hq => by
      rcases List.mem_append.mp hq with h | h
      · exact hS.2.2 q h
      · exact hF _ (hL q h)⟩ T2 rfl X2
  exact ⟨t2, st t2 a1, b1⟩
theorem cn_I (hx : p.tables.exec = Jvm.exec) (hb : c.code = cc) (hml : c.maxLocals = nL) (hown : s.vm.findClass own = some m.cls) (htg : ∀ w ∈ gw, w.before args s = true) (hK : va_K D classes tys s) (hN : NW s) (hM : CtN l y (.code y bytes maxL none :: gw) rm D tys (.ref b :: As) w0 H.size E mc ms) (ok : CalN y bytes maxL n rm mc ms) (hlink : Cond.methodLink own index y ∈ gw) (hst : st0 = As.reverse ++ .ref b :: rest) (hn : As.length = n) (hsz : ls.size = nL) (hW : (rest.map fun v => v.category).sum ≤ 8) (hdg : decode cc pc = .ok (.invokespecial index, 3)) (hR : rm.frames + 1 ≤ R.frames ∧ 8 + (maxL + 11) + rm.locals ≤ R.locals) (hcs : cells + mc ≤ R.cells ∧ slots + ms ≤ R.slots) (hP : va_P D classes ws H) (hD : va_D A ws) (hS : va_S A s.heap H locs) (hA : ∀ q, s.heap.size ≤ q → A q) (isC isR : List Nat) (hC : isC.map (fun i => ws[i]?) = w0.map some) (hR2 : isR.map (fun i => ws[i]?) = wr.map some) (hnd : va_nd isR = true) (hndC : va_nd isC = true) (hdis : ∀ i ∈ isR, i ∉ isC) (hC2 : isC.filterMap (fun i => ws[i]?) = w0)
    (kk : ∀ (w1 : va_W) (H1 : Heap) (locs1 : List Loc), E w1 → va_P D classes (wr ++ w1) H1 → va_D A (wr ++ w1) → va_S A s.heap H1 locs1 → W p l e R s m args below meth c H1 locs1 (cells + mc) (slots + ms) Q (F0 m (pc + 3) ls rest)) : W p l e R s m args below meth c H locs cells slots Q (F0 m pc ls st0) := by
  obtain ⟨hcode, hinst, hini, hd, hnm, hc0, hs0⟩ := ok
  have cw : CallB R s args own index y bytes maxL none (.code y bytes maxL none :: gw) rm mc ms n ∧ y.name = "<init>" ∧ (Cond.instanceMethod y).before args s = true := ⟨callB_of n htg (good_code hcode) rfl hc0 hs0 (htg _ hini) (htg _ hlink) hd hR, hnm, htg _ hinst⟩
  exact fin_cn (va_runI (As := As) (rest := rest) ⟨hx, hb, hml, hown, htg⟩ hM cw ⟨PN_blind, fun U hU hW2 => ⟨rfl, by rw [hU], by rw [hU]; exact hP.sub isC hC2, va_K.moved hW2.alike hK, NW.warm hW2 hN, (hD.sub isC hndC hC).weaken (fun _ _ _ _ => trivial)⟩⟩ rfl hn hsz hst (lv_room hW) hdg hcs) hP hD hS hA isC isR hC hR2 hnd hdis kk
theorem cn_N (hx : p.tables.exec = Jvm.exec) (hb : c.code = cc) (hml : c.maxLocals = nL) (hown : s.vm.findClass own = some m.cls) (htg : ∀ w ∈ gw, w.before args s = true) (hK : va_K D classes tys s) (hN : NW s) (hM : CtN l y (.code y bytes maxL none :: gw) rm D tys (.ref b :: As) w0 H.size E mc ms) (ok : CalN y bytes maxL n rm mc ms) (hlink : Cond.methodLinkNest own index y host ∈ nw) (hst : st0 = As.reverse ++ .ref b :: rest) (hn : As.length = n) (hsz : ls.size = nL) (hW : (rest.map fun v => v.category).sum ≤ 8) (hdg : decode cc pc = .ok (.invokespecial index, 3)) (hR : rm.frames + 1 ≤ R.frames ∧ 8 + (maxL + 11) + rm.locals ≤ R.locals) (hcs : cells + mc ≤ R.cells ∧ slots + ms ≤ R.slots) (hP : va_P D classes ws H) (hD : va_D A ws) (hS : va_S A s.heap H locs) (hA : ∀ q, s.heap.size ≤ q → A q) (isC isR : List Nat) (hC : isC.map (fun i => ws[i]?) = w0.map some) (hR2 : isR.map (fun i => ws[i]?) = wr.map some) (hnd : va_nd isR = true) (hndC : va_nd isC = true) (hdis : ∀ i ∈ isR, i ∉ isC) (hC2 : isC.filterMap (fun i => ws[i]?) = w0)
    (kk : ∀ (w1 : va_W) (H1 : Heap) (locs1 : List Loc), E w1 → va_P D classes (wr ++ w1) H1 → va_D A (wr ++ w1) → va_S A s.heap H1 locs1 → W p l e R s m args below meth c H1 locs1 (cells + mc) (slots + ms) Q (F0 m (pc + 3) ls rest)) : W p l e R s m args below meth c H locs cells slots Q (F0 m pc ls st0) := by
  obtain ⟨hcode, hinst, hini, hd, hnm, hc0, hs0⟩ := ok
  have cw := va_cnB (R := R) (own := own) (index := index) n htg (good_code hcode) rfl hc0 hs0 (hN _ hlink) (htg _ hini) hd hR
  exact fin_cn (va_runIN (As := As) (rest := rest) ⟨hx, hb, hml, hown, htg⟩ hM ⟨cw, hnm, htg _ hinst⟩ ⟨PN_blind, fun U hU hW2 => ⟨rfl, by rw [hU], by rw [hU]; exact hP.sub isC hC2, va_K.moved hW2.alike hK, NW.warm hW2 hN, (hD.sub isC hndC hC).weaken (fun _ _ _ _ => trivial)⟩⟩ rfl hn hsz hst (lv_room hW) hdg hcs) hP hD hS hA isC isR hC hR2 hnd hdis kk
end CN
def rmn_Row : Room := { frames := 1, cells := 1, slots := 60, locals := 21 }
theorem okn_Row : CalN y_Row_init b_Row_init 2 1 rmn_Row 1 60 := ⟨kc_Row_init, ki_Row_init, ji_Row, ⟨by decide, by decide, by decide +kernel⟩, rfl, rfl, rfl⟩
set_option maxHeartbeats 4000000 in
set_option maxRecDepth 100000 in
theorem cn_Row {l : Launch} {D : va_G} {cI cZ cJ : ClassId} (h0 : Nat) (sz : Nat) (n : Nat) (hn : n ≤ 60) : CtN l y_Row_init (.code y_Row_init b_Row_init 2 none :: gw) rmn_Row D [(cI, .int), (cZ, .boolean), (cJ, .long)] [.ref h0, .int (nI n)] [(h0, .inr (0, [.null, .int 0]))] sz (fun w : va_W => ∃ (q0 : Nat), w = [(h0, .inr (0, [.ref q0, .int 0])), (q0, .inl (cI, n, .inl (fun _ => 0)))]) 1 60 := by
  refine Met.ofW (cc := b_Row_init) (maxL := 2) (ret := none) (by decide) rfl ?_
  intro p e s m args below meth c s₁ B hml hv
  obtain ⟨rfl, hsz, hP, hK, hN, hD0⟩ := hv
  have hx := B.exec
  have hb := B.bytes
  have hr0 := B.returns
  have hts := atoms_spec (ws := .code y_Row_init b_Row_init 2 none :: gw) B.pre
  have htg : ∀ w ∈ gw, w.before _ s = true := fun w h => hts w (List.mem_cons_of_mem _ h)
  have hown : s.vm.findClass R_Row = some m.cls := findClass_of_methodNamed B.named
  have hlk := B.notSynchronized
  have hin : meth.name = "<init>" := (name_of_methodNamed B.named B.method).1
  subst hsz
  have hD := hD0.self (sz := s.heap.size)
  generalize hAe : va_A [(h0, .inr (0, [.null, .int 0]))] s.heap.size = A at hD ⊢
  have hA : ∀ q : Nat, s.heap.size ≤ q → A q := fun q h => by rw [← hAe]; exact Or.inr h
  have hS : va_S A s.heap s.heap [] := va_S.rf
  have hl := lv_entry ([.ref h0, .int (nI n)]) (n := 2) (Nat.le_of_ble_eq_true rfl)
  rw [lg_entry_eq]
  generalize (lg_sl ([.ref h0, .int (nI n)]) ++ List.replicate (2 - (lg_sl ([.ref h0, .int (nI n)])).length) Slot.unset).toArray = ls at hl ⊢
  have hl : lv_has ls 2 [(0, .ref h0), (1, .int (nI n))] := hl
  refine lv_aload_n hx hb d_Row_init_0 rfl (lv_at hl 0 rfl) ?_
  refine W.objInit hx hb hown (htg _ k_m_Row_3) (htg _ ki_obj) (htg _ kc_obj) rfl (by rw [hml]; exact hl.1) rfl d_Row_init_1 (Nat.le_of_ble_eq_true rfl) (Nat.le_of_ble_eq_true rfl) ?_
  refine W.eq (g2 := F0 m 4 ls []) rfl ?_
  refine lv_aload_n hx hb d_Row_init_4 rfl (lv_at hl 0 rfl) ?_
  refine lv_iload_n hx hb d_Row_init_5 rfl (lv_at hl 1 rfl) ?_
  refine lv_iconst (v := 0) hx hb d_Row_init_6 (by decide) ?_
  refine va_mmax hx hb (hml.trans hl.1.symm) hown (htg _ k_m_Row_9) (htg _ k_static_JMath_max) (htg _ k_initialized_JMath) (htg _ k_code_JMath_max) (by decide) (Nat.le_of_ble_eq_true rfl) (Nat.zero_le _) (Nat.zero_le _) d_Row_init_7 ?_
  rw [show (if nI n < 0 then (0 : Int32) else nI n) = nI n from if_neg (nI_pos (by omega))]
  refine va_newa (atype := .int) (n := (nI n)) (a0 := (n, .inl (fun _ => 0))) (ty := .int) hx hb (htg _ k_arr_int) rfl hK hP hD hS hA (fun _ => rfl) (nI_pos (by omega)) (nI_clamp (by omega)) (by show n * 4 ≤ _; omega) (by decide) (by show 0 + n ≤ 60; omega) d_Row_init_10 (fun q0 cA H hK2 hP hD hS => ?_)
  obtain rfl := (cI_eq hK2).symm
  have hP : va_P D classes [(h0, .inr (0, [.null, .int 0])), (q0, .inl (cI, n, .inl (fun _ => 0)))] H := hP
  have hD : va_D A [(h0, .inr (0, [.null, .int 0])), (q0, .inl (cI, n, .inl (fun _ => 0)))] := hD
  refine W.widen (k := 1) (n := 60) (by decide) (by show 0 + n ≤ 60; omega) ?_
  refine va_putF (D := D) (ci := 0) (v := .ref q0) (ty := .array .int) (C := R_Row) (T := F_Row) (N := 2) hx hb htg in_Row t_Row t_Row_ok n_Row hown hK hP hD hS 0 rfl rfl 0 (by decide) (htg _ k_f_Row_15) (fun _ h9 => h9) rfl hin rfl (by decide +kernel) rfl rfl (Nat.le_of_ble_eq_true rfl) d_Row_init_12 (fun H locs hP hD hS => ?_)
  have hP : va_P D classes [(h0, .inr (0, [.ref q0, .int 0])), (q0, .inl (cI, n, .inl (fun _ => 0)))] H := hP
  have hD : va_D A [(h0, .inr (0, [.ref q0, .int 0])), (q0, .inl (cI, n, .inl (fun _ => 0)))] := hD
  exact W.vret hx hb hr0 (fun t ht _ => ⟨⟨rfl, _, ⟨q0, rfl⟩, by rw [ht]; exact hP, hD⟩, hS.F ht⟩) hS.2.2 d_Row_init_15 hlk
def rmn_Slot : Room := { frames := 2, cells := 2, slots := 62, locals := 42 }
theorem okn_Slot : CalN y_Slot_init b_Slot_init 1 0 rmn_Slot 2 62 := ⟨kc_Slot_init, ki_Slot_init, ji_Slot, ⟨by decide, by decide, by decide +kernel⟩, rfl, rfl, rfl⟩
set_option maxHeartbeats 4000000 in
set_option maxRecDepth 100000 in
theorem cn_Slot {l : Launch} {D : va_G} {cI cZ cJ : ClassId} (h0 : Nat) (sz : Nat) : CtN l y_Slot_init (.code y_Slot_init b_Slot_init 1 none :: gw) rmn_Slot D [(cI, .int), (cZ, .boolean), (cJ, .long)] [.ref h0] [(h0, .inr (1, [.null, .int 0, .int 0, .long 0]))] sz (fun w : va_W => ∃ (q0 : Nat) (q1 : Nat), w = [(h0, .inr (1, [.ref q0, .int (-1), .int (-1), .long 0])), (q0, .inr (0, [.ref q1, .int 0])), (q1, .inl (cI, 60, .inl (fun _ => 0)))]) 2 62 := by
  refine Met.ofW (cc := b_Slot_init) (maxL := 1) (ret := none) (by decide) rfl ?_
  intro p e s m args below meth c s₁ B hml hv
  obtain ⟨rfl, hsz, hP, hK, hN, hD0⟩ := hv
  have hx := B.exec
  have hb := B.bytes
  have hr0 := B.returns
  have hts := atoms_spec (ws := .code y_Slot_init b_Slot_init 1 none :: gw) B.pre
  have htg : ∀ w ∈ gw, w.before _ s = true := fun w h => hts w (List.mem_cons_of_mem _ h)
  have hown : s.vm.findClass R_Slot = some m.cls := findClass_of_methodNamed B.named
  have hlk := B.notSynchronized
  have hin : meth.name = "<init>" := (name_of_methodNamed B.named B.method).1
  subst hsz
  have hD := hD0.self (sz := s.heap.size)
  generalize hAe : va_A [(h0, .inr (1, [.null, .int 0, .int 0, .long 0]))] s.heap.size = A at hD ⊢
  have hA : ∀ q : Nat, s.heap.size ≤ q → A q := fun q h => by rw [← hAe]; exact Or.inr h
  have hS : va_S A s.heap s.heap [] := va_S.rf
  have hl := lv_entry ([.ref h0]) (n := 1) (Nat.le_of_ble_eq_true rfl)
  rw [lg_entry_eq]
  generalize (lg_sl ([.ref h0]) ++ List.replicate (1 - (lg_sl ([.ref h0])).length) Slot.unset).toArray = ls at hl ⊢
  have hl : lv_has ls 1 [(0, .ref h0)] := hl
  refine lv_aload_n hx hb d_Slot_init_0 rfl (lv_at hl 0 rfl) ?_
  refine W.objInit hx hb hown (htg _ k_m_Slot_3) (htg _ ki_obj) (htg _ kc_obj) rfl (by rw [hml]; exact hl.1) rfl d_Slot_init_1 (Nat.le_of_ble_eq_true rfl) (Nat.le_of_ble_eq_true rfl) ?_
  refine W.eq (g2 := F0 m 4 ls []) rfl ?_
  refine lv_aload_n hx hb d_Slot_init_4 rfl (lv_at hl 0 rfl) ?_
  refine va_new (ci := 0) (fs := [.null, .int 0]) (C := R_Row) (T := F_Row) (N := 2) hx hb htg in_Row t_Row t_Row_ok hown (htg _ k_k_Slot_9) (htg _ k_inst_Row) (htg _ ji_Row) hK hP hD hS hA rfl (by intro j hj; match j, hj with | 0, _ => rfl | 1, _ => rfl | j + 2, h => exact absurd h (by omega)) (by decide) (by decide) d_Slot_init_5 (fun q0 H hP hD hS => ?_)
  have hP : va_P D classes [(h0, .inr (1, [.null, .int 0, .int 0, .long 0])), (q0, .inr (0, [.null, .int 0]))] H := hP
  have hD : va_D A [(h0, .inr (1, [.null, .int 0, .int 0, .long 0])), (q0, .inr (0, [.null, .int 0]))] := hD
  refine W.widen (k := 1) (n := 2) (by decide) (by decide) ?_
  refine lv_dup hx hb d_Slot_init_8 rfl ?_
  refine lv_bipush (v := 60) hx hb d_Slot_init_9 (by decide) ?_
  refine cn_I (As := [.int 60]) (rest := [.ref q0, .ref h0]) (wr := [(h0, .inr (1, [.null, .int 0, .int 0, .long 0]))]) hx hb hml hown htg hK hN (cn_Row (l := l) q0 H.size 60 (by decide)) okn_Row k_m_Slot_11 rfl rfl hl.1 (Nat.le_of_ble_eq_true rfl) d_Slot_init_11 ⟨by decide, by decide⟩ ⟨by decide, by decide⟩ hP hD hS hA [1] [0] rfl rfl (by decide) (by decide) (by decide) rfl (fun w1 H locs hE hP hD hS => ?_)
  obtain ⟨q1, rfl⟩ := hE
  have hP : va_P D classes [(h0, .inr (1, [.null, .int 0, .int 0, .long 0])), (q0, .inr (0, [.ref q1, .int 0])), (q1, .inl (cI, 60, .inl (fun _ => 0)))] H := hP
  have hD : va_D A [(h0, .inr (1, [.null, .int 0, .int 0, .long 0])), (q0, .inr (0, [.ref q1, .int 0])), (q1, .inl (cI, 60, .inl (fun _ => 0)))] := hD
  refine W.widen (k := 2) (n := 62) (by decide) (by decide) ?_
  refine va_putF (D := D) (ci := 1) (v := .ref q0) (ty := .object "GrammarLines$Row") (C := R_Slot) (T := F_Slot) (N := 4) hx hb htg in_Slot t_Slot t_Slot_ok n_Slot hown hK hP hD hS 0 rfl rfl 0 (by decide) (htg _ k_f_Slot_14) (fun _ h9 => h9) rfl hin rfl (by decide +kernel) rfl rfl (Nat.le_of_ble_eq_true rfl) d_Slot_init_14 (fun H locs hP hD hS => ?_)
  have hP : va_P D classes [(h0, .inr (1, [.ref q0, .int 0, .int 0, .long 0])), (q0, .inr (0, [.ref q1, .int 0])), (q1, .inl (cI, 60, .inl (fun _ => 0)))] H := hP
  have hD : va_D A [(h0, .inr (1, [.ref q0, .int 0, .int 0, .long 0])), (q0, .inr (0, [.ref q1, .int 0])), (q1, .inl (cI, 60, .inl (fun _ => 0)))] := hD
  refine lv_aload_n hx hb d_Slot_init_17 rfl (lv_at hl 0 rfl) ?_
  refine lv_iconst (v := (-1)) hx hb d_Slot_init_18 (by decide) ?_
  refine va_put (D := D) (ci := 1) (v := .int (-1)) (ty := .int) (C := R_Slot) (T := F_Slot) (N := 4) hx hb htg in_Slot t_Slot t_Slot_ok n_Slot hown hK hP hD hS 0 rfl rfl 1 (by decide) (htg _ k_f_Slot_20) (fun _ h9 => h9) rfl (by decide +kernel) rfl rfl (Nat.le_of_ble_eq_true rfl) d_Slot_init_19 (fun H locs hP hD hS => ?_)
  have hP : va_P D classes [(h0, .inr (1, [.ref q0, .int (-1), .int 0, .long 0])), (q0, .inr (0, [.ref q1, .int 0])), (q1, .inl (cI, 60, .inl (fun _ => 0)))] H := hP
  have hD : va_D A [(h0, .inr (1, [.ref q0, .int (-1), .int 0, .long 0])), (q0, .inr (0, [.ref q1, .int 0])), (q1, .inl (cI, 60, .inl (fun _ => 0)))] := hD
  refine lv_aload_n hx hb d_Slot_init_22 rfl (lv_at hl 0 rfl) ?_
  refine lv_iconst (v := (-1)) hx hb d_Slot_init_23 (by decide) ?_
  refine va_put (D := D) (ci := 1) (v := .int (-1)) (ty := .int) (C := R_Slot) (T := F_Slot) (N := 4) hx hb htg in_Slot t_Slot t_Slot_ok n_Slot hown hK hP hD hS 0 rfl rfl 2 (by decide) (htg _ k_f_Slot_24) (fun _ h9 => h9) rfl (by decide +kernel) rfl rfl (Nat.le_of_ble_eq_true rfl) d_Slot_init_24 (fun H locs hP hD hS => ?_)
  have hP : va_P D classes [(h0, .inr (1, [.ref q0, .int (-1), .int (-1), .long 0])), (q0, .inr (0, [.ref q1, .int 0])), (q1, .inl (cI, 60, .inl (fun _ => 0)))] H := hP
  have hD : va_D A [(h0, .inr (1, [.ref q0, .int (-1), .int (-1), .long 0])), (q0, .inr (0, [.ref q1, .int 0])), (q1, .inl (cI, 60, .inl (fun _ => 0)))] := hD
  exact W.vret hx hb hr0 (fun t ht _ => ⟨⟨rfl, _, ⟨q0, q1, rfl⟩, by rw [ht]; exact hP, hD⟩, hS.F ht⟩) hS.2.2 d_Slot_init_27 hlk
def rmn_Phrase : Room := { frames := 1, cells := 0, slots := 0, locals := 20 }
theorem okn_Phrase : CalN y_Phrase_init b_Phrase_init 2 1 rmn_Phrase 0 0 := ⟨kc_Phrase_init, ki_Phrase_init, ji_Phrase, ⟨by decide, by decide, by decide +kernel⟩, rfl, rfl, rfl⟩
set_option maxHeartbeats 4000000 in
set_option maxRecDepth 100000 in
theorem cn_Phrase {l : Launch} {D : va_G} {cI cZ cJ : ClassId} (h0 : Nat) (sz : Nat) (g0 : Nat) : CtN l y_Phrase_init (.code y_Phrase_init b_Phrase_init 2 none :: gw) rmn_Phrase D [(cI, .int), (cZ, .boolean), (cJ, .long)] [.ref h0, .ref g0] [(h0, .inr (2, [.null, .long 0, .int 0]))] sz (fun w : va_W => w = [(h0, .inr (2, [.ref g0, .long 0, .int 0]))]) 0 0 := by
  refine Met.ofW (cc := b_Phrase_init) (maxL := 2) (ret := none) (by decide) rfl ?_
  intro p e s m args below meth c s₁ B hml hv
  obtain ⟨rfl, hsz, hP, hK, hN, hD0⟩ := hv
  have hx := B.exec
  have hb := B.bytes
  have hr0 := B.returns
  have hts := atoms_spec (ws := .code y_Phrase_init b_Phrase_init 2 none :: gw) B.pre
  have htg : ∀ w ∈ gw, w.before _ s = true := fun w h => hts w (List.mem_cons_of_mem _ h)
  have hown : s.vm.findClass R_Phrase = some m.cls := findClass_of_methodNamed B.named
  have hlk := B.notSynchronized
  have hin : meth.name = "<init>" := (name_of_methodNamed B.named B.method).1
  subst hsz
  have hD := hD0.self (sz := s.heap.size)
  generalize hAe : va_A [(h0, .inr (2, [.null, .long 0, .int 0]))] s.heap.size = A at hD ⊢
  have hA : ∀ q : Nat, s.heap.size ≤ q → A q := fun q h => by rw [← hAe]; exact Or.inr h
  have hS : va_S A s.heap s.heap [] := va_S.rf
  have hl := lv_entry ([.ref h0, .ref g0]) (n := 2) (Nat.le_of_ble_eq_true rfl)
  rw [lg_entry_eq]
  generalize (lg_sl ([.ref h0, .ref g0]) ++ List.replicate (2 - (lg_sl ([.ref h0, .ref g0])).length) Slot.unset).toArray = ls at hl ⊢
  have hl : lv_has ls 2 [(0, .ref h0), (1, .ref g0)] := hl
  refine lv_aload_n hx hb d_Phrase_init_0 rfl (lv_at hl 0 rfl) ?_
  refine W.objInit hx hb hown (htg _ k_m_Phrase_1) (htg _ ki_obj) (htg _ kc_obj) rfl (by rw [hml]; exact hl.1) rfl d_Phrase_init_1 (Nat.le_of_ble_eq_true rfl) (Nat.le_of_ble_eq_true rfl) ?_
  refine W.eq (g2 := F0 m 4 ls []) rfl ?_
  refine lv_aload_n hx hb d_Phrase_init_4 rfl (lv_at hl 0 rfl) ?_
  refine lv_aload_n hx hb d_Phrase_init_5 rfl (lv_at hl 1 rfl) ?_
  refine va_putF (D := D) (ci := 2) (v := .ref g0) (ty := .object "GrammarLines$Things") (C := R_Phrase) (T := F_Phrase) (N := 3) hx hb htg in_Phrase t_Phrase t_Phrase_ok n_Phrase hown hK hP hD hS 0 rfl rfl 0 (by decide) (htg _ k_f_Phrase_7) (fun _ h9 => h9) rfl hin rfl (by decide +kernel) rfl rfl (Nat.le_of_ble_eq_true rfl) d_Phrase_init_6 (fun H locs hP hD hS => ?_)
  have hP : va_P D classes [(h0, .inr (2, [.ref g0, .long 0, .int 0]))] H := hP
  have hD : va_D A [(h0, .inr (2, [.ref g0, .long 0, .int 0]))] := hD
  exact W.vret hx hb hr0 (fun t ht _ => ⟨⟨rfl, _, rfl, by rw [ht]; exact hP, hD⟩, hS.F ht⟩) hS.2.2 d_Phrase_init_9 hlk
def rmn_Things : Room := { frames := 1, cells := 3, slots := 240, locals := 20 }
theorem okn_Things : CalN y_Things_init b_Things_init 1 0 rmn_Things 3 240 := ⟨kc_Things_init, ki_Things_init, ji_Things, ⟨by decide, by decide, by decide +kernel⟩, rfl, rfl, rfl⟩
set_option maxHeartbeats 4000000 in
set_option maxRecDepth 100000 in
theorem cn_Things {l : Launch} {D : va_G} {cI cZ cJ : ClassId} (h0 : Nat) (sz : Nat) : CtN l y_Things_init (.code y_Things_init b_Things_init 1 none :: gw) rmn_Things D [(cI, .int), (cZ, .boolean), (cJ, .long)] [.ref h0] [(h0, .inr (3, [.null, .null, .null, .int 0, .long 0, .long 0, .long 0, .long 0]))] sz (fun w : va_W => ∃ (q0 : Nat) (q1 : Nat) (q2 : Nat), w = [(h0, .inr (3, [.ref q0, .ref q1, .ref q2, .int 0, .long 0, .long 0, .long 0, .long 0])), (q0, .inl (cI, 40, .inl (fun _ => 0))), (q1, .inl (cI, 40, .inl (fun _ => 0))), (q2, .inl (cI, 160, .inl (fun _ => 0)))]) 3 240 := by
  refine Met.ofW (cc := b_Things_init) (maxL := 1) (ret := none) (by decide) rfl ?_
  intro p e s m args below meth c s₁ B hml hv
  obtain ⟨rfl, hsz, hP, hK, hN, hD0⟩ := hv
  have hx := B.exec
  have hb := B.bytes
  have hr0 := B.returns
  have hts := atoms_spec (ws := .code y_Things_init b_Things_init 1 none :: gw) B.pre
  have htg : ∀ w ∈ gw, w.before _ s = true := fun w h => hts w (List.mem_cons_of_mem _ h)
  have hown : s.vm.findClass R_Things = some m.cls := findClass_of_methodNamed B.named
  have hlk := B.notSynchronized
  have hin : meth.name = "<init>" := (name_of_methodNamed B.named B.method).1
  subst hsz
  have hD := hD0.self (sz := s.heap.size)
  generalize hAe : va_A [(h0, .inr (3, [.null, .null, .null, .int 0, .long 0, .long 0, .long 0, .long 0]))] s.heap.size = A at hD ⊢
  have hA : ∀ q : Nat, s.heap.size ≤ q → A q := fun q h => by rw [← hAe]; exact Or.inr h
  have hS : va_S A s.heap s.heap [] := va_S.rf
  have hl := lv_entry ([.ref h0]) (n := 1) (Nat.le_of_ble_eq_true rfl)
  rw [lg_entry_eq]
  generalize (lg_sl ([.ref h0]) ++ List.replicate (1 - (lg_sl ([.ref h0])).length) Slot.unset).toArray = ls at hl ⊢
  have hl : lv_has ls 1 [(0, .ref h0)] := hl
  refine lv_aload_n hx hb d_Things_init_0 rfl (lv_at hl 0 rfl) ?_
  refine W.objInit hx hb hown (htg _ k_m_Things_3) (htg _ ki_obj) (htg _ kc_obj) rfl (by rw [hml]; exact hl.1) rfl d_Things_init_1 (Nat.le_of_ble_eq_true rfl) (Nat.le_of_ble_eq_true rfl) ?_
  refine W.eq (g2 := F0 m 4 ls []) rfl ?_
  refine lv_aload_n hx hb d_Things_init_4 rfl (lv_at hl 0 rfl) ?_
  refine lv_bipush (v := 40) hx hb d_Things_init_5 (by decide) ?_
  refine va_newa (atype := .int) (n := 40) (a0 := (40, .inl (fun _ => 0))) (ty := .int) hx hb (htg _ k_arr_int) rfl hK hP hD hS hA (fun _ => rfl) (by decide) (by decide) (by decide) (by decide) (by decide) d_Things_init_7 (fun q0 cA H hK2 hP hD hS => ?_)
  obtain rfl := (cI_eq hK2).symm
  have hP : va_P D classes [(h0, .inr (3, [.null, .null, .null, .int 0, .long 0, .long 0, .long 0, .long 0])), (q0, .inl (cI, 40, .inl (fun _ => 0)))] H := hP
  have hD : va_D A [(h0, .inr (3, [.null, .null, .null, .int 0, .long 0, .long 0, .long 0, .long 0])), (q0, .inl (cI, 40, .inl (fun _ => 0)))] := hD
  refine W.widen (k := 1) (n := 40) (by decide) (by decide) ?_
  refine va_putF (D := D) (ci := 3) (v := .ref q0) (ty := .array .int) (C := R_Things) (T := F_Things) (N := 8) hx hb htg in_Things t_Things t_Things_ok n_Things hown hK hP hD hS 0 rfl rfl 0 (by decide) (htg _ k_f_Things_9) (fun _ h9 => h9) rfl hin rfl (by decide +kernel) rfl rfl (Nat.le_of_ble_eq_true rfl) d_Things_init_9 (fun H locs hP hD hS => ?_)
  have hP : va_P D classes [(h0, .inr (3, [.ref q0, .null, .null, .int 0, .long 0, .long 0, .long 0, .long 0])), (q0, .inl (cI, 40, .inl (fun _ => 0)))] H := hP
  have hD : va_D A [(h0, .inr (3, [.ref q0, .null, .null, .int 0, .long 0, .long 0, .long 0, .long 0])), (q0, .inl (cI, 40, .inl (fun _ => 0)))] := hD
  refine lv_aload_n hx hb d_Things_init_12 rfl (lv_at hl 0 rfl) ?_
  refine lv_bipush (v := 40) hx hb d_Things_init_13 (by decide) ?_
  refine va_newa (atype := .int) (n := 40) (a0 := (40, .inl (fun _ => 0))) (ty := .int) hx hb (htg _ k_arr_int) rfl hK hP hD hS hA (fun _ => rfl) (by decide) (by decide) (by decide) (by decide) (by decide) d_Things_init_15 (fun q1 cA H hK2 hP hD hS => ?_)
  obtain rfl := (cI_eq hK2).symm
  have hP : va_P D classes [(h0, .inr (3, [.ref q0, .null, .null, .int 0, .long 0, .long 0, .long 0, .long 0])), (q0, .inl (cI, 40, .inl (fun _ => 0))), (q1, .inl (cI, 40, .inl (fun _ => 0)))] H := hP
  have hD : va_D A [(h0, .inr (3, [.ref q0, .null, .null, .int 0, .long 0, .long 0, .long 0, .long 0])), (q0, .inl (cI, 40, .inl (fun _ => 0))), (q1, .inl (cI, 40, .inl (fun _ => 0)))] := hD
  refine W.widen (k := 2) (n := 80) (by decide) (by decide) ?_
  refine va_putF (D := D) (ci := 3) (v := .ref q1) (ty := .array .int) (C := R_Things) (T := F_Things) (N := 8) hx hb htg in_Things t_Things t_Things_ok n_Things hown hK hP hD hS 0 rfl rfl 1 (by decide) (htg _ k_f_Things_15) (fun _ h9 => h9) rfl hin rfl (by decide +kernel) rfl rfl (Nat.le_of_ble_eq_true rfl) d_Things_init_17 (fun H locs hP hD hS => ?_)
  have hP : va_P D classes [(h0, .inr (3, [.ref q0, .ref q1, .null, .int 0, .long 0, .long 0, .long 0, .long 0])), (q0, .inl (cI, 40, .inl (fun _ => 0))), (q1, .inl (cI, 40, .inl (fun _ => 0)))] H := hP
  have hD : va_D A [(h0, .inr (3, [.ref q0, .ref q1, .null, .int 0, .long 0, .long 0, .long 0, .long 0])), (q0, .inl (cI, 40, .inl (fun _ => 0))), (q1, .inl (cI, 40, .inl (fun _ => 0)))] := hD
  refine lv_aload_n hx hb d_Things_init_20 rfl (lv_at hl 0 rfl) ?_
  refine lv_sipush (v := 160) hx hb d_Things_init_21 (by decide) ?_
  refine va_newa (atype := .int) (n := 160) (a0 := (160, .inl (fun _ => 0))) (ty := .int) hx hb (htg _ k_arr_int) rfl hK hP hD hS hA (fun _ => rfl) (by decide) (by decide) (by decide) (by decide) (by decide) d_Things_init_24 (fun q2 cA H hK2 hP hD hS => ?_)
  obtain rfl := (cI_eq hK2).symm
  have hP : va_P D classes [(h0, .inr (3, [.ref q0, .ref q1, .null, .int 0, .long 0, .long 0, .long 0, .long 0])), (q0, .inl (cI, 40, .inl (fun _ => 0))), (q1, .inl (cI, 40, .inl (fun _ => 0))), (q2, .inl (cI, 160, .inl (fun _ => 0)))] H := hP
  have hD : va_D A [(h0, .inr (3, [.ref q0, .ref q1, .null, .int 0, .long 0, .long 0, .long 0, .long 0])), (q0, .inl (cI, 40, .inl (fun _ => 0))), (q1, .inl (cI, 40, .inl (fun _ => 0))), (q2, .inl (cI, 160, .inl (fun _ => 0)))] := hD
  refine W.widen (k := 3) (n := 240) (by decide) (by decide) ?_
  refine va_putF (D := D) (ci := 3) (v := .ref q2) (ty := .array .int) (C := R_Things) (T := F_Things) (N := 8) hx hb htg in_Things t_Things t_Things_ok n_Things hown hK hP hD hS 0 rfl rfl 2 (by decide) (htg _ k_f_Things_18) (fun _ h9 => h9) rfl hin rfl (by decide +kernel) rfl rfl (Nat.le_of_ble_eq_true rfl) d_Things_init_26 (fun H locs hP hD hS => ?_)
  have hP : va_P D classes [(h0, .inr (3, [.ref q0, .ref q1, .ref q2, .int 0, .long 0, .long 0, .long 0, .long 0])), (q0, .inl (cI, 40, .inl (fun _ => 0))), (q1, .inl (cI, 40, .inl (fun _ => 0))), (q2, .inl (cI, 160, .inl (fun _ => 0)))] H := hP
  have hD : va_D A [(h0, .inr (3, [.ref q0, .ref q1, .ref q2, .int 0, .long 0, .long 0, .long 0, .long 0])), (q0, .inl (cI, 40, .inl (fun _ => 0))), (q1, .inl (cI, 40, .inl (fun _ => 0))), (q2, .inl (cI, 160, .inl (fun _ => 0)))] := hD
  exact W.vret hx hb hr0 (fun t ht _ => ⟨⟨rfl, _, ⟨q0, q1, q2, rfl⟩, by rw [ht]; exact hP, hD⟩, hS.F ht⟩) hS.2.2 d_Things_init_29 hlk
def rmn_Verbs : Room := { frames := 2, cells := 4, slots := 124, locals := 42 }
theorem okn_Verbs : CalN y_Verbs_init b_Verbs_init 1 0 rmn_Verbs 4 124 := ⟨kc_Verbs_init, ki_Verbs_init, ji_Verbs, ⟨by decide, by decide, by decide +kernel⟩, rfl, rfl, rfl⟩
set_option maxHeartbeats 4000000 in
set_option maxRecDepth 100000 in
theorem cn_Verbs {l : Launch} {D : va_G} {cI cZ cJ : ClassId} (h0 : Nat) (sz : Nat) : CtN l y_Verbs_init (.code y_Verbs_init b_Verbs_init 1 none :: gw) rmn_Verbs D [(cI, .int), (cZ, .boolean), (cJ, .long)] [.ref h0] [(h0, .inr (4, [.null, .null, .int 0]))] sz (fun w : va_W => ∃ (q0 : Nat) (q1 : Nat) (q2 : Nat) (q3 : Nat), w = [(h0, .inr (4, [.ref q0, .ref q2, .int 0])), (q0, .inr (0, [.ref q1, .int 0])), (q1, .inl (cI, 60, .inl (fun _ => 0))), (q2, .inr (0, [.ref q3, .int 0])), (q3, .inl (cI, 60, .inl (fun _ => 0)))]) 4 124 := by
  refine Met.ofW (cc := b_Verbs_init) (maxL := 1) (ret := none) (by decide) rfl ?_
  intro p e s m args below meth c s₁ B hml hv
  obtain ⟨rfl, hsz, hP, hK, hN, hD0⟩ := hv
  have hx := B.exec
  have hb := B.bytes
  have hr0 := B.returns
  have hts := atoms_spec (ws := .code y_Verbs_init b_Verbs_init 1 none :: gw) B.pre
  have htg : ∀ w ∈ gw, w.before _ s = true := fun w h => hts w (List.mem_cons_of_mem _ h)
  have hown : s.vm.findClass R_Verbs = some m.cls := findClass_of_methodNamed B.named
  have hlk := B.notSynchronized
  have hin : meth.name = "<init>" := (name_of_methodNamed B.named B.method).1
  subst hsz
  have hD := hD0.self (sz := s.heap.size)
  generalize hAe : va_A [(h0, .inr (4, [.null, .null, .int 0]))] s.heap.size = A at hD ⊢
  have hA : ∀ q : Nat, s.heap.size ≤ q → A q := fun q h => by rw [← hAe]; exact Or.inr h
  have hS : va_S A s.heap s.heap [] := va_S.rf
  have hl := lv_entry ([.ref h0]) (n := 1) (Nat.le_of_ble_eq_true rfl)
  rw [lg_entry_eq]
  generalize (lg_sl ([.ref h0]) ++ List.replicate (1 - (lg_sl ([.ref h0])).length) Slot.unset).toArray = ls at hl ⊢
  have hl : lv_has ls 1 [(0, .ref h0)] := hl
  refine lv_aload_n hx hb d_Verbs_init_0 rfl (lv_at hl 0 rfl) ?_
  refine W.objInit hx hb hown (htg _ k_m_Verbs_3) (htg _ ki_obj) (htg _ kc_obj) rfl (by rw [hml]; exact hl.1) rfl d_Verbs_init_1 (Nat.le_of_ble_eq_true rfl) (Nat.le_of_ble_eq_true rfl) ?_
  refine W.eq (g2 := F0 m 4 ls []) rfl ?_
  refine lv_aload_n hx hb d_Verbs_init_4 rfl (lv_at hl 0 rfl) ?_
  refine va_new (ci := 0) (fs := [.null, .int 0]) (C := R_Row) (T := F_Row) (N := 2) hx hb htg in_Row t_Row t_Row_ok hown (htg _ k_k_Verbs_9) (htg _ k_inst_Row) (htg _ ji_Row) hK hP hD hS hA rfl (by intro j hj; match j, hj with | 0, _ => rfl | 1, _ => rfl | j + 2, h => exact absurd h (by omega)) (by decide) (by decide) d_Verbs_init_5 (fun q0 H hP hD hS => ?_)
  have hP : va_P D classes [(h0, .inr (4, [.null, .null, .int 0])), (q0, .inr (0, [.null, .int 0]))] H := hP
  have hD : va_D A [(h0, .inr (4, [.null, .null, .int 0])), (q0, .inr (0, [.null, .int 0]))] := hD
  refine W.widen (k := 1) (n := 2) (by decide) (by decide) ?_
  refine lv_dup hx hb d_Verbs_init_8 rfl ?_
  refine lv_bipush (v := 60) hx hb d_Verbs_init_9 (by decide) ?_
  refine cn_I (As := [.int 60]) (rest := [.ref q0, .ref h0]) (wr := [(h0, .inr (4, [.null, .null, .int 0]))]) hx hb hml hown htg hK hN (cn_Row (l := l) q0 H.size 60 (by decide)) okn_Row k_m_Verbs_11 rfl rfl hl.1 (Nat.le_of_ble_eq_true rfl) d_Verbs_init_11 ⟨by decide, by decide⟩ ⟨by decide, by decide⟩ hP hD hS hA [1] [0] rfl rfl (by decide) (by decide) (by decide) rfl (fun w1 H locs hE hP hD hS => ?_)
  obtain ⟨q1, rfl⟩ := hE
  have hP : va_P D classes [(h0, .inr (4, [.null, .null, .int 0])), (q0, .inr (0, [.ref q1, .int 0])), (q1, .inl (cI, 60, .inl (fun _ => 0)))] H := hP
  have hD : va_D A [(h0, .inr (4, [.null, .null, .int 0])), (q0, .inr (0, [.ref q1, .int 0])), (q1, .inl (cI, 60, .inl (fun _ => 0)))] := hD
  refine W.widen (k := 2) (n := 62) (by decide) (by decide) ?_
  refine va_putF (D := D) (ci := 4) (v := .ref q0) (ty := .object "GrammarLines$Row") (C := R_Verbs) (T := F_Verbs) (N := 3) hx hb htg in_Verbs t_Verbs t_Verbs_ok n_Verbs hown hK hP hD hS 0 rfl rfl 0 (by decide) (htg _ k_f_Verbs_14) (fun _ h9 => h9) rfl hin rfl (by decide +kernel) rfl rfl (Nat.le_of_ble_eq_true rfl) d_Verbs_init_14 (fun H locs hP hD hS => ?_)
  have hP : va_P D classes [(h0, .inr (4, [.ref q0, .null, .int 0])), (q0, .inr (0, [.ref q1, .int 0])), (q1, .inl (cI, 60, .inl (fun _ => 0)))] H := hP
  have hD : va_D A [(h0, .inr (4, [.ref q0, .null, .int 0])), (q0, .inr (0, [.ref q1, .int 0])), (q1, .inl (cI, 60, .inl (fun _ => 0)))] := hD
  refine lv_aload_n hx hb d_Verbs_init_17 rfl (lv_at hl 0 rfl) ?_
  refine va_new (ci := 0) (fs := [.null, .int 0]) (C := R_Row) (T := F_Row) (N := 2) hx hb htg in_Row t_Row t_Row_ok hown (htg _ k_k_Verbs_9) (htg _ k_inst_Row) (htg _ ji_Row) hK hP hD hS hA rfl (by intro j hj; match j, hj with | 0, _ => rfl | 1, _ => rfl | j + 2, h => exact absurd h (by omega)) (by decide) (by decide) d_Verbs_init_18 (fun q2 H hP hD hS => ?_)
  have hP : va_P D classes [(h0, .inr (4, [.ref q0, .null, .int 0])), (q0, .inr (0, [.ref q1, .int 0])), (q1, .inl (cI, 60, .inl (fun _ => 0))), (q2, .inr (0, [.null, .int 0]))] H := hP
  have hD : va_D A [(h0, .inr (4, [.ref q0, .null, .int 0])), (q0, .inr (0, [.ref q1, .int 0])), (q1, .inl (cI, 60, .inl (fun _ => 0))), (q2, .inr (0, [.null, .int 0]))] := hD
  refine W.widen (k := 3) (n := 64) (by decide) (by decide) ?_
  refine lv_dup hx hb d_Verbs_init_21 rfl ?_
  refine lv_bipush (v := 60) hx hb d_Verbs_init_22 (by decide) ?_
  refine cn_I (As := [.int 60]) (rest := [.ref q2, .ref h0]) (wr := [(h0, .inr (4, [.ref q0, .null, .int 0])), (q0, .inr (0, [.ref q1, .int 0])), (q1, .inl (cI, 60, .inl (fun _ => 0)))]) hx hb hml hown htg hK hN (cn_Row (l := l) q2 H.size 60 (by decide)) okn_Row k_m_Verbs_11 rfl rfl hl.1 (Nat.le_of_ble_eq_true rfl) d_Verbs_init_24 ⟨by decide, by decide⟩ ⟨by decide, by decide⟩ hP hD hS hA [3] [0, 1, 2] rfl rfl (by decide) (by decide) (by decide) rfl (fun w1 H locs hE hP hD hS => ?_)
  obtain ⟨q3, rfl⟩ := hE
  have hP : va_P D classes [(h0, .inr (4, [.ref q0, .null, .int 0])), (q0, .inr (0, [.ref q1, .int 0])), (q1, .inl (cI, 60, .inl (fun _ => 0))), (q2, .inr (0, [.ref q3, .int 0])), (q3, .inl (cI, 60, .inl (fun _ => 0)))] H := hP
  have hD : va_D A [(h0, .inr (4, [.ref q0, .null, .int 0])), (q0, .inr (0, [.ref q1, .int 0])), (q1, .inl (cI, 60, .inl (fun _ => 0))), (q2, .inr (0, [.ref q3, .int 0])), (q3, .inl (cI, 60, .inl (fun _ => 0)))] := hD
  refine W.widen (k := 4) (n := 124) (by decide) (by decide) ?_
  refine va_putF (D := D) (ci := 4) (v := .ref q2) (ty := .object "GrammarLines$Row") (C := R_Verbs) (T := F_Verbs) (N := 3) hx hb htg in_Verbs t_Verbs t_Verbs_ok n_Verbs hown hK hP hD hS 0 rfl rfl 1 (by decide) (htg _ k_f_Verbs_20) (fun _ h9 => h9) rfl hin rfl (by decide +kernel) rfl rfl (Nat.le_of_ble_eq_true rfl) d_Verbs_init_27 (fun H locs hP hD hS => ?_)
  have hP : va_P D classes [(h0, .inr (4, [.ref q0, .ref q2, .int 0])), (q0, .inr (0, [.ref q1, .int 0])), (q1, .inl (cI, 60, .inl (fun _ => 0))), (q2, .inr (0, [.ref q3, .int 0])), (q3, .inl (cI, 60, .inl (fun _ => 0)))] H := hP
  have hD : va_D A [(h0, .inr (4, [.ref q0, .ref q2, .int 0])), (q0, .inr (0, [.ref q1, .int 0])), (q1, .inl (cI, 60, .inl (fun _ => 0))), (q2, .inr (0, [.ref q3, .int 0])), (q3, .inl (cI, 60, .inl (fun _ => 0)))] := hD
  exact W.vret hx hb hr0 (fun t ht _ => ⟨⟨rfl, _, ⟨q0, q1, q2, q3, rfl⟩, by rw [ht]; exact hP, hD⟩, hS.F ht⟩) hS.2.2 d_Verbs_init_30 hlk
def rmn_Lines : Room := { frames := 1, cells := 6, slots := 1200, locals := 20 }
theorem okn_Lines : CalN y_Lines_init b_Lines_init 1 0 rmn_Lines 6 1200 := ⟨kc_Lines_init, ki_Lines_init, ji_Lines, ⟨by decide, by decide, by decide +kernel⟩, rfl, rfl, rfl⟩
set_option maxHeartbeats 4000000 in
set_option maxRecDepth 100000 in
theorem cn_Lines {l : Launch} {D : va_G} {cI cZ cJ : ClassId} (h0 : Nat) (sz : Nat) : CtN l y_Lines_init (.code y_Lines_init b_Lines_init 1 none :: gw) rmn_Lines D [(cI, .int), (cZ, .boolean), (cJ, .long)] [.ref h0] [(h0, .inr (5, [.null, .null, .null, .null, .null, .null, .int 0]))] sz (fun w : va_W => ∃ (q0 : Nat) (q1 : Nat) (q2 : Nat) (q3 : Nat) (q4 : Nat) (q5 : Nat), w = [(h0, .inr (5, [.ref q0, .ref q1, .ref q2, .ref q3, .ref q4, .ref q5, .int 0])), (q0, .inl (cI, 60, .inl (fun _ => 0))), (q1, .inl (cI, 60, .inl (fun _ => 0))), (q2, .inl (cZ, 60, .inl (fun _ => 0))), (q3, .inl (cI, 60, .inl (fun _ => 0))), (q4, .inl (cI, 480, .inl (fun _ => 0))), (q5, .inl (cI, 480, .inl (fun _ => 0)))]) 6 1200 := by
  refine Met.ofW (cc := b_Lines_init) (maxL := 1) (ret := none) (by decide) rfl ?_
  intro p e s m args below meth c s₁ B hml hv
  obtain ⟨rfl, hsz, hP, hK, hN, hD0⟩ := hv
  have hx := B.exec
  have hb := B.bytes
  have hr0 := B.returns
  have hts := atoms_spec (ws := .code y_Lines_init b_Lines_init 1 none :: gw) B.pre
  have htg : ∀ w ∈ gw, w.before _ s = true := fun w h => hts w (List.mem_cons_of_mem _ h)
  have hown : s.vm.findClass R_Lines = some m.cls := findClass_of_methodNamed B.named
  have hlk := B.notSynchronized
  have hin : meth.name = "<init>" := (name_of_methodNamed B.named B.method).1
  subst hsz
  have hD := hD0.self (sz := s.heap.size)
  generalize hAe : va_A [(h0, .inr (5, [.null, .null, .null, .null, .null, .null, .int 0]))] s.heap.size = A at hD ⊢
  have hA : ∀ q : Nat, s.heap.size ≤ q → A q := fun q h => by rw [← hAe]; exact Or.inr h
  have hS : va_S A s.heap s.heap [] := va_S.rf
  have hl := lv_entry ([.ref h0]) (n := 1) (Nat.le_of_ble_eq_true rfl)
  rw [lg_entry_eq]
  generalize (lg_sl ([.ref h0]) ++ List.replicate (1 - (lg_sl ([.ref h0])).length) Slot.unset).toArray = ls at hl ⊢
  have hl : lv_has ls 1 [(0, .ref h0)] := hl
  refine lv_aload_n hx hb d_Lines_init_0 rfl (lv_at hl 0 rfl) ?_
  refine W.objInit hx hb hown (htg _ k_m_Lines_3) (htg _ ki_obj) (htg _ kc_obj) rfl (by rw [hml]; exact hl.1) rfl d_Lines_init_1 (Nat.le_of_ble_eq_true rfl) (Nat.le_of_ble_eq_true rfl) ?_
  refine W.eq (g2 := F0 m 4 ls []) rfl ?_
  refine lv_aload_n hx hb d_Lines_init_4 rfl (lv_at hl 0 rfl) ?_
  refine lv_bipush (v := 60) hx hb d_Lines_init_5 (by decide) ?_
  refine va_newa (atype := .int) (n := 60) (a0 := (60, .inl (fun _ => 0))) (ty := .int) hx hb (htg _ k_arr_int) rfl hK hP hD hS hA (fun _ => rfl) (by decide) (by decide) (by decide) (by decide) (by decide) d_Lines_init_7 (fun q0 cA H hK2 hP hD hS => ?_)
  obtain rfl := (cI_eq hK2).symm
  have hP : va_P D classes [(h0, .inr (5, [.null, .null, .null, .null, .null, .null, .int 0])), (q0, .inl (cI, 60, .inl (fun _ => 0)))] H := hP
  have hD : va_D A [(h0, .inr (5, [.null, .null, .null, .null, .null, .null, .int 0])), (q0, .inl (cI, 60, .inl (fun _ => 0)))] := hD
  refine W.widen (k := 1) (n := 60) (by decide) (by decide) ?_
  refine va_putF (D := D) (ci := 5) (v := .ref q0) (ty := .array .int) (C := R_Lines) (T := F_Lines) (N := 7) hx hb htg in_Lines t_Lines t_Lines_ok n_Lines hown hK hP hD hS 0 rfl rfl 0 (by decide) (htg _ k_f_Lines_9) (fun _ h9 => h9) rfl hin rfl (by decide +kernel) rfl rfl (Nat.le_of_ble_eq_true rfl) d_Lines_init_9 (fun H locs hP hD hS => ?_)
  have hP : va_P D classes [(h0, .inr (5, [.ref q0, .null, .null, .null, .null, .null, .int 0])), (q0, .inl (cI, 60, .inl (fun _ => 0)))] H := hP
  have hD : va_D A [(h0, .inr (5, [.ref q0, .null, .null, .null, .null, .null, .int 0])), (q0, .inl (cI, 60, .inl (fun _ => 0)))] := hD
  refine lv_aload_n hx hb d_Lines_init_12 rfl (lv_at hl 0 rfl) ?_
  refine lv_bipush (v := 60) hx hb d_Lines_init_13 (by decide) ?_
  refine va_newa (atype := .int) (n := 60) (a0 := (60, .inl (fun _ => 0))) (ty := .int) hx hb (htg _ k_arr_int) rfl hK hP hD hS hA (fun _ => rfl) (by decide) (by decide) (by decide) (by decide) (by decide) d_Lines_init_15 (fun q1 cA H hK2 hP hD hS => ?_)
  obtain rfl := (cI_eq hK2).symm
  have hP : va_P D classes [(h0, .inr (5, [.ref q0, .null, .null, .null, .null, .null, .int 0])), (q0, .inl (cI, 60, .inl (fun _ => 0))), (q1, .inl (cI, 60, .inl (fun _ => 0)))] H := hP
  have hD : va_D A [(h0, .inr (5, [.ref q0, .null, .null, .null, .null, .null, .int 0])), (q0, .inl (cI, 60, .inl (fun _ => 0))), (q1, .inl (cI, 60, .inl (fun _ => 0)))] := hD
  refine W.widen (k := 2) (n := 120) (by decide) (by decide) ?_
  refine va_putF (D := D) (ci := 5) (v := .ref q1) (ty := .array .int) (C := R_Lines) (T := F_Lines) (N := 7) hx hb htg in_Lines t_Lines t_Lines_ok n_Lines hown hK hP hD hS 0 rfl rfl 1 (by decide) (htg _ k_f_Lines_15) (fun _ h9 => h9) rfl hin rfl (by decide +kernel) rfl rfl (Nat.le_of_ble_eq_true rfl) d_Lines_init_17 (fun H locs hP hD hS => ?_)
  have hP : va_P D classes [(h0, .inr (5, [.ref q0, .ref q1, .null, .null, .null, .null, .int 0])), (q0, .inl (cI, 60, .inl (fun _ => 0))), (q1, .inl (cI, 60, .inl (fun _ => 0)))] H := hP
  have hD : va_D A [(h0, .inr (5, [.ref q0, .ref q1, .null, .null, .null, .null, .int 0])), (q0, .inl (cI, 60, .inl (fun _ => 0))), (q1, .inl (cI, 60, .inl (fun _ => 0)))] := hD
  refine lv_aload_n hx hb d_Lines_init_20 rfl (lv_at hl 0 rfl) ?_
  refine lv_bipush (v := 60) hx hb d_Lines_init_21 (by decide) ?_
  refine va_newa (atype := .boolean) (n := 60) (a0 := (60, .inl (fun _ => 0))) (ty := .boolean) hx hb (htg _ k_arr_boolean) rfl hK hP hD hS hA (fun _ => rfl) (by decide) (by decide) (by decide) (by decide) (by decide) d_Lines_init_23 (fun q2 cA H hK2 hP hD hS => ?_)
  obtain rfl := (cZ_eq hK2).symm
  have hP : va_P D classes [(h0, .inr (5, [.ref q0, .ref q1, .null, .null, .null, .null, .int 0])), (q0, .inl (cI, 60, .inl (fun _ => 0))), (q1, .inl (cI, 60, .inl (fun _ => 0))), (q2, .inl (cZ, 60, .inl (fun _ => 0)))] H := hP
  have hD : va_D A [(h0, .inr (5, [.ref q0, .ref q1, .null, .null, .null, .null, .int 0])), (q0, .inl (cI, 60, .inl (fun _ => 0))), (q1, .inl (cI, 60, .inl (fun _ => 0))), (q2, .inl (cZ, 60, .inl (fun _ => 0)))] := hD
  refine W.widen (k := 3) (n := 180) (by decide) (by decide) ?_
  refine va_putF (D := D) (ci := 5) (v := .ref q2) (ty := .array .boolean) (C := R_Lines) (T := F_Lines) (N := 7) hx hb htg in_Lines t_Lines t_Lines_ok n_Lines hown hK hP hD hS 0 rfl rfl 2 (by decide) (htg _ k_f_Lines_18) (fun _ h9 => h9) rfl hin rfl (by decide +kernel) rfl rfl (Nat.le_of_ble_eq_true rfl) d_Lines_init_25 (fun H locs hP hD hS => ?_)
  have hP : va_P D classes [(h0, .inr (5, [.ref q0, .ref q1, .ref q2, .null, .null, .null, .int 0])), (q0, .inl (cI, 60, .inl (fun _ => 0))), (q1, .inl (cI, 60, .inl (fun _ => 0))), (q2, .inl (cZ, 60, .inl (fun _ => 0)))] H := hP
  have hD : va_D A [(h0, .inr (5, [.ref q0, .ref q1, .ref q2, .null, .null, .null, .int 0])), (q0, .inl (cI, 60, .inl (fun _ => 0))), (q1, .inl (cI, 60, .inl (fun _ => 0))), (q2, .inl (cZ, 60, .inl (fun _ => 0)))] := hD
  refine lv_aload_n hx hb d_Lines_init_28 rfl (lv_at hl 0 rfl) ?_
  refine lv_bipush (v := 60) hx hb d_Lines_init_29 (by decide) ?_
  refine va_newa (atype := .int) (n := 60) (a0 := (60, .inl (fun _ => 0))) (ty := .int) hx hb (htg _ k_arr_int) rfl hK hP hD hS hA (fun _ => rfl) (by decide) (by decide) (by decide) (by decide) (by decide) d_Lines_init_31 (fun q3 cA H hK2 hP hD hS => ?_)
  obtain rfl := (cI_eq hK2).symm
  have hP : va_P D classes [(h0, .inr (5, [.ref q0, .ref q1, .ref q2, .null, .null, .null, .int 0])), (q0, .inl (cI, 60, .inl (fun _ => 0))), (q1, .inl (cI, 60, .inl (fun _ => 0))), (q2, .inl (cZ, 60, .inl (fun _ => 0))), (q3, .inl (cI, 60, .inl (fun _ => 0)))] H := hP
  have hD : va_D A [(h0, .inr (5, [.ref q0, .ref q1, .ref q2, .null, .null, .null, .int 0])), (q0, .inl (cI, 60, .inl (fun _ => 0))), (q1, .inl (cI, 60, .inl (fun _ => 0))), (q2, .inl (cZ, 60, .inl (fun _ => 0))), (q3, .inl (cI, 60, .inl (fun _ => 0)))] := hD
  refine W.widen (k := 4) (n := 240) (by decide) (by decide) ?_
  refine va_putF (D := D) (ci := 5) (v := .ref q3) (ty := .array .int) (C := R_Lines) (T := F_Lines) (N := 7) hx hb htg in_Lines t_Lines t_Lines_ok n_Lines hown hK hP hD hS 0 rfl rfl 3 (by decide) (htg _ k_f_Lines_22) (fun _ h9 => h9) rfl hin rfl (by decide +kernel) rfl rfl (Nat.le_of_ble_eq_true rfl) d_Lines_init_33 (fun H locs hP hD hS => ?_)
  have hP : va_P D classes [(h0, .inr (5, [.ref q0, .ref q1, .ref q2, .ref q3, .null, .null, .int 0])), (q0, .inl (cI, 60, .inl (fun _ => 0))), (q1, .inl (cI, 60, .inl (fun _ => 0))), (q2, .inl (cZ, 60, .inl (fun _ => 0))), (q3, .inl (cI, 60, .inl (fun _ => 0)))] H := hP
  have hD : va_D A [(h0, .inr (5, [.ref q0, .ref q1, .ref q2, .ref q3, .null, .null, .int 0])), (q0, .inl (cI, 60, .inl (fun _ => 0))), (q1, .inl (cI, 60, .inl (fun _ => 0))), (q2, .inl (cZ, 60, .inl (fun _ => 0))), (q3, .inl (cI, 60, .inl (fun _ => 0)))] := hD
  refine lv_aload_n hx hb d_Lines_init_36 rfl (lv_at hl 0 rfl) ?_
  refine lv_sipush (v := 480) hx hb d_Lines_init_37 (by decide) ?_
  refine va_newa (atype := .int) (n := 480) (a0 := (480, .inl (fun _ => 0))) (ty := .int) hx hb (htg _ k_arr_int) rfl hK hP hD hS hA (fun _ => rfl) (by decide) (by decide) (by decide) (by decide) (by decide) d_Lines_init_40 (fun q4 cA H hK2 hP hD hS => ?_)
  obtain rfl := (cI_eq hK2).symm
  have hP : va_P D classes [(h0, .inr (5, [.ref q0, .ref q1, .ref q2, .ref q3, .null, .null, .int 0])), (q0, .inl (cI, 60, .inl (fun _ => 0))), (q1, .inl (cI, 60, .inl (fun _ => 0))), (q2, .inl (cZ, 60, .inl (fun _ => 0))), (q3, .inl (cI, 60, .inl (fun _ => 0))), (q4, .inl (cI, 480, .inl (fun _ => 0)))] H := hP
  have hD : va_D A [(h0, .inr (5, [.ref q0, .ref q1, .ref q2, .ref q3, .null, .null, .int 0])), (q0, .inl (cI, 60, .inl (fun _ => 0))), (q1, .inl (cI, 60, .inl (fun _ => 0))), (q2, .inl (cZ, 60, .inl (fun _ => 0))), (q3, .inl (cI, 60, .inl (fun _ => 0))), (q4, .inl (cI, 480, .inl (fun _ => 0)))] := hD
  refine W.widen (k := 5) (n := 720) (by decide) (by decide) ?_
  refine va_putF (D := D) (ci := 5) (v := .ref q4) (ty := .array .int) (C := R_Lines) (T := F_Lines) (N := 7) hx hb htg in_Lines t_Lines t_Lines_ok n_Lines hown hK hP hD hS 0 rfl rfl 4 (by decide) (htg _ k_f_Lines_25) (fun _ h9 => h9) rfl hin rfl (by decide +kernel) rfl rfl (Nat.le_of_ble_eq_true rfl) d_Lines_init_42 (fun H locs hP hD hS => ?_)
  have hP : va_P D classes [(h0, .inr (5, [.ref q0, .ref q1, .ref q2, .ref q3, .ref q4, .null, .int 0])), (q0, .inl (cI, 60, .inl (fun _ => 0))), (q1, .inl (cI, 60, .inl (fun _ => 0))), (q2, .inl (cZ, 60, .inl (fun _ => 0))), (q3, .inl (cI, 60, .inl (fun _ => 0))), (q4, .inl (cI, 480, .inl (fun _ => 0)))] H := hP
  have hD : va_D A [(h0, .inr (5, [.ref q0, .ref q1, .ref q2, .ref q3, .ref q4, .null, .int 0])), (q0, .inl (cI, 60, .inl (fun _ => 0))), (q1, .inl (cI, 60, .inl (fun _ => 0))), (q2, .inl (cZ, 60, .inl (fun _ => 0))), (q3, .inl (cI, 60, .inl (fun _ => 0))), (q4, .inl (cI, 480, .inl (fun _ => 0)))] := hD
  refine lv_aload_n hx hb d_Lines_init_45 rfl (lv_at hl 0 rfl) ?_
  refine lv_sipush (v := 480) hx hb d_Lines_init_46 (by decide) ?_
  refine va_newa (atype := .int) (n := 480) (a0 := (480, .inl (fun _ => 0))) (ty := .int) hx hb (htg _ k_arr_int) rfl hK hP hD hS hA (fun _ => rfl) (by decide) (by decide) (by decide) (by decide) (by decide) d_Lines_init_49 (fun q5 cA H hK2 hP hD hS => ?_)
  obtain rfl := (cI_eq hK2).symm
  have hP : va_P D classes [(h0, .inr (5, [.ref q0, .ref q1, .ref q2, .ref q3, .ref q4, .null, .int 0])), (q0, .inl (cI, 60, .inl (fun _ => 0))), (q1, .inl (cI, 60, .inl (fun _ => 0))), (q2, .inl (cZ, 60, .inl (fun _ => 0))), (q3, .inl (cI, 60, .inl (fun _ => 0))), (q4, .inl (cI, 480, .inl (fun _ => 0))), (q5, .inl (cI, 480, .inl (fun _ => 0)))] H := hP
  have hD : va_D A [(h0, .inr (5, [.ref q0, .ref q1, .ref q2, .ref q3, .ref q4, .null, .int 0])), (q0, .inl (cI, 60, .inl (fun _ => 0))), (q1, .inl (cI, 60, .inl (fun _ => 0))), (q2, .inl (cZ, 60, .inl (fun _ => 0))), (q3, .inl (cI, 60, .inl (fun _ => 0))), (q4, .inl (cI, 480, .inl (fun _ => 0))), (q5, .inl (cI, 480, .inl (fun _ => 0)))] := hD
  refine W.widen (k := 6) (n := 1200) (by decide) (by decide) ?_
  refine va_putF (D := D) (ci := 5) (v := .ref q5) (ty := .array .int) (C := R_Lines) (T := F_Lines) (N := 7) hx hb htg in_Lines t_Lines t_Lines_ok n_Lines hown hK hP hD hS 0 rfl rfl 5 (by decide) (htg _ k_f_Lines_28) (fun _ h9 => h9) rfl hin rfl (by decide +kernel) rfl rfl (Nat.le_of_ble_eq_true rfl) d_Lines_init_51 (fun H locs hP hD hS => ?_)
  have hP : va_P D classes [(h0, .inr (5, [.ref q0, .ref q1, .ref q2, .ref q3, .ref q4, .ref q5, .int 0])), (q0, .inl (cI, 60, .inl (fun _ => 0))), (q1, .inl (cI, 60, .inl (fun _ => 0))), (q2, .inl (cZ, 60, .inl (fun _ => 0))), (q3, .inl (cI, 60, .inl (fun _ => 0))), (q4, .inl (cI, 480, .inl (fun _ => 0))), (q5, .inl (cI, 480, .inl (fun _ => 0)))] H := hP
  have hD : va_D A [(h0, .inr (5, [.ref q0, .ref q1, .ref q2, .ref q3, .ref q4, .ref q5, .int 0])), (q0, .inl (cI, 60, .inl (fun _ => 0))), (q1, .inl (cI, 60, .inl (fun _ => 0))), (q2, .inl (cZ, 60, .inl (fun _ => 0))), (q3, .inl (cI, 60, .inl (fun _ => 0))), (q4, .inl (cI, 480, .inl (fun _ => 0))), (q5, .inl (cI, 480, .inl (fun _ => 0)))] := hD
  exact W.vret hx hb hr0 (fun t ht _ => ⟨⟨rfl, _, ⟨q0, q1, q2, q3, q4, q5, rfl⟩, by rw [ht]; exact hP, hD⟩, hS.F ht⟩) hS.2.2 d_Lines_init_54 hlk
def rmn_Values : Room := { frames := 2, cells := 6, slots := 186, locals := 42 }
theorem okn_Values : CalN y_Values_init b_Values_init 1 0 rmn_Values 6 186 := ⟨kc_Values_init, ki_Values_init, ji_Values, ⟨by decide, by decide, by decide +kernel⟩, rfl, rfl, rfl⟩
set_option maxHeartbeats 4000000 in
set_option maxRecDepth 100000 in
theorem cn_Values {l : Launch} {D : va_G} {cI cZ cJ : ClassId} (h0 : Nat) (sz : Nat) : CtN l y_Values_init (.code y_Values_init b_Values_init 1 none :: gw) rmn_Values D [(cI, .int), (cZ, .boolean), (cJ, .long)] [.ref h0] [(h0, .inr (6, [.null, .null, .null]))] sz (fun w : va_W => ∃ (q0 : Nat) (q1 : Nat) (q2 : Nat) (q3 : Nat) (q4 : Nat) (q5 : Nat), w = [(h0, .inr (6, [.ref q0, .ref q2, .ref q4])), (q0, .inr (0, [.ref q1, .int 0])), (q1, .inl (cI, 40, .inl (fun _ => 0))), (q2, .inr (0, [.ref q3, .int 0])), (q3, .inl (cI, 40, .inl (fun _ => 0))), (q4, .inr (0, [.ref q5, .int 0])), (q5, .inl (cI, 40, .inl (fun _ => 0)))]) 6 186 := by
  refine Met.ofW (cc := b_Values_init) (maxL := 1) (ret := none) (by decide) rfl ?_
  intro p e s m args below meth c s₁ B hml hv
  obtain ⟨rfl, hsz, hP, hK, hN, hD0⟩ := hv
  have hx := B.exec
  have hb := B.bytes
  have hr0 := B.returns
  have hts := atoms_spec (ws := .code y_Values_init b_Values_init 1 none :: gw) B.pre
  have htg : ∀ w ∈ gw, w.before _ s = true := fun w h => hts w (List.mem_cons_of_mem _ h)
  have hown : s.vm.findClass R_Values = some m.cls := findClass_of_methodNamed B.named
  have hlk := B.notSynchronized
  have hin : meth.name = "<init>" := (name_of_methodNamed B.named B.method).1
  subst hsz
  have hD := hD0.self (sz := s.heap.size)
  generalize hAe : va_A [(h0, .inr (6, [.null, .null, .null]))] s.heap.size = A at hD ⊢
  have hA : ∀ q : Nat, s.heap.size ≤ q → A q := fun q h => by rw [← hAe]; exact Or.inr h
  have hS : va_S A s.heap s.heap [] := va_S.rf
  have hl := lv_entry ([.ref h0]) (n := 1) (Nat.le_of_ble_eq_true rfl)
  rw [lg_entry_eq]
  generalize (lg_sl ([.ref h0]) ++ List.replicate (1 - (lg_sl ([.ref h0])).length) Slot.unset).toArray = ls at hl ⊢
  have hl : lv_has ls 1 [(0, .ref h0)] := hl
  refine lv_aload_n hx hb d_Values_init_0 rfl (lv_at hl 0 rfl) ?_
  refine W.objInit hx hb hown (htg _ k_m_Values_3) (htg _ ki_obj) (htg _ kc_obj) rfl (by rw [hml]; exact hl.1) rfl d_Values_init_1 (Nat.le_of_ble_eq_true rfl) (Nat.le_of_ble_eq_true rfl) ?_
  refine W.eq (g2 := F0 m 4 ls []) rfl ?_
  refine lv_aload_n hx hb d_Values_init_4 rfl (lv_at hl 0 rfl) ?_
  refine va_new (ci := 0) (fs := [.null, .int 0]) (C := R_Row) (T := F_Row) (N := 2) hx hb htg in_Row t_Row t_Row_ok hown (htg _ k_k_Values_9) (htg _ k_inst_Row) (htg _ ji_Row) hK hP hD hS hA rfl (by intro j hj; match j, hj with | 0, _ => rfl | 1, _ => rfl | j + 2, h => exact absurd h (by omega)) (by decide) (by decide) d_Values_init_5 (fun q0 H hP hD hS => ?_)
  have hP : va_P D classes [(h0, .inr (6, [.null, .null, .null])), (q0, .inr (0, [.null, .int 0]))] H := hP
  have hD : va_D A [(h0, .inr (6, [.null, .null, .null])), (q0, .inr (0, [.null, .int 0]))] := hD
  refine W.widen (k := 1) (n := 2) (by decide) (by decide) ?_
  refine lv_dup hx hb d_Values_init_8 rfl ?_
  refine lv_bipush (v := 40) hx hb d_Values_init_9 (by decide) ?_
  refine cn_I (As := [.int 40]) (rest := [.ref q0, .ref h0]) (wr := [(h0, .inr (6, [.null, .null, .null]))]) hx hb hml hown htg hK hN (cn_Row (l := l) q0 H.size 40 (by decide)) okn_Row k_m_Values_11 rfl rfl hl.1 (Nat.le_of_ble_eq_true rfl) d_Values_init_11 ⟨by decide, by decide⟩ ⟨by decide, by decide⟩ hP hD hS hA [1] [0] rfl rfl (by decide) (by decide) (by decide) rfl (fun w1 H locs hE hP hD hS => ?_)
  obtain ⟨q1, rfl⟩ := hE
  have hP : va_P D classes [(h0, .inr (6, [.null, .null, .null])), (q0, .inr (0, [.ref q1, .int 0])), (q1, .inl (cI, 40, .inl (fun _ => 0)))] H := hP
  have hD : va_D A [(h0, .inr (6, [.null, .null, .null])), (q0, .inr (0, [.ref q1, .int 0])), (q1, .inl (cI, 40, .inl (fun _ => 0)))] := hD
  refine W.widen (k := 2) (n := 62) (by decide) (by decide) ?_
  refine va_putF (D := D) (ci := 6) (v := .ref q0) (ty := .object "GrammarLines$Row") (C := R_Values) (T := F_Values) (N := 3) hx hb htg in_Values t_Values t_Values_ok n_Values hown hK hP hD hS 0 rfl rfl 0 (by decide) (htg _ k_f_Values_14) (fun _ h9 => h9) rfl hin rfl (by decide +kernel) rfl rfl (Nat.le_of_ble_eq_true rfl) d_Values_init_14 (fun H locs hP hD hS => ?_)
  have hP : va_P D classes [(h0, .inr (6, [.ref q0, .null, .null])), (q0, .inr (0, [.ref q1, .int 0])), (q1, .inl (cI, 40, .inl (fun _ => 0)))] H := hP
  have hD : va_D A [(h0, .inr (6, [.ref q0, .null, .null])), (q0, .inr (0, [.ref q1, .int 0])), (q1, .inl (cI, 40, .inl (fun _ => 0)))] := hD
  refine lv_aload_n hx hb d_Values_init_17 rfl (lv_at hl 0 rfl) ?_
  refine va_new (ci := 0) (fs := [.null, .int 0]) (C := R_Row) (T := F_Row) (N := 2) hx hb htg in_Row t_Row t_Row_ok hown (htg _ k_k_Values_9) (htg _ k_inst_Row) (htg _ ji_Row) hK hP hD hS hA rfl (by intro j hj; match j, hj with | 0, _ => rfl | 1, _ => rfl | j + 2, h => exact absurd h (by omega)) (by decide) (by decide) d_Values_init_18 (fun q2 H hP hD hS => ?_)
  have hP : va_P D classes [(h0, .inr (6, [.ref q0, .null, .null])), (q0, .inr (0, [.ref q1, .int 0])), (q1, .inl (cI, 40, .inl (fun _ => 0))), (q2, .inr (0, [.null, .int 0]))] H := hP
  have hD : va_D A [(h0, .inr (6, [.ref q0, .null, .null])), (q0, .inr (0, [.ref q1, .int 0])), (q1, .inl (cI, 40, .inl (fun _ => 0))), (q2, .inr (0, [.null, .int 0]))] := hD
  refine W.widen (k := 3) (n := 64) (by decide) (by decide) ?_
  refine lv_dup hx hb d_Values_init_21 rfl ?_
  refine lv_bipush (v := 40) hx hb d_Values_init_22 (by decide) ?_
  refine cn_I (As := [.int 40]) (rest := [.ref q2, .ref h0]) (wr := [(h0, .inr (6, [.ref q0, .null, .null])), (q0, .inr (0, [.ref q1, .int 0])), (q1, .inl (cI, 40, .inl (fun _ => 0)))]) hx hb hml hown htg hK hN (cn_Row (l := l) q2 H.size 40 (by decide)) okn_Row k_m_Values_11 rfl rfl hl.1 (Nat.le_of_ble_eq_true rfl) d_Values_init_24 ⟨by decide, by decide⟩ ⟨by decide, by decide⟩ hP hD hS hA [3] [0, 1, 2] rfl rfl (by decide) (by decide) (by decide) rfl (fun w1 H locs hE hP hD hS => ?_)
  obtain ⟨q3, rfl⟩ := hE
  have hP : va_P D classes [(h0, .inr (6, [.ref q0, .null, .null])), (q0, .inr (0, [.ref q1, .int 0])), (q1, .inl (cI, 40, .inl (fun _ => 0))), (q2, .inr (0, [.ref q3, .int 0])), (q3, .inl (cI, 40, .inl (fun _ => 0)))] H := hP
  have hD : va_D A [(h0, .inr (6, [.ref q0, .null, .null])), (q0, .inr (0, [.ref q1, .int 0])), (q1, .inl (cI, 40, .inl (fun _ => 0))), (q2, .inr (0, [.ref q3, .int 0])), (q3, .inl (cI, 40, .inl (fun _ => 0)))] := hD
  refine W.widen (k := 4) (n := 124) (by decide) (by decide) ?_
  refine va_putF (D := D) (ci := 6) (v := .ref q2) (ty := .object "GrammarLines$Row") (C := R_Values) (T := F_Values) (N := 3) hx hb htg in_Values t_Values t_Values_ok n_Values hown hK hP hD hS 0 rfl rfl 1 (by decide) (htg _ k_f_Values_20) (fun _ h9 => h9) rfl hin rfl (by decide +kernel) rfl rfl (Nat.le_of_ble_eq_true rfl) d_Values_init_27 (fun H locs hP hD hS => ?_)
  have hP : va_P D classes [(h0, .inr (6, [.ref q0, .ref q2, .null])), (q0, .inr (0, [.ref q1, .int 0])), (q1, .inl (cI, 40, .inl (fun _ => 0))), (q2, .inr (0, [.ref q3, .int 0])), (q3, .inl (cI, 40, .inl (fun _ => 0)))] H := hP
  have hD : va_D A [(h0, .inr (6, [.ref q0, .ref q2, .null])), (q0, .inr (0, [.ref q1, .int 0])), (q1, .inl (cI, 40, .inl (fun _ => 0))), (q2, .inr (0, [.ref q3, .int 0])), (q3, .inl (cI, 40, .inl (fun _ => 0)))] := hD
  refine lv_aload_n hx hb d_Values_init_30 rfl (lv_at hl 0 rfl) ?_
  refine va_new (ci := 0) (fs := [.null, .int 0]) (C := R_Row) (T := F_Row) (N := 2) hx hb htg in_Row t_Row t_Row_ok hown (htg _ k_k_Values_9) (htg _ k_inst_Row) (htg _ ji_Row) hK hP hD hS hA rfl (by intro j hj; match j, hj with | 0, _ => rfl | 1, _ => rfl | j + 2, h => exact absurd h (by omega)) (by decide) (by decide) d_Values_init_31 (fun q4 H hP hD hS => ?_)
  have hP : va_P D classes [(h0, .inr (6, [.ref q0, .ref q2, .null])), (q0, .inr (0, [.ref q1, .int 0])), (q1, .inl (cI, 40, .inl (fun _ => 0))), (q2, .inr (0, [.ref q3, .int 0])), (q3, .inl (cI, 40, .inl (fun _ => 0))), (q4, .inr (0, [.null, .int 0]))] H := hP
  have hD : va_D A [(h0, .inr (6, [.ref q0, .ref q2, .null])), (q0, .inr (0, [.ref q1, .int 0])), (q1, .inl (cI, 40, .inl (fun _ => 0))), (q2, .inr (0, [.ref q3, .int 0])), (q3, .inl (cI, 40, .inl (fun _ => 0))), (q4, .inr (0, [.null, .int 0]))] := hD
  refine W.widen (k := 5) (n := 126) (by decide) (by decide) ?_
  refine lv_dup hx hb d_Values_init_34 rfl ?_
  refine lv_bipush (v := 40) hx hb d_Values_init_35 (by decide) ?_
  refine cn_I (As := [.int 40]) (rest := [.ref q4, .ref h0]) (wr := [(h0, .inr (6, [.ref q0, .ref q2, .null])), (q0, .inr (0, [.ref q1, .int 0])), (q1, .inl (cI, 40, .inl (fun _ => 0))), (q2, .inr (0, [.ref q3, .int 0])), (q3, .inl (cI, 40, .inl (fun _ => 0)))]) hx hb hml hown htg hK hN (cn_Row (l := l) q4 H.size 40 (by decide)) okn_Row k_m_Values_11 rfl rfl hl.1 (Nat.le_of_ble_eq_true rfl) d_Values_init_37 ⟨by decide, by decide⟩ ⟨by decide, by decide⟩ hP hD hS hA [5] [0, 1, 2, 3, 4] rfl rfl (by decide) (by decide) (by decide) rfl (fun w1 H locs hE hP hD hS => ?_)
  obtain ⟨q5, rfl⟩ := hE
  have hP : va_P D classes [(h0, .inr (6, [.ref q0, .ref q2, .null])), (q0, .inr (0, [.ref q1, .int 0])), (q1, .inl (cI, 40, .inl (fun _ => 0))), (q2, .inr (0, [.ref q3, .int 0])), (q3, .inl (cI, 40, .inl (fun _ => 0))), (q4, .inr (0, [.ref q5, .int 0])), (q5, .inl (cI, 40, .inl (fun _ => 0)))] H := hP
  have hD : va_D A [(h0, .inr (6, [.ref q0, .ref q2, .null])), (q0, .inr (0, [.ref q1, .int 0])), (q1, .inl (cI, 40, .inl (fun _ => 0))), (q2, .inr (0, [.ref q3, .int 0])), (q3, .inl (cI, 40, .inl (fun _ => 0))), (q4, .inr (0, [.ref q5, .int 0])), (q5, .inl (cI, 40, .inl (fun _ => 0)))] := hD
  refine W.widen (k := 6) (n := 186) (by decide) (by decide) ?_
  refine va_putF (D := D) (ci := 6) (v := .ref q4) (ty := .object "GrammarLines$Row") (C := R_Values) (T := F_Values) (N := 3) hx hb htg in_Values t_Values t_Values_ok n_Values hown hK hP hD hS 0 rfl rfl 2 (by decide) (htg _ k_f_Values_23) (fun _ h9 => h9) rfl hin rfl (by decide +kernel) rfl rfl (Nat.le_of_ble_eq_true rfl) d_Values_init_40 (fun H locs hP hD hS => ?_)
  have hP : va_P D classes [(h0, .inr (6, [.ref q0, .ref q2, .ref q4])), (q0, .inr (0, [.ref q1, .int 0])), (q1, .inl (cI, 40, .inl (fun _ => 0))), (q2, .inr (0, [.ref q3, .int 0])), (q3, .inl (cI, 40, .inl (fun _ => 0))), (q4, .inr (0, [.ref q5, .int 0])), (q5, .inl (cI, 40, .inl (fun _ => 0)))] H := hP
  have hD : va_D A [(h0, .inr (6, [.ref q0, .ref q2, .ref q4])), (q0, .inr (0, [.ref q1, .int 0])), (q1, .inl (cI, 40, .inl (fun _ => 0))), (q2, .inr (0, [.ref q3, .int 0])), (q3, .inl (cI, 40, .inl (fun _ => 0))), (q4, .inr (0, [.ref q5, .int 0])), (q5, .inl (cI, 40, .inl (fun _ => 0)))] := hD
  exact W.vret hx hb hr0 (fun t ht _ => ⟨⟨rfl, _, ⟨q0, q1, q2, q3, q4, q5, rfl⟩, by rw [ht]; exact hP, hD⟩, hS.F ht⟩) hS.2.2 d_Values_init_43 hlk
def rmn_Trial : Room := { frames := 3, cells := 11, slots := 259, locals := 62 }
theorem okn_Trial : CalN y_Trial_init b_Trial_init 5 4 rmn_Trial 11 259 := ⟨kc_Trial_init, ki_Trial_init, ji_Trial, ⟨by decide, by decide, by decide +kernel⟩, rfl, rfl, rfl⟩
set_option maxHeartbeats 4000000 in
set_option maxRecDepth 100000 in
theorem cn_Trial {l : Launch} {D : va_G} {cI cZ cJ : ClassId} (h0 : Nat) (sz : Nat) (g0 : Nat) (g1 : Nat) (g2 : Nat) (g3 : Nat) : CtN l y_Trial_init (.code y_Trial_init b_Trial_init 5 none :: gw) rmn_Trial D [(cI, .int), (cZ, .boolean), (cJ, .long)] [.ref h0, .ref g0, .ref g1, .ref g2, .ref g3] [(h0, .inr (7, [.null, .null, .null, .null, .null, .null, .null, .null, .null, .int 0, .int 0, .int 0, .int 0]))] sz (fun w : va_W => ∃ (q0 : Nat) (q1 : Nat) (q2 : Nat) (q3 : Nat) (q4 : Nat) (q5 : Nat) (q6 : Nat) (q7 : Nat) (q8 : Nat) (q9 : Nat) (q10 : Nat), w = [(h0, .inr (7, [.ref g0, .ref g1, .ref g2, .ref g3, .ref q10, .ref q0, .ref q3, .ref q6, .ref q8, .int (-1), .int 0, .int 0, .int (-1)])), (q0, .inr (1, [.ref q1, .int (-1), .int (-1), .long 0])), (q1, .inr (0, [.ref q2, .int 0])), (q2, .inl (cI, 60, .inl (fun _ => 0))), (q3, .inr (1, [.ref q4, .int (-1), .int (-1), .long 0])), (q4, .inr (0, [.ref q5, .int 0])), (q5, .inl (cI, 60, .inl (fun _ => 0))), (q6, .inr (0, [.ref q7, .int 0])), (q7, .inl (cI, 8, .inl (fun _ => 0))), (q8, .inr (0, [.ref q9, .int 0])), (q9, .inl (cI, 40, .inl (fun _ => 0))), (q10, .inr (2, [.ref g0, .long 0, .int 0]))]) 11 259 := by
  refine Met.ofW (cc := b_Trial_init) (maxL := 5) (ret := none) (by decide) rfl ?_
  intro p e s m args below meth c s₁ B hml hv
  obtain ⟨rfl, hsz, hP, hK, hN, hD0⟩ := hv
  have hx := B.exec
  have hb := B.bytes
  have hr0 := B.returns
  have hts := atoms_spec (ws := .code y_Trial_init b_Trial_init 5 none :: gw) B.pre
  have htg : ∀ w ∈ gw, w.before _ s = true := fun w h => hts w (List.mem_cons_of_mem _ h)
  have hown : s.vm.findClass R_Trial = some m.cls := findClass_of_methodNamed B.named
  have hlk := B.notSynchronized
  have hin : meth.name = "<init>" := (name_of_methodNamed B.named B.method).1
  subst hsz
  have hD := hD0.self (sz := s.heap.size)
  generalize hAe : va_A [(h0, .inr (7, [.null, .null, .null, .null, .null, .null, .null, .null, .null, .int 0, .int 0, .int 0, .int 0]))] s.heap.size = A at hD ⊢
  have hA : ∀ q : Nat, s.heap.size ≤ q → A q := fun q h => by rw [← hAe]; exact Or.inr h
  have hS : va_S A s.heap s.heap [] := va_S.rf
  have hl := lv_entry ([.ref h0, .ref g0, .ref g1, .ref g2, .ref g3]) (n := 5) (Nat.le_of_ble_eq_true rfl)
  rw [lg_entry_eq]
  generalize (lg_sl ([.ref h0, .ref g0, .ref g1, .ref g2, .ref g3]) ++ List.replicate (5 - (lg_sl ([.ref h0, .ref g0, .ref g1, .ref g2, .ref g3])).length) Slot.unset).toArray = ls at hl ⊢
  have hl : lv_has ls 5 [(0, .ref h0), (1, .ref g0), (2, .ref g1), (3, .ref g2), (4, .ref g3)] := hl
  refine lv_aload_n hx hb d_Trial_init_0 rfl (lv_at hl 0 rfl) ?_
  refine W.objInit hx hb hown (htg _ k_m_Trial_3) (htg _ ki_obj) (htg _ kc_obj) rfl (by rw [hml]; exact hl.1) rfl d_Trial_init_1 (Nat.le_of_ble_eq_true rfl) (Nat.le_of_ble_eq_true rfl) ?_
  refine W.eq (g2 := F0 m 4 ls []) rfl ?_
  refine lv_aload_n hx hb d_Trial_init_4 rfl (lv_at hl 0 rfl) ?_
  refine va_new (ci := 1) (fs := [.null, .int 0, .int 0, .long 0]) (C := R_Slot) (T := F_Slot) (N := 4) hx hb htg in_Slot t_Slot t_Slot_ok hown (htg _ k_k_Trial_9) (htg _ k_inst_Slot) (htg _ ji_Slot) hK hP hD hS hA rfl (by intro j hj; match j, hj with | 0, _ => rfl | 1, _ => rfl | 2, _ => rfl | 3, _ => rfl | j + 4, h => exact absurd h (by omega)) (by decide) (by decide) d_Trial_init_5 (fun q0 H hP hD hS => ?_)
  have hP : va_P D classes [(h0, .inr (7, [.null, .null, .null, .null, .null, .null, .null, .null, .null, .int 0, .int 0, .int 0, .int 0])), (q0, .inr (1, [.null, .int 0, .int 0, .long 0]))] H := hP
  have hD : va_D A [(h0, .inr (7, [.null, .null, .null, .null, .null, .null, .null, .null, .null, .int 0, .int 0, .int 0, .int 0])), (q0, .inr (1, [.null, .int 0, .int 0, .long 0]))] := hD
  refine W.widen (k := 1) (n := 4) (by decide) (by decide) ?_
  refine lv_dup hx hb d_Trial_init_8 rfl ?_
  refine cn_N (As := []) (rest := [.ref q0, .ref h0]) (wr := [(h0, .inr (7, [.null, .null, .null, .null, .null, .null, .null, .null, .null, .int 0, .int 0, .int 0, .int 0]))]) hx hb hml hown htg hK hN (cn_Slot (l := l) q0 H.size) okn_Slot k_mn_Trial_11 rfl rfl hl.1 (Nat.le_of_ble_eq_true rfl) d_Trial_init_9 ⟨by decide, by decide⟩ ⟨by decide, by decide⟩ hP hD hS hA [1] [0] rfl rfl (by decide) (by decide) (by decide) rfl (fun w1 H locs hE hP hD hS => ?_)
  obtain ⟨q1, q2, rfl⟩ := hE
  have hP : va_P D classes [(h0, .inr (7, [.null, .null, .null, .null, .null, .null, .null, .null, .null, .int 0, .int 0, .int 0, .int 0])), (q0, .inr (1, [.ref q1, .int (-1), .int (-1), .long 0])), (q1, .inr (0, [.ref q2, .int 0])), (q2, .inl (cI, 60, .inl (fun _ => 0)))] H := hP
  have hD : va_D A [(h0, .inr (7, [.null, .null, .null, .null, .null, .null, .null, .null, .null, .int 0, .int 0, .int 0, .int 0])), (q0, .inr (1, [.ref q1, .int (-1), .int (-1), .long 0])), (q1, .inr (0, [.ref q2, .int 0])), (q2, .inl (cI, 60, .inl (fun _ => 0)))] := hD
  refine W.widen (k := 3) (n := 66) (by decide) (by decide) ?_
  refine va_putF (D := D) (ci := 7) (v := .ref q0) (ty := .object "GrammarLines$Slot") (C := R_Trial) (T := F_Trial) (N := 13) hx hb htg in_Trial t_Trial t_Trial_ok n_Trial hown hK hP hD hS 0 rfl rfl 5 (by decide) (htg _ k_f_Trial_12) (fun _ h9 => h9) rfl hin rfl (by decide +kernel) rfl rfl (Nat.le_of_ble_eq_true rfl) d_Trial_init_12 (fun H locs hP hD hS => ?_)
  have hP : va_P D classes [(h0, .inr (7, [.null, .null, .null, .null, .null, .ref q0, .null, .null, .null, .int 0, .int 0, .int 0, .int 0])), (q0, .inr (1, [.ref q1, .int (-1), .int (-1), .long 0])), (q1, .inr (0, [.ref q2, .int 0])), (q2, .inl (cI, 60, .inl (fun _ => 0)))] H := hP
  have hD : va_D A [(h0, .inr (7, [.null, .null, .null, .null, .null, .ref q0, .null, .null, .null, .int 0, .int 0, .int 0, .int 0])), (q0, .inr (1, [.ref q1, .int (-1), .int (-1), .long 0])), (q1, .inr (0, [.ref q2, .int 0])), (q2, .inl (cI, 60, .inl (fun _ => 0)))] := hD
  refine lv_aload_n hx hb d_Trial_init_15 rfl (lv_at hl 0 rfl) ?_
  refine va_new (ci := 1) (fs := [.null, .int 0, .int 0, .long 0]) (C := R_Slot) (T := F_Slot) (N := 4) hx hb htg in_Slot t_Slot t_Slot_ok hown (htg _ k_k_Trial_9) (htg _ k_inst_Slot) (htg _ ji_Slot) hK hP hD hS hA rfl (by intro j hj; match j, hj with | 0, _ => rfl | 1, _ => rfl | 2, _ => rfl | 3, _ => rfl | j + 4, h => exact absurd h (by omega)) (by decide) (by decide) d_Trial_init_16 (fun q3 H hP hD hS => ?_)
  have hP : va_P D classes [(h0, .inr (7, [.null, .null, .null, .null, .null, .ref q0, .null, .null, .null, .int 0, .int 0, .int 0, .int 0])), (q0, .inr (1, [.ref q1, .int (-1), .int (-1), .long 0])), (q1, .inr (0, [.ref q2, .int 0])), (q2, .inl (cI, 60, .inl (fun _ => 0))), (q3, .inr (1, [.null, .int 0, .int 0, .long 0]))] H := hP
  have hD : va_D A [(h0, .inr (7, [.null, .null, .null, .null, .null, .ref q0, .null, .null, .null, .int 0, .int 0, .int 0, .int 0])), (q0, .inr (1, [.ref q1, .int (-1), .int (-1), .long 0])), (q1, .inr (0, [.ref q2, .int 0])), (q2, .inl (cI, 60, .inl (fun _ => 0))), (q3, .inr (1, [.null, .int 0, .int 0, .long 0]))] := hD
  refine W.widen (k := 4) (n := 70) (by decide) (by decide) ?_
  refine lv_dup hx hb d_Trial_init_19 rfl ?_
  refine cn_N (As := []) (rest := [.ref q3, .ref h0]) (wr := [(h0, .inr (7, [.null, .null, .null, .null, .null, .ref q0, .null, .null, .null, .int 0, .int 0, .int 0, .int 0])), (q0, .inr (1, [.ref q1, .int (-1), .int (-1), .long 0])), (q1, .inr (0, [.ref q2, .int 0])), (q2, .inl (cI, 60, .inl (fun _ => 0)))]) hx hb hml hown htg hK hN (cn_Slot (l := l) q3 H.size) okn_Slot k_mn_Trial_11 rfl rfl hl.1 (Nat.le_of_ble_eq_true rfl) d_Trial_init_20 ⟨by decide, by decide⟩ ⟨by decide, by decide⟩ hP hD hS hA [4] [0, 1, 2, 3] rfl rfl (by decide) (by decide) (by decide) rfl (fun w1 H locs hE hP hD hS => ?_)
  obtain ⟨q4, q5, rfl⟩ := hE
  have hP : va_P D classes [(h0, .inr (7, [.null, .null, .null, .null, .null, .ref q0, .null, .null, .null, .int 0, .int 0, .int 0, .int 0])), (q0, .inr (1, [.ref q1, .int (-1), .int (-1), .long 0])), (q1, .inr (0, [.ref q2, .int 0])), (q2, .inl (cI, 60, .inl (fun _ => 0))), (q3, .inr (1, [.ref q4, .int (-1), .int (-1), .long 0])), (q4, .inr (0, [.ref q5, .int 0])), (q5, .inl (cI, 60, .inl (fun _ => 0)))] H := hP
  have hD : va_D A [(h0, .inr (7, [.null, .null, .null, .null, .null, .ref q0, .null, .null, .null, .int 0, .int 0, .int 0, .int 0])), (q0, .inr (1, [.ref q1, .int (-1), .int (-1), .long 0])), (q1, .inr (0, [.ref q2, .int 0])), (q2, .inl (cI, 60, .inl (fun _ => 0))), (q3, .inr (1, [.ref q4, .int (-1), .int (-1), .long 0])), (q4, .inr (0, [.ref q5, .int 0])), (q5, .inl (cI, 60, .inl (fun _ => 0)))] := hD
  refine W.widen (k := 6) (n := 132) (by decide) (by decide) ?_
  refine va_putF (D := D) (ci := 7) (v := .ref q3) (ty := .object "GrammarLines$Slot") (C := R_Trial) (T := F_Trial) (N := 13) hx hb htg in_Trial t_Trial t_Trial_ok n_Trial hown hK hP hD hS 0 rfl rfl 6 (by decide) (htg _ k_f_Trial_18) (fun _ h9 => h9) rfl hin rfl (by decide +kernel) rfl rfl (Nat.le_of_ble_eq_true rfl) d_Trial_init_23 (fun H locs hP hD hS => ?_)
  have hP : va_P D classes [(h0, .inr (7, [.null, .null, .null, .null, .null, .ref q0, .ref q3, .null, .null, .int 0, .int 0, .int 0, .int 0])), (q0, .inr (1, [.ref q1, .int (-1), .int (-1), .long 0])), (q1, .inr (0, [.ref q2, .int 0])), (q2, .inl (cI, 60, .inl (fun _ => 0))), (q3, .inr (1, [.ref q4, .int (-1), .int (-1), .long 0])), (q4, .inr (0, [.ref q5, .int 0])), (q5, .inl (cI, 60, .inl (fun _ => 0)))] H := hP
  have hD : va_D A [(h0, .inr (7, [.null, .null, .null, .null, .null, .ref q0, .ref q3, .null, .null, .int 0, .int 0, .int 0, .int 0])), (q0, .inr (1, [.ref q1, .int (-1), .int (-1), .long 0])), (q1, .inr (0, [.ref q2, .int 0])), (q2, .inl (cI, 60, .inl (fun _ => 0))), (q3, .inr (1, [.ref q4, .int (-1), .int (-1), .long 0])), (q4, .inr (0, [.ref q5, .int 0])), (q5, .inl (cI, 60, .inl (fun _ => 0)))] := hD
  refine lv_aload_n hx hb d_Trial_init_26 rfl (lv_at hl 0 rfl) ?_
  refine va_new (ci := 0) (fs := [.null, .int 0]) (C := R_Row) (T := F_Row) (N := 2) hx hb htg in_Row t_Row t_Row_ok hown (htg _ k_k_Trial_21) (htg _ k_inst_Row) (htg _ ji_Row) hK hP hD hS hA rfl (by intro j hj; match j, hj with | 0, _ => rfl | 1, _ => rfl | j + 2, h => exact absurd h (by omega)) (by decide) (by decide) d_Trial_init_27 (fun q6 H hP hD hS => ?_)
  have hP : va_P D classes [(h0, .inr (7, [.null, .null, .null, .null, .null, .ref q0, .ref q3, .null, .null, .int 0, .int 0, .int 0, .int 0])), (q0, .inr (1, [.ref q1, .int (-1), .int (-1), .long 0])), (q1, .inr (0, [.ref q2, .int 0])), (q2, .inl (cI, 60, .inl (fun _ => 0))), (q3, .inr (1, [.ref q4, .int (-1), .int (-1), .long 0])), (q4, .inr (0, [.ref q5, .int 0])), (q5, .inl (cI, 60, .inl (fun _ => 0))), (q6, .inr (0, [.null, .int 0]))] H := hP
  have hD : va_D A [(h0, .inr (7, [.null, .null, .null, .null, .null, .ref q0, .ref q3, .null, .null, .int 0, .int 0, .int 0, .int 0])), (q0, .inr (1, [.ref q1, .int (-1), .int (-1), .long 0])), (q1, .inr (0, [.ref q2, .int 0])), (q2, .inl (cI, 60, .inl (fun _ => 0))), (q3, .inr (1, [.ref q4, .int (-1), .int (-1), .long 0])), (q4, .inr (0, [.ref q5, .int 0])), (q5, .inl (cI, 60, .inl (fun _ => 0))), (q6, .inr (0, [.null, .int 0]))] := hD
  refine W.widen (k := 7) (n := 134) (by decide) (by decide) ?_
  refine lv_dup hx hb d_Trial_init_30 rfl ?_
  refine lv_bipush (v := 8) hx hb d_Trial_init_31 (by decide) ?_
  refine cn_I (As := [.int 8]) (rest := [.ref q6, .ref h0]) (wr := [(h0, .inr (7, [.null, .null, .null, .null, .null, .ref q0, .ref q3, .null, .null, .int 0, .int 0, .int 0, .int 0])), (q0, .inr (1, [.ref q1, .int (-1), .int (-1), .long 0])), (q1, .inr (0, [.ref q2, .int 0])), (q2, .inl (cI, 60, .inl (fun _ => 0))), (q3, .inr (1, [.ref q4, .int (-1), .int (-1), .long 0])), (q4, .inr (0, [.ref q5, .int 0])), (q5, .inl (cI, 60, .inl (fun _ => 0)))]) hx hb hml hown htg hK hN (cn_Row (l := l) q6 H.size 8 (by decide)) okn_Row k_m_Trial_23 rfl rfl hl.1 (Nat.le_of_ble_eq_true rfl) d_Trial_init_33 ⟨by decide, by decide⟩ ⟨by decide, by decide⟩ hP hD hS hA [7] [0, 1, 2, 3, 4, 5, 6] rfl rfl (by decide) (by decide) (by decide) rfl (fun w1 H locs hE hP hD hS => ?_)
  obtain ⟨q7, rfl⟩ := hE
  have hP : va_P D classes [(h0, .inr (7, [.null, .null, .null, .null, .null, .ref q0, .ref q3, .null, .null, .int 0, .int 0, .int 0, .int 0])), (q0, .inr (1, [.ref q1, .int (-1), .int (-1), .long 0])), (q1, .inr (0, [.ref q2, .int 0])), (q2, .inl (cI, 60, .inl (fun _ => 0))), (q3, .inr (1, [.ref q4, .int (-1), .int (-1), .long 0])), (q4, .inr (0, [.ref q5, .int 0])), (q5, .inl (cI, 60, .inl (fun _ => 0))), (q6, .inr (0, [.ref q7, .int 0])), (q7, .inl (cI, 8, .inl (fun _ => 0)))] H := hP
  have hD : va_D A [(h0, .inr (7, [.null, .null, .null, .null, .null, .ref q0, .ref q3, .null, .null, .int 0, .int 0, .int 0, .int 0])), (q0, .inr (1, [.ref q1, .int (-1), .int (-1), .long 0])), (q1, .inr (0, [.ref q2, .int 0])), (q2, .inl (cI, 60, .inl (fun _ => 0))), (q3, .inr (1, [.ref q4, .int (-1), .int (-1), .long 0])), (q4, .inr (0, [.ref q5, .int 0])), (q5, .inl (cI, 60, .inl (fun _ => 0))), (q6, .inr (0, [.ref q7, .int 0])), (q7, .inl (cI, 8, .inl (fun _ => 0)))] := hD
  refine W.widen (k := 8) (n := 194) (by decide) (by decide) ?_
  refine va_putF (D := D) (ci := 7) (v := .ref q6) (ty := .object "GrammarLines$Row") (C := R_Trial) (T := F_Trial) (N := 13) hx hb htg in_Trial t_Trial t_Trial_ok n_Trial hown hK hP hD hS 0 rfl rfl 7 (by decide) (htg _ k_f_Trial_26) (fun _ h9 => h9) rfl hin rfl (by decide +kernel) rfl rfl (Nat.le_of_ble_eq_true rfl) d_Trial_init_36 (fun H locs hP hD hS => ?_)
  have hP : va_P D classes [(h0, .inr (7, [.null, .null, .null, .null, .null, .ref q0, .ref q3, .ref q6, .null, .int 0, .int 0, .int 0, .int 0])), (q0, .inr (1, [.ref q1, .int (-1), .int (-1), .long 0])), (q1, .inr (0, [.ref q2, .int 0])), (q2, .inl (cI, 60, .inl (fun _ => 0))), (q3, .inr (1, [.ref q4, .int (-1), .int (-1), .long 0])), (q4, .inr (0, [.ref q5, .int 0])), (q5, .inl (cI, 60, .inl (fun _ => 0))), (q6, .inr (0, [.ref q7, .int 0])), (q7, .inl (cI, 8, .inl (fun _ => 0)))] H := hP
  have hD : va_D A [(h0, .inr (7, [.null, .null, .null, .null, .null, .ref q0, .ref q3, .ref q6, .null, .int 0, .int 0, .int 0, .int 0])), (q0, .inr (1, [.ref q1, .int (-1), .int (-1), .long 0])), (q1, .inr (0, [.ref q2, .int 0])), (q2, .inl (cI, 60, .inl (fun _ => 0))), (q3, .inr (1, [.ref q4, .int (-1), .int (-1), .long 0])), (q4, .inr (0, [.ref q5, .int 0])), (q5, .inl (cI, 60, .inl (fun _ => 0))), (q6, .inr (0, [.ref q7, .int 0])), (q7, .inl (cI, 8, .inl (fun _ => 0)))] := hD
  refine lv_aload_n hx hb d_Trial_init_39 rfl (lv_at hl 0 rfl) ?_
  refine va_new (ci := 0) (fs := [.null, .int 0]) (C := R_Row) (T := F_Row) (N := 2) hx hb htg in_Row t_Row t_Row_ok hown (htg _ k_k_Trial_21) (htg _ k_inst_Row) (htg _ ji_Row) hK hP hD hS hA rfl (by intro j hj; match j, hj with | 0, _ => rfl | 1, _ => rfl | j + 2, h => exact absurd h (by omega)) (by decide) (by decide) d_Trial_init_40 (fun q8 H hP hD hS => ?_)
  have hP : va_P D classes [(h0, .inr (7, [.null, .null, .null, .null, .null, .ref q0, .ref q3, .ref q6, .null, .int 0, .int 0, .int 0, .int 0])), (q0, .inr (1, [.ref q1, .int (-1), .int (-1), .long 0])), (q1, .inr (0, [.ref q2, .int 0])), (q2, .inl (cI, 60, .inl (fun _ => 0))), (q3, .inr (1, [.ref q4, .int (-1), .int (-1), .long 0])), (q4, .inr (0, [.ref q5, .int 0])), (q5, .inl (cI, 60, .inl (fun _ => 0))), (q6, .inr (0, [.ref q7, .int 0])), (q7, .inl (cI, 8, .inl (fun _ => 0))), (q8, .inr (0, [.null, .int 0]))] H := hP
  have hD : va_D A [(h0, .inr (7, [.null, .null, .null, .null, .null, .ref q0, .ref q3, .ref q6, .null, .int 0, .int 0, .int 0, .int 0])), (q0, .inr (1, [.ref q1, .int (-1), .int (-1), .long 0])), (q1, .inr (0, [.ref q2, .int 0])), (q2, .inl (cI, 60, .inl (fun _ => 0))), (q3, .inr (1, [.ref q4, .int (-1), .int (-1), .long 0])), (q4, .inr (0, [.ref q5, .int 0])), (q5, .inl (cI, 60, .inl (fun _ => 0))), (q6, .inr (0, [.ref q7, .int 0])), (q7, .inl (cI, 8, .inl (fun _ => 0))), (q8, .inr (0, [.null, .int 0]))] := hD
  refine W.widen (k := 9) (n := 196) (by decide) (by decide) ?_
  refine lv_dup hx hb d_Trial_init_43 rfl ?_
  refine lv_bipush (v := 40) hx hb d_Trial_init_44 (by decide) ?_
  refine cn_I (As := [.int 40]) (rest := [.ref q8, .ref h0]) (wr := [(h0, .inr (7, [.null, .null, .null, .null, .null, .ref q0, .ref q3, .ref q6, .null, .int 0, .int 0, .int 0, .int 0])), (q0, .inr (1, [.ref q1, .int (-1), .int (-1), .long 0])), (q1, .inr (0, [.ref q2, .int 0])), (q2, .inl (cI, 60, .inl (fun _ => 0))), (q3, .inr (1, [.ref q4, .int (-1), .int (-1), .long 0])), (q4, .inr (0, [.ref q5, .int 0])), (q5, .inl (cI, 60, .inl (fun _ => 0))), (q6, .inr (0, [.ref q7, .int 0])), (q7, .inl (cI, 8, .inl (fun _ => 0)))]) hx hb hml hown htg hK hN (cn_Row (l := l) q8 H.size 40 (by decide)) okn_Row k_m_Trial_23 rfl rfl hl.1 (Nat.le_of_ble_eq_true rfl) d_Trial_init_46 ⟨by decide, by decide⟩ ⟨by decide, by decide⟩ hP hD hS hA [9] [0, 1, 2, 3, 4, 5, 6, 7, 8] rfl rfl (by decide) (by decide) (by decide) rfl (fun w1 H locs hE hP hD hS => ?_)
  obtain ⟨q9, rfl⟩ := hE
  have hP : va_P D classes [(h0, .inr (7, [.null, .null, .null, .null, .null, .ref q0, .ref q3, .ref q6, .null, .int 0, .int 0, .int 0, .int 0])), (q0, .inr (1, [.ref q1, .int (-1), .int (-1), .long 0])), (q1, .inr (0, [.ref q2, .int 0])), (q2, .inl (cI, 60, .inl (fun _ => 0))), (q3, .inr (1, [.ref q4, .int (-1), .int (-1), .long 0])), (q4, .inr (0, [.ref q5, .int 0])), (q5, .inl (cI, 60, .inl (fun _ => 0))), (q6, .inr (0, [.ref q7, .int 0])), (q7, .inl (cI, 8, .inl (fun _ => 0))), (q8, .inr (0, [.ref q9, .int 0])), (q9, .inl (cI, 40, .inl (fun _ => 0)))] H := hP
  have hD : va_D A [(h0, .inr (7, [.null, .null, .null, .null, .null, .ref q0, .ref q3, .ref q6, .null, .int 0, .int 0, .int 0, .int 0])), (q0, .inr (1, [.ref q1, .int (-1), .int (-1), .long 0])), (q1, .inr (0, [.ref q2, .int 0])), (q2, .inl (cI, 60, .inl (fun _ => 0))), (q3, .inr (1, [.ref q4, .int (-1), .int (-1), .long 0])), (q4, .inr (0, [.ref q5, .int 0])), (q5, .inl (cI, 60, .inl (fun _ => 0))), (q6, .inr (0, [.ref q7, .int 0])), (q7, .inl (cI, 8, .inl (fun _ => 0))), (q8, .inr (0, [.ref q9, .int 0])), (q9, .inl (cI, 40, .inl (fun _ => 0)))] := hD
  refine W.widen (k := 10) (n := 256) (by decide) (by decide) ?_
  refine va_putF (D := D) (ci := 7) (v := .ref q8) (ty := .object "GrammarLines$Row") (C := R_Trial) (T := F_Trial) (N := 13) hx hb htg in_Trial t_Trial t_Trial_ok n_Trial hown hK hP hD hS 0 rfl rfl 8 (by decide) (htg _ k_f_Trial_30) (fun _ h9 => h9) rfl hin rfl (by decide +kernel) rfl rfl (Nat.le_of_ble_eq_true rfl) d_Trial_init_49 (fun H locs hP hD hS => ?_)
  have hP : va_P D classes [(h0, .inr (7, [.null, .null, .null, .null, .null, .ref q0, .ref q3, .ref q6, .ref q8, .int 0, .int 0, .int 0, .int 0])), (q0, .inr (1, [.ref q1, .int (-1), .int (-1), .long 0])), (q1, .inr (0, [.ref q2, .int 0])), (q2, .inl (cI, 60, .inl (fun _ => 0))), (q3, .inr (1, [.ref q4, .int (-1), .int (-1), .long 0])), (q4, .inr (0, [.ref q5, .int 0])), (q5, .inl (cI, 60, .inl (fun _ => 0))), (q6, .inr (0, [.ref q7, .int 0])), (q7, .inl (cI, 8, .inl (fun _ => 0))), (q8, .inr (0, [.ref q9, .int 0])), (q9, .inl (cI, 40, .inl (fun _ => 0)))] H := hP
  have hD : va_D A [(h0, .inr (7, [.null, .null, .null, .null, .null, .ref q0, .ref q3, .ref q6, .ref q8, .int 0, .int 0, .int 0, .int 0])), (q0, .inr (1, [.ref q1, .int (-1), .int (-1), .long 0])), (q1, .inr (0, [.ref q2, .int 0])), (q2, .inl (cI, 60, .inl (fun _ => 0))), (q3, .inr (1, [.ref q4, .int (-1), .int (-1), .long 0])), (q4, .inr (0, [.ref q5, .int 0])), (q5, .inl (cI, 60, .inl (fun _ => 0))), (q6, .inr (0, [.ref q7, .int 0])), (q7, .inl (cI, 8, .inl (fun _ => 0))), (q8, .inr (0, [.ref q9, .int 0])), (q9, .inl (cI, 40, .inl (fun _ => 0)))] := hD
  refine lv_aload_n hx hb d_Trial_init_52 rfl (lv_at hl 0 rfl) ?_
  refine lv_iconst (v := (-1)) hx hb d_Trial_init_53 (by decide) ?_
  refine va_put (D := D) (ci := 7) (v := .int (-1)) (ty := .int) (C := R_Trial) (T := F_Trial) (N := 13) hx hb htg in_Trial t_Trial t_Trial_ok n_Trial hown hK hP hD hS 0 rfl rfl 9 (by decide) (htg _ k_f_Trial_33) (fun _ h9 => h9) rfl (by decide +kernel) rfl rfl (Nat.le_of_ble_eq_true rfl) d_Trial_init_54 (fun H locs hP hD hS => ?_)
  have hP : va_P D classes [(h0, .inr (7, [.null, .null, .null, .null, .null, .ref q0, .ref q3, .ref q6, .ref q8, .int (-1), .int 0, .int 0, .int 0])), (q0, .inr (1, [.ref q1, .int (-1), .int (-1), .long 0])), (q1, .inr (0, [.ref q2, .int 0])), (q2, .inl (cI, 60, .inl (fun _ => 0))), (q3, .inr (1, [.ref q4, .int (-1), .int (-1), .long 0])), (q4, .inr (0, [.ref q5, .int 0])), (q5, .inl (cI, 60, .inl (fun _ => 0))), (q6, .inr (0, [.ref q7, .int 0])), (q7, .inl (cI, 8, .inl (fun _ => 0))), (q8, .inr (0, [.ref q9, .int 0])), (q9, .inl (cI, 40, .inl (fun _ => 0)))] H := hP
  have hD : va_D A [(h0, .inr (7, [.null, .null, .null, .null, .null, .ref q0, .ref q3, .ref q6, .ref q8, .int (-1), .int 0, .int 0, .int 0])), (q0, .inr (1, [.ref q1, .int (-1), .int (-1), .long 0])), (q1, .inr (0, [.ref q2, .int 0])), (q2, .inl (cI, 60, .inl (fun _ => 0))), (q3, .inr (1, [.ref q4, .int (-1), .int (-1), .long 0])), (q4, .inr (0, [.ref q5, .int 0])), (q5, .inl (cI, 60, .inl (fun _ => 0))), (q6, .inr (0, [.ref q7, .int 0])), (q7, .inl (cI, 8, .inl (fun _ => 0))), (q8, .inr (0, [.ref q9, .int 0])), (q9, .inl (cI, 40, .inl (fun _ => 0)))] := hD
  refine lv_aload_n hx hb d_Trial_init_57 rfl (lv_at hl 0 rfl) ?_
  refine lv_iconst (v := (-1)) hx hb d_Trial_init_58 (by decide) ?_
  refine va_put (D := D) (ci := 7) (v := .int (-1)) (ty := .int) (C := R_Trial) (T := F_Trial) (N := 13) hx hb htg in_Trial t_Trial t_Trial_ok n_Trial hown hK hP hD hS 0 rfl rfl 12 (by decide) (htg _ k_f_Trial_37) (fun _ h9 => h9) rfl (by decide +kernel) rfl rfl (Nat.le_of_ble_eq_true rfl) d_Trial_init_59 (fun H locs hP hD hS => ?_)
  have hP : va_P D classes [(h0, .inr (7, [.null, .null, .null, .null, .null, .ref q0, .ref q3, .ref q6, .ref q8, .int (-1), .int 0, .int 0, .int (-1)])), (q0, .inr (1, [.ref q1, .int (-1), .int (-1), .long 0])), (q1, .inr (0, [.ref q2, .int 0])), (q2, .inl (cI, 60, .inl (fun _ => 0))), (q3, .inr (1, [.ref q4, .int (-1), .int (-1), .long 0])), (q4, .inr (0, [.ref q5, .int 0])), (q5, .inl (cI, 60, .inl (fun _ => 0))), (q6, .inr (0, [.ref q7, .int 0])), (q7, .inl (cI, 8, .inl (fun _ => 0))), (q8, .inr (0, [.ref q9, .int 0])), (q9, .inl (cI, 40, .inl (fun _ => 0)))] H := hP
  have hD : va_D A [(h0, .inr (7, [.null, .null, .null, .null, .null, .ref q0, .ref q3, .ref q6, .ref q8, .int (-1), .int 0, .int 0, .int (-1)])), (q0, .inr (1, [.ref q1, .int (-1), .int (-1), .long 0])), (q1, .inr (0, [.ref q2, .int 0])), (q2, .inl (cI, 60, .inl (fun _ => 0))), (q3, .inr (1, [.ref q4, .int (-1), .int (-1), .long 0])), (q4, .inr (0, [.ref q5, .int 0])), (q5, .inl (cI, 60, .inl (fun _ => 0))), (q6, .inr (0, [.ref q7, .int 0])), (q7, .inl (cI, 8, .inl (fun _ => 0))), (q8, .inr (0, [.ref q9, .int 0])), (q9, .inl (cI, 40, .inl (fun _ => 0)))] := hD
  refine lv_aload_n hx hb d_Trial_init_62 rfl (lv_at hl 0 rfl) ?_
  refine lv_aload_n hx hb d_Trial_init_63 rfl (lv_at hl 1 rfl) ?_
  refine va_putF (D := D) (ci := 7) (v := .ref g0) (ty := .object "GrammarLines$Things") (C := R_Trial) (T := F_Trial) (N := 13) hx hb htg in_Trial t_Trial t_Trial_ok n_Trial hown hK hP hD hS 0 rfl rfl 0 (by decide) (htg _ k_f_Trial_40) (fun _ h9 => h9) rfl hin rfl (by decide +kernel) rfl rfl (Nat.le_of_ble_eq_true rfl) d_Trial_init_64 (fun H locs hP hD hS => ?_)
  have hP : va_P D classes [(h0, .inr (7, [.ref g0, .null, .null, .null, .null, .ref q0, .ref q3, .ref q6, .ref q8, .int (-1), .int 0, .int 0, .int (-1)])), (q0, .inr (1, [.ref q1, .int (-1), .int (-1), .long 0])), (q1, .inr (0, [.ref q2, .int 0])), (q2, .inl (cI, 60, .inl (fun _ => 0))), (q3, .inr (1, [.ref q4, .int (-1), .int (-1), .long 0])), (q4, .inr (0, [.ref q5, .int 0])), (q5, .inl (cI, 60, .inl (fun _ => 0))), (q6, .inr (0, [.ref q7, .int 0])), (q7, .inl (cI, 8, .inl (fun _ => 0))), (q8, .inr (0, [.ref q9, .int 0])), (q9, .inl (cI, 40, .inl (fun _ => 0)))] H := hP
  have hD : va_D A [(h0, .inr (7, [.ref g0, .null, .null, .null, .null, .ref q0, .ref q3, .ref q6, .ref q8, .int (-1), .int 0, .int 0, .int (-1)])), (q0, .inr (1, [.ref q1, .int (-1), .int (-1), .long 0])), (q1, .inr (0, [.ref q2, .int 0])), (q2, .inl (cI, 60, .inl (fun _ => 0))), (q3, .inr (1, [.ref q4, .int (-1), .int (-1), .long 0])), (q4, .inr (0, [.ref q5, .int 0])), (q5, .inl (cI, 60, .inl (fun _ => 0))), (q6, .inr (0, [.ref q7, .int 0])), (q7, .inl (cI, 8, .inl (fun _ => 0))), (q8, .inr (0, [.ref q9, .int 0])), (q9, .inl (cI, 40, .inl (fun _ => 0)))] := hD
  refine lv_aload_n hx hb d_Trial_init_67 rfl (lv_at hl 0 rfl) ?_
  refine lv_aload_n hx hb d_Trial_init_68 rfl (lv_at hl 2 rfl) ?_
  refine va_putF (D := D) (ci := 7) (v := .ref g1) (ty := .object "GrammarLines$Lines") (C := R_Trial) (T := F_Trial) (N := 13) hx hb htg in_Trial t_Trial t_Trial_ok n_Trial hown hK hP hD hS 0 rfl rfl 1 (by decide) (htg _ k_f_Trial_44) (fun _ h9 => h9) rfl hin rfl (by decide +kernel) rfl rfl (Nat.le_of_ble_eq_true rfl) d_Trial_init_69 (fun H locs hP hD hS => ?_)
  have hP : va_P D classes [(h0, .inr (7, [.ref g0, .ref g1, .null, .null, .null, .ref q0, .ref q3, .ref q6, .ref q8, .int (-1), .int 0, .int 0, .int (-1)])), (q0, .inr (1, [.ref q1, .int (-1), .int (-1), .long 0])), (q1, .inr (0, [.ref q2, .int 0])), (q2, .inl (cI, 60, .inl (fun _ => 0))), (q3, .inr (1, [.ref q4, .int (-1), .int (-1), .long 0])), (q4, .inr (0, [.ref q5, .int 0])), (q5, .inl (cI, 60, .inl (fun _ => 0))), (q6, .inr (0, [.ref q7, .int 0])), (q7, .inl (cI, 8, .inl (fun _ => 0))), (q8, .inr (0, [.ref q9, .int 0])), (q9, .inl (cI, 40, .inl (fun _ => 0)))] H := hP
  have hD : va_D A [(h0, .inr (7, [.ref g0, .ref g1, .null, .null, .null, .ref q0, .ref q3, .ref q6, .ref q8, .int (-1), .int 0, .int 0, .int (-1)])), (q0, .inr (1, [.ref q1, .int (-1), .int (-1), .long 0])), (q1, .inr (0, [.ref q2, .int 0])), (q2, .inl (cI, 60, .inl (fun _ => 0))), (q3, .inr (1, [.ref q4, .int (-1), .int (-1), .long 0])), (q4, .inr (0, [.ref q5, .int 0])), (q5, .inl (cI, 60, .inl (fun _ => 0))), (q6, .inr (0, [.ref q7, .int 0])), (q7, .inl (cI, 8, .inl (fun _ => 0))), (q8, .inr (0, [.ref q9, .int 0])), (q9, .inl (cI, 40, .inl (fun _ => 0)))] := hD
  refine lv_aload_n hx hb d_Trial_init_72 rfl (lv_at hl 0 rfl) ?_
  refine lv_aload_n hx hb d_Trial_init_73 rfl (lv_at hl 3 rfl) ?_
  refine va_putF (D := D) (ci := 7) (v := .ref g2) (ty := .object "GrammarLines$Values") (C := R_Trial) (T := F_Trial) (N := 13) hx hb htg in_Trial t_Trial t_Trial_ok n_Trial hown hK hP hD hS 0 rfl rfl 2 (by decide) (htg _ k_f_Trial_48) (fun _ h9 => h9) rfl hin rfl (by decide +kernel) rfl rfl (Nat.le_of_ble_eq_true rfl) d_Trial_init_74 (fun H locs hP hD hS => ?_)
  have hP : va_P D classes [(h0, .inr (7, [.ref g0, .ref g1, .ref g2, .null, .null, .ref q0, .ref q3, .ref q6, .ref q8, .int (-1), .int 0, .int 0, .int (-1)])), (q0, .inr (1, [.ref q1, .int (-1), .int (-1), .long 0])), (q1, .inr (0, [.ref q2, .int 0])), (q2, .inl (cI, 60, .inl (fun _ => 0))), (q3, .inr (1, [.ref q4, .int (-1), .int (-1), .long 0])), (q4, .inr (0, [.ref q5, .int 0])), (q5, .inl (cI, 60, .inl (fun _ => 0))), (q6, .inr (0, [.ref q7, .int 0])), (q7, .inl (cI, 8, .inl (fun _ => 0))), (q8, .inr (0, [.ref q9, .int 0])), (q9, .inl (cI, 40, .inl (fun _ => 0)))] H := hP
  have hD : va_D A [(h0, .inr (7, [.ref g0, .ref g1, .ref g2, .null, .null, .ref q0, .ref q3, .ref q6, .ref q8, .int (-1), .int 0, .int 0, .int (-1)])), (q0, .inr (1, [.ref q1, .int (-1), .int (-1), .long 0])), (q1, .inr (0, [.ref q2, .int 0])), (q2, .inl (cI, 60, .inl (fun _ => 0))), (q3, .inr (1, [.ref q4, .int (-1), .int (-1), .long 0])), (q4, .inr (0, [.ref q5, .int 0])), (q5, .inl (cI, 60, .inl (fun _ => 0))), (q6, .inr (0, [.ref q7, .int 0])), (q7, .inl (cI, 8, .inl (fun _ => 0))), (q8, .inr (0, [.ref q9, .int 0])), (q9, .inl (cI, 40, .inl (fun _ => 0)))] := hD
  refine lv_aload_n hx hb d_Trial_init_77 rfl (lv_at hl 0 rfl) ?_
  refine lv_aload hx hb d_Trial_init_78 (lv_at hl 4 rfl) ?_
  refine va_putF (D := D) (ci := 7) (v := .ref g3) (ty := .object "GrammarLines$Row") (C := R_Trial) (T := F_Trial) (N := 13) hx hb htg in_Trial t_Trial t_Trial_ok n_Trial hown hK hP hD hS 0 rfl rfl 3 (by decide) (htg _ k_f_Trial_52) (fun _ h9 => h9) rfl hin rfl (by decide +kernel) rfl rfl (Nat.le_of_ble_eq_true rfl) d_Trial_init_80 (fun H locs hP hD hS => ?_)
  have hP : va_P D classes [(h0, .inr (7, [.ref g0, .ref g1, .ref g2, .ref g3, .null, .ref q0, .ref q3, .ref q6, .ref q8, .int (-1), .int 0, .int 0, .int (-1)])), (q0, .inr (1, [.ref q1, .int (-1), .int (-1), .long 0])), (q1, .inr (0, [.ref q2, .int 0])), (q2, .inl (cI, 60, .inl (fun _ => 0))), (q3, .inr (1, [.ref q4, .int (-1), .int (-1), .long 0])), (q4, .inr (0, [.ref q5, .int 0])), (q5, .inl (cI, 60, .inl (fun _ => 0))), (q6, .inr (0, [.ref q7, .int 0])), (q7, .inl (cI, 8, .inl (fun _ => 0))), (q8, .inr (0, [.ref q9, .int 0])), (q9, .inl (cI, 40, .inl (fun _ => 0)))] H := hP
  have hD : va_D A [(h0, .inr (7, [.ref g0, .ref g1, .ref g2, .ref g3, .null, .ref q0, .ref q3, .ref q6, .ref q8, .int (-1), .int 0, .int 0, .int (-1)])), (q0, .inr (1, [.ref q1, .int (-1), .int (-1), .long 0])), (q1, .inr (0, [.ref q2, .int 0])), (q2, .inl (cI, 60, .inl (fun _ => 0))), (q3, .inr (1, [.ref q4, .int (-1), .int (-1), .long 0])), (q4, .inr (0, [.ref q5, .int 0])), (q5, .inl (cI, 60, .inl (fun _ => 0))), (q6, .inr (0, [.ref q7, .int 0])), (q7, .inl (cI, 8, .inl (fun _ => 0))), (q8, .inr (0, [.ref q9, .int 0])), (q9, .inl (cI, 40, .inl (fun _ => 0)))] := hD
  refine lv_aload_n hx hb d_Trial_init_83 rfl (lv_at hl 0 rfl) ?_
  refine va_new (ci := 2) (fs := [.null, .long 0, .int 0]) (C := R_Phrase) (T := F_Phrase) (N := 3) hx hb htg in_Phrase t_Phrase t_Phrase_ok hown (htg _ k_k_Trial_55) (htg _ k_inst_Phrase) (htg _ ji_Phrase) hK hP hD hS hA rfl (by intro j hj; match j, hj with | 0, _ => rfl | 1, _ => rfl | 2, _ => rfl | j + 3, h => exact absurd h (by omega)) (by decide) (by decide) d_Trial_init_84 (fun q10 H hP hD hS => ?_)
  have hP : va_P D classes [(h0, .inr (7, [.ref g0, .ref g1, .ref g2, .ref g3, .null, .ref q0, .ref q3, .ref q6, .ref q8, .int (-1), .int 0, .int 0, .int (-1)])), (q0, .inr (1, [.ref q1, .int (-1), .int (-1), .long 0])), (q1, .inr (0, [.ref q2, .int 0])), (q2, .inl (cI, 60, .inl (fun _ => 0))), (q3, .inr (1, [.ref q4, .int (-1), .int (-1), .long 0])), (q4, .inr (0, [.ref q5, .int 0])), (q5, .inl (cI, 60, .inl (fun _ => 0))), (q6, .inr (0, [.ref q7, .int 0])), (q7, .inl (cI, 8, .inl (fun _ => 0))), (q8, .inr (0, [.ref q9, .int 0])), (q9, .inl (cI, 40, .inl (fun _ => 0))), (q10, .inr (2, [.null, .long 0, .int 0]))] H := hP
  have hD : va_D A [(h0, .inr (7, [.ref g0, .ref g1, .ref g2, .ref g3, .null, .ref q0, .ref q3, .ref q6, .ref q8, .int (-1), .int 0, .int 0, .int (-1)])), (q0, .inr (1, [.ref q1, .int (-1), .int (-1), .long 0])), (q1, .inr (0, [.ref q2, .int 0])), (q2, .inl (cI, 60, .inl (fun _ => 0))), (q3, .inr (1, [.ref q4, .int (-1), .int (-1), .long 0])), (q4, .inr (0, [.ref q5, .int 0])), (q5, .inl (cI, 60, .inl (fun _ => 0))), (q6, .inr (0, [.ref q7, .int 0])), (q7, .inl (cI, 8, .inl (fun _ => 0))), (q8, .inr (0, [.ref q9, .int 0])), (q9, .inl (cI, 40, .inl (fun _ => 0))), (q10, .inr (2, [.null, .long 0, .int 0]))] := hD
  refine W.widen (k := 11) (n := 259) (by decide) (by decide) ?_
  refine lv_dup hx hb d_Trial_init_87 rfl ?_
  refine lv_aload_n hx hb d_Trial_init_88 rfl (lv_at hl 1 rfl) ?_
  refine cn_I (As := [.ref g0]) (rest := [.ref q10, .ref h0]) (wr := [(h0, .inr (7, [.ref g0, .ref g1, .ref g2, .ref g3, .null, .ref q0, .ref q3, .ref q6, .ref q8, .int (-1), .int 0, .int 0, .int (-1)])), (q0, .inr (1, [.ref q1, .int (-1), .int (-1), .long 0])), (q1, .inr (0, [.ref q2, .int 0])), (q2, .inl (cI, 60, .inl (fun _ => 0))), (q3, .inr (1, [.ref q4, .int (-1), .int (-1), .long 0])), (q4, .inr (0, [.ref q5, .int 0])), (q5, .inl (cI, 60, .inl (fun _ => 0))), (q6, .inr (0, [.ref q7, .int 0])), (q7, .inl (cI, 8, .inl (fun _ => 0))), (q8, .inr (0, [.ref q9, .int 0])), (q9, .inl (cI, 40, .inl (fun _ => 0)))]) hx hb hml hown htg hK hN (cn_Phrase (l := l) q10 H.size g0) okn_Phrase k_m_Trial_57 rfl rfl hl.1 (Nat.le_of_ble_eq_true rfl) d_Trial_init_89 ⟨by decide, by decide⟩ ⟨by decide, by decide⟩ hP hD hS hA [11] [0, 1, 2, 3, 4, 5, 6, 7, 8, 9, 10] rfl rfl (by decide) (by decide) (by decide) rfl (fun w1 H locs hE hP hD hS => ?_)
  obtain ⟨rfl⟩ := hE
  have hP : va_P D classes [(h0, .inr (7, [.ref g0, .ref g1, .ref g2, .ref g3, .null, .ref q0, .ref q3, .ref q6, .ref q8, .int (-1), .int 0, .int 0, .int (-1)])), (q0, .inr (1, [.ref q1, .int (-1), .int (-1), .long 0])), (q1, .inr (0, [.ref q2, .int 0])), (q2, .inl (cI, 60, .inl (fun _ => 0))), (q3, .inr (1, [.ref q4, .int (-1), .int (-1), .long 0])), (q4, .inr (0, [.ref q5, .int 0])), (q5, .inl (cI, 60, .inl (fun _ => 0))), (q6, .inr (0, [.ref q7, .int 0])), (q7, .inl (cI, 8, .inl (fun _ => 0))), (q8, .inr (0, [.ref q9, .int 0])), (q9, .inl (cI, 40, .inl (fun _ => 0))), (q10, .inr (2, [.ref g0, .long 0, .int 0]))] H := hP
  have hD : va_D A [(h0, .inr (7, [.ref g0, .ref g1, .ref g2, .ref g3, .null, .ref q0, .ref q3, .ref q6, .ref q8, .int (-1), .int 0, .int 0, .int (-1)])), (q0, .inr (1, [.ref q1, .int (-1), .int (-1), .long 0])), (q1, .inr (0, [.ref q2, .int 0])), (q2, .inl (cI, 60, .inl (fun _ => 0))), (q3, .inr (1, [.ref q4, .int (-1), .int (-1), .long 0])), (q4, .inr (0, [.ref q5, .int 0])), (q5, .inl (cI, 60, .inl (fun _ => 0))), (q6, .inr (0, [.ref q7, .int 0])), (q7, .inl (cI, 8, .inl (fun _ => 0))), (q8, .inr (0, [.ref q9, .int 0])), (q9, .inl (cI, 40, .inl (fun _ => 0))), (q10, .inr (2, [.ref g0, .long 0, .int 0]))] := hD
  refine W.widen (k := 11) (n := 259) (by decide) (by decide) ?_
  refine va_putF (D := D) (ci := 7) (v := .ref q10) (ty := .object "GrammarLines$Phrase") (C := R_Trial) (T := F_Trial) (N := 13) hx hb htg in_Trial t_Trial t_Trial_ok n_Trial hown hK hP hD hS 0 rfl rfl 4 (by decide) (htg _ k_f_Trial_60) (fun _ h9 => h9) rfl hin rfl (by decide +kernel) rfl rfl (Nat.le_of_ble_eq_true rfl) d_Trial_init_92 (fun H locs hP hD hS => ?_)
  have hP : va_P D classes [(h0, .inr (7, [.ref g0, .ref g1, .ref g2, .ref g3, .ref q10, .ref q0, .ref q3, .ref q6, .ref q8, .int (-1), .int 0, .int 0, .int (-1)])), (q0, .inr (1, [.ref q1, .int (-1), .int (-1), .long 0])), (q1, .inr (0, [.ref q2, .int 0])), (q2, .inl (cI, 60, .inl (fun _ => 0))), (q3, .inr (1, [.ref q4, .int (-1), .int (-1), .long 0])), (q4, .inr (0, [.ref q5, .int 0])), (q5, .inl (cI, 60, .inl (fun _ => 0))), (q6, .inr (0, [.ref q7, .int 0])), (q7, .inl (cI, 8, .inl (fun _ => 0))), (q8, .inr (0, [.ref q9, .int 0])), (q9, .inl (cI, 40, .inl (fun _ => 0))), (q10, .inr (2, [.ref g0, .long 0, .int 0]))] H := hP
  have hD : va_D A [(h0, .inr (7, [.ref g0, .ref g1, .ref g2, .ref g3, .ref q10, .ref q0, .ref q3, .ref q6, .ref q8, .int (-1), .int 0, .int 0, .int (-1)])), (q0, .inr (1, [.ref q1, .int (-1), .int (-1), .long 0])), (q1, .inr (0, [.ref q2, .int 0])), (q2, .inl (cI, 60, .inl (fun _ => 0))), (q3, .inr (1, [.ref q4, .int (-1), .int (-1), .long 0])), (q4, .inr (0, [.ref q5, .int 0])), (q5, .inl (cI, 60, .inl (fun _ => 0))), (q6, .inr (0, [.ref q7, .int 0])), (q7, .inl (cI, 8, .inl (fun _ => 0))), (q8, .inr (0, [.ref q9, .int 0])), (q9, .inl (cI, 40, .inl (fun _ => 0))), (q10, .inr (2, [.ref g0, .long 0, .int 0]))] := hD
  exact W.vret hx hb hr0 (fun t ht _ => ⟨⟨rfl, _, ⟨q0, q1, q2, q3, q4, q5, q6, q7, q8, q9, q10, rfl⟩, by rw [ht]; exact hP, hD⟩, hS.F ht⟩) hS.2.2 d_Trial_init_95 hlk
def rmn_Report : Room := { frames := 2, cells := 8, slots := 248, locals := 42 }
theorem okn_Report : CalN y_Report_init b_Report_init 1 0 rmn_Report 8 248 := ⟨kc_Report_init, ki_Report_init, ji_Report, ⟨by decide, by decide, by decide +kernel⟩, rfl, rfl, rfl⟩
set_option maxHeartbeats 4000000 in
set_option maxRecDepth 100000 in
theorem cn_Report {l : Launch} {D : va_G} {cI cZ cJ : ClassId} (h0 : Nat) (sz : Nat) : CtN l y_Report_init (.code y_Report_init b_Report_init 1 none :: gw) rmn_Report D [(cI, .int), (cZ, .boolean), (cJ, .long)] [.ref h0] [(h0, .inr (8, [.null, .null, .null, .null, .int 0, .int 0, .int 0, .int 0, .int 0]))] sz (fun w : va_W => ∃ (q0 : Nat) (q1 : Nat) (q2 : Nat) (q3 : Nat) (q4 : Nat) (q5 : Nat) (q6 : Nat) (q7 : Nat), w = [(h0, .inr (8, [.ref q0, .ref q2, .ref q4, .ref q6, .int (-1), .int 0, .int (-1), .int (-1), .int 0])), (q0, .inr (0, [.ref q1, .int 0])), (q1, .inl (cI, 60, .inl (fun _ => 0))), (q2, .inr (0, [.ref q3, .int 0])), (q3, .inl (cI, 60, .inl (fun _ => 0))), (q4, .inr (0, [.ref q5, .int 0])), (q5, .inl (cI, 60, .inl (fun _ => 0))), (q6, .inr (0, [.ref q7, .int 0])), (q7, .inl (cI, 40, .inl (fun _ => 0)))]) 8 248 := by
  refine Met.ofW (cc := b_Report_init) (maxL := 1) (ret := none) (by decide) rfl ?_
  intro p e s m args below meth c s₁ B hml hv
  obtain ⟨rfl, hsz, hP, hK, hN, hD0⟩ := hv
  have hx := B.exec
  have hb := B.bytes
  have hr0 := B.returns
  have hts := atoms_spec (ws := .code y_Report_init b_Report_init 1 none :: gw) B.pre
  have htg : ∀ w ∈ gw, w.before _ s = true := fun w h => hts w (List.mem_cons_of_mem _ h)
  have hown : s.vm.findClass R_Report = some m.cls := findClass_of_methodNamed B.named
  have hlk := B.notSynchronized
  have hin : meth.name = "<init>" := (name_of_methodNamed B.named B.method).1
  subst hsz
  have hD := hD0.self (sz := s.heap.size)
  generalize hAe : va_A [(h0, .inr (8, [.null, .null, .null, .null, .int 0, .int 0, .int 0, .int 0, .int 0]))] s.heap.size = A at hD ⊢
  have hA : ∀ q : Nat, s.heap.size ≤ q → A q := fun q h => by rw [← hAe]; exact Or.inr h
  have hS : va_S A s.heap s.heap [] := va_S.rf
  have hl := lv_entry ([.ref h0]) (n := 1) (Nat.le_of_ble_eq_true rfl)
  rw [lg_entry_eq]
  generalize (lg_sl ([.ref h0]) ++ List.replicate (1 - (lg_sl ([.ref h0])).length) Slot.unset).toArray = ls at hl ⊢
  have hl : lv_has ls 1 [(0, .ref h0)] := hl
  refine lv_aload_n hx hb d_Report_init_0 rfl (lv_at hl 0 rfl) ?_
  refine W.objInit hx hb hown (htg _ k_m_Report_3) (htg _ ki_obj) (htg _ kc_obj) rfl (by rw [hml]; exact hl.1) rfl d_Report_init_1 (Nat.le_of_ble_eq_true rfl) (Nat.le_of_ble_eq_true rfl) ?_
  refine W.eq (g2 := F0 m 4 ls []) rfl ?_
  refine lv_aload_n hx hb d_Report_init_4 rfl (lv_at hl 0 rfl) ?_
  refine va_new (ci := 0) (fs := [.null, .int 0]) (C := R_Row) (T := F_Row) (N := 2) hx hb htg in_Row t_Row t_Row_ok hown (htg _ k_k_Report_9) (htg _ k_inst_Row) (htg _ ji_Row) hK hP hD hS hA rfl (by intro j hj; match j, hj with | 0, _ => rfl | 1, _ => rfl | j + 2, h => exact absurd h (by omega)) (by decide) (by decide) d_Report_init_5 (fun q0 H hP hD hS => ?_)
  have hP : va_P D classes [(h0, .inr (8, [.null, .null, .null, .null, .int 0, .int 0, .int 0, .int 0, .int 0])), (q0, .inr (0, [.null, .int 0]))] H := hP
  have hD : va_D A [(h0, .inr (8, [.null, .null, .null, .null, .int 0, .int 0, .int 0, .int 0, .int 0])), (q0, .inr (0, [.null, .int 0]))] := hD
  refine W.widen (k := 1) (n := 2) (by decide) (by decide) ?_
  refine lv_dup hx hb d_Report_init_8 rfl ?_
  refine lv_bipush (v := 60) hx hb d_Report_init_9 (by decide) ?_
  refine cn_I (As := [.int 60]) (rest := [.ref q0, .ref h0]) (wr := [(h0, .inr (8, [.null, .null, .null, .null, .int 0, .int 0, .int 0, .int 0, .int 0]))]) hx hb hml hown htg hK hN (cn_Row (l := l) q0 H.size 60 (by decide)) okn_Row k_m_Report_11 rfl rfl hl.1 (Nat.le_of_ble_eq_true rfl) d_Report_init_11 ⟨by decide, by decide⟩ ⟨by decide, by decide⟩ hP hD hS hA [1] [0] rfl rfl (by decide) (by decide) (by decide) rfl (fun w1 H locs hE hP hD hS => ?_)
  obtain ⟨q1, rfl⟩ := hE
  have hP : va_P D classes [(h0, .inr (8, [.null, .null, .null, .null, .int 0, .int 0, .int 0, .int 0, .int 0])), (q0, .inr (0, [.ref q1, .int 0])), (q1, .inl (cI, 60, .inl (fun _ => 0)))] H := hP
  have hD : va_D A [(h0, .inr (8, [.null, .null, .null, .null, .int 0, .int 0, .int 0, .int 0, .int 0])), (q0, .inr (0, [.ref q1, .int 0])), (q1, .inl (cI, 60, .inl (fun _ => 0)))] := hD
  refine W.widen (k := 2) (n := 62) (by decide) (by decide) ?_
  refine va_putF (D := D) (ci := 8) (v := .ref q0) (ty := .object "GrammarLines$Row") (C := R_Report) (T := F_Report) (N := 9) hx hb htg in_Report t_Report t_Report_ok n_Report hown hK hP hD hS 0 rfl rfl 0 (by decide) (htg _ k_f_Report_14) (fun _ h9 => h9) rfl hin rfl (by decide +kernel) rfl rfl (Nat.le_of_ble_eq_true rfl) d_Report_init_14 (fun H locs hP hD hS => ?_)
  have hP : va_P D classes [(h0, .inr (8, [.ref q0, .null, .null, .null, .int 0, .int 0, .int 0, .int 0, .int 0])), (q0, .inr (0, [.ref q1, .int 0])), (q1, .inl (cI, 60, .inl (fun _ => 0)))] H := hP
  have hD : va_D A [(h0, .inr (8, [.ref q0, .null, .null, .null, .int 0, .int 0, .int 0, .int 0, .int 0])), (q0, .inr (0, [.ref q1, .int 0])), (q1, .inl (cI, 60, .inl (fun _ => 0)))] := hD
  refine lv_aload_n hx hb d_Report_init_17 rfl (lv_at hl 0 rfl) ?_
  refine va_new (ci := 0) (fs := [.null, .int 0]) (C := R_Row) (T := F_Row) (N := 2) hx hb htg in_Row t_Row t_Row_ok hown (htg _ k_k_Report_9) (htg _ k_inst_Row) (htg _ ji_Row) hK hP hD hS hA rfl (by intro j hj; match j, hj with | 0, _ => rfl | 1, _ => rfl | j + 2, h => exact absurd h (by omega)) (by decide) (by decide) d_Report_init_18 (fun q2 H hP hD hS => ?_)
  have hP : va_P D classes [(h0, .inr (8, [.ref q0, .null, .null, .null, .int 0, .int 0, .int 0, .int 0, .int 0])), (q0, .inr (0, [.ref q1, .int 0])), (q1, .inl (cI, 60, .inl (fun _ => 0))), (q2, .inr (0, [.null, .int 0]))] H := hP
  have hD : va_D A [(h0, .inr (8, [.ref q0, .null, .null, .null, .int 0, .int 0, .int 0, .int 0, .int 0])), (q0, .inr (0, [.ref q1, .int 0])), (q1, .inl (cI, 60, .inl (fun _ => 0))), (q2, .inr (0, [.null, .int 0]))] := hD
  refine W.widen (k := 3) (n := 64) (by decide) (by decide) ?_
  refine lv_dup hx hb d_Report_init_21 rfl ?_
  refine lv_bipush (v := 60) hx hb d_Report_init_22 (by decide) ?_
  refine cn_I (As := [.int 60]) (rest := [.ref q2, .ref h0]) (wr := [(h0, .inr (8, [.ref q0, .null, .null, .null, .int 0, .int 0, .int 0, .int 0, .int 0])), (q0, .inr (0, [.ref q1, .int 0])), (q1, .inl (cI, 60, .inl (fun _ => 0)))]) hx hb hml hown htg hK hN (cn_Row (l := l) q2 H.size 60 (by decide)) okn_Row k_m_Report_11 rfl rfl hl.1 (Nat.le_of_ble_eq_true rfl) d_Report_init_24 ⟨by decide, by decide⟩ ⟨by decide, by decide⟩ hP hD hS hA [3] [0, 1, 2] rfl rfl (by decide) (by decide) (by decide) rfl (fun w1 H locs hE hP hD hS => ?_)
  obtain ⟨q3, rfl⟩ := hE
  have hP : va_P D classes [(h0, .inr (8, [.ref q0, .null, .null, .null, .int 0, .int 0, .int 0, .int 0, .int 0])), (q0, .inr (0, [.ref q1, .int 0])), (q1, .inl (cI, 60, .inl (fun _ => 0))), (q2, .inr (0, [.ref q3, .int 0])), (q3, .inl (cI, 60, .inl (fun _ => 0)))] H := hP
  have hD : va_D A [(h0, .inr (8, [.ref q0, .null, .null, .null, .int 0, .int 0, .int 0, .int 0, .int 0])), (q0, .inr (0, [.ref q1, .int 0])), (q1, .inl (cI, 60, .inl (fun _ => 0))), (q2, .inr (0, [.ref q3, .int 0])), (q3, .inl (cI, 60, .inl (fun _ => 0)))] := hD
  refine W.widen (k := 4) (n := 124) (by decide) (by decide) ?_
  refine va_putF (D := D) (ci := 8) (v := .ref q2) (ty := .object "GrammarLines$Row") (C := R_Report) (T := F_Report) (N := 9) hx hb htg in_Report t_Report t_Report_ok n_Report hown hK hP hD hS 0 rfl rfl 1 (by decide) (htg _ k_f_Report_20) (fun _ h9 => h9) rfl hin rfl (by decide +kernel) rfl rfl (Nat.le_of_ble_eq_true rfl) d_Report_init_27 (fun H locs hP hD hS => ?_)
  have hP : va_P D classes [(h0, .inr (8, [.ref q0, .ref q2, .null, .null, .int 0, .int 0, .int 0, .int 0, .int 0])), (q0, .inr (0, [.ref q1, .int 0])), (q1, .inl (cI, 60, .inl (fun _ => 0))), (q2, .inr (0, [.ref q3, .int 0])), (q3, .inl (cI, 60, .inl (fun _ => 0)))] H := hP
  have hD : va_D A [(h0, .inr (8, [.ref q0, .ref q2, .null, .null, .int 0, .int 0, .int 0, .int 0, .int 0])), (q0, .inr (0, [.ref q1, .int 0])), (q1, .inl (cI, 60, .inl (fun _ => 0))), (q2, .inr (0, [.ref q3, .int 0])), (q3, .inl (cI, 60, .inl (fun _ => 0)))] := hD
  refine lv_aload_n hx hb d_Report_init_30 rfl (lv_at hl 0 rfl) ?_
  refine va_new (ci := 0) (fs := [.null, .int 0]) (C := R_Row) (T := F_Row) (N := 2) hx hb htg in_Row t_Row t_Row_ok hown (htg _ k_k_Report_9) (htg _ k_inst_Row) (htg _ ji_Row) hK hP hD hS hA rfl (by intro j hj; match j, hj with | 0, _ => rfl | 1, _ => rfl | j + 2, h => exact absurd h (by omega)) (by decide) (by decide) d_Report_init_31 (fun q4 H hP hD hS => ?_)
  have hP : va_P D classes [(h0, .inr (8, [.ref q0, .ref q2, .null, .null, .int 0, .int 0, .int 0, .int 0, .int 0])), (q0, .inr (0, [.ref q1, .int 0])), (q1, .inl (cI, 60, .inl (fun _ => 0))), (q2, .inr (0, [.ref q3, .int 0])), (q3, .inl (cI, 60, .inl (fun _ => 0))), (q4, .inr (0, [.null, .int 0]))] H := hP
  have hD : va_D A [(h0, .inr (8, [.ref q0, .ref q2, .null, .null, .int 0, .int 0, .int 0, .int 0, .int 0])), (q0, .inr (0, [.ref q1, .int 0])), (q1, .inl (cI, 60, .inl (fun _ => 0))), (q2, .inr (0, [.ref q3, .int 0])), (q3, .inl (cI, 60, .inl (fun _ => 0))), (q4, .inr (0, [.null, .int 0]))] := hD
  refine W.widen (k := 5) (n := 126) (by decide) (by decide) ?_
  refine lv_dup hx hb d_Report_init_34 rfl ?_
  refine lv_bipush (v := 60) hx hb d_Report_init_35 (by decide) ?_
  refine cn_I (As := [.int 60]) (rest := [.ref q4, .ref h0]) (wr := [(h0, .inr (8, [.ref q0, .ref q2, .null, .null, .int 0, .int 0, .int 0, .int 0, .int 0])), (q0, .inr (0, [.ref q1, .int 0])), (q1, .inl (cI, 60, .inl (fun _ => 0))), (q2, .inr (0, [.ref q3, .int 0])), (q3, .inl (cI, 60, .inl (fun _ => 0)))]) hx hb hml hown htg hK hN (cn_Row (l := l) q4 H.size 60 (by decide)) okn_Row k_m_Report_11 rfl rfl hl.1 (Nat.le_of_ble_eq_true rfl) d_Report_init_37 ⟨by decide, by decide⟩ ⟨by decide, by decide⟩ hP hD hS hA [5] [0, 1, 2, 3, 4] rfl rfl (by decide) (by decide) (by decide) rfl (fun w1 H locs hE hP hD hS => ?_)
  obtain ⟨q5, rfl⟩ := hE
  have hP : va_P D classes [(h0, .inr (8, [.ref q0, .ref q2, .null, .null, .int 0, .int 0, .int 0, .int 0, .int 0])), (q0, .inr (0, [.ref q1, .int 0])), (q1, .inl (cI, 60, .inl (fun _ => 0))), (q2, .inr (0, [.ref q3, .int 0])), (q3, .inl (cI, 60, .inl (fun _ => 0))), (q4, .inr (0, [.ref q5, .int 0])), (q5, .inl (cI, 60, .inl (fun _ => 0)))] H := hP
  have hD : va_D A [(h0, .inr (8, [.ref q0, .ref q2, .null, .null, .int 0, .int 0, .int 0, .int 0, .int 0])), (q0, .inr (0, [.ref q1, .int 0])), (q1, .inl (cI, 60, .inl (fun _ => 0))), (q2, .inr (0, [.ref q3, .int 0])), (q3, .inl (cI, 60, .inl (fun _ => 0))), (q4, .inr (0, [.ref q5, .int 0])), (q5, .inl (cI, 60, .inl (fun _ => 0)))] := hD
  refine W.widen (k := 6) (n := 186) (by decide) (by decide) ?_
  refine va_putF (D := D) (ci := 8) (v := .ref q4) (ty := .object "GrammarLines$Row") (C := R_Report) (T := F_Report) (N := 9) hx hb htg in_Report t_Report t_Report_ok n_Report hown hK hP hD hS 0 rfl rfl 2 (by decide) (htg _ k_f_Report_23) (fun _ h9 => h9) rfl hin rfl (by decide +kernel) rfl rfl (Nat.le_of_ble_eq_true rfl) d_Report_init_40 (fun H locs hP hD hS => ?_)
  have hP : va_P D classes [(h0, .inr (8, [.ref q0, .ref q2, .ref q4, .null, .int 0, .int 0, .int 0, .int 0, .int 0])), (q0, .inr (0, [.ref q1, .int 0])), (q1, .inl (cI, 60, .inl (fun _ => 0))), (q2, .inr (0, [.ref q3, .int 0])), (q3, .inl (cI, 60, .inl (fun _ => 0))), (q4, .inr (0, [.ref q5, .int 0])), (q5, .inl (cI, 60, .inl (fun _ => 0)))] H := hP
  have hD : va_D A [(h0, .inr (8, [.ref q0, .ref q2, .ref q4, .null, .int 0, .int 0, .int 0, .int 0, .int 0])), (q0, .inr (0, [.ref q1, .int 0])), (q1, .inl (cI, 60, .inl (fun _ => 0))), (q2, .inr (0, [.ref q3, .int 0])), (q3, .inl (cI, 60, .inl (fun _ => 0))), (q4, .inr (0, [.ref q5, .int 0])), (q5, .inl (cI, 60, .inl (fun _ => 0)))] := hD
  refine lv_aload_n hx hb d_Report_init_43 rfl (lv_at hl 0 rfl) ?_
  refine va_new (ci := 0) (fs := [.null, .int 0]) (C := R_Row) (T := F_Row) (N := 2) hx hb htg in_Row t_Row t_Row_ok hown (htg _ k_k_Report_9) (htg _ k_inst_Row) (htg _ ji_Row) hK hP hD hS hA rfl (by intro j hj; match j, hj with | 0, _ => rfl | 1, _ => rfl | j + 2, h => exact absurd h (by omega)) (by decide) (by decide) d_Report_init_44 (fun q6 H hP hD hS => ?_)
  have hP : va_P D classes [(h0, .inr (8, [.ref q0, .ref q2, .ref q4, .null, .int 0, .int 0, .int 0, .int 0, .int 0])), (q0, .inr (0, [.ref q1, .int 0])), (q1, .inl (cI, 60, .inl (fun _ => 0))), (q2, .inr (0, [.ref q3, .int 0])), (q3, .inl (cI, 60, .inl (fun _ => 0))), (q4, .inr (0, [.ref q5, .int 0])), (q5, .inl (cI, 60, .inl (fun _ => 0))), (q6, .inr (0, [.null, .int 0]))] H := hP
  have hD : va_D A [(h0, .inr (8, [.ref q0, .ref q2, .ref q4, .null, .int 0, .int 0, .int 0, .int 0, .int 0])), (q0, .inr (0, [.ref q1, .int 0])), (q1, .inl (cI, 60, .inl (fun _ => 0))), (q2, .inr (0, [.ref q3, .int 0])), (q3, .inl (cI, 60, .inl (fun _ => 0))), (q4, .inr (0, [.ref q5, .int 0])), (q5, .inl (cI, 60, .inl (fun _ => 0))), (q6, .inr (0, [.null, .int 0]))] := hD
  refine W.widen (k := 7) (n := 188) (by decide) (by decide) ?_
  refine lv_dup hx hb d_Report_init_47 rfl ?_
  refine lv_bipush (v := 40) hx hb d_Report_init_48 (by decide) ?_
  refine cn_I (As := [.int 40]) (rest := [.ref q6, .ref h0]) (wr := [(h0, .inr (8, [.ref q0, .ref q2, .ref q4, .null, .int 0, .int 0, .int 0, .int 0, .int 0])), (q0, .inr (0, [.ref q1, .int 0])), (q1, .inl (cI, 60, .inl (fun _ => 0))), (q2, .inr (0, [.ref q3, .int 0])), (q3, .inl (cI, 60, .inl (fun _ => 0))), (q4, .inr (0, [.ref q5, .int 0])), (q5, .inl (cI, 60, .inl (fun _ => 0)))]) hx hb hml hown htg hK hN (cn_Row (l := l) q6 H.size 40 (by decide)) okn_Row k_m_Report_11 rfl rfl hl.1 (Nat.le_of_ble_eq_true rfl) d_Report_init_50 ⟨by decide, by decide⟩ ⟨by decide, by decide⟩ hP hD hS hA [7] [0, 1, 2, 3, 4, 5, 6] rfl rfl (by decide) (by decide) (by decide) rfl (fun w1 H locs hE hP hD hS => ?_)
  obtain ⟨q7, rfl⟩ := hE
  have hP : va_P D classes [(h0, .inr (8, [.ref q0, .ref q2, .ref q4, .null, .int 0, .int 0, .int 0, .int 0, .int 0])), (q0, .inr (0, [.ref q1, .int 0])), (q1, .inl (cI, 60, .inl (fun _ => 0))), (q2, .inr (0, [.ref q3, .int 0])), (q3, .inl (cI, 60, .inl (fun _ => 0))), (q4, .inr (0, [.ref q5, .int 0])), (q5, .inl (cI, 60, .inl (fun _ => 0))), (q6, .inr (0, [.ref q7, .int 0])), (q7, .inl (cI, 40, .inl (fun _ => 0)))] H := hP
  have hD : va_D A [(h0, .inr (8, [.ref q0, .ref q2, .ref q4, .null, .int 0, .int 0, .int 0, .int 0, .int 0])), (q0, .inr (0, [.ref q1, .int 0])), (q1, .inl (cI, 60, .inl (fun _ => 0))), (q2, .inr (0, [.ref q3, .int 0])), (q3, .inl (cI, 60, .inl (fun _ => 0))), (q4, .inr (0, [.ref q5, .int 0])), (q5, .inl (cI, 60, .inl (fun _ => 0))), (q6, .inr (0, [.ref q7, .int 0])), (q7, .inl (cI, 40, .inl (fun _ => 0)))] := hD
  refine W.widen (k := 8) (n := 248) (by decide) (by decide) ?_
  refine va_putF (D := D) (ci := 8) (v := .ref q6) (ty := .object "GrammarLines$Row") (C := R_Report) (T := F_Report) (N := 9) hx hb htg in_Report t_Report t_Report_ok n_Report hown hK hP hD hS 0 rfl rfl 3 (by decide) (htg _ k_f_Report_26) (fun _ h9 => h9) rfl hin rfl (by decide +kernel) rfl rfl (Nat.le_of_ble_eq_true rfl) d_Report_init_53 (fun H locs hP hD hS => ?_)
  have hP : va_P D classes [(h0, .inr (8, [.ref q0, .ref q2, .ref q4, .ref q6, .int 0, .int 0, .int 0, .int 0, .int 0])), (q0, .inr (0, [.ref q1, .int 0])), (q1, .inl (cI, 60, .inl (fun _ => 0))), (q2, .inr (0, [.ref q3, .int 0])), (q3, .inl (cI, 60, .inl (fun _ => 0))), (q4, .inr (0, [.ref q5, .int 0])), (q5, .inl (cI, 60, .inl (fun _ => 0))), (q6, .inr (0, [.ref q7, .int 0])), (q7, .inl (cI, 40, .inl (fun _ => 0)))] H := hP
  have hD : va_D A [(h0, .inr (8, [.ref q0, .ref q2, .ref q4, .ref q6, .int 0, .int 0, .int 0, .int 0, .int 0])), (q0, .inr (0, [.ref q1, .int 0])), (q1, .inl (cI, 60, .inl (fun _ => 0))), (q2, .inr (0, [.ref q3, .int 0])), (q3, .inl (cI, 60, .inl (fun _ => 0))), (q4, .inr (0, [.ref q5, .int 0])), (q5, .inl (cI, 60, .inl (fun _ => 0))), (q6, .inr (0, [.ref q7, .int 0])), (q7, .inl (cI, 40, .inl (fun _ => 0)))] := hD
  refine lv_aload_n hx hb d_Report_init_56 rfl (lv_at hl 0 rfl) ?_
  refine lv_iconst (v := (-1)) hx hb d_Report_init_57 (by decide) ?_
  refine va_put (D := D) (ci := 8) (v := .int (-1)) (ty := .int) (C := R_Report) (T := F_Report) (N := 9) hx hb htg in_Report t_Report t_Report_ok n_Report hown hK hP hD hS 0 rfl rfl 4 (by decide) (htg _ k_f_Report_29) (fun _ h9 => h9) rfl (by decide +kernel) rfl rfl (Nat.le_of_ble_eq_true rfl) d_Report_init_58 (fun H locs hP hD hS => ?_)
  have hP : va_P D classes [(h0, .inr (8, [.ref q0, .ref q2, .ref q4, .ref q6, .int (-1), .int 0, .int 0, .int 0, .int 0])), (q0, .inr (0, [.ref q1, .int 0])), (q1, .inl (cI, 60, .inl (fun _ => 0))), (q2, .inr (0, [.ref q3, .int 0])), (q3, .inl (cI, 60, .inl (fun _ => 0))), (q4, .inr (0, [.ref q5, .int 0])), (q5, .inl (cI, 60, .inl (fun _ => 0))), (q6, .inr (0, [.ref q7, .int 0])), (q7, .inl (cI, 40, .inl (fun _ => 0)))] H := hP
  have hD : va_D A [(h0, .inr (8, [.ref q0, .ref q2, .ref q4, .ref q6, .int (-1), .int 0, .int 0, .int 0, .int 0])), (q0, .inr (0, [.ref q1, .int 0])), (q1, .inl (cI, 60, .inl (fun _ => 0))), (q2, .inr (0, [.ref q3, .int 0])), (q3, .inl (cI, 60, .inl (fun _ => 0))), (q4, .inr (0, [.ref q5, .int 0])), (q5, .inl (cI, 60, .inl (fun _ => 0))), (q6, .inr (0, [.ref q7, .int 0])), (q7, .inl (cI, 40, .inl (fun _ => 0)))] := hD
  refine lv_aload_n hx hb d_Report_init_61 rfl (lv_at hl 0 rfl) ?_
  refine lv_iconst (v := (-1)) hx hb d_Report_init_62 (by decide) ?_
  refine va_put (D := D) (ci := 8) (v := .int (-1)) (ty := .int) (C := R_Report) (T := F_Report) (N := 9) hx hb htg in_Report t_Report t_Report_ok n_Report hown hK hP hD hS 0 rfl rfl 6 (by decide) (htg _ k_f_Report_33) (fun _ h9 => h9) rfl (by decide +kernel) rfl rfl (Nat.le_of_ble_eq_true rfl) d_Report_init_63 (fun H locs hP hD hS => ?_)
  have hP : va_P D classes [(h0, .inr (8, [.ref q0, .ref q2, .ref q4, .ref q6, .int (-1), .int 0, .int (-1), .int 0, .int 0])), (q0, .inr (0, [.ref q1, .int 0])), (q1, .inl (cI, 60, .inl (fun _ => 0))), (q2, .inr (0, [.ref q3, .int 0])), (q3, .inl (cI, 60, .inl (fun _ => 0))), (q4, .inr (0, [.ref q5, .int 0])), (q5, .inl (cI, 60, .inl (fun _ => 0))), (q6, .inr (0, [.ref q7, .int 0])), (q7, .inl (cI, 40, .inl (fun _ => 0)))] H := hP
  have hD : va_D A [(h0, .inr (8, [.ref q0, .ref q2, .ref q4, .ref q6, .int (-1), .int 0, .int (-1), .int 0, .int 0])), (q0, .inr (0, [.ref q1, .int 0])), (q1, .inl (cI, 60, .inl (fun _ => 0))), (q2, .inr (0, [.ref q3, .int 0])), (q3, .inl (cI, 60, .inl (fun _ => 0))), (q4, .inr (0, [.ref q5, .int 0])), (q5, .inl (cI, 60, .inl (fun _ => 0))), (q6, .inr (0, [.ref q7, .int 0])), (q7, .inl (cI, 40, .inl (fun _ => 0)))] := hD
  refine lv_aload_n hx hb d_Report_init_66 rfl (lv_at hl 0 rfl) ?_
  refine lv_iconst (v := (-1)) hx hb d_Report_init_67 (by decide) ?_
  refine va_put (D := D) (ci := 8) (v := .int (-1)) (ty := .int) (C := R_Report) (T := F_Report) (N := 9) hx hb htg in_Report t_Report t_Report_ok n_Report hown hK hP hD hS 0 rfl rfl 7 (by decide) (htg _ k_f_Report_36) (fun _ h9 => h9) rfl (by decide +kernel) rfl rfl (Nat.le_of_ble_eq_true rfl) d_Report_init_68 (fun H locs hP hD hS => ?_)
  have hP : va_P D classes [(h0, .inr (8, [.ref q0, .ref q2, .ref q4, .ref q6, .int (-1), .int 0, .int (-1), .int (-1), .int 0])), (q0, .inr (0, [.ref q1, .int 0])), (q1, .inl (cI, 60, .inl (fun _ => 0))), (q2, .inr (0, [.ref q3, .int 0])), (q3, .inl (cI, 60, .inl (fun _ => 0))), (q4, .inr (0, [.ref q5, .int 0])), (q5, .inl (cI, 60, .inl (fun _ => 0))), (q6, .inr (0, [.ref q7, .int 0])), (q7, .inl (cI, 40, .inl (fun _ => 0)))] H := hP
  have hD : va_D A [(h0, .inr (8, [.ref q0, .ref q2, .ref q4, .ref q6, .int (-1), .int 0, .int (-1), .int (-1), .int 0])), (q0, .inr (0, [.ref q1, .int 0])), (q1, .inl (cI, 60, .inl (fun _ => 0))), (q2, .inr (0, [.ref q3, .int 0])), (q3, .inl (cI, 60, .inl (fun _ => 0))), (q4, .inr (0, [.ref q5, .int 0])), (q5, .inl (cI, 60, .inl (fun _ => 0))), (q6, .inr (0, [.ref q7, .int 0])), (q7, .inl (cI, 40, .inl (fun _ => 0)))] := hD
  exact W.vret hx hb hr0 (fun t ht _ => ⟨⟨rfl, _, ⟨q0, q1, q2, q3, q4, q5, q6, q7, rfl⟩, by rw [ht]; exact hP, hD⟩, hS.F ht⟩) hS.2.2 d_Report_init_71 hlk

/-- the same answer, and the relation again -/
def Agree (Rel : St → St → Prop) (f g : Option (Int32 × St)) : Prop := ∃ (r : Int32) (S2 T2 : St), f = some (r, S2) ∧ g = some (r, T2) ∧ Rel S2 T2
/-- every call of the face keeps the relation and answers alike -/
def Good_verb (Rel : St → St → Prop) : Prop := ∀ (S T : St) (a : Int32), Rel S T → Agree Rel (x_G_verb S a) (m_M_verb T a)
def Good_like (Rel : St → St → Prop) : Prop := ∀ (S T : St) (a : Int32) (b : Int32), Rel S T → Agree Rel (x_G_like S a b) (m_M_like T a b)
def Good_line (Rel : St → St → Prop) : Prop := ∀ (S T : St) (a : Int32) (b : Int32) (d : Int32), Rel S T → (d = 0 ∨ d = 1) → Agree Rel (x_G_line S a b d) (m_M_line T a b d)
def Good_token (Rel : St → St → Prop) : Prop := ∀ (S T : St) (a : Int32) (b : Int32) (d : Int32), Rel S T → Agree Rel (x_G_token S a b d) (m_M_token T a b d)
def Good_thing (Rel : St → St → Prop) : Prop := ∀ (S T : St) (a : Int32), Rel S T → Agree Rel (x_G_thing S a) (m_M_thing T a)
def Good_name (Rel : St → St → Prop) : Prop := ∀ (S T : St) (a : Int32) (b : Int32), Rel S T → Agree Rel (x_G_name S a b) (m_M_name T a b)
def Good_flags (Rel : St → St → Prop) : Prop := ∀ (S T : St) (a : Int32) (b : Int32), Rel S T → Agree Rel (x_G_flags S a b) (m_M_flags T a b)
def Good_custom (Rel : St → St → Prop) : Prop := ∀ (S T : St) (a : Int32) (b : Int32) (d : Int32), Rel S T → Agree Rel (x_G_custom S a b d) (m_M_custom T a b d)
def Good_word (Rel : St → St → Prop) : Prop := ∀ (S T : St) (a : Int32), Rel S T → Agree Rel (x_G_word S a) (m_M_word T a)
def Good_clear (Rel : St → St → Prop) : Prop := ∀ (S T : St), Rel S T → Agree Rel (x_G_clear S) (m_M_clear T)
def Good_parse (Rel : St → St → Prop) : Prop := ∀ (S T : St), Rel S T → Agree Rel (x_G_parse S) (m_M_parse T)
def Good_answer (Rel : St → St → Prop) : Prop := ∀ (S T : St) (a : Int32), Rel S T → Agree Rel (x_G_answer S a) (m_M_answer T a)
def Good_object (Rel : St → St → Prop) : Prop := ∀ (S T : St) (a : Int32) (b : Int32), Rel S T → Agree Rel (x_G_object S a b) (m_M_object T a b)
def Good_asked (Rel : St → St → Prop) : Prop := ∀ (S T : St) (a : Int32), Rel S T → Agree Rel (x_G_asked S a) (m_M_asked T a)
def Good_filled (Rel : St → St → Prop) : Prop := ∀ (S T : St) (a : Int32), Rel S T → Agree Rel (x_G_filled S a) (m_M_filled T a)
def Good_told (Rel : St → St → Prop) : Prop := ∀ (S T : St) (a : Int32), Rel S T → Agree Rel (x_G_told S a) (m_M_told T a)
def Good_trace (Rel : St → St → Prop) : Prop := ∀ (S T : St) (a : Int32) (b : Int32), Rel S T → Agree Rel (x_G_trace S a b) (m_M_trace T a b)
def Good_said (Rel : St → St → Prop) : Prop := ∀ (S T : St) (a : Int32) (b : Int32), Rel S T → Agree Rel (x_G_said S a b) (m_M_said T a b)
theorem D_fst {A : Nat → Prop} {w w2 : va_W} (h : va_D A w) (e : w2.map Prod.fst = w.map Prod.fst) : va_D A w2 := by
  have key : ∀ (k : Nat) (q : Nat × va_E), w2[k]? = some q → ∃ r, w[k]? = some r ∧ r.1 = q.1 := by
    intro k q hk
    have h1 : (w2.map Prod.fst)[k]? = some q.1 := by rw [List.getElem?_map, hk]; rfl
    rw [e, List.getElem?_map] at h1
    cases hw : w[k]? with
    | none => rw [hw] at h1; cases h1
    | some r => rw [hw] at h1; exact ⟨r, rfl, Option.some.inj h1⟩
  refine ⟨fun i j x y hi hj hxy => ?_, fun k q hk => ?_⟩
  · obtain ⟨r1, a1, b1⟩ := key i x hi
    obtain ⟨r2, a2, b2⟩ := key j y hj
    exact h.1 i j r1 r2 a1 a2 (b1.trans (hxy.trans b2.symm))
  · obtain ⟨r1, a1, b1⟩ := key k q hk
    rw [← b1]; exact h.2 k r1 a1
theorem x_fst {cI cZ cJ : ClassId} {ao aa : Nat → Nat} {S : St} : (xW cI cZ cJ ao aa S).map Prod.fst = (List.range 28).map ao ++ (List.range 26).map aa := rfl
theorem x_mem {cI cZ cJ : ClassId} {ao aa : Nat → Nat} {S : St} (k : Nat) (q : Nat × va_E) (h : (xW cI cZ cJ ao aa S)[k]? = some q) : xA ao aa q.1 := by
  have h1 : q.1 ∈ (xW cI cZ cJ ao aa S).map Prod.fst := List.mem_map.mpr ⟨q, List.mem_of_getElem? h, rfl⟩
  rw [x_fst] at h1
  rcases List.mem_append.mp h1 with h2 | h2
  · obtain ⟨j, hj, e⟩ := List.mem_map.mp h2
    exact Or.inl ⟨j, List.mem_range.mp hj, e.symm⟩
  · obtain ⟨j, hj, e⟩ := List.mem_map.mp h2
    exact Or.inr ⟨j, List.mem_range.mp hj, e.symm⟩
theorem x_cell {cI cZ cJ : ClassId} {ao aa : Nat → Nat} {S : St} {a : Nat} (h : xA ao aa a) : ∃ (k : Nat) (q : Nat × va_E), (xW cI cZ cJ ao aa S)[k]? = some q ∧ q.1 = a := by
  have h1 : a ∈ (xW cI cZ cJ ao aa S).map Prod.fst := by
    rw [x_fst]
    rcases h with ⟨j, hj, rfl⟩ | ⟨j, hj, rfl⟩
    · exact List.mem_append_left _ (List.mem_map.mpr ⟨j, List.mem_range.mpr hj, rfl⟩)
    · exact List.mem_append_right _ (List.mem_map.mpr ⟨j, List.mem_range.mpr hj, rfl⟩)
  obtain ⟨q, hq, e⟩ := List.mem_map.mp h1
  obtain ⟨k, hk⟩ := List.getElem?_of_mem hq
  exact ⟨k, q, hk, e⟩
theorem m_fst {cI cZ cJ : ClassId} {ao aa : Nat → Nat} {S : St} : (mW cI cZ cJ ao aa S).map Prod.fst = (List.range 1).map ao ++ (List.range 29).map aa := rfl
theorem m_mem {cI cZ cJ : ClassId} {ao aa : Nat → Nat} {S : St} (k : Nat) (q : Nat × va_E) (h : (mW cI cZ cJ ao aa S)[k]? = some q) : mA ao aa q.1 := by
  have h1 : q.1 ∈ (mW cI cZ cJ ao aa S).map Prod.fst := List.mem_map.mpr ⟨q, List.mem_of_getElem? h, rfl⟩
  rw [m_fst] at h1
  rcases List.mem_append.mp h1 with h2 | h2
  · obtain ⟨j, hj, e⟩ := List.mem_map.mp h2
    exact Or.inl ⟨j, List.mem_range.mp hj, e.symm⟩
  · obtain ⟨j, hj, e⟩ := List.mem_map.mp h2
    exact Or.inr ⟨j, List.mem_range.mp hj, e.symm⟩
theorem m_cell {cI cZ cJ : ClassId} {ao aa : Nat → Nat} {S : St} {a : Nat} (h : mA ao aa a) : ∃ (k : Nat) (q : Nat × va_E), (mW cI cZ cJ ao aa S)[k]? = some q ∧ q.1 = a := by
  have h1 : a ∈ (mW cI cZ cJ ao aa S).map Prod.fst := by
    rw [m_fst]
    rcases h with ⟨j, hj, rfl⟩ | ⟨j, hj, rfl⟩
    · exact List.mem_append_left _ (List.mem_map.mpr ⟨j, List.mem_range.mpr hj, rfl⟩)
    · exact List.mem_append_right _ (List.mem_map.mpr ⟨j, List.mem_range.mpr hj, rfl⟩)
  obtain ⟨q, hq, e⟩ := List.mem_map.mp h1
  obtain ⟨k, hk⟩ := List.getElem?_of_mem hq
  exact ⟨k, q, hk, e⟩
section LAW
variable {p : Program} {l : Launch} {e : Env} {R : Room} {s : State} {m : MethodId} {args : Array Value} {below : List Frame} {meth : Method} {c : Code} {H : Heap} {locs : List Loc} {Q : State → Prop} {cells slots : Nat}
variable {σ : Type} {D : va_G} {tys : List (ClassId × FieldType)} {A A0 : Nat → Prop} {Wf : σ → va_W} {wo : va_W} {y : MethodName} {bytes cc : ByteArray} {maxL nL n index pc : Nat} {ret : Option FieldType} {rm : Room} {own : String} {b : Addr} {As rest st0 : List Value} {S S1 : σ} {r : Int32} {ls : Array Slot}
/-- the law calls one of the two systems; the other stays -/
theorem lc_i (hx : p.tables.exec = Jvm.exec) (hb : c.code = cc) (hml : c.maxLocals = nL) (hown : s.vm.findClass own = some m.cls) (htg : ∀ w ∈ gw, w.before args s = true) (hK : va_K D classes tys s) (hN : NW s) (hI : ∀ S : σ, va_D A (Wf S)) (hM : Ct l y (.code y bytes maxL ret :: gw) rm D tys A Wf (.ref b :: As) S (some (.int r)) S1) (ok : CalV y bytes maxL ret n rm) (hlink : Cond.methodLink own index y ∈ gw) (hrecv : ∃ cell : Cell, H[b]? = some cell ∧ cell.vm.isStatics = false ∧ s.vm.findClass y.cls = some cell.cls) (hst : st0 = As.reverse ++ .ref b :: rest) (hn : As.length = n) (hsz : ls.size = nL) (hW : (rest.map fun v => v.category).sum ≤ 8) (hdg : decode cc pc = .ok (.invokevirtual index, 3)) (hR : rm.frames + 1 ≤ R.frames ∧ 8 + (maxL + 11) + rm.locals ≤ R.locals) (hcs : cells ≤ R.cells ∧ slots ≤ R.slots) (hP : va_P D classes (Wf S) H) (hPo : va_P D classes wo H) (hno : ∀ (k : Nat) (q : Nat × va_E), wo[k]? = some q → ¬ A q.1) (hS : va_S A0 s.heap H locs) (hA1 : ∀ q, A q → A0 q)
    (kk : ∀ (H1 : Heap) (locs1 : List Loc), va_P D classes (Wf S1) H1 → va_P D classes wo H1 → va_S A0 s.heap H1 locs1 → W p l e R s m args below meth c H1 locs1 cells slots Q (F0 m (pc + 3) ls (.int r :: rest))) : W p l e R s m args below meth c H locs cells slots Q (F0 m pc ls st0) := by
  obtain ⟨hcode, hinst, hsel, hini, hd, hc0, hs0⟩ := ok
  have cw : CallW R s args own y.cls index y bytes maxL ret (.code y bytes maxL ret :: gw) rm 0 0 n := ⟨callB_of n htg (good_code hcode) rfl hc0 hs0 (htg _ hini) (htg _ hlink) hd hR, htg _ hinst, htg _ hsel⟩
  have hr := va_runV (e := e) (cells := cells) (slots := slots) (locs := locs) (p := p) (below := below) (meth := meth) (As := As) (rest := rest) (g := F0 m pc ls st0) ⟨hx, hb, hml, hown, htg⟩ hM cw ⟨PX_blind, hrecv, fun U hU hW2 => ⟨rfl, by rw [hU]; exact hP, va_K.moved hW2.alike hK, NW.warm hW2 hN, hI⟩⟩ rfl hn hsz hst (lv_room hW) hdg hcs
  intro T hT X
  obtain ⟨w, st₀, t, T2, L, h0, X2, hL, e1, e2, ⟨⟨hv, hp⟩, hz, hk⟩, st⟩ := hr T hT X
  cases hv
  rw [h0] at hz hk
  obtain ⟨t2, a1, b1⟩ := kk T2.heap (locs ++ L) (by rw [e1]; exact hp) (hPo.kept (fun k q hq => by rw [e1]; exact hk q.1 (hPo k q hq).lt (hno k q hq))) ⟨Nat.le_trans hS.1 (by rw [e1]; exact hz), fun q h1 h2 => by rw [e1, hk q (Nat.lt_of_lt_of_le h1 hS.1) (fun z => h2 (hA1 q z))]; exact hS.2.1 q h1 h2, fun q hq => by
      rcases List.mem_append.mp hq with h | h
      · exact hS.2.2 q h
      · exact hA1 _ (hL q h)⟩ T2 rfl X2
  exact ⟨t2, st t2 a1, b1⟩
end LAW
theorem ix0 {i L : Nat} (h : i + 4 ≤ L) (hL : L ≤ 2048) : vp_in (nI i) L := by
  exact vp_in_nI (by omega) (by omega)
theorem ix1 {i L : Nat} (h : i + 4 ≤ L) (hL : L ≤ 2048) : vp_in (nI i + 1) L := by
  rw [show nI i + 1 = nI (i + 1) from nI_add i 1]; exact vp_in_nI (by omega) (by omega)
theorem ix2 {i L : Nat} (h : i + 4 ≤ L) (hL : L ≤ 2048) : vp_in (nI i + 2) L := by
  rw [show nI i + 2 = nI (i + 2) from nI_add i 2]; exact vp_in_nI (by omega) (by omega)
theorem ix3 {i L : Nat} (h : i + 4 ≤ L) (hL : L ≤ 2048) : vp_in (nI i + 3) L := by
  rw [show nI i + 3 = nI (i + 3) from nI_add i 3]; exact vp_in_nI (by omega) (by omega)
theorem lw_go {i L : Nat} (hL : L ≤ 2048) (hi : i ≤ 2052) (h : ¬ nI L - 4 < nI i) : i + 4 ≤ L := by
  have h1 : (nI L - nI 4).toInt = (L : Int) - (4 : Nat) := pk_sub_toInt (by omega) (by decide)
  have h2 : (nI i).toInt = (i : Int) := nI_toInt (by omega)
  have h3 : ¬ (nI L - nI 4).toInt < (nI i).toInt := fun q => h (Int32.lt_iff_toInt_lt.mpr q)
  rw [h1, h2] at h3
  omega
def LC (p : Program) (s : State) (m : MethodId) (meth : Method) (c : Code) (b L : Nat) (xs : Nat → Int32) (D : va_G) (cI cZ cJ : ClassId) (ao aa mo ma : Nat → Nat) : Prop := p.tables.exec = Jvm.exec ∧ c.code = code ∧ meth.sig.returnType = ret ∧ c.maxLocals = 4 ∧ s.vm.findClass R_L = some m.cls ∧ (∀ w ∈ gw, w.before #[Value.ref b] s = true) ∧ meth.locks = false ∧ va_X b L xs s s.heap ∧ b < s.heap.size ∧ va_K D classes [(cI, .int), (cZ, .boolean), (cJ, .long)] s ∧ NW s ∧ (∀ S : St, va_D (xA ao aa) (xW cI cZ cJ ao aa S)) ∧ (∀ S : St, va_D (mA mo ma) (mW cI cZ cJ mo ma S)) ∧ (∀ q, xA ao aa q → ¬ mA mo ma q) ∧ (∀ q, xA ao aa q → s.heap.size ≤ q) ∧ (∀ q, mA mo ma q → s.heap.size ≤ q)
def WL (p : Program) (l : Launch) (e : Env) (s : State) (m : MethodId) (below : List Frame) (meth : Method) (c : Code) (b : Nat) (D : va_G) (cI cZ cJ : ClassId) (ao aa mo ma : Nat → Nat) (pc : Nat) (st : List Value) (lv : List (Nat × Value)) (S T : St) : Prop := ∀ (H : Heap) (locs : List Loc) (ls : Array Slot), va_P D classes (xW cI cZ cJ ao aa S) H → va_P D classes (mW cI cZ cJ mo ma T) H → va_S (fun q : Nat => s.heap.size ≤ q) s.heap H locs → lv_has ls 4 lv → W p l e room_1 s m #[Value.ref b] below meth c H locs 600000 7302250 (lw_Z below #[Value.ref b] s) (F0 m pc ls st)
section LAWLOOP
variable {p : Program} {l : Launch} {e : Env} {s : State} {m : MethodId} {below : List Frame} {meth : Method} {c : Code} {b L : Nat} {xs : Nat → Int32} {D : va_G} {cI cZ cJ : ClassId} {ao aa mo ma : Nat → Nat}
set_option maxHeartbeats 4000000 in
set_option maxRecDepth 100000 in
theorem lcase_verb {Rel : St → St → Prop} (C : LC p s m meth c b L xs D cI cZ cJ ao aa mo ma) {i : Nat} (hi : i + 4 ≤ L) (hL : L ≤ 2048) {S T : St} (h : Agree Rel (x_G_verb S (xs (nI i + 1).toNatClampNeg)) (m_M_verb T (xs (nI i + 1).toNatClampNeg))) (kk : ∀ S2 T2 : St, Rel S2 T2 → WL p l e s m below meth c b D cI cZ cJ ao aa mo ma 650 [] [(0, .ref b), (1, .ref (ao 27)), (2, .ref (mo 0)), (3, .int (nI i))] S2 T2) : WL p l e s m below meth c b D cI cZ cJ ao aa mo ma 120 [] [(0, .ref b), (1, .ref (ao 27)), (2, .ref (mo 0)), (3, .int (nI i))] S T := by
  intro H locs ls hPx hPm hS hl
  obtain ⟨hx, hb, hr0, hml, hown, htg, hlk, hX, hbl, hK, hN, hIx, hIm, hdis, hxA, hmA⟩ := id C
  obtain ⟨r, S2, T2, e1, e2, hrel⟩ := h
  have hbA : ¬ (fun q : Nat => s.heap.size ≤ q) b := Nat.not_le.mpr hbl
  refine lv_aload_n hx hb d_L_law_120 rfl (lv_at hl 1 rfl) ?_
  refine lv_aload_n hx hb d_L_law_121 rfl (lv_at hl 0 rfl) ?_
  refine lv_iload_n hx hb d_L_law_122 rfl (lv_at hl 3 rfl) ?_
  refine lv_iconst (v := 1) hx hb d_L_law_123 (by decide) ?_
  refine lv_iadd hx hb d_L_law_124 ?_
  refine va_sld hx hb hX hbl hbA hS (ix1 hi hL) d_L_law_125 ?_
  refine lc_i (As := [.int (xs (nI i + 1).toNatClampNeg)]) (rest := []) (A := xA ao aa) (Wf := xW cI cZ cJ ao aa) (wo := mW cI cZ cJ mo ma T) hx hb hml hown htg hK hN hIx (c_x_G_verb e1) ok_x_G_verb k_m_L_13 (va_recv hK hPx rfl xo_27) rfl rfl hl.1 (Nat.le_of_ble_eq_true rfl) d_L_law_126 ⟨by decide, by decide⟩ ⟨by decide, by decide⟩ hPx hPm (fun k q hq z => hdis _ z (m_mem k q hq)) hS hxA (fun H locs hPx hPm hS => ?_)
  refine lv_aload_n hx hb d_L_law_129 rfl (lv_at hl 2 rfl) ?_
  refine lv_aload_n hx hb d_L_law_130 rfl (lv_at hl 0 rfl) ?_
  refine lv_iload_n hx hb d_L_law_131 rfl (lv_at hl 3 rfl) ?_
  refine lv_iconst (v := 1) hx hb d_L_law_132 (by decide) ?_
  refine lv_iadd hx hb d_L_law_133 ?_
  refine va_sld hx hb hX hbl hbA hS (ix1 hi hL) d_L_law_134 ?_
  refine lc_i (As := [.int (xs (nI i + 1).toNatClampNeg)]) (rest := [.int r]) (A := mA mo ma) (Wf := mW cI cZ cJ mo ma) (wo := xW cI cZ cJ ao aa S2) hx hb hml hown htg hK hN hIm (c_m_M_verb e2) ok_m_M_verb k_m_L_17 (va_recv hK hPm rfl mo_0) rfl rfl hl.1 (Nat.le_of_ble_eq_true rfl) d_L_law_135 ⟨by decide, by decide⟩ ⟨by decide, by decide⟩ hPm hPx (fun k q hq z => hdis _ (x_mem k q hq) z) hS hmA (fun H locs hPm hPx hS => ?_)
  refine lv_icmp_eq (tgt := 650) hx hb d_L_law_138 (by decide) (fun _ => ?_) (fun c => absurd rfl c)
  exact kk S2 T2 hrel H locs ls hPx hPm hS hl
set_option maxHeartbeats 4000000 in
set_option maxRecDepth 100000 in
theorem lcase_like {Rel : St → St → Prop} (C : LC p s m meth c b L xs D cI cZ cJ ao aa mo ma) {i : Nat} (hi : i + 4 ≤ L) (hL : L ≤ 2048) {S T : St} (h : Agree Rel (x_G_like S (xs (nI i + 1).toNatClampNeg) (xs (nI i + 2).toNatClampNeg)) (m_M_like T (xs (nI i + 1).toNatClampNeg) (xs (nI i + 2).toNatClampNeg))) (kk : ∀ S2 T2 : St, Rel S2 T2 → WL p l e s m below meth c b D cI cZ cJ ao aa mo ma 650 [] [(0, .ref b), (1, .ref (ao 27)), (2, .ref (mo 0)), (3, .int (nI i))] S2 T2) : WL p l e s m below meth c b D cI cZ cJ ao aa mo ma 143 [] [(0, .ref b), (1, .ref (ao 27)), (2, .ref (mo 0)), (3, .int (nI i))] S T := by
  intro H locs ls hPx hPm hS hl
  obtain ⟨hx, hb, hr0, hml, hown, htg, hlk, hX, hbl, hK, hN, hIx, hIm, hdis, hxA, hmA⟩ := id C
  obtain ⟨r, S2, T2, e1, e2, hrel⟩ := h
  have hbA : ¬ (fun q : Nat => s.heap.size ≤ q) b := Nat.not_le.mpr hbl
  refine lv_aload_n hx hb d_L_law_143 rfl (lv_at hl 1 rfl) ?_
  refine lv_aload_n hx hb d_L_law_144 rfl (lv_at hl 0 rfl) ?_
  refine lv_iload_n hx hb d_L_law_145 rfl (lv_at hl 3 rfl) ?_
  refine lv_iconst (v := 1) hx hb d_L_law_146 (by decide) ?_
  refine lv_iadd hx hb d_L_law_147 ?_
  refine va_sld hx hb hX hbl hbA hS (ix1 hi hL) d_L_law_148 ?_
  refine lv_aload_n hx hb d_L_law_149 rfl (lv_at hl 0 rfl) ?_
  refine lv_iload_n hx hb d_L_law_150 rfl (lv_at hl 3 rfl) ?_
  refine lv_iconst (v := 2) hx hb d_L_law_151 (by decide) ?_
  refine lv_iadd hx hb d_L_law_152 ?_
  refine va_sld hx hb hX hbl hbA hS (ix2 hi hL) d_L_law_153 ?_
  refine lc_i (As := [.int (xs (nI i + 1).toNatClampNeg), .int (xs (nI i + 2).toNatClampNeg)]) (rest := []) (A := xA ao aa) (Wf := xW cI cZ cJ ao aa) (wo := mW cI cZ cJ mo ma T) hx hb hml hown htg hK hN hIx (c_x_G_like e1) ok_x_G_like k_m_L_18 (va_recv hK hPx rfl xo_27) rfl rfl hl.1 (Nat.le_of_ble_eq_true rfl) d_L_law_154 ⟨by decide, by decide⟩ ⟨by decide, by decide⟩ hPx hPm (fun k q hq z => hdis _ z (m_mem k q hq)) hS hxA (fun H locs hPx hPm hS => ?_)
  refine lv_aload_n hx hb d_L_law_157 rfl (lv_at hl 2 rfl) ?_
  refine lv_aload_n hx hb d_L_law_158 rfl (lv_at hl 0 rfl) ?_
  refine lv_iload_n hx hb d_L_law_159 rfl (lv_at hl 3 rfl) ?_
  refine lv_iconst (v := 1) hx hb d_L_law_160 (by decide) ?_
  refine lv_iadd hx hb d_L_law_161 ?_
  refine va_sld hx hb hX hbl hbA hS (ix1 hi hL) d_L_law_162 ?_
  refine lv_aload_n hx hb d_L_law_163 rfl (lv_at hl 0 rfl) ?_
  refine lv_iload_n hx hb d_L_law_164 rfl (lv_at hl 3 rfl) ?_
  refine lv_iconst (v := 2) hx hb d_L_law_165 (by decide) ?_
  refine lv_iadd hx hb d_L_law_166 ?_
  refine va_sld hx hb hX hbl hbA hS (ix2 hi hL) d_L_law_167 ?_
  refine lc_i (As := [.int (xs (nI i + 1).toNatClampNeg), .int (xs (nI i + 2).toNatClampNeg)]) (rest := [.int r]) (A := mA mo ma) (Wf := mW cI cZ cJ mo ma) (wo := xW cI cZ cJ ao aa S2) hx hb hml hown htg hK hN hIm (c_m_M_like e2) ok_m_M_like k_m_L_22 (va_recv hK hPm rfl mo_0) rfl rfl hl.1 (Nat.le_of_ble_eq_true rfl) d_L_law_168 ⟨by decide, by decide⟩ ⟨by decide, by decide⟩ hPm hPx (fun k q hq z => hdis _ (x_mem k q hq) z) hS hmA (fun H locs hPm hPx hS => ?_)
  refine lv_icmp_eq (tgt := 650) hx hb d_L_law_171 (by decide) (fun _ => ?_) (fun c => absurd rfl c)
  exact kk S2 T2 hrel H locs ls hPx hPm hS hl
set_option maxHeartbeats 4000000 in
set_option maxRecDepth 100000 in
theorem lcase_line_0 {Rel : St → St → Prop} (C : LC p s m meth c b L xs D cI cZ cJ ao aa mo ma) {i : Nat} (hi : i + 4 ≤ L) (hL : L ≤ 2048) (hz : (xs (nI i + 3).toNatClampNeg) = 0) {S T : St} (h : Agree Rel (x_G_line S (xs (nI i + 1).toNatClampNeg) (xs (nI i + 2).toNatClampNeg) (0 : Int32)) (m_M_line T (xs (nI i + 1).toNatClampNeg) (xs (nI i + 2).toNatClampNeg) (0 : Int32))) (kk : ∀ S2 T2 : St, Rel S2 T2 → WL p l e s m below meth c b D cI cZ cJ ao aa mo ma 650 [] [(0, .ref b), (1, .ref (ao 27)), (2, .ref (mo 0)), (3, .int (nI i))] S2 T2) : WL p l e s m below meth c b D cI cZ cJ ao aa mo ma 176 [] [(0, .ref b), (1, .ref (ao 27)), (2, .ref (mo 0)), (3, .int (nI i))] S T := by
  intro H locs ls hPx hPm hS hl
  obtain ⟨hx, hb, hr0, hml, hown, htg, hlk, hX, hbl, hK, hN, hIx, hIm, hdis, hxA, hmA⟩ := id C
  obtain ⟨r, S2, T2, e1, e2, hrel⟩ := h
  have hbA : ¬ (fun q : Nat => s.heap.size ≤ q) b := Nat.not_le.mpr hbl
  refine lv_aload_n hx hb d_L_law_176 rfl (lv_at hl 1 rfl) ?_
  refine lv_aload_n hx hb d_L_law_177 rfl (lv_at hl 0 rfl) ?_
  refine lv_iload_n hx hb d_L_law_178 rfl (lv_at hl 3 rfl) ?_
  refine lv_iconst (v := 1) hx hb d_L_law_179 (by decide) ?_
  refine lv_iadd hx hb d_L_law_180 ?_
  refine va_sld hx hb hX hbl hbA hS (ix1 hi hL) d_L_law_181 ?_
  refine lv_aload_n hx hb d_L_law_182 rfl (lv_at hl 0 rfl) ?_
  refine lv_iload_n hx hb d_L_law_183 rfl (lv_at hl 3 rfl) ?_
  refine lv_iconst (v := 2) hx hb d_L_law_184 (by decide) ?_
  refine lv_iadd hx hb d_L_law_185 ?_
  refine va_sld hx hb hX hbl hbA hS (ix2 hi hL) d_L_law_186 ?_
  refine lv_aload_n hx hb d_L_law_187 rfl (lv_at hl 0 rfl) ?_
  refine lv_iload_n hx hb d_L_law_188 rfl (lv_at hl 3 rfl) ?_
  refine lv_iconst (v := 3) hx hb d_L_law_189 (by decide) ?_
  refine lv_iadd hx hb d_L_law_190 ?_
  refine va_sld hx hb hX hbl hbA hS (ix3 hi hL) d_L_law_191 ?_
  refine lv_if_eq (tgt := 199) hx hb d_L_law_192 (by decide) (fun _ => ?_) (fun c => absurd hz c)
  refine lv_iconst (v := 0) hx hb d_L_law_199 (by decide) ?_
  refine lc_i (As := [.int (xs (nI i + 1).toNatClampNeg), .int (xs (nI i + 2).toNatClampNeg), .int 0]) (rest := []) (A := xA ao aa) (Wf := xW cI cZ cJ ao aa) (wo := mW cI cZ cJ mo ma T) hx hb hml hown htg hK hN hIx (c_x_G_line e1) ok_x_G_line k_m_L_23 (va_recv hK hPx rfl xo_27) rfl rfl hl.1 (Nat.le_of_ble_eq_true rfl) d_L_law_200 ⟨by decide, by decide⟩ ⟨by decide, by decide⟩ hPx hPm (fun k q hq z => hdis _ z (m_mem k q hq)) hS hxA (fun H locs hPx hPm hS => ?_)
  refine lv_aload_n hx hb d_L_law_203 rfl (lv_at hl 2 rfl) ?_
  refine lv_aload_n hx hb d_L_law_204 rfl (lv_at hl 0 rfl) ?_
  refine lv_iload_n hx hb d_L_law_205 rfl (lv_at hl 3 rfl) ?_
  refine lv_iconst (v := 1) hx hb d_L_law_206 (by decide) ?_
  refine lv_iadd hx hb d_L_law_207 ?_
  refine va_sld hx hb hX hbl hbA hS (ix1 hi hL) d_L_law_208 ?_
  refine lv_aload_n hx hb d_L_law_209 rfl (lv_at hl 0 rfl) ?_
  refine lv_iload_n hx hb d_L_law_210 rfl (lv_at hl 3 rfl) ?_
  refine lv_iconst (v := 2) hx hb d_L_law_211 (by decide) ?_
  refine lv_iadd hx hb d_L_law_212 ?_
  refine va_sld hx hb hX hbl hbA hS (ix2 hi hL) d_L_law_213 ?_
  refine lv_aload_n hx hb d_L_law_214 rfl (lv_at hl 0 rfl) ?_
  refine lv_iload_n hx hb d_L_law_215 rfl (lv_at hl 3 rfl) ?_
  refine lv_iconst (v := 3) hx hb d_L_law_216 (by decide) ?_
  refine lv_iadd hx hb d_L_law_217 ?_
  refine va_sld hx hb hX hbl hbA hS (ix3 hi hL) d_L_law_218 ?_
  refine lv_if_eq (tgt := 226) hx hb d_L_law_219 (by decide) (fun _ => ?_) (fun c => absurd hz c)
  refine lv_iconst (v := 0) hx hb d_L_law_226 (by decide) ?_
  refine lc_i (As := [.int (xs (nI i + 1).toNatClampNeg), .int (xs (nI i + 2).toNatClampNeg), .int 0]) (rest := [.int r]) (A := mA mo ma) (Wf := mW cI cZ cJ mo ma) (wo := xW cI cZ cJ ao aa S2) hx hb hml hown htg hK hN hIm (c_m_M_line e2) ok_m_M_line k_m_L_27 (va_recv hK hPm rfl mo_0) rfl rfl hl.1 (Nat.le_of_ble_eq_true rfl) d_L_law_227 ⟨by decide, by decide⟩ ⟨by decide, by decide⟩ hPm hPx (fun k q hq z => hdis _ (x_mem k q hq) z) hS hmA (fun H locs hPm hPx hS => ?_)
  refine lv_icmp_eq (tgt := 650) hx hb d_L_law_230 (by decide) (fun _ => ?_) (fun c => absurd rfl c)
  exact kk S2 T2 hrel H locs ls hPx hPm hS hl
set_option maxHeartbeats 4000000 in
set_option maxRecDepth 100000 in
theorem lcase_line_1 {Rel : St → St → Prop} (C : LC p s m meth c b L xs D cI cZ cJ ao aa mo ma) {i : Nat} (hi : i + 4 ≤ L) (hL : L ≤ 2048) (hz : ¬ (xs (nI i + 3).toNatClampNeg) = 0) {S T : St} (h : Agree Rel (x_G_line S (xs (nI i + 1).toNatClampNeg) (xs (nI i + 2).toNatClampNeg) (1 : Int32)) (m_M_line T (xs (nI i + 1).toNatClampNeg) (xs (nI i + 2).toNatClampNeg) (1 : Int32))) (kk : ∀ S2 T2 : St, Rel S2 T2 → WL p l e s m below meth c b D cI cZ cJ ao aa mo ma 650 [] [(0, .ref b), (1, .ref (ao 27)), (2, .ref (mo 0)), (3, .int (nI i))] S2 T2) : WL p l e s m below meth c b D cI cZ cJ ao aa mo ma 176 [] [(0, .ref b), (1, .ref (ao 27)), (2, .ref (mo 0)), (3, .int (nI i))] S T := by
  intro H locs ls hPx hPm hS hl
  obtain ⟨hx, hb, hr0, hml, hown, htg, hlk, hX, hbl, hK, hN, hIx, hIm, hdis, hxA, hmA⟩ := id C
  obtain ⟨r, S2, T2, e1, e2, hrel⟩ := h
  have hbA : ¬ (fun q : Nat => s.heap.size ≤ q) b := Nat.not_le.mpr hbl
  refine lv_aload_n hx hb d_L_law_176 rfl (lv_at hl 1 rfl) ?_
  refine lv_aload_n hx hb d_L_law_177 rfl (lv_at hl 0 rfl) ?_
  refine lv_iload_n hx hb d_L_law_178 rfl (lv_at hl 3 rfl) ?_
  refine lv_iconst (v := 1) hx hb d_L_law_179 (by decide) ?_
  refine lv_iadd hx hb d_L_law_180 ?_
  refine va_sld hx hb hX hbl hbA hS (ix1 hi hL) d_L_law_181 ?_
  refine lv_aload_n hx hb d_L_law_182 rfl (lv_at hl 0 rfl) ?_
  refine lv_iload_n hx hb d_L_law_183 rfl (lv_at hl 3 rfl) ?_
  refine lv_iconst (v := 2) hx hb d_L_law_184 (by decide) ?_
  refine lv_iadd hx hb d_L_law_185 ?_
  refine va_sld hx hb hX hbl hbA hS (ix2 hi hL) d_L_law_186 ?_
  refine lv_aload_n hx hb d_L_law_187 rfl (lv_at hl 0 rfl) ?_
  refine lv_iload_n hx hb d_L_law_188 rfl (lv_at hl 3 rfl) ?_
  refine lv_iconst (v := 3) hx hb d_L_law_189 (by decide) ?_
  refine lv_iadd hx hb d_L_law_190 ?_
  refine va_sld hx hb hX hbl hbA hS (ix3 hi hL) d_L_law_191 ?_
  refine lv_if_eq (tgt := 199) hx hb d_L_law_192 (by decide) (fun c => absurd c hz) (fun _ => ?_)
  refine lv_iconst (v := 1) hx hb d_L_law_195 (by decide) ?_
  refine lv_goto (tgt := 200) hx hb d_L_law_196 (by decide) ?_
  refine lc_i (As := [.int (xs (nI i + 1).toNatClampNeg), .int (xs (nI i + 2).toNatClampNeg), .int 1]) (rest := []) (A := xA ao aa) (Wf := xW cI cZ cJ ao aa) (wo := mW cI cZ cJ mo ma T) hx hb hml hown htg hK hN hIx (c_x_G_line e1) ok_x_G_line k_m_L_23 (va_recv hK hPx rfl xo_27) rfl rfl hl.1 (Nat.le_of_ble_eq_true rfl) d_L_law_200 ⟨by decide, by decide⟩ ⟨by decide, by decide⟩ hPx hPm (fun k q hq z => hdis _ z (m_mem k q hq)) hS hxA (fun H locs hPx hPm hS => ?_)
  refine lv_aload_n hx hb d_L_law_203 rfl (lv_at hl 2 rfl) ?_
  refine lv_aload_n hx hb d_L_law_204 rfl (lv_at hl 0 rfl) ?_
  refine lv_iload_n hx hb d_L_law_205 rfl (lv_at hl 3 rfl) ?_
  refine lv_iconst (v := 1) hx hb d_L_law_206 (by decide) ?_
  refine lv_iadd hx hb d_L_law_207 ?_
  refine va_sld hx hb hX hbl hbA hS (ix1 hi hL) d_L_law_208 ?_
  refine lv_aload_n hx hb d_L_law_209 rfl (lv_at hl 0 rfl) ?_
  refine lv_iload_n hx hb d_L_law_210 rfl (lv_at hl 3 rfl) ?_
  refine lv_iconst (v := 2) hx hb d_L_law_211 (by decide) ?_
  refine lv_iadd hx hb d_L_law_212 ?_
  refine va_sld hx hb hX hbl hbA hS (ix2 hi hL) d_L_law_213 ?_
  refine lv_aload_n hx hb d_L_law_214 rfl (lv_at hl 0 rfl) ?_
  refine lv_iload_n hx hb d_L_law_215 rfl (lv_at hl 3 rfl) ?_
  refine lv_iconst (v := 3) hx hb d_L_law_216 (by decide) ?_
  refine lv_iadd hx hb d_L_law_217 ?_
  refine va_sld hx hb hX hbl hbA hS (ix3 hi hL) d_L_law_218 ?_
  refine lv_if_eq (tgt := 226) hx hb d_L_law_219 (by decide) (fun c => absurd c hz) (fun _ => ?_)
  refine lv_iconst (v := 1) hx hb d_L_law_222 (by decide) ?_
  refine lv_goto (tgt := 227) hx hb d_L_law_223 (by decide) ?_
  refine lc_i (As := [.int (xs (nI i + 1).toNatClampNeg), .int (xs (nI i + 2).toNatClampNeg), .int 1]) (rest := [.int r]) (A := mA mo ma) (Wf := mW cI cZ cJ mo ma) (wo := xW cI cZ cJ ao aa S2) hx hb hml hown htg hK hN hIm (c_m_M_line e2) ok_m_M_line k_m_L_27 (va_recv hK hPm rfl mo_0) rfl rfl hl.1 (Nat.le_of_ble_eq_true rfl) d_L_law_227 ⟨by decide, by decide⟩ ⟨by decide, by decide⟩ hPm hPx (fun k q hq z => hdis _ (x_mem k q hq) z) hS hmA (fun H locs hPm hPx hS => ?_)
  refine lv_icmp_eq (tgt := 650) hx hb d_L_law_230 (by decide) (fun _ => ?_) (fun c => absurd rfl c)
  exact kk S2 T2 hrel H locs ls hPx hPm hS hl
set_option maxHeartbeats 4000000 in
set_option maxRecDepth 100000 in
theorem lcase_token {Rel : St → St → Prop} (C : LC p s m meth c b L xs D cI cZ cJ ao aa mo ma) {i : Nat} (hi : i + 4 ≤ L) (hL : L ≤ 2048) {S T : St} (h : Agree Rel (x_G_token S (xs (nI i + 1).toNatClampNeg) (xs (nI i + 2).toNatClampNeg) (xs (nI i + 3).toNatClampNeg)) (m_M_token T (xs (nI i + 1).toNatClampNeg) (xs (nI i + 2).toNatClampNeg) (xs (nI i + 3).toNatClampNeg))) (kk : ∀ S2 T2 : St, Rel S2 T2 → WL p l e s m below meth c b D cI cZ cJ ao aa mo ma 650 [] [(0, .ref b), (1, .ref (ao 27)), (2, .ref (mo 0)), (3, .int (nI i))] S2 T2) : WL p l e s m below meth c b D cI cZ cJ ao aa mo ma 235 [] [(0, .ref b), (1, .ref (ao 27)), (2, .ref (mo 0)), (3, .int (nI i))] S T := by
  intro H locs ls hPx hPm hS hl
  obtain ⟨hx, hb, hr0, hml, hown, htg, hlk, hX, hbl, hK, hN, hIx, hIm, hdis, hxA, hmA⟩ := id C
  obtain ⟨r, S2, T2, e1, e2, hrel⟩ := h
  have hbA : ¬ (fun q : Nat => s.heap.size ≤ q) b := Nat.not_le.mpr hbl
  refine lv_aload_n hx hb d_L_law_235 rfl (lv_at hl 1 rfl) ?_
  refine lv_aload_n hx hb d_L_law_236 rfl (lv_at hl 0 rfl) ?_
  refine lv_iload_n hx hb d_L_law_237 rfl (lv_at hl 3 rfl) ?_
  refine lv_iconst (v := 1) hx hb d_L_law_238 (by decide) ?_
  refine lv_iadd hx hb d_L_law_239 ?_
  refine va_sld hx hb hX hbl hbA hS (ix1 hi hL) d_L_law_240 ?_
  refine lv_aload_n hx hb d_L_law_241 rfl (lv_at hl 0 rfl) ?_
  refine lv_iload_n hx hb d_L_law_242 rfl (lv_at hl 3 rfl) ?_
  refine lv_iconst (v := 2) hx hb d_L_law_243 (by decide) ?_
  refine lv_iadd hx hb d_L_law_244 ?_
  refine va_sld hx hb hX hbl hbA hS (ix2 hi hL) d_L_law_245 ?_
  refine lv_aload_n hx hb d_L_law_246 rfl (lv_at hl 0 rfl) ?_
  refine lv_iload_n hx hb d_L_law_247 rfl (lv_at hl 3 rfl) ?_
  refine lv_iconst (v := 3) hx hb d_L_law_248 (by decide) ?_
  refine lv_iadd hx hb d_L_law_249 ?_
  refine va_sld hx hb hX hbl hbA hS (ix3 hi hL) d_L_law_250 ?_
  refine lc_i (As := [.int (xs (nI i + 1).toNatClampNeg), .int (xs (nI i + 2).toNatClampNeg), .int (xs (nI i + 3).toNatClampNeg)]) (rest := []) (A := xA ao aa) (Wf := xW cI cZ cJ ao aa) (wo := mW cI cZ cJ mo ma T) hx hb hml hown htg hK hN hIx (c_x_G_token e1) ok_x_G_token k_m_L_28 (va_recv hK hPx rfl xo_27) rfl rfl hl.1 (Nat.le_of_ble_eq_true rfl) d_L_law_251 ⟨by decide, by decide⟩ ⟨by decide, by decide⟩ hPx hPm (fun k q hq z => hdis _ z (m_mem k q hq)) hS hxA (fun H locs hPx hPm hS => ?_)
  refine lv_aload_n hx hb d_L_law_254 rfl (lv_at hl 2 rfl) ?_
  refine lv_aload_n hx hb d_L_law_255 rfl (lv_at hl 0 rfl) ?_
  refine lv_iload_n hx hb d_L_law_256 rfl (lv_at hl 3 rfl) ?_
  refine lv_iconst (v := 1) hx hb d_L_law_257 (by decide) ?_
  refine lv_iadd hx hb d_L_law_258 ?_
  refine va_sld hx hb hX hbl hbA hS (ix1 hi hL) d_L_law_259 ?_
  refine lv_aload_n hx hb d_L_law_260 rfl (lv_at hl 0 rfl) ?_
  refine lv_iload_n hx hb d_L_law_261 rfl (lv_at hl 3 rfl) ?_
  refine lv_iconst (v := 2) hx hb d_L_law_262 (by decide) ?_
  refine lv_iadd hx hb d_L_law_263 ?_
  refine va_sld hx hb hX hbl hbA hS (ix2 hi hL) d_L_law_264 ?_
  refine lv_aload_n hx hb d_L_law_265 rfl (lv_at hl 0 rfl) ?_
  refine lv_iload_n hx hb d_L_law_266 rfl (lv_at hl 3 rfl) ?_
  refine lv_iconst (v := 3) hx hb d_L_law_267 (by decide) ?_
  refine lv_iadd hx hb d_L_law_268 ?_
  refine va_sld hx hb hX hbl hbA hS (ix3 hi hL) d_L_law_269 ?_
  refine lc_i (As := [.int (xs (nI i + 1).toNatClampNeg), .int (xs (nI i + 2).toNatClampNeg), .int (xs (nI i + 3).toNatClampNeg)]) (rest := [.int r]) (A := mA mo ma) (Wf := mW cI cZ cJ mo ma) (wo := xW cI cZ cJ ao aa S2) hx hb hml hown htg hK hN hIm (c_m_M_token e2) ok_m_M_token k_m_L_32 (va_recv hK hPm rfl mo_0) rfl rfl hl.1 (Nat.le_of_ble_eq_true rfl) d_L_law_270 ⟨by decide, by decide⟩ ⟨by decide, by decide⟩ hPm hPx (fun k q hq z => hdis _ (x_mem k q hq) z) hS hmA (fun H locs hPm hPx hS => ?_)
  refine lv_icmp_eq (tgt := 650) hx hb d_L_law_273 (by decide) (fun _ => ?_) (fun c => absurd rfl c)
  exact kk S2 T2 hrel H locs ls hPx hPm hS hl
set_option maxHeartbeats 4000000 in
set_option maxRecDepth 100000 in
theorem lcase_thing {Rel : St → St → Prop} (C : LC p s m meth c b L xs D cI cZ cJ ao aa mo ma) {i : Nat} (hi : i + 4 ≤ L) (hL : L ≤ 2048) {S T : St} (h : Agree Rel (x_G_thing S (xs (nI i + 1).toNatClampNeg)) (m_M_thing T (xs (nI i + 1).toNatClampNeg))) (kk : ∀ S2 T2 : St, Rel S2 T2 → WL p l e s m below meth c b D cI cZ cJ ao aa mo ma 650 [] [(0, .ref b), (1, .ref (ao 27)), (2, .ref (mo 0)), (3, .int (nI i))] S2 T2) : WL p l e s m below meth c b D cI cZ cJ ao aa mo ma 278 [] [(0, .ref b), (1, .ref (ao 27)), (2, .ref (mo 0)), (3, .int (nI i))] S T := by
  intro H locs ls hPx hPm hS hl
  obtain ⟨hx, hb, hr0, hml, hown, htg, hlk, hX, hbl, hK, hN, hIx, hIm, hdis, hxA, hmA⟩ := id C
  obtain ⟨r, S2, T2, e1, e2, hrel⟩ := h
  have hbA : ¬ (fun q : Nat => s.heap.size ≤ q) b := Nat.not_le.mpr hbl
  refine lv_aload_n hx hb d_L_law_278 rfl (lv_at hl 1 rfl) ?_
  refine lv_aload_n hx hb d_L_law_279 rfl (lv_at hl 0 rfl) ?_
  refine lv_iload_n hx hb d_L_law_280 rfl (lv_at hl 3 rfl) ?_
  refine lv_iconst (v := 1) hx hb d_L_law_281 (by decide) ?_
  refine lv_iadd hx hb d_L_law_282 ?_
  refine va_sld hx hb hX hbl hbA hS (ix1 hi hL) d_L_law_283 ?_
  refine lc_i (As := [.int (xs (nI i + 1).toNatClampNeg)]) (rest := []) (A := xA ao aa) (Wf := xW cI cZ cJ ao aa) (wo := mW cI cZ cJ mo ma T) hx hb hml hown htg hK hN hIx (c_x_G_thing e1) ok_x_G_thing k_m_L_33 (va_recv hK hPx rfl xo_27) rfl rfl hl.1 (Nat.le_of_ble_eq_true rfl) d_L_law_284 ⟨by decide, by decide⟩ ⟨by decide, by decide⟩ hPx hPm (fun k q hq z => hdis _ z (m_mem k q hq)) hS hxA (fun H locs hPx hPm hS => ?_)
  refine lv_aload_n hx hb d_L_law_287 rfl (lv_at hl 2 rfl) ?_
  refine lv_aload_n hx hb d_L_law_288 rfl (lv_at hl 0 rfl) ?_
  refine lv_iload_n hx hb d_L_law_289 rfl (lv_at hl 3 rfl) ?_
  refine lv_iconst (v := 1) hx hb d_L_law_290 (by decide) ?_
  refine lv_iadd hx hb d_L_law_291 ?_
  refine va_sld hx hb hX hbl hbA hS (ix1 hi hL) d_L_law_292 ?_
  refine lc_i (As := [.int (xs (nI i + 1).toNatClampNeg)]) (rest := [.int r]) (A := mA mo ma) (Wf := mW cI cZ cJ mo ma) (wo := xW cI cZ cJ ao aa S2) hx hb hml hown htg hK hN hIm (c_m_M_thing e2) ok_m_M_thing k_m_L_36 (va_recv hK hPm rfl mo_0) rfl rfl hl.1 (Nat.le_of_ble_eq_true rfl) d_L_law_293 ⟨by decide, by decide⟩ ⟨by decide, by decide⟩ hPm hPx (fun k q hq z => hdis _ (x_mem k q hq) z) hS hmA (fun H locs hPm hPx hS => ?_)
  refine lv_icmp_eq (tgt := 650) hx hb d_L_law_296 (by decide) (fun _ => ?_) (fun c => absurd rfl c)
  exact kk S2 T2 hrel H locs ls hPx hPm hS hl
set_option maxHeartbeats 4000000 in
set_option maxRecDepth 100000 in
theorem lcase_name {Rel : St → St → Prop} (C : LC p s m meth c b L xs D cI cZ cJ ao aa mo ma) {i : Nat} (hi : i + 4 ≤ L) (hL : L ≤ 2048) {S T : St} (h : Agree Rel (x_G_name S (xs (nI i + 1).toNatClampNeg) (xs (nI i + 2).toNatClampNeg)) (m_M_name T (xs (nI i + 1).toNatClampNeg) (xs (nI i + 2).toNatClampNeg))) (kk : ∀ S2 T2 : St, Rel S2 T2 → WL p l e s m below meth c b D cI cZ cJ ao aa mo ma 650 [] [(0, .ref b), (1, .ref (ao 27)), (2, .ref (mo 0)), (3, .int (nI i))] S2 T2) : WL p l e s m below meth c b D cI cZ cJ ao aa mo ma 301 [] [(0, .ref b), (1, .ref (ao 27)), (2, .ref (mo 0)), (3, .int (nI i))] S T := by
  intro H locs ls hPx hPm hS hl
  obtain ⟨hx, hb, hr0, hml, hown, htg, hlk, hX, hbl, hK, hN, hIx, hIm, hdis, hxA, hmA⟩ := id C
  obtain ⟨r, S2, T2, e1, e2, hrel⟩ := h
  have hbA : ¬ (fun q : Nat => s.heap.size ≤ q) b := Nat.not_le.mpr hbl
  refine lv_aload_n hx hb d_L_law_301 rfl (lv_at hl 1 rfl) ?_
  refine lv_aload_n hx hb d_L_law_302 rfl (lv_at hl 0 rfl) ?_
  refine lv_iload_n hx hb d_L_law_303 rfl (lv_at hl 3 rfl) ?_
  refine lv_iconst (v := 1) hx hb d_L_law_304 (by decide) ?_
  refine lv_iadd hx hb d_L_law_305 ?_
  refine va_sld hx hb hX hbl hbA hS (ix1 hi hL) d_L_law_306 ?_
  refine lv_aload_n hx hb d_L_law_307 rfl (lv_at hl 0 rfl) ?_
  refine lv_iload_n hx hb d_L_law_308 rfl (lv_at hl 3 rfl) ?_
  refine lv_iconst (v := 2) hx hb d_L_law_309 (by decide) ?_
  refine lv_iadd hx hb d_L_law_310 ?_
  refine va_sld hx hb hX hbl hbA hS (ix2 hi hL) d_L_law_311 ?_
  refine lc_i (As := [.int (xs (nI i + 1).toNatClampNeg), .int (xs (nI i + 2).toNatClampNeg)]) (rest := []) (A := xA ao aa) (Wf := xW cI cZ cJ ao aa) (wo := mW cI cZ cJ mo ma T) hx hb hml hown htg hK hN hIx (c_x_G_name e1) ok_x_G_name k_m_L_37 (va_recv hK hPx rfl xo_27) rfl rfl hl.1 (Nat.le_of_ble_eq_true rfl) d_L_law_312 ⟨by decide, by decide⟩ ⟨by decide, by decide⟩ hPx hPm (fun k q hq z => hdis _ z (m_mem k q hq)) hS hxA (fun H locs hPx hPm hS => ?_)
  refine lv_aload_n hx hb d_L_law_315 rfl (lv_at hl 2 rfl) ?_
  refine lv_aload_n hx hb d_L_law_316 rfl (lv_at hl 0 rfl) ?_
  refine lv_iload_n hx hb d_L_law_317 rfl (lv_at hl 3 rfl) ?_
  refine lv_iconst (v := 1) hx hb d_L_law_318 (by decide) ?_
  refine lv_iadd hx hb d_L_law_319 ?_
  refine va_sld hx hb hX hbl hbA hS (ix1 hi hL) d_L_law_320 ?_
  refine lv_aload_n hx hb d_L_law_321 rfl (lv_at hl 0 rfl) ?_
  refine lv_iload_n hx hb d_L_law_322 rfl (lv_at hl 3 rfl) ?_
  refine lv_iconst (v := 2) hx hb d_L_law_323 (by decide) ?_
  refine lv_iadd hx hb d_L_law_324 ?_
  refine va_sld hx hb hX hbl hbA hS (ix2 hi hL) d_L_law_325 ?_
  refine lc_i (As := [.int (xs (nI i + 1).toNatClampNeg), .int (xs (nI i + 2).toNatClampNeg)]) (rest := [.int r]) (A := mA mo ma) (Wf := mW cI cZ cJ mo ma) (wo := xW cI cZ cJ ao aa S2) hx hb hml hown htg hK hN hIm (c_m_M_name e2) ok_m_M_name k_m_L_40 (va_recv hK hPm rfl mo_0) rfl rfl hl.1 (Nat.le_of_ble_eq_true rfl) d_L_law_326 ⟨by decide, by decide⟩ ⟨by decide, by decide⟩ hPm hPx (fun k q hq z => hdis _ (x_mem k q hq) z) hS hmA (fun H locs hPm hPx hS => ?_)
  refine lv_icmp_eq (tgt := 650) hx hb d_L_law_329 (by decide) (fun _ => ?_) (fun c => absurd rfl c)
  exact kk S2 T2 hrel H locs ls hPx hPm hS hl
set_option maxHeartbeats 4000000 in
set_option maxRecDepth 100000 in
theorem lcase_flags {Rel : St → St → Prop} (C : LC p s m meth c b L xs D cI cZ cJ ao aa mo ma) {i : Nat} (hi : i + 4 ≤ L) (hL : L ≤ 2048) {S T : St} (h : Agree Rel (x_G_flags S (xs (nI i + 1).toNatClampNeg) (xs (nI i + 2).toNatClampNeg)) (m_M_flags T (xs (nI i + 1).toNatClampNeg) (xs (nI i + 2).toNatClampNeg))) (kk : ∀ S2 T2 : St, Rel S2 T2 → WL p l e s m below meth c b D cI cZ cJ ao aa mo ma 650 [] [(0, .ref b), (1, .ref (ao 27)), (2, .ref (mo 0)), (3, .int (nI i))] S2 T2) : WL p l e s m below meth c b D cI cZ cJ ao aa mo ma 334 [] [(0, .ref b), (1, .ref (ao 27)), (2, .ref (mo 0)), (3, .int (nI i))] S T := by
  intro H locs ls hPx hPm hS hl
  obtain ⟨hx, hb, hr0, hml, hown, htg, hlk, hX, hbl, hK, hN, hIx, hIm, hdis, hxA, hmA⟩ := id C
  obtain ⟨r, S2, T2, e1, e2, hrel⟩ := h
  have hbA : ¬ (fun q : Nat => s.heap.size ≤ q) b := Nat.not_le.mpr hbl
  refine lv_aload_n hx hb d_L_law_334 rfl (lv_at hl 1 rfl) ?_
  refine lv_aload_n hx hb d_L_law_335 rfl (lv_at hl 0 rfl) ?_
  refine lv_iload_n hx hb d_L_law_336 rfl (lv_at hl 3 rfl) ?_
  refine lv_iconst (v := 1) hx hb d_L_law_337 (by decide) ?_
  refine lv_iadd hx hb d_L_law_338 ?_
  refine va_sld hx hb hX hbl hbA hS (ix1 hi hL) d_L_law_339 ?_
  refine lv_aload_n hx hb d_L_law_340 rfl (lv_at hl 0 rfl) ?_
  refine lv_iload_n hx hb d_L_law_341 rfl (lv_at hl 3 rfl) ?_
  refine lv_iconst (v := 2) hx hb d_L_law_342 (by decide) ?_
  refine lv_iadd hx hb d_L_law_343 ?_
  refine va_sld hx hb hX hbl hbA hS (ix2 hi hL) d_L_law_344 ?_
  refine lc_i (As := [.int (xs (nI i + 1).toNatClampNeg), .int (xs (nI i + 2).toNatClampNeg)]) (rest := []) (A := xA ao aa) (Wf := xW cI cZ cJ ao aa) (wo := mW cI cZ cJ mo ma T) hx hb hml hown htg hK hN hIx (c_x_G_flags e1) ok_x_G_flags k_m_L_41 (va_recv hK hPx rfl xo_27) rfl rfl hl.1 (Nat.le_of_ble_eq_true rfl) d_L_law_345 ⟨by decide, by decide⟩ ⟨by decide, by decide⟩ hPx hPm (fun k q hq z => hdis _ z (m_mem k q hq)) hS hxA (fun H locs hPx hPm hS => ?_)
  refine lv_aload_n hx hb d_L_law_348 rfl (lv_at hl 2 rfl) ?_
  refine lv_aload_n hx hb d_L_law_349 rfl (lv_at hl 0 rfl) ?_
  refine lv_iload_n hx hb d_L_law_350 rfl (lv_at hl 3 rfl) ?_
  refine lv_iconst (v := 1) hx hb d_L_law_351 (by decide) ?_
  refine lv_iadd hx hb d_L_law_352 ?_
  refine va_sld hx hb hX hbl hbA hS (ix1 hi hL) d_L_law_353 ?_
  refine lv_aload_n hx hb d_L_law_354 rfl (lv_at hl 0 rfl) ?_
  refine lv_iload_n hx hb d_L_law_355 rfl (lv_at hl 3 rfl) ?_
  refine lv_iconst (v := 2) hx hb d_L_law_356 (by decide) ?_
  refine lv_iadd hx hb d_L_law_357 ?_
  refine va_sld hx hb hX hbl hbA hS (ix2 hi hL) d_L_law_358 ?_
  refine lc_i (As := [.int (xs (nI i + 1).toNatClampNeg), .int (xs (nI i + 2).toNatClampNeg)]) (rest := [.int r]) (A := mA mo ma) (Wf := mW cI cZ cJ mo ma) (wo := xW cI cZ cJ ao aa S2) hx hb hml hown htg hK hN hIm (c_m_M_flags e2) ok_m_M_flags k_m_L_44 (va_recv hK hPm rfl mo_0) rfl rfl hl.1 (Nat.le_of_ble_eq_true rfl) d_L_law_359 ⟨by decide, by decide⟩ ⟨by decide, by decide⟩ hPm hPx (fun k q hq z => hdis _ (x_mem k q hq) z) hS hmA (fun H locs hPm hPx hS => ?_)
  refine lv_icmp_eq (tgt := 650) hx hb d_L_law_362 (by decide) (fun _ => ?_) (fun c => absurd rfl c)
  exact kk S2 T2 hrel H locs ls hPx hPm hS hl
set_option maxHeartbeats 4000000 in
set_option maxRecDepth 100000 in
theorem lcase_custom {Rel : St → St → Prop} (C : LC p s m meth c b L xs D cI cZ cJ ao aa mo ma) {i : Nat} (hi : i + 4 ≤ L) (hL : L ≤ 2048) {S T : St} (h : Agree Rel (x_G_custom S (xs (nI i + 1).toNatClampNeg) (xs (nI i + 2).toNatClampNeg) (xs (nI i + 3).toNatClampNeg)) (m_M_custom T (xs (nI i + 1).toNatClampNeg) (xs (nI i + 2).toNatClampNeg) (xs (nI i + 3).toNatClampNeg))) (kk : ∀ S2 T2 : St, Rel S2 T2 → WL p l e s m below meth c b D cI cZ cJ ao aa mo ma 650 [] [(0, .ref b), (1, .ref (ao 27)), (2, .ref (mo 0)), (3, .int (nI i))] S2 T2) : WL p l e s m below meth c b D cI cZ cJ ao aa mo ma 367 [] [(0, .ref b), (1, .ref (ao 27)), (2, .ref (mo 0)), (3, .int (nI i))] S T := by
  intro H locs ls hPx hPm hS hl
  obtain ⟨hx, hb, hr0, hml, hown, htg, hlk, hX, hbl, hK, hN, hIx, hIm, hdis, hxA, hmA⟩ := id C
  obtain ⟨r, S2, T2, e1, e2, hrel⟩ := h
  have hbA : ¬ (fun q : Nat => s.heap.size ≤ q) b := Nat.not_le.mpr hbl
  refine lv_aload_n hx hb d_L_law_367 rfl (lv_at hl 1 rfl) ?_
  refine lv_aload_n hx hb d_L_law_368 rfl (lv_at hl 0 rfl) ?_
  refine lv_iload_n hx hb d_L_law_369 rfl (lv_at hl 3 rfl) ?_
  refine lv_iconst (v := 1) hx hb d_L_law_370 (by decide) ?_
  refine lv_iadd hx hb d_L_law_371 ?_
  refine va_sld hx hb hX hbl hbA hS (ix1 hi hL) d_L_law_372 ?_
  refine lv_aload_n hx hb d_L_law_373 rfl (lv_at hl 0 rfl) ?_
  refine lv_iload_n hx hb d_L_law_374 rfl (lv_at hl 3 rfl) ?_
  refine lv_iconst (v := 2) hx hb d_L_law_375 (by decide) ?_
  refine lv_iadd hx hb d_L_law_376 ?_
  refine va_sld hx hb hX hbl hbA hS (ix2 hi hL) d_L_law_377 ?_
  refine lv_aload_n hx hb d_L_law_378 rfl (lv_at hl 0 rfl) ?_
  refine lv_iload_n hx hb d_L_law_379 rfl (lv_at hl 3 rfl) ?_
  refine lv_iconst (v := 3) hx hb d_L_law_380 (by decide) ?_
  refine lv_iadd hx hb d_L_law_381 ?_
  refine va_sld hx hb hX hbl hbA hS (ix3 hi hL) d_L_law_382 ?_
  refine lc_i (As := [.int (xs (nI i + 1).toNatClampNeg), .int (xs (nI i + 2).toNatClampNeg), .int (xs (nI i + 3).toNatClampNeg)]) (rest := []) (A := xA ao aa) (Wf := xW cI cZ cJ ao aa) (wo := mW cI cZ cJ mo ma T) hx hb hml hown htg hK hN hIx (c_x_G_custom e1) ok_x_G_custom k_m_L_45 (va_recv hK hPx rfl xo_27) rfl rfl hl.1 (Nat.le_of_ble_eq_true rfl) d_L_law_383 ⟨by decide, by decide⟩ ⟨by decide, by decide⟩ hPx hPm (fun k q hq z => hdis _ z (m_mem k q hq)) hS hxA (fun H locs hPx hPm hS => ?_)
  refine lv_aload_n hx hb d_L_law_386 rfl (lv_at hl 2 rfl) ?_
  refine lv_aload_n hx hb d_L_law_387 rfl (lv_at hl 0 rfl) ?_
  refine lv_iload_n hx hb d_L_law_388 rfl (lv_at hl 3 rfl) ?_
  refine lv_iconst (v := 1) hx hb d_L_law_389 (by decide) ?_
  refine lv_iadd hx hb d_L_law_390 ?_
  refine va_sld hx hb hX hbl hbA hS (ix1 hi hL) d_L_law_391 ?_
  refine lv_aload_n hx hb d_L_law_392 rfl (lv_at hl 0 rfl) ?_
  refine lv_iload_n hx hb d_L_law_393 rfl (lv_at hl 3 rfl) ?_
  refine lv_iconst (v := 2) hx hb d_L_law_394 (by decide) ?_
  refine lv_iadd hx hb d_L_law_395 ?_
  refine va_sld hx hb hX hbl hbA hS (ix2 hi hL) d_L_law_396 ?_
  refine lv_aload_n hx hb d_L_law_397 rfl (lv_at hl 0 rfl) ?_
  refine lv_iload_n hx hb d_L_law_398 rfl (lv_at hl 3 rfl) ?_
  refine lv_iconst (v := 3) hx hb d_L_law_399 (by decide) ?_
  refine lv_iadd hx hb d_L_law_400 ?_
  refine va_sld hx hb hX hbl hbA hS (ix3 hi hL) d_L_law_401 ?_
  refine lc_i (As := [.int (xs (nI i + 1).toNatClampNeg), .int (xs (nI i + 2).toNatClampNeg), .int (xs (nI i + 3).toNatClampNeg)]) (rest := [.int r]) (A := mA mo ma) (Wf := mW cI cZ cJ mo ma) (wo := xW cI cZ cJ ao aa S2) hx hb hml hown htg hK hN hIm (c_m_M_custom e2) ok_m_M_custom k_m_L_48 (va_recv hK hPm rfl mo_0) rfl rfl hl.1 (Nat.le_of_ble_eq_true rfl) d_L_law_402 ⟨by decide, by decide⟩ ⟨by decide, by decide⟩ hPm hPx (fun k q hq z => hdis _ (x_mem k q hq) z) hS hmA (fun H locs hPm hPx hS => ?_)
  refine lv_icmp_eq (tgt := 650) hx hb d_L_law_405 (by decide) (fun _ => ?_) (fun c => absurd rfl c)
  exact kk S2 T2 hrel H locs ls hPx hPm hS hl
set_option maxHeartbeats 4000000 in
set_option maxRecDepth 100000 in
theorem lcase_word {Rel : St → St → Prop} (C : LC p s m meth c b L xs D cI cZ cJ ao aa mo ma) {i : Nat} (hi : i + 4 ≤ L) (hL : L ≤ 2048) {S T : St} (h : Agree Rel (x_G_word S (xs (nI i + 1).toNatClampNeg)) (m_M_word T (xs (nI i + 1).toNatClampNeg))) (kk : ∀ S2 T2 : St, Rel S2 T2 → WL p l e s m below meth c b D cI cZ cJ ao aa mo ma 650 [] [(0, .ref b), (1, .ref (ao 27)), (2, .ref (mo 0)), (3, .int (nI i))] S2 T2) : WL p l e s m below meth c b D cI cZ cJ ao aa mo ma 410 [] [(0, .ref b), (1, .ref (ao 27)), (2, .ref (mo 0)), (3, .int (nI i))] S T := by
  intro H locs ls hPx hPm hS hl
  obtain ⟨hx, hb, hr0, hml, hown, htg, hlk, hX, hbl, hK, hN, hIx, hIm, hdis, hxA, hmA⟩ := id C
  obtain ⟨r, S2, T2, e1, e2, hrel⟩ := h
  have hbA : ¬ (fun q : Nat => s.heap.size ≤ q) b := Nat.not_le.mpr hbl
  refine lv_aload_n hx hb d_L_law_410 rfl (lv_at hl 1 rfl) ?_
  refine lv_aload_n hx hb d_L_law_411 rfl (lv_at hl 0 rfl) ?_
  refine lv_iload_n hx hb d_L_law_412 rfl (lv_at hl 3 rfl) ?_
  refine lv_iconst (v := 1) hx hb d_L_law_413 (by decide) ?_
  refine lv_iadd hx hb d_L_law_414 ?_
  refine va_sld hx hb hX hbl hbA hS (ix1 hi hL) d_L_law_415 ?_
  refine lc_i (As := [.int (xs (nI i + 1).toNatClampNeg)]) (rest := []) (A := xA ao aa) (Wf := xW cI cZ cJ ao aa) (wo := mW cI cZ cJ mo ma T) hx hb hml hown htg hK hN hIx (c_x_G_word e1) ok_x_G_word k_m_L_49 (va_recv hK hPx rfl xo_27) rfl rfl hl.1 (Nat.le_of_ble_eq_true rfl) d_L_law_416 ⟨by decide, by decide⟩ ⟨by decide, by decide⟩ hPx hPm (fun k q hq z => hdis _ z (m_mem k q hq)) hS hxA (fun H locs hPx hPm hS => ?_)
  refine lv_aload_n hx hb d_L_law_419 rfl (lv_at hl 2 rfl) ?_
  refine lv_aload_n hx hb d_L_law_420 rfl (lv_at hl 0 rfl) ?_
  refine lv_iload_n hx hb d_L_law_421 rfl (lv_at hl 3 rfl) ?_
  refine lv_iconst (v := 1) hx hb d_L_law_422 (by decide) ?_
  refine lv_iadd hx hb d_L_law_423 ?_
  refine va_sld hx hb hX hbl hbA hS (ix1 hi hL) d_L_law_424 ?_
  refine lc_i (As := [.int (xs (nI i + 1).toNatClampNeg)]) (rest := [.int r]) (A := mA mo ma) (Wf := mW cI cZ cJ mo ma) (wo := xW cI cZ cJ ao aa S2) hx hb hml hown htg hK hN hIm (c_m_M_word e2) ok_m_M_word k_m_L_52 (va_recv hK hPm rfl mo_0) rfl rfl hl.1 (Nat.le_of_ble_eq_true rfl) d_L_law_425 ⟨by decide, by decide⟩ ⟨by decide, by decide⟩ hPm hPx (fun k q hq z => hdis _ (x_mem k q hq) z) hS hmA (fun H locs hPm hPx hS => ?_)
  refine lv_icmp_eq (tgt := 650) hx hb d_L_law_428 (by decide) (fun _ => ?_) (fun c => absurd rfl c)
  exact kk S2 T2 hrel H locs ls hPx hPm hS hl
set_option maxHeartbeats 4000000 in
set_option maxRecDepth 100000 in
theorem lcase_clear {Rel : St → St → Prop} (C : LC p s m meth c b L xs D cI cZ cJ ao aa mo ma) {i : Nat} (hi : i + 4 ≤ L) (hL : L ≤ 2048) {S T : St} (h : Agree Rel (x_G_clear S) (m_M_clear T)) (kk : ∀ S2 T2 : St, Rel S2 T2 → WL p l e s m below meth c b D cI cZ cJ ao aa mo ma 650 [] [(0, .ref b), (1, .ref (ao 27)), (2, .ref (mo 0)), (3, .int (nI i))] S2 T2) : WL p l e s m below meth c b D cI cZ cJ ao aa mo ma 433 [] [(0, .ref b), (1, .ref (ao 27)), (2, .ref (mo 0)), (3, .int (nI i))] S T := by
  intro H locs ls hPx hPm hS hl
  obtain ⟨hx, hb, hr0, hml, hown, htg, hlk, hX, hbl, hK, hN, hIx, hIm, hdis, hxA, hmA⟩ := id C
  obtain ⟨r, S2, T2, e1, e2, hrel⟩ := h
  have hbA : ¬ (fun q : Nat => s.heap.size ≤ q) b := Nat.not_le.mpr hbl
  refine lv_aload_n hx hb d_L_law_433 rfl (lv_at hl 1 rfl) ?_
  refine lc_i (As := []) (rest := []) (A := xA ao aa) (Wf := xW cI cZ cJ ao aa) (wo := mW cI cZ cJ mo ma T) hx hb hml hown htg hK hN hIx (c_x_G_clear e1) ok_x_G_clear k_m_L_53 (va_recv hK hPx rfl xo_27) rfl rfl hl.1 (Nat.le_of_ble_eq_true rfl) d_L_law_434 ⟨by decide, by decide⟩ ⟨by decide, by decide⟩ hPx hPm (fun k q hq z => hdis _ z (m_mem k q hq)) hS hxA (fun H locs hPx hPm hS => ?_)
  refine lv_aload_n hx hb d_L_law_437 rfl (lv_at hl 2 rfl) ?_
  refine lc_i (As := []) (rest := [.int r]) (A := mA mo ma) (Wf := mW cI cZ cJ mo ma) (wo := xW cI cZ cJ ao aa S2) hx hb hml hown htg hK hN hIm (c_m_M_clear e2) ok_m_M_clear k_m_L_57 (va_recv hK hPm rfl mo_0) rfl rfl hl.1 (Nat.le_of_ble_eq_true rfl) d_L_law_438 ⟨by decide, by decide⟩ ⟨by decide, by decide⟩ hPm hPx (fun k q hq z => hdis _ (x_mem k q hq) z) hS hmA (fun H locs hPm hPx hS => ?_)
  refine lv_icmp_eq (tgt := 650) hx hb d_L_law_441 (by decide) (fun _ => ?_) (fun c => absurd rfl c)
  exact kk S2 T2 hrel H locs ls hPx hPm hS hl
set_option maxHeartbeats 4000000 in
set_option maxRecDepth 100000 in
theorem lcase_parse {Rel : St → St → Prop} (C : LC p s m meth c b L xs D cI cZ cJ ao aa mo ma) {i : Nat} (hi : i + 4 ≤ L) (hL : L ≤ 2048) {S T : St} (h : Agree Rel (x_G_parse S) (m_M_parse T)) (kk : ∀ S2 T2 : St, Rel S2 T2 → WL p l e s m below meth c b D cI cZ cJ ao aa mo ma 650 [] [(0, .ref b), (1, .ref (ao 27)), (2, .ref (mo 0)), (3, .int (nI i))] S2 T2) : WL p l e s m below meth c b D cI cZ cJ ao aa mo ma 446 [] [(0, .ref b), (1, .ref (ao 27)), (2, .ref (mo 0)), (3, .int (nI i))] S T := by
  intro H locs ls hPx hPm hS hl
  obtain ⟨hx, hb, hr0, hml, hown, htg, hlk, hX, hbl, hK, hN, hIx, hIm, hdis, hxA, hmA⟩ := id C
  obtain ⟨r, S2, T2, e1, e2, hrel⟩ := h
  have hbA : ¬ (fun q : Nat => s.heap.size ≤ q) b := Nat.not_le.mpr hbl
  refine lv_aload_n hx hb d_L_law_446 rfl (lv_at hl 1 rfl) ?_
  refine lc_i (As := []) (rest := []) (A := xA ao aa) (Wf := xW cI cZ cJ ao aa) (wo := mW cI cZ cJ mo ma T) hx hb hml hown htg hK hN hIx (c_x_G_parse e1) ok_x_G_parse k_m_L_58 (va_recv hK hPx rfl xo_27) rfl rfl hl.1 (Nat.le_of_ble_eq_true rfl) d_L_law_447 ⟨by decide, by decide⟩ ⟨by decide, by decide⟩ hPx hPm (fun k q hq z => hdis _ z (m_mem k q hq)) hS hxA (fun H locs hPx hPm hS => ?_)
  refine lv_aload_n hx hb d_L_law_450 rfl (lv_at hl 2 rfl) ?_
  refine lc_i (As := []) (rest := [.int r]) (A := mA mo ma) (Wf := mW cI cZ cJ mo ma) (wo := xW cI cZ cJ ao aa S2) hx hb hml hown htg hK hN hIm (c_m_M_parse e2) ok_m_M_parse k_m_L_61 (va_recv hK hPm rfl mo_0) rfl rfl hl.1 (Nat.le_of_ble_eq_true rfl) d_L_law_451 ⟨by decide, by decide⟩ ⟨by decide, by decide⟩ hPm hPx (fun k q hq z => hdis _ (x_mem k q hq) z) hS hmA (fun H locs hPm hPx hS => ?_)
  refine lv_icmp_eq (tgt := 650) hx hb d_L_law_454 (by decide) (fun _ => ?_) (fun c => absurd rfl c)
  exact kk S2 T2 hrel H locs ls hPx hPm hS hl
set_option maxHeartbeats 4000000 in
set_option maxRecDepth 100000 in
theorem lcase_answer {Rel : St → St → Prop} (C : LC p s m meth c b L xs D cI cZ cJ ao aa mo ma) {i : Nat} (hi : i + 4 ≤ L) (hL : L ≤ 2048) {S T : St} (h : Agree Rel (x_G_answer S (xs (nI i + 1).toNatClampNeg)) (m_M_answer T (xs (nI i + 1).toNatClampNeg))) (kk : ∀ S2 T2 : St, Rel S2 T2 → WL p l e s m below meth c b D cI cZ cJ ao aa mo ma 650 [] [(0, .ref b), (1, .ref (ao 27)), (2, .ref (mo 0)), (3, .int (nI i))] S2 T2) : WL p l e s m below meth c b D cI cZ cJ ao aa mo ma 459 [] [(0, .ref b), (1, .ref (ao 27)), (2, .ref (mo 0)), (3, .int (nI i))] S T := by
  intro H locs ls hPx hPm hS hl
  obtain ⟨hx, hb, hr0, hml, hown, htg, hlk, hX, hbl, hK, hN, hIx, hIm, hdis, hxA, hmA⟩ := id C
  obtain ⟨r, S2, T2, e1, e2, hrel⟩ := h
  have hbA : ¬ (fun q : Nat => s.heap.size ≤ q) b := Nat.not_le.mpr hbl
  refine lv_aload_n hx hb d_L_law_459 rfl (lv_at hl 1 rfl) ?_
  refine lv_aload_n hx hb d_L_law_460 rfl (lv_at hl 0 rfl) ?_
  refine lv_iload_n hx hb d_L_law_461 rfl (lv_at hl 3 rfl) ?_
  refine lv_iconst (v := 1) hx hb d_L_law_462 (by decide) ?_
  refine lv_iadd hx hb d_L_law_463 ?_
  refine va_sld hx hb hX hbl hbA hS (ix1 hi hL) d_L_law_464 ?_
  refine lc_i (As := [.int (xs (nI i + 1).toNatClampNeg)]) (rest := []) (A := xA ao aa) (Wf := xW cI cZ cJ ao aa) (wo := mW cI cZ cJ mo ma T) hx hb hml hown htg hK hN hIx (c_x_G_answer e1) ok_x_G_answer k_m_L_62 (va_recv hK hPx rfl xo_27) rfl rfl hl.1 (Nat.le_of_ble_eq_true rfl) d_L_law_465 ⟨by decide, by decide⟩ ⟨by decide, by decide⟩ hPx hPm (fun k q hq z => hdis _ z (m_mem k q hq)) hS hxA (fun H locs hPx hPm hS => ?_)
  refine lv_aload_n hx hb d_L_law_468 rfl (lv_at hl 2 rfl) ?_
  refine lv_aload_n hx hb d_L_law_469 rfl (lv_at hl 0 rfl) ?_
  refine lv_iload_n hx hb d_L_law_470 rfl (lv_at hl 3 rfl) ?_
  refine lv_iconst (v := 1) hx hb d_L_law_471 (by decide) ?_
  refine lv_iadd hx hb d_L_law_472 ?_
  refine va_sld hx hb hX hbl hbA hS (ix1 hi hL) d_L_law_473 ?_
  refine lc_i (As := [.int (xs (nI i + 1).toNatClampNeg)]) (rest := [.int r]) (A := mA mo ma) (Wf := mW cI cZ cJ mo ma) (wo := xW cI cZ cJ ao aa S2) hx hb hml hown htg hK hN hIm (c_m_M_answer e2) ok_m_M_answer k_m_L_65 (va_recv hK hPm rfl mo_0) rfl rfl hl.1 (Nat.le_of_ble_eq_true rfl) d_L_law_474 ⟨by decide, by decide⟩ ⟨by decide, by decide⟩ hPm hPx (fun k q hq z => hdis _ (x_mem k q hq) z) hS hmA (fun H locs hPm hPx hS => ?_)
  refine lv_icmp_eq (tgt := 650) hx hb d_L_law_477 (by decide) (fun _ => ?_) (fun c => absurd rfl c)
  exact kk S2 T2 hrel H locs ls hPx hPm hS hl
set_option maxHeartbeats 4000000 in
set_option maxRecDepth 100000 in
theorem lcase_object {Rel : St → St → Prop} (C : LC p s m meth c b L xs D cI cZ cJ ao aa mo ma) {i : Nat} (hi : i + 4 ≤ L) (hL : L ≤ 2048) {S T : St} (h : Agree Rel (x_G_object S (xs (nI i + 1).toNatClampNeg) (xs (nI i + 2).toNatClampNeg)) (m_M_object T (xs (nI i + 1).toNatClampNeg) (xs (nI i + 2).toNatClampNeg))) (kk : ∀ S2 T2 : St, Rel S2 T2 → WL p l e s m below meth c b D cI cZ cJ ao aa mo ma 650 [] [(0, .ref b), (1, .ref (ao 27)), (2, .ref (mo 0)), (3, .int (nI i))] S2 T2) : WL p l e s m below meth c b D cI cZ cJ ao aa mo ma 482 [] [(0, .ref b), (1, .ref (ao 27)), (2, .ref (mo 0)), (3, .int (nI i))] S T := by
  intro H locs ls hPx hPm hS hl
  obtain ⟨hx, hb, hr0, hml, hown, htg, hlk, hX, hbl, hK, hN, hIx, hIm, hdis, hxA, hmA⟩ := id C
  obtain ⟨r, S2, T2, e1, e2, hrel⟩ := h
  have hbA : ¬ (fun q : Nat => s.heap.size ≤ q) b := Nat.not_le.mpr hbl
  refine lv_aload_n hx hb d_L_law_482 rfl (lv_at hl 1 rfl) ?_
  refine lv_aload_n hx hb d_L_law_483 rfl (lv_at hl 0 rfl) ?_
  refine lv_iload_n hx hb d_L_law_484 rfl (lv_at hl 3 rfl) ?_
  refine lv_iconst (v := 1) hx hb d_L_law_485 (by decide) ?_
  refine lv_iadd hx hb d_L_law_486 ?_
  refine va_sld hx hb hX hbl hbA hS (ix1 hi hL) d_L_law_487 ?_
  refine lv_aload_n hx hb d_L_law_488 rfl (lv_at hl 0 rfl) ?_
  refine lv_iload_n hx hb d_L_law_489 rfl (lv_at hl 3 rfl) ?_
  refine lv_iconst (v := 2) hx hb d_L_law_490 (by decide) ?_
  refine lv_iadd hx hb d_L_law_491 ?_
  refine va_sld hx hb hX hbl hbA hS (ix2 hi hL) d_L_law_492 ?_
  refine lc_i (As := [.int (xs (nI i + 1).toNatClampNeg), .int (xs (nI i + 2).toNatClampNeg)]) (rest := []) (A := xA ao aa) (Wf := xW cI cZ cJ ao aa) (wo := mW cI cZ cJ mo ma T) hx hb hml hown htg hK hN hIx (c_x_G_object e1) ok_x_G_object k_m_L_66 (va_recv hK hPx rfl xo_27) rfl rfl hl.1 (Nat.le_of_ble_eq_true rfl) d_L_law_493 ⟨by decide, by decide⟩ ⟨by decide, by decide⟩ hPx hPm (fun k q hq z => hdis _ z (m_mem k q hq)) hS hxA (fun H locs hPx hPm hS => ?_)
  refine lv_aload_n hx hb d_L_law_496 rfl (lv_at hl 2 rfl) ?_
  refine lv_aload_n hx hb d_L_law_497 rfl (lv_at hl 0 rfl) ?_
  refine lv_iload_n hx hb d_L_law_498 rfl (lv_at hl 3 rfl) ?_
  refine lv_iconst (v := 1) hx hb d_L_law_499 (by decide) ?_
  refine lv_iadd hx hb d_L_law_500 ?_
  refine va_sld hx hb hX hbl hbA hS (ix1 hi hL) d_L_law_501 ?_
  refine lv_aload_n hx hb d_L_law_502 rfl (lv_at hl 0 rfl) ?_
  refine lv_iload_n hx hb d_L_law_503 rfl (lv_at hl 3 rfl) ?_
  refine lv_iconst (v := 2) hx hb d_L_law_504 (by decide) ?_
  refine lv_iadd hx hb d_L_law_505 ?_
  refine va_sld hx hb hX hbl hbA hS (ix2 hi hL) d_L_law_506 ?_
  refine lc_i (As := [.int (xs (nI i + 1).toNatClampNeg), .int (xs (nI i + 2).toNatClampNeg)]) (rest := [.int r]) (A := mA mo ma) (Wf := mW cI cZ cJ mo ma) (wo := xW cI cZ cJ ao aa S2) hx hb hml hown htg hK hN hIm (c_m_M_object e2) ok_m_M_object k_m_L_69 (va_recv hK hPm rfl mo_0) rfl rfl hl.1 (Nat.le_of_ble_eq_true rfl) d_L_law_507 ⟨by decide, by decide⟩ ⟨by decide, by decide⟩ hPm hPx (fun k q hq z => hdis _ (x_mem k q hq) z) hS hmA (fun H locs hPm hPx hS => ?_)
  refine lv_icmp_eq (tgt := 650) hx hb d_L_law_510 (by decide) (fun _ => ?_) (fun c => absurd rfl c)
  exact kk S2 T2 hrel H locs ls hPx hPm hS hl
set_option maxHeartbeats 4000000 in
set_option maxRecDepth 100000 in
theorem lcase_asked {Rel : St → St → Prop} (C : LC p s m meth c b L xs D cI cZ cJ ao aa mo ma) {i : Nat} (hi : i + 4 ≤ L) (hL : L ≤ 2048) {S T : St} (h : Agree Rel (x_G_asked S (xs (nI i + 1).toNatClampNeg)) (m_M_asked T (xs (nI i + 1).toNatClampNeg))) (kk : ∀ S2 T2 : St, Rel S2 T2 → WL p l e s m below meth c b D cI cZ cJ ao aa mo ma 650 [] [(0, .ref b), (1, .ref (ao 27)), (2, .ref (mo 0)), (3, .int (nI i))] S2 T2) : WL p l e s m below meth c b D cI cZ cJ ao aa mo ma 515 [] [(0, .ref b), (1, .ref (ao 27)), (2, .ref (mo 0)), (3, .int (nI i))] S T := by
  intro H locs ls hPx hPm hS hl
  obtain ⟨hx, hb, hr0, hml, hown, htg, hlk, hX, hbl, hK, hN, hIx, hIm, hdis, hxA, hmA⟩ := id C
  obtain ⟨r, S2, T2, e1, e2, hrel⟩ := h
  have hbA : ¬ (fun q : Nat => s.heap.size ≤ q) b := Nat.not_le.mpr hbl
  refine lv_aload_n hx hb d_L_law_515 rfl (lv_at hl 1 rfl) ?_
  refine lv_aload_n hx hb d_L_law_516 rfl (lv_at hl 0 rfl) ?_
  refine lv_iload_n hx hb d_L_law_517 rfl (lv_at hl 3 rfl) ?_
  refine lv_iconst (v := 1) hx hb d_L_law_518 (by decide) ?_
  refine lv_iadd hx hb d_L_law_519 ?_
  refine va_sld hx hb hX hbl hbA hS (ix1 hi hL) d_L_law_520 ?_
  refine lc_i (As := [.int (xs (nI i + 1).toNatClampNeg)]) (rest := []) (A := xA ao aa) (Wf := xW cI cZ cJ ao aa) (wo := mW cI cZ cJ mo ma T) hx hb hml hown htg hK hN hIx (c_x_G_asked e1) ok_x_G_asked k_m_L_70 (va_recv hK hPx rfl xo_27) rfl rfl hl.1 (Nat.le_of_ble_eq_true rfl) d_L_law_521 ⟨by decide, by decide⟩ ⟨by decide, by decide⟩ hPx hPm (fun k q hq z => hdis _ z (m_mem k q hq)) hS hxA (fun H locs hPx hPm hS => ?_)
  refine lv_aload_n hx hb d_L_law_524 rfl (lv_at hl 2 rfl) ?_
  refine lv_aload_n hx hb d_L_law_525 rfl (lv_at hl 0 rfl) ?_
  refine lv_iload_n hx hb d_L_law_526 rfl (lv_at hl 3 rfl) ?_
  refine lv_iconst (v := 1) hx hb d_L_law_527 (by decide) ?_
  refine lv_iadd hx hb d_L_law_528 ?_
  refine va_sld hx hb hX hbl hbA hS (ix1 hi hL) d_L_law_529 ?_
  refine lc_i (As := [.int (xs (nI i + 1).toNatClampNeg)]) (rest := [.int r]) (A := mA mo ma) (Wf := mW cI cZ cJ mo ma) (wo := xW cI cZ cJ ao aa S2) hx hb hml hown htg hK hN hIm (c_m_M_asked e2) ok_m_M_asked k_m_L_73 (va_recv hK hPm rfl mo_0) rfl rfl hl.1 (Nat.le_of_ble_eq_true rfl) d_L_law_530 ⟨by decide, by decide⟩ ⟨by decide, by decide⟩ hPm hPx (fun k q hq z => hdis _ (x_mem k q hq) z) hS hmA (fun H locs hPm hPx hS => ?_)
  refine lv_icmp_eq (tgt := 650) hx hb d_L_law_533 (by decide) (fun _ => ?_) (fun c => absurd rfl c)
  exact kk S2 T2 hrel H locs ls hPx hPm hS hl
set_option maxHeartbeats 4000000 in
set_option maxRecDepth 100000 in
theorem lcase_filled {Rel : St → St → Prop} (C : LC p s m meth c b L xs D cI cZ cJ ao aa mo ma) {i : Nat} (hi : i + 4 ≤ L) (hL : L ≤ 2048) {S T : St} (h : Agree Rel (x_G_filled S (xs (nI i + 1).toNatClampNeg)) (m_M_filled T (xs (nI i + 1).toNatClampNeg))) (kk : ∀ S2 T2 : St, Rel S2 T2 → WL p l e s m below meth c b D cI cZ cJ ao aa mo ma 650 [] [(0, .ref b), (1, .ref (ao 27)), (2, .ref (mo 0)), (3, .int (nI i))] S2 T2) : WL p l e s m below meth c b D cI cZ cJ ao aa mo ma 538 [] [(0, .ref b), (1, .ref (ao 27)), (2, .ref (mo 0)), (3, .int (nI i))] S T := by
  intro H locs ls hPx hPm hS hl
  obtain ⟨hx, hb, hr0, hml, hown, htg, hlk, hX, hbl, hK, hN, hIx, hIm, hdis, hxA, hmA⟩ := id C
  obtain ⟨r, S2, T2, e1, e2, hrel⟩ := h
  have hbA : ¬ (fun q : Nat => s.heap.size ≤ q) b := Nat.not_le.mpr hbl
  refine lv_aload_n hx hb d_L_law_538 rfl (lv_at hl 1 rfl) ?_
  refine lv_aload_n hx hb d_L_law_539 rfl (lv_at hl 0 rfl) ?_
  refine lv_iload_n hx hb d_L_law_540 rfl (lv_at hl 3 rfl) ?_
  refine lv_iconst (v := 1) hx hb d_L_law_541 (by decide) ?_
  refine lv_iadd hx hb d_L_law_542 ?_
  refine va_sld hx hb hX hbl hbA hS (ix1 hi hL) d_L_law_543 ?_
  refine lc_i (As := [.int (xs (nI i + 1).toNatClampNeg)]) (rest := []) (A := xA ao aa) (Wf := xW cI cZ cJ ao aa) (wo := mW cI cZ cJ mo ma T) hx hb hml hown htg hK hN hIx (c_x_G_filled e1) ok_x_G_filled k_m_L_74 (va_recv hK hPx rfl xo_27) rfl rfl hl.1 (Nat.le_of_ble_eq_true rfl) d_L_law_544 ⟨by decide, by decide⟩ ⟨by decide, by decide⟩ hPx hPm (fun k q hq z => hdis _ z (m_mem k q hq)) hS hxA (fun H locs hPx hPm hS => ?_)
  refine lv_aload_n hx hb d_L_law_547 rfl (lv_at hl 2 rfl) ?_
  refine lv_aload_n hx hb d_L_law_548 rfl (lv_at hl 0 rfl) ?_
  refine lv_iload_n hx hb d_L_law_549 rfl (lv_at hl 3 rfl) ?_
  refine lv_iconst (v := 1) hx hb d_L_law_550 (by decide) ?_
  refine lv_iadd hx hb d_L_law_551 ?_
  refine va_sld hx hb hX hbl hbA hS (ix1 hi hL) d_L_law_552 ?_
  refine lc_i (As := [.int (xs (nI i + 1).toNatClampNeg)]) (rest := [.int r]) (A := mA mo ma) (Wf := mW cI cZ cJ mo ma) (wo := xW cI cZ cJ ao aa S2) hx hb hml hown htg hK hN hIm (c_m_M_filled e2) ok_m_M_filled k_m_L_77 (va_recv hK hPm rfl mo_0) rfl rfl hl.1 (Nat.le_of_ble_eq_true rfl) d_L_law_553 ⟨by decide, by decide⟩ ⟨by decide, by decide⟩ hPm hPx (fun k q hq z => hdis _ (x_mem k q hq) z) hS hmA (fun H locs hPm hPx hS => ?_)
  refine lv_icmp_eq (tgt := 650) hx hb d_L_law_556 (by decide) (fun _ => ?_) (fun c => absurd rfl c)
  exact kk S2 T2 hrel H locs ls hPx hPm hS hl
set_option maxHeartbeats 4000000 in
set_option maxRecDepth 100000 in
theorem lcase_told {Rel : St → St → Prop} (C : LC p s m meth c b L xs D cI cZ cJ ao aa mo ma) {i : Nat} (hi : i + 4 ≤ L) (hL : L ≤ 2048) {S T : St} (h : Agree Rel (x_G_told S (xs (nI i + 1).toNatClampNeg)) (m_M_told T (xs (nI i + 1).toNatClampNeg))) (kk : ∀ S2 T2 : St, Rel S2 T2 → WL p l e s m below meth c b D cI cZ cJ ao aa mo ma 650 [] [(0, .ref b), (1, .ref (ao 27)), (2, .ref (mo 0)), (3, .int (nI i))] S2 T2) : WL p l e s m below meth c b D cI cZ cJ ao aa mo ma 561 [] [(0, .ref b), (1, .ref (ao 27)), (2, .ref (mo 0)), (3, .int (nI i))] S T := by
  intro H locs ls hPx hPm hS hl
  obtain ⟨hx, hb, hr0, hml, hown, htg, hlk, hX, hbl, hK, hN, hIx, hIm, hdis, hxA, hmA⟩ := id C
  obtain ⟨r, S2, T2, e1, e2, hrel⟩ := h
  have hbA : ¬ (fun q : Nat => s.heap.size ≤ q) b := Nat.not_le.mpr hbl
  refine lv_aload_n hx hb d_L_law_561 rfl (lv_at hl 1 rfl) ?_
  refine lv_aload_n hx hb d_L_law_562 rfl (lv_at hl 0 rfl) ?_
  refine lv_iload_n hx hb d_L_law_563 rfl (lv_at hl 3 rfl) ?_
  refine lv_iconst (v := 1) hx hb d_L_law_564 (by decide) ?_
  refine lv_iadd hx hb d_L_law_565 ?_
  refine va_sld hx hb hX hbl hbA hS (ix1 hi hL) d_L_law_566 ?_
  refine lc_i (As := [.int (xs (nI i + 1).toNatClampNeg)]) (rest := []) (A := xA ao aa) (Wf := xW cI cZ cJ ao aa) (wo := mW cI cZ cJ mo ma T) hx hb hml hown htg hK hN hIx (c_x_G_told e1) ok_x_G_told k_m_L_78 (va_recv hK hPx rfl xo_27) rfl rfl hl.1 (Nat.le_of_ble_eq_true rfl) d_L_law_567 ⟨by decide, by decide⟩ ⟨by decide, by decide⟩ hPx hPm (fun k q hq z => hdis _ z (m_mem k q hq)) hS hxA (fun H locs hPx hPm hS => ?_)
  refine lv_aload_n hx hb d_L_law_570 rfl (lv_at hl 2 rfl) ?_
  refine lv_aload_n hx hb d_L_law_571 rfl (lv_at hl 0 rfl) ?_
  refine lv_iload_n hx hb d_L_law_572 rfl (lv_at hl 3 rfl) ?_
  refine lv_iconst (v := 1) hx hb d_L_law_573 (by decide) ?_
  refine lv_iadd hx hb d_L_law_574 ?_
  refine va_sld hx hb hX hbl hbA hS (ix1 hi hL) d_L_law_575 ?_
  refine lc_i (As := [.int (xs (nI i + 1).toNatClampNeg)]) (rest := [.int r]) (A := mA mo ma) (Wf := mW cI cZ cJ mo ma) (wo := xW cI cZ cJ ao aa S2) hx hb hml hown htg hK hN hIm (c_m_M_told e2) ok_m_M_told k_m_L_81 (va_recv hK hPm rfl mo_0) rfl rfl hl.1 (Nat.le_of_ble_eq_true rfl) d_L_law_576 ⟨by decide, by decide⟩ ⟨by decide, by decide⟩ hPm hPx (fun k q hq z => hdis _ (x_mem k q hq) z) hS hmA (fun H locs hPm hPx hS => ?_)
  refine lv_icmp_eq (tgt := 650) hx hb d_L_law_579 (by decide) (fun _ => ?_) (fun c => absurd rfl c)
  exact kk S2 T2 hrel H locs ls hPx hPm hS hl
set_option maxHeartbeats 4000000 in
set_option maxRecDepth 100000 in
theorem lcase_trace {Rel : St → St → Prop} (C : LC p s m meth c b L xs D cI cZ cJ ao aa mo ma) {i : Nat} (hi : i + 4 ≤ L) (hL : L ≤ 2048) {S T : St} (h : Agree Rel (x_G_trace S (xs (nI i + 1).toNatClampNeg) (xs (nI i + 2).toNatClampNeg)) (m_M_trace T (xs (nI i + 1).toNatClampNeg) (xs (nI i + 2).toNatClampNeg))) (kk : ∀ S2 T2 : St, Rel S2 T2 → WL p l e s m below meth c b D cI cZ cJ ao aa mo ma 650 [] [(0, .ref b), (1, .ref (ao 27)), (2, .ref (mo 0)), (3, .int (nI i))] S2 T2) : WL p l e s m below meth c b D cI cZ cJ ao aa mo ma 584 [] [(0, .ref b), (1, .ref (ao 27)), (2, .ref (mo 0)), (3, .int (nI i))] S T := by
  intro H locs ls hPx hPm hS hl
  obtain ⟨hx, hb, hr0, hml, hown, htg, hlk, hX, hbl, hK, hN, hIx, hIm, hdis, hxA, hmA⟩ := id C
  obtain ⟨r, S2, T2, e1, e2, hrel⟩ := h
  have hbA : ¬ (fun q : Nat => s.heap.size ≤ q) b := Nat.not_le.mpr hbl
  refine lv_aload_n hx hb d_L_law_584 rfl (lv_at hl 1 rfl) ?_
  refine lv_aload_n hx hb d_L_law_585 rfl (lv_at hl 0 rfl) ?_
  refine lv_iload_n hx hb d_L_law_586 rfl (lv_at hl 3 rfl) ?_
  refine lv_iconst (v := 1) hx hb d_L_law_587 (by decide) ?_
  refine lv_iadd hx hb d_L_law_588 ?_
  refine va_sld hx hb hX hbl hbA hS (ix1 hi hL) d_L_law_589 ?_
  refine lv_aload_n hx hb d_L_law_590 rfl (lv_at hl 0 rfl) ?_
  refine lv_iload_n hx hb d_L_law_591 rfl (lv_at hl 3 rfl) ?_
  refine lv_iconst (v := 2) hx hb d_L_law_592 (by decide) ?_
  refine lv_iadd hx hb d_L_law_593 ?_
  refine va_sld hx hb hX hbl hbA hS (ix2 hi hL) d_L_law_594 ?_
  refine lc_i (As := [.int (xs (nI i + 1).toNatClampNeg), .int (xs (nI i + 2).toNatClampNeg)]) (rest := []) (A := xA ao aa) (Wf := xW cI cZ cJ ao aa) (wo := mW cI cZ cJ mo ma T) hx hb hml hown htg hK hN hIx (c_x_G_trace e1) ok_x_G_trace k_m_L_82 (va_recv hK hPx rfl xo_27) rfl rfl hl.1 (Nat.le_of_ble_eq_true rfl) d_L_law_595 ⟨by decide, by decide⟩ ⟨by decide, by decide⟩ hPx hPm (fun k q hq z => hdis _ z (m_mem k q hq)) hS hxA (fun H locs hPx hPm hS => ?_)
  refine lv_aload_n hx hb d_L_law_598 rfl (lv_at hl 2 rfl) ?_
  refine lv_aload_n hx hb d_L_law_599 rfl (lv_at hl 0 rfl) ?_
  refine lv_iload_n hx hb d_L_law_600 rfl (lv_at hl 3 rfl) ?_
  refine lv_iconst (v := 1) hx hb d_L_law_601 (by decide) ?_
  refine lv_iadd hx hb d_L_law_602 ?_
  refine va_sld hx hb hX hbl hbA hS (ix1 hi hL) d_L_law_603 ?_
  refine lv_aload_n hx hb d_L_law_604 rfl (lv_at hl 0 rfl) ?_
  refine lv_iload_n hx hb d_L_law_605 rfl (lv_at hl 3 rfl) ?_
  refine lv_iconst (v := 2) hx hb d_L_law_606 (by decide) ?_
  refine lv_iadd hx hb d_L_law_607 ?_
  refine va_sld hx hb hX hbl hbA hS (ix2 hi hL) d_L_law_608 ?_
  refine lc_i (As := [.int (xs (nI i + 1).toNatClampNeg), .int (xs (nI i + 2).toNatClampNeg)]) (rest := [.int r]) (A := mA mo ma) (Wf := mW cI cZ cJ mo ma) (wo := xW cI cZ cJ ao aa S2) hx hb hml hown htg hK hN hIm (c_m_M_trace e2) ok_m_M_trace k_m_L_85 (va_recv hK hPm rfl mo_0) rfl rfl hl.1 (Nat.le_of_ble_eq_true rfl) d_L_law_609 ⟨by decide, by decide⟩ ⟨by decide, by decide⟩ hPm hPx (fun k q hq z => hdis _ (x_mem k q hq) z) hS hmA (fun H locs hPm hPx hS => ?_)
  refine lv_icmp_eq (tgt := 650) hx hb d_L_law_612 (by decide) (fun _ => ?_) (fun c => absurd rfl c)
  exact kk S2 T2 hrel H locs ls hPx hPm hS hl
set_option maxHeartbeats 4000000 in
set_option maxRecDepth 100000 in
theorem lcase_said {Rel : St → St → Prop} (C : LC p s m meth c b L xs D cI cZ cJ ao aa mo ma) {i : Nat} (hi : i + 4 ≤ L) (hL : L ≤ 2048) {S T : St} (h : Agree Rel (x_G_said S (xs (nI i + 1).toNatClampNeg) (xs (nI i + 2).toNatClampNeg)) (m_M_said T (xs (nI i + 1).toNatClampNeg) (xs (nI i + 2).toNatClampNeg))) (kk : ∀ S2 T2 : St, Rel S2 T2 → WL p l e s m below meth c b D cI cZ cJ ao aa mo ma 650 [] [(0, .ref b), (1, .ref (ao 27)), (2, .ref (mo 0)), (3, .int (nI i))] S2 T2) : WL p l e s m below meth c b D cI cZ cJ ao aa mo ma 617 [] [(0, .ref b), (1, .ref (ao 27)), (2, .ref (mo 0)), (3, .int (nI i))] S T := by
  intro H locs ls hPx hPm hS hl
  obtain ⟨hx, hb, hr0, hml, hown, htg, hlk, hX, hbl, hK, hN, hIx, hIm, hdis, hxA, hmA⟩ := id C
  obtain ⟨r, S2, T2, e1, e2, hrel⟩ := h
  have hbA : ¬ (fun q : Nat => s.heap.size ≤ q) b := Nat.not_le.mpr hbl
  refine lv_aload_n hx hb d_L_law_617 rfl (lv_at hl 1 rfl) ?_
  refine lv_aload_n hx hb d_L_law_618 rfl (lv_at hl 0 rfl) ?_
  refine lv_iload_n hx hb d_L_law_619 rfl (lv_at hl 3 rfl) ?_
  refine lv_iconst (v := 1) hx hb d_L_law_620 (by decide) ?_
  refine lv_iadd hx hb d_L_law_621 ?_
  refine va_sld hx hb hX hbl hbA hS (ix1 hi hL) d_L_law_622 ?_
  refine lv_aload_n hx hb d_L_law_623 rfl (lv_at hl 0 rfl) ?_
  refine lv_iload_n hx hb d_L_law_624 rfl (lv_at hl 3 rfl) ?_
  refine lv_iconst (v := 2) hx hb d_L_law_625 (by decide) ?_
  refine lv_iadd hx hb d_L_law_626 ?_
  refine va_sld hx hb hX hbl hbA hS (ix2 hi hL) d_L_law_627 ?_
  refine lc_i (As := [.int (xs (nI i + 1).toNatClampNeg), .int (xs (nI i + 2).toNatClampNeg)]) (rest := []) (A := xA ao aa) (Wf := xW cI cZ cJ ao aa) (wo := mW cI cZ cJ mo ma T) hx hb hml hown htg hK hN hIx (c_x_G_said e1) ok_x_G_said k_m_L_86 (va_recv hK hPx rfl xo_27) rfl rfl hl.1 (Nat.le_of_ble_eq_true rfl) d_L_law_628 ⟨by decide, by decide⟩ ⟨by decide, by decide⟩ hPx hPm (fun k q hq z => hdis _ z (m_mem k q hq)) hS hxA (fun H locs hPx hPm hS => ?_)
  refine lv_aload_n hx hb d_L_law_631 rfl (lv_at hl 2 rfl) ?_
  refine lv_aload_n hx hb d_L_law_632 rfl (lv_at hl 0 rfl) ?_
  refine lv_iload_n hx hb d_L_law_633 rfl (lv_at hl 3 rfl) ?_
  refine lv_iconst (v := 1) hx hb d_L_law_634 (by decide) ?_
  refine lv_iadd hx hb d_L_law_635 ?_
  refine va_sld hx hb hX hbl hbA hS (ix1 hi hL) d_L_law_636 ?_
  refine lv_aload_n hx hb d_L_law_637 rfl (lv_at hl 0 rfl) ?_
  refine lv_iload_n hx hb d_L_law_638 rfl (lv_at hl 3 rfl) ?_
  refine lv_iconst (v := 2) hx hb d_L_law_639 (by decide) ?_
  refine lv_iadd hx hb d_L_law_640 ?_
  refine va_sld hx hb hX hbl hbA hS (ix2 hi hL) d_L_law_641 ?_
  refine lc_i (As := [.int (xs (nI i + 1).toNatClampNeg), .int (xs (nI i + 2).toNatClampNeg)]) (rest := [.int r]) (A := mA mo ma) (Wf := mW cI cZ cJ mo ma) (wo := xW cI cZ cJ ao aa S2) hx hb hml hown htg hK hN hIm (c_m_M_said e2) ok_m_M_said k_m_L_89 (va_recv hK hPm rfl mo_0) rfl rfl hl.1 (Nat.le_of_ble_eq_true rfl) d_L_law_642 ⟨by decide, by decide⟩ ⟨by decide, by decide⟩ hPm hPx (fun k q hq z => hdis _ (x_mem k q hq) z) hS hmA (fun H locs hPm hPx hS => ?_)
  refine lv_icmp_eq (tgt := 650) hx hb d_L_law_645 (by decide) (fun _ => ?_) (fun c => absurd rfl c)
  exact kk S2 T2 hrel H locs ls hPx hPm hS hl
/-- every call of the face keeps the relation -/
def GoodAll (Rel : St → St → Prop) : Prop := Good_verb Rel ∧ Good_like Rel ∧ Good_line Rel ∧ Good_token Rel ∧ Good_thing Rel ∧ Good_name Rel ∧ Good_flags Rel ∧ Good_custom Rel ∧ Good_word Rel ∧ Good_clear Rel ∧ Good_parse Rel ∧ Good_answer Rel ∧ Good_object Rel ∧ Good_asked Rel ∧ Good_filled Rel ∧ Good_told Rel ∧ Good_trace Rel ∧ Good_said Rel
set_option maxHeartbeats 4000000 in
set_option maxRecDepth 100000 in
theorem law_sw {Rel : St → St → Prop} (hg : GoodAll Rel) (C : LC p s m meth c b L xs D cI cZ cJ ao aa mo ma) {i : Nat} (hi : i + 4 ≤ L) (hL : L ≤ 2048) {S T : St} (hrel : Rel S T) (kk : ∀ S2 T2 : St, Rel S2 T2 → WL p l e s m below meth c b D cI cZ cJ ao aa mo ma 650 [] [(0, .ref b), (1, .ref (ao 27)), (2, .ref (mo 0)), (3, .int (nI i))] S2 T2) : WL p l e s m below meth c b D cI cZ cJ ao aa mo ma 32 [.int (xs (nI i).toNatClampNeg &&& 31)] [(0, .ref b), (1, .ref (ao 27)), (2, .ref (mo 0)), (3, .int (nI i))] S T := by
  intro H locs ls hPx hPm hS hl
  obtain ⟨hx, hb, hr0, hml, hown, htg, hlk, hX, hbl, hK, hN, hIx, hIm, hdis, hxA, hmA⟩ := id C
  obtain ⟨g_verb, g_like, g_line, g_token, g_thing, g_name, g_flags, g_custom, g_word, g_clear, g_parse, g_answer, g_object, g_asked, g_filled, g_told, g_trace, g_said⟩ := hg
  generalize xs (nI i).toNatClampNeg &&& 31 = v
  by_cases cc : v.toInt < 0 ∨ 17 < v.toInt
  · refine lv_tableOut (tgt := 650) hx hb d_L_law_32 cc (by decide) ?_
    exact kk S T hrel H locs ls hPx hPm hS hl
  by_cases c0 : v = 0
  · refine lv_tableIn (off := 88) (tgt := 120) hx hb d_L_law_32 (by rw [c0]; decide) (by rw [c0]; decide) (by rw [c0]; rfl) (by decide) ?_
    exact lcase_verb C hi hL (g_verb S T _ hrel) kk H locs ls hPx hPm hS hl
  by_cases c1 : v = 1
  · refine lv_tableIn (off := 111) (tgt := 143) hx hb d_L_law_32 (by rw [c1]; decide) (by rw [c1]; decide) (by rw [c1]; rfl) (by decide) ?_
    exact lcase_like C hi hL (g_like S T _ _ hrel) kk H locs ls hPx hPm hS hl
  by_cases c2 : v = 2
  · refine lv_tableIn (off := 144) (tgt := 176) hx hb d_L_law_32 (by rw [c2]; decide) (by rw [c2]; decide) (by rw [c2]; rfl) (by decide) ?_
    by_cases hz : xs (nI i + 3).toNatClampNeg = 0
    · exact lcase_line_0 C hi hL hz (g_line S T _ _ 0 hrel (Or.inl rfl)) kk H locs ls hPx hPm hS hl
    · exact lcase_line_1 C hi hL hz (g_line S T _ _ 1 hrel (Or.inr rfl)) kk H locs ls hPx hPm hS hl
  by_cases c3 : v = 3
  · refine lv_tableIn (off := 203) (tgt := 235) hx hb d_L_law_32 (by rw [c3]; decide) (by rw [c3]; decide) (by rw [c3]; rfl) (by decide) ?_
    exact lcase_token C hi hL (g_token S T _ _ _ hrel) kk H locs ls hPx hPm hS hl
  by_cases c4 : v = 4
  · refine lv_tableIn (off := 246) (tgt := 278) hx hb d_L_law_32 (by rw [c4]; decide) (by rw [c4]; decide) (by rw [c4]; rfl) (by decide) ?_
    exact lcase_thing C hi hL (g_thing S T _ hrel) kk H locs ls hPx hPm hS hl
  by_cases c5 : v = 5
  · refine lv_tableIn (off := 269) (tgt := 301) hx hb d_L_law_32 (by rw [c5]; decide) (by rw [c5]; decide) (by rw [c5]; rfl) (by decide) ?_
    exact lcase_name C hi hL (g_name S T _ _ hrel) kk H locs ls hPx hPm hS hl
  by_cases c6 : v = 6
  · refine lv_tableIn (off := 302) (tgt := 334) hx hb d_L_law_32 (by rw [c6]; decide) (by rw [c6]; decide) (by rw [c6]; rfl) (by decide) ?_
    exact lcase_flags C hi hL (g_flags S T _ _ hrel) kk H locs ls hPx hPm hS hl
  by_cases c7 : v = 7
  · refine lv_tableIn (off := 335) (tgt := 367) hx hb d_L_law_32 (by rw [c7]; decide) (by rw [c7]; decide) (by rw [c7]; rfl) (by decide) ?_
    exact lcase_custom C hi hL (g_custom S T _ _ _ hrel) kk H locs ls hPx hPm hS hl
  by_cases c8 : v = 8
  · refine lv_tableIn (off := 378) (tgt := 410) hx hb d_L_law_32 (by rw [c8]; decide) (by rw [c8]; decide) (by rw [c8]; rfl) (by decide) ?_
    exact lcase_word C hi hL (g_word S T _ hrel) kk H locs ls hPx hPm hS hl
  by_cases c9 : v = 9
  · refine lv_tableIn (off := 401) (tgt := 433) hx hb d_L_law_32 (by rw [c9]; decide) (by rw [c9]; decide) (by rw [c9]; rfl) (by decide) ?_
    exact lcase_clear C hi hL (g_clear S T hrel) kk H locs ls hPx hPm hS hl
  by_cases c10 : v = 10
  · refine lv_tableIn (off := 414) (tgt := 446) hx hb d_L_law_32 (by rw [c10]; decide) (by rw [c10]; decide) (by rw [c10]; rfl) (by decide) ?_
    exact lcase_parse C hi hL (g_parse S T hrel) kk H locs ls hPx hPm hS hl
  by_cases c11 : v = 11
  · refine lv_tableIn (off := 427) (tgt := 459) hx hb d_L_law_32 (by rw [c11]; decide) (by rw [c11]; decide) (by rw [c11]; rfl) (by decide) ?_
    exact lcase_answer C hi hL (g_answer S T _ hrel) kk H locs ls hPx hPm hS hl
  by_cases c12 : v = 12
  · refine lv_tableIn (off := 450) (tgt := 482) hx hb d_L_law_32 (by rw [c12]; decide) (by rw [c12]; decide) (by rw [c12]; rfl) (by decide) ?_
    exact lcase_object C hi hL (g_object S T _ _ hrel) kk H locs ls hPx hPm hS hl
  by_cases c13 : v = 13
  · refine lv_tableIn (off := 483) (tgt := 515) hx hb d_L_law_32 (by rw [c13]; decide) (by rw [c13]; decide) (by rw [c13]; rfl) (by decide) ?_
    exact lcase_asked C hi hL (g_asked S T _ hrel) kk H locs ls hPx hPm hS hl
  by_cases c14 : v = 14
  · refine lv_tableIn (off := 506) (tgt := 538) hx hb d_L_law_32 (by rw [c14]; decide) (by rw [c14]; decide) (by rw [c14]; rfl) (by decide) ?_
    exact lcase_filled C hi hL (g_filled S T _ hrel) kk H locs ls hPx hPm hS hl
  by_cases c15 : v = 15
  · refine lv_tableIn (off := 529) (tgt := 561) hx hb d_L_law_32 (by rw [c15]; decide) (by rw [c15]; decide) (by rw [c15]; rfl) (by decide) ?_
    exact lcase_told C hi hL (g_told S T _ hrel) kk H locs ls hPx hPm hS hl
  by_cases c16 : v = 16
  · refine lv_tableIn (off := 552) (tgt := 584) hx hb d_L_law_32 (by rw [c16]; decide) (by rw [c16]; decide) (by rw [c16]; rfl) (by decide) ?_
    exact lcase_trace C hi hL (g_trace S T _ _ hrel) kk H locs ls hPx hPm hS hl
  by_cases c17 : v = 17
  · refine lv_tableIn (off := 585) (tgt := 617) hx hb d_L_law_32 (by rw [c17]; decide) (by rw [c17]; decide) (by rw [c17]; rfl) (by decide) ?_
    exact lcase_said C hi hL (g_said S T _ _ hrel) kk H locs ls hPx hPm hS hl
  exfalso
  have n0 : v.toInt ≠ 0 := fun h => c0 (Int32.toInt_inj.mp (h.trans rfl))
  have n1 : v.toInt ≠ 1 := fun h => c1 (Int32.toInt_inj.mp (h.trans rfl))
  have n2 : v.toInt ≠ 2 := fun h => c2 (Int32.toInt_inj.mp (h.trans rfl))
  have n3 : v.toInt ≠ 3 := fun h => c3 (Int32.toInt_inj.mp (h.trans rfl))
  have n4 : v.toInt ≠ 4 := fun h => c4 (Int32.toInt_inj.mp (h.trans rfl))
  have n5 : v.toInt ≠ 5 := fun h => c5 (Int32.toInt_inj.mp (h.trans rfl))
  have n6 : v.toInt ≠ 6 := fun h => c6 (Int32.toInt_inj.mp (h.trans rfl))
  have n7 : v.toInt ≠ 7 := fun h => c7 (Int32.toInt_inj.mp (h.trans rfl))
  have n8 : v.toInt ≠ 8 := fun h => c8 (Int32.toInt_inj.mp (h.trans rfl))
  have n9 : v.toInt ≠ 9 := fun h => c9 (Int32.toInt_inj.mp (h.trans rfl))
  have n10 : v.toInt ≠ 10 := fun h => c10 (Int32.toInt_inj.mp (h.trans rfl))
  have n11 : v.toInt ≠ 11 := fun h => c11 (Int32.toInt_inj.mp (h.trans rfl))
  have n12 : v.toInt ≠ 12 := fun h => c12 (Int32.toInt_inj.mp (h.trans rfl))
  have n13 : v.toInt ≠ 13 := fun h => c13 (Int32.toInt_inj.mp (h.trans rfl))
  have n14 : v.toInt ≠ 14 := fun h => c14 (Int32.toInt_inj.mp (h.trans rfl))
  have n15 : v.toInt ≠ 15 := fun h => c15 (Int32.toInt_inj.mp (h.trans rfl))
  have n16 : v.toInt ≠ 16 := fun h => c16 (Int32.toInt_inj.mp (h.trans rfl))
  have n17 : v.toInt ≠ 17 := fun h => c17 (Int32.toInt_inj.mp (h.trans rfl))
  omega
set_option maxHeartbeats 4000000 in
set_option maxRecDepth 100000 in
theorem law_loop {Rel : St → St → Prop} (hg : GoodAll Rel) (C : LC p s m meth c b L xs D cI cZ cJ ao aa mo ma) (hL : L ≤ 2048) : ∀ (n i : Nat), i ≤ 2052 → 2053 ≤ i + n → ∀ S T : St, Rel S T → WL p l e s m below meth c b D cI cZ cJ ao aa mo ma 18 [] [(0, .ref b), (1, .ref (ao 27)), (2, .ref (mo 0)), (3, .int (nI i))] S T := by
  intro n
  induction n with
  | zero => intro i h1 h2; exact absurd h2 (by omega)
  | succ n ih =>
    intro i hi hn S T hrel H locs ls hPx hPm hS hl
    obtain ⟨hx, hb, hr0, hml, hown, htg, hlk, hX, hbl, hK, hN, hIx, hIm, hdis, hxA, hmA⟩ := id C
    have hbA : ¬ (fun q : Nat => s.heap.size ≤ q) b := Nat.not_le.mpr hbl
    refine lv_iload_n hx hb d_L_law_18 rfl (lv_at hl 3 rfl) ?_
    refine lv_aload_n hx hb d_L_law_19 rfl (lv_at hl 0 rfl) ?_
    refine va_slen hx hb hX hbl hbA hS d_L_law_20 ?_
    refine lv_iconst (v := 4) hx hb d_L_law_21 (by decide) ?_
    refine lv_isub hx hb d_L_law_22 ?_
    refine lv_icmp_gt (tgt := 656) hx hb d_L_law_23 (by decide) (fun _ => ?_) (fun c => ?_)
    · refine lv_iconst (v := 1) hx hb d_L_law_656 (by decide) ?_
      refine va_forget (fun q h => hS.2.2 q h) ?_
      exact lw_ret hx hb hr0 hlk d_L_law_657
    have h4 : i + 4 ≤ L := lw_go hL hi c
    refine lv_aload_n hx hb d_L_law_26 rfl (lv_at hl 0 rfl) ?_
    refine lv_iload_n hx hb d_L_law_27 rfl (lv_at hl 3 rfl) ?_
    refine va_sld hx hb hX hbl hbA hS (ix0 h4 hL) d_L_law_28 ?_
    refine lv_bipush (v := 31) hx hb d_L_law_29 (by decide) ?_
    refine lv_iand hx hb d_L_law_31 ?_
    refine law_sw hg C h4 hL hrel (fun S2 T2 hrel2 => ?_) H locs ls hPx hPm hS hl
    intro H locs ls hPx hPm hS hl
    refine lv_iinc (v := nI (i + 4)) (lv' := [(3, .int (nI (i + 4))), (0, .ref b), (1, .ref (ao 27)), (2, .ref (mo 0))]) hx hb d_L_law_650 hl (k := 3) rfl (nI_add i 4) (by decide) rfl (fun ls hl => ?_)
    refine lv_goto (tgt := 18) hx hb d_L_law_653 (by decide) ?_
    exact ih (i + 4) (by omega) (by omega) S2 T2 hrel2 H locs ls hPx hPm hS (lv_sub hl [1, 2, 3, 0] rfl)
end LAWLOOP

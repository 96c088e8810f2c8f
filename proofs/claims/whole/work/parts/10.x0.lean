section
variable {p : Program} {l : Launch} {e : Env} {s : State} {m : MethodId} {args : Array Value} {below : List Frame} {meth : Method} {c : Code} {D : va_G} {cI cZ cJ : ClassId} {ao aa : Nat → Nat}
def x_G_isPlainWord (S : St) (x0 : Int32) : Option (Int32 × St) :=
  if x0 < (10 : Int32) then
    some ((0 : Int32), S)
  else
    if (9999 : Int32) < x0 then
      some ((0 : Int32), S)
    else
      some ((1 : Int32), S)
def rm_x_G_isPlainWord : Room := { frames := 0, cells := 0, slots := 0, locals := 0 }
theorem ok_x_G_isPlainWord : CalS y_G_isPlainWord b_G_isPlainWord 1 (some .boolean) 1 rm_x_G_isPlainWord := ⟨kc_G_isPlainWord, ks_G_isPlainWord, ji_G, ⟨by decide, by decide, by decide +kernel⟩, rfl, rfl⟩
set_option maxHeartbeats 4000000 in
set_option maxRecDepth 100000 in
theorem w_x_G_isPlainWord {z : Int32 × St} (X : Cx b_G_isPlainWord 1 (some .boolean) R_G D [(cI, .int), (cZ, .boolean), (cJ, .long)] (xA ao aa) (xW cI cZ cJ ao aa) p s m args meth c) (S : St) (x0 : Int32) (hf : x_G_isPlainWord S x0 = some z) : WX rm_x_G_isPlainWord D (xA ao aa) (xW cI cZ cJ ao aa) p l e s m args below meth c (some (.int z.1)) z.2 0 [] 1 [(0, .int x0)] S := by
  intro H locs ls hP hS hl
  obtain ⟨hx, hb, hr0, hml, hown, htg, hlk, hK, hN, hI⟩ := id X
  unfold x_G_isPlainWord at hf
  refine lv_iload_n hx hb d_G_isPlainWord_0 rfl (lv_at hl 0 rfl) ?_
  refine lv_bipush (v := 10) hx hb d_G_isPlainWord_1 (by decide) ?_
  refine lv_icmp_lt (tgt := 17) hx hb d_G_isPlainWord_3 (by decide) (fun c => ?_) (fun c => ?_)
  · have hf := if_t hf c
    refine lv_iconst (v := 0) hx hb d_G_isPlainWord_17 (by decide) ?_
    obtain rfl := Option.some.inj hf
    exact W.zret (ty := .boolean) hx hb hr0 rfl (fun t ht _ => ⟨⟨rfl, by rw [ht]; exact hP⟩, hS.F ht⟩) hS.2.2 d_G_isPlainWord_18 hlk
  · have hf := if_f hf c
    refine lv_iload_n hx hb d_G_isPlainWord_6 rfl (lv_at hl 0 rfl) ?_
    refine lv_sipush (v := 9999) hx hb d_G_isPlainWord_7 (by decide) ?_
    refine lv_icmp_gt (tgt := 17) hx hb d_G_isPlainWord_10 (by decide) (fun c => ?_) (fun c => ?_)
    · have hf := if_t hf c
      refine lv_iconst (v := 0) hx hb d_G_isPlainWord_17 (by decide) ?_
      obtain rfl := Option.some.inj hf
      exact W.zret (ty := .boolean) hx hb hr0 rfl (fun t ht _ => ⟨⟨rfl, by rw [ht]; exact hP⟩, hS.F ht⟩) hS.2.2 d_G_isPlainWord_18 hlk
    · have hf := if_f hf c
      refine lv_iconst (v := 1) hx hb d_G_isPlainWord_13 (by decide) ?_
      refine lv_goto (tgt := 18) hx hb d_G_isPlainWord_14 (by decide) ?_
      obtain rfl := Option.some.inj hf
      exact W.zret (ty := .boolean) hx hb hr0 rfl (fun t ht _ => ⟨⟨rfl, by rw [ht]; exact hP⟩, hS.F ht⟩) hS.2.2 d_G_isPlainWord_18 hlk
theorem c_x_G_isPlainWord {l : Launch} {D : va_G} {cI cZ cJ : ClassId} {ao aa : Nat → Nat} {S : St} {x0 : Int32} {z : Int32 × St} (hz : x_G_isPlainWord S x0 = some z) : Ct l y_G_isPlainWord (.code y_G_isPlainWord b_G_isPlainWord 1 (some .boolean) :: gw) rm_x_G_isPlainWord D [(cI, .int), (cZ, .boolean), (cJ, .long)] (xA ao aa) (xW cI cZ cJ ao aa) [.int x0] S (some (.int z.1)) z.2 :=
  Ct_of (by decide) (fun p e s m args below meth c X => w_x_G_isPlainWord X _ _ hz) (Nat.le_of_ble_eq_true rfl)
def x_Row_size (r : Nat) (S : St) : Option (Int32 × St) :=
  some ((gI S r), S)
def rm_x_Row_size : Room := { frames := 0, cells := 0, slots := 0, locals := 0 }
theorem ok_x_Row_size : CalV y_Row_size b_Row_size 1 (some .int) 0 rm_x_Row_size := ⟨kc_Row_size, ki_Row_size, kl_Row_size, ji_Row, ⟨by decide, by decide, by decide +kernel⟩, rfl, rfl⟩
set_option maxHeartbeats 4000000 in
set_option maxRecDepth 100000 in
theorem w_x_Row_size {r : Nat} (hr : r < 17) {z : Int32 × St} (X : Cx b_Row_size 1 (some .int) R_Row D [(cI, .int), (cZ, .boolean), (cJ, .long)] (xA ao aa) (xW cI cZ cJ ao aa) p s m args meth c) (S : St) (hf : x_Row_size r S = some z) : WX rm_x_Row_size D (xA ao aa) (xW cI cZ cJ ao aa) p l e s m args below meth c (some (.int z.1)) z.2 0 [] 1 [(0, .ref (ao r))] S := by
  intro H locs ls hP hS hl
  obtain ⟨hx, hb, hr0, hml, hown, htg, hlk, hK, hN, hI⟩ := id X
  unfold x_Row_size at hf
  refine lv_aload_n hx hb d_Row_size_0 rfl (lv_at hl 0 rfl) ?_
  refine va_get (D := D) (v := .int (gI S r)) hx hb htg in_Row hown hK hP r (xo_row hr) rfl 1 (by decide) (htg _ k_f_Row_21) (fun _ h9 => h9) rfl d_Row_size_1 ?_
  obtain rfl := Option.some.inj hf
  exact W.iret hx hb hr0 (fun t ht _ => ⟨⟨rfl, by rw [ht]; exact hP⟩, hS.F ht⟩) hS.2.2 d_Row_size_4 hlk
theorem c_x_Row_size {l : Launch} {D : va_G} {cI cZ cJ : ClassId} {ao aa : Nat → Nat} {r : Nat} (hr : r < 17) {S : St} {z : Int32 × St} (hz : x_Row_size r S = some z) : Ct l y_Row_size (.code y_Row_size b_Row_size 1 (some .int) :: gw) rm_x_Row_size D [(cI, .int), (cZ, .boolean), (cJ, .long)] (xA ao aa) (xW cI cZ cJ ao aa) [.ref (ao r)] S (some (.int z.1)) z.2 :=
  Ct_of (by decide) (fun p e s m args below meth c X => w_x_Row_size hr X _ hz) (Nat.le_of_ble_eq_true rfl)
def x_Row_at (r : Nat) (S : St) (x0 : Int32) : Option (Int32 × St) :=
  if x0 < 0 then
    some ((-1 : Int32), S)
  else
    if (gI S r) ≤ x0 then
      some ((-1 : Int32), S)
    else
      gd (vin x0 (xcap r)) <|
      some ((gA S r x0.toNatClampNeg), S)
def rm_x_Row_at : Room := { frames := 0, cells := 0, slots := 0, locals := 0 }
theorem ok_x_Row_at : CalV y_Row_at b_Row_at 2 (some .int) 1 rm_x_Row_at := ⟨kc_Row_at, ki_Row_at, kl_Row_at, ji_Row, ⟨by decide, by decide, by decide +kernel⟩, rfl, rfl⟩
set_option maxHeartbeats 4000000 in
set_option maxRecDepth 100000 in
theorem w_x_Row_at {r : Nat} (hr : r < 17) {z : Int32 × St} (X : Cx b_Row_at 2 (some .int) R_Row D [(cI, .int), (cZ, .boolean), (cJ, .long)] (xA ao aa) (xW cI cZ cJ ao aa) p s m args meth c) (S : St) (x0 : Int32) (hf : x_Row_at r S x0 = some z) : WX rm_x_Row_at D (xA ao aa) (xW cI cZ cJ ao aa) p l e s m args below meth c (some (.int z.1)) z.2 0 [] 2 [(0, .ref (ao r)), (1, .int x0)] S := by
  intro H locs ls hP hS hl
  obtain ⟨hx, hb, hr0, hml, hown, htg, hlk, hK, hN, hI⟩ := id X
  unfold x_Row_at at hf
  refine lv_iload_n hx hb d_Row_at_0 rfl (lv_at hl 1 rfl) ?_
  refine lv_if_lt (tgt := 21) hx hb d_Row_at_1 (by decide) (fun c => ?_) (fun c => ?_)
  · have hf := if_t hf c
    refine lv_iconst (v := (-1)) hx hb d_Row_at_21 (by decide) ?_
    obtain rfl := Option.some.inj hf
    exact W.iret hx hb hr0 (fun t ht _ => ⟨⟨rfl, by rw [ht]; exact hP⟩, hS.F ht⟩) hS.2.2 d_Row_at_22 hlk
  · have hf := if_f hf c
    refine lv_iload_n hx hb d_Row_at_4 rfl (lv_at hl 1 rfl) ?_
    refine lv_aload_n hx hb d_Row_at_5 rfl (lv_at hl 0 rfl) ?_
    refine va_get (D := D) (v := .int (gI S r)) hx hb htg in_Row hown hK hP r (xo_row hr) rfl 1 (by decide) (htg _ k_f_Row_21) (fun _ h9 => h9) rfl d_Row_at_6 ?_
    refine lv_icmp_ge (tgt := 21) hx hb d_Row_at_9 (by decide) (fun c => ?_) (fun c => ?_)
    · have hf := if_t hf c
      refine lv_iconst (v := (-1)) hx hb d_Row_at_21 (by decide) ?_
      obtain rfl := Option.some.inj hf
      exact W.iret hx hb hr0 (fun t ht _ => ⟨⟨rfl, by rw [ht]; exact hP⟩, hS.F ht⟩) hS.2.2 d_Row_at_22 hlk
    · have hf := if_f hf c
      refine lv_aload_n hx hb d_Row_at_12 rfl (lv_at hl 0 rfl) ?_
      refine va_get (D := D) (v := .ref (aa r)) hx hb htg in_Row hown hK hP r (xo_row hr) rfl 0 (by decide) (htg _ k_f_Row_15) (fun _ h9 => h9) rfl d_Row_at_13 ?_
      refine lv_iload_n hx hb d_Row_at_16 rfl (lv_at hl 1 rfl) ?_
      obtain ⟨hg, hf⟩ := gd_some hf
      refine va_iald hx hb hK hP (28 + r) 0 (xa_row hr) rfl (vin_in hg) d_Row_at_17 ?_
      refine lv_goto (tgt := 22) hx hb d_Row_at_18 (by decide) ?_
      obtain rfl := Option.some.inj hf
      exact W.iret hx hb hr0 (fun t ht _ => ⟨⟨rfl, by rw [ht]; exact hP⟩, hS.F ht⟩) hS.2.2 d_Row_at_22 hlk
theorem c_x_Row_at {l : Launch} {D : va_G} {cI cZ cJ : ClassId} {ao aa : Nat → Nat} {r : Nat} (hr : r < 17) {S : St} {x0 : Int32} {z : Int32 × St} (hz : x_Row_at r S x0 = some z) : Ct l y_Row_at (.code y_Row_at b_Row_at 2 (some .int) :: gw) rm_x_Row_at D [(cI, .int), (cZ, .boolean), (cJ, .long)] (xA ao aa) (xW cI cZ cJ ao aa) [.ref (ao r), .int x0] S (some (.int z.1)) z.2 :=
  Ct_of (by decide) (fun p e s m args below meth c X => w_x_Row_at hr X _ _ hz) (Nat.le_of_ble_eq_true rfl)
def x_Verbs_find_b2_f (k2 : St → Int32 → Int32 → Option (Int32 × St)) (S : St) (x1 : Int32) (x2 : Int32) : Option (Int32 × St) :=
  (x_Row_size 0 S).bind fun q1 =>
  if q1.1 ≤ x2 then
    some ((-1 : Int32), q1.2)
  else
    (x_Row_at 0 q1.2 x2).bind fun q2 =>
    if q2.1 = x1 then
      (x_Row_at 1 q2.2 x2).bind fun q3 =>
      some (q3.1, q3.2)
    else
      k2 q2.2 x1 (x2 + 1)
def x_Verbs_find_b2 : Nat → St → Int32 → Int32 → Option (Int32 × St)
  | 0, _, _, _ => none
  | n + 1, S, x1, x2 => x_Verbs_find_b2_f (x_Verbs_find_b2 n) S x1 x2
def x_Verbs_find (S : St) (x0 : Int32) : Option (Int32 × St) :=
  x_Verbs_find_b2 fu S x0 (0 : Int32)
def rm_x_Verbs_find : Room := { frames := 1, cells := 0, slots := 0, locals := 21 }
theorem ok_x_Verbs_find : CalV y_Verbs_find b_Verbs_find 3 (some .int) 1 rm_x_Verbs_find := ⟨kc_Verbs_find, ki_Verbs_find, kl_Verbs_find, ji_Verbs, ⟨by decide, by decide, by decide +kernel⟩, rfl, rfl⟩
set_option maxHeartbeats 4000000 in
set_option maxRecDepth 100000 in
theorem w_x_Verbs_find_b2_f {z : Int32 × St} (X : Cx b_Verbs_find 3 (some .int) R_Verbs D [(cI, .int), (cZ, .boolean), (cJ, .long)] (xA ao aa) (xW cI cZ cJ ao aa) p s m args meth c) {k2 : St → Int32 → Int32 → Option (Int32 × St)} (hk2 : ∀ (S : St) (x1 : Int32) (x2 : Int32), k2 S x1 x2 = some z → WX rm_x_Verbs_find D (xA ao aa) (xW cI cZ cJ ao aa) p l e s m args below meth c (some (.int z.1)) z.2 2 [] 3 [(0, .ref (ao 22)), (1, .int x1), (2, .int x2)] S) (S : St) (x1 : Int32) (x2 : Int32) (hf : x_Verbs_find_b2_f k2 S x1 x2 = some z) : WX rm_x_Verbs_find D (xA ao aa) (xW cI cZ cJ ao aa) p l e s m args below meth c (some (.int z.1)) z.2 2 [] 3 [(0, .ref (ao 22)), (1, .int x1), (2, .int x2)] S := by
  intro H locs ls hP hS hl
  obtain ⟨hx, hb, hr0, hml, hown, htg, hlk, hK, hN, hI⟩ := id X
  unfold x_Verbs_find_b2_f at hf
  refine lv_iload_n hx hb d_Verbs_find_2 rfl (lv_at hl 2 rfl) ?_
  refine lv_aload_n hx hb d_Verbs_find_3 rfl (lv_at hl 0 rfl) ?_
  refine va_get (D := D) (v := .ref (ao 0)) hx hb htg in_Verbs hown hK hP 22 xo_22 rfl 0 (by decide) (htg _ k_f_Verbs_14) (fun _ h9 => h9) rfl d_Verbs_find_4 ?_
  obtain ⟨q1, he, hf⟩ := ob_some hf
  refine cl_Vi (As := []) (rest := [.int x2]) X (c_x_Row_size (by decide : 0 < 17) he) ok_x_Row_size k_m_Verbs_27 (va_recv hK hP rfl (xo_row (by decide : 0 < 17))) rfl rfl hl.1 (Nat.le_of_ble_eq_true rfl) d_Verbs_find_7 ⟨by decide, by decide⟩ hP hS (fun H locs hP hS => ?_)
  refine lv_icmp_ge (tgt := 40) hx hb d_Verbs_find_10 (by decide) (fun c => ?_) (fun c => ?_)
  · have hf := if_t hf c
    refine lv_iconst (v := (-1)) hx hb d_Verbs_find_40 (by decide) ?_
    obtain rfl := Option.some.inj hf
    exact W.iret hx hb hr0 (fun t ht _ => ⟨⟨rfl, by rw [ht]; exact hP⟩, hS.F ht⟩) hS.2.2 d_Verbs_find_41 hlk
  · have hf := if_f hf c
    refine lv_aload_n hx hb d_Verbs_find_13 rfl (lv_at hl 0 rfl) ?_
    refine va_get (D := D) (v := .ref (ao 0)) hx hb htg in_Verbs hown hK hP 22 xo_22 rfl 0 (by decide) (htg _ k_f_Verbs_14) (fun _ h9 => h9) rfl d_Verbs_find_14 ?_
    refine lv_iload_n hx hb d_Verbs_find_17 rfl (lv_at hl 2 rfl) ?_
    obtain ⟨q2, he, hf⟩ := ob_some hf
    refine cl_Vi (As := [.int x2]) (rest := []) X (c_x_Row_at (by decide : 0 < 17) he) ok_x_Row_at k_m_Verbs_38 (va_recv hK hP rfl (xo_row (by decide : 0 < 17))) rfl rfl hl.1 (Nat.le_of_ble_eq_true rfl) d_Verbs_find_18 ⟨by decide, by decide⟩ hP hS (fun H locs hP hS => ?_)
    refine lv_iload_n hx hb d_Verbs_find_21 rfl (lv_at hl 1 rfl) ?_
    refine lv_icmp_ne (tgt := 34) hx hb d_Verbs_find_22 (by decide) (fun c => ?_) (fun c => ?_)
    · have hf := if_f hf c
      refine lv_iinc (v := (x2 + 1)) (lv' := [(2, .int (x2 + 1)), (0, .ref (ao 22)), (1, .int x1)]) hx hb d_Verbs_find_34 hl (k := 2) rfl rfl (by decide) rfl (fun ls hl => ?_)
      refine lv_goto (tgt := 2) hx hb d_Verbs_find_37 (by decide) ?_
      exact hk2 _ _ _ hf H locs ls hP hS (lv_sub hl [1, 2, 0] rfl)
    · have hf := if_t hf c
      refine lv_aload_n hx hb d_Verbs_find_25 rfl (lv_at hl 0 rfl) ?_
      refine va_get (D := D) (v := .ref (ao 1)) hx hb htg in_Verbs hown hK hP 22 xo_22 rfl 1 (by decide) (htg _ k_f_Verbs_20) (fun _ h9 => h9) rfl d_Verbs_find_26 ?_
      refine lv_iload_n hx hb d_Verbs_find_29 rfl (lv_at hl 2 rfl) ?_
      obtain ⟨q3, he, hf⟩ := ob_some hf
      refine cl_Vi (As := [.int x2]) (rest := []) X (c_x_Row_at (by decide : 1 < 17) he) ok_x_Row_at k_m_Verbs_38 (va_recv hK hP rfl (xo_row (by decide : 1 < 17))) rfl rfl hl.1 (Nat.le_of_ble_eq_true rfl) d_Verbs_find_30 ⟨by decide, by decide⟩ hP hS (fun H locs hP hS => ?_)
      obtain rfl := Option.some.inj hf
      exact W.iret hx hb hr0 (fun t ht _ => ⟨⟨rfl, by rw [ht]; exact hP⟩, hS.F ht⟩) hS.2.2 d_Verbs_find_33 hlk
theorem w_x_Verbs_find_b2 {z : Int32 × St} (X : Cx b_Verbs_find 3 (some .int) R_Verbs D [(cI, .int), (cZ, .boolean), (cJ, .long)] (xA ao aa) (xW cI cZ cJ ao aa) p s m args meth c) : ∀ (n : Nat) (S : St) (x1 : Int32) (x2 : Int32), x_Verbs_find_b2 n S x1 x2 = some z → WX rm_x_Verbs_find D (xA ao aa) (xW cI cZ cJ ao aa) p l e s m args below meth c (some (.int z.1)) z.2 2 [] 3 [(0, .ref (ao 22)), (1, .int x1), (2, .int x2)] S
  | 0, _, _, _, hf => ns hf
  | n + 1, _, _, _, hf => w_x_Verbs_find_b2_f X (w_x_Verbs_find_b2 X n) _ _ _ hf
set_option maxHeartbeats 4000000 in
set_option maxRecDepth 100000 in
theorem w_x_Verbs_find {z : Int32 × St} (X : Cx b_Verbs_find 3 (some .int) R_Verbs D [(cI, .int), (cZ, .boolean), (cJ, .long)] (xA ao aa) (xW cI cZ cJ ao aa) p s m args meth c) (S : St) (x0 : Int32) (hf : x_Verbs_find S x0 = some z) : WX rm_x_Verbs_find D (xA ao aa) (xW cI cZ cJ ao aa) p l e s m args below meth c (some (.int z.1)) z.2 0 [] 3 [(0, .ref (ao 22)), (1, .int x0)] S := by
  intro H locs ls hP hS hl
  obtain ⟨hx, hb, hr0, hml, hown, htg, hlk, hK, hN, hI⟩ := id X
  unfold x_Verbs_find at hf
  refine lv_iconst (v := 0) hx hb d_Verbs_find_0 (by decide) ?_
  refine lv_istore_n (lv' := [(2, .int (0 : Int32)), (0, .ref (ao 22)), (1, .int x0)]) hx hb d_Verbs_find_1 rfl hl (by decide) rfl (fun ls hl => ?_)
  exact w_x_Verbs_find_b2 X _ _ _ _ hf H locs ls hP hS (lv_sub hl [1, 2, 0] rfl)
theorem c_x_Verbs_find {l : Launch} {D : va_G} {cI cZ cJ : ClassId} {ao aa : Nat → Nat} {S : St} {x0 : Int32} {z : Int32 × St} (hz : x_Verbs_find S x0 = some z) : Ct l y_Verbs_find (.code y_Verbs_find b_Verbs_find 3 (some .int) :: gw) rm_x_Verbs_find D [(cI, .int), (cZ, .boolean), (cJ, .long)] (xA ao aa) (xW cI cZ cJ ao aa) [.ref (ao 22), .int x0] S (some (.int z.1)) z.2 :=
  Ct_of (by decide) (fun p e s m args below meth c X => w_x_Verbs_find X _ _ hz) (Nat.le_of_ble_eq_true rfl)
def x_G_mayBeVerbWord (S : St) (x0 : Int32) : Option (Int32 × St) :=
  (x_G_isPlainWord S x0).bind fun q1 =>
  if q1.1 = 0 then
    some ((0 : Int32), q1.2)
  else
    (x_Verbs_find q1.2 x0).bind fun q2 =>
    if q2.1 = (-1 : Int32) then
      some ((1 : Int32), q2.2)
    else
      some ((0 : Int32), q2.2)
def rm_x_G_mayBeVerbWord : Room := { frames := 2, cells := 0, slots := 0, locals := 43 }
theorem ok_x_G_mayBeVerbWord : CalV y_G_mayBeVerbWord b_G_mayBeVerbWord 2 (some .boolean) 1 rm_x_G_mayBeVerbWord := ⟨kc_G_mayBeVerbWord, ki_G_mayBeVerbWord, kl_G_mayBeVerbWord, ji_G, ⟨by decide, by decide, by decide +kernel⟩, rfl, rfl⟩
set_option maxHeartbeats 4000000 in
set_option maxRecDepth 100000 in
theorem w_x_G_mayBeVerbWord {z : Int32 × St} (X : Cx b_G_mayBeVerbWord 2 (some .boolean) R_G D [(cI, .int), (cZ, .boolean), (cJ, .long)] (xA ao aa) (xW cI cZ cJ ao aa) p s m args meth c) (S : St) (x0 : Int32) (hf : x_G_mayBeVerbWord S x0 = some z) : WX rm_x_G_mayBeVerbWord D (xA ao aa) (xW cI cZ cJ ao aa) p l e s m args below meth c (some (.int z.1)) z.2 0 [] 2 [(0, .ref (ao 27)), (1, .int x0)] S := by
  intro H locs ls hP hS hl
  obtain ⟨hx, hb, hr0, hml, hown, htg, hlk, hK, hN, hI⟩ := id X
  unfold x_G_mayBeVerbWord at hf
  refine lv_iload_n hx hb d_G_mayBeVerbWord_0 rfl (lv_at hl 1 rfl) ?_
  obtain ⟨q1, he, hf⟩ := ob_some hf
  refine cl_Si (As := [.int x0]) (rest := []) X (c_x_G_isPlainWord he) ok_x_G_isPlainWord k_m_G_134 rfl rfl hl.1 (Nat.le_of_ble_eq_true rfl) d_G_mayBeVerbWord_1 ⟨by decide, by decide⟩ hP hS (fun H locs hP hS => ?_)
  refine lv_if_eq (tgt := 23) hx hb d_G_mayBeVerbWord_4 (by decide) (fun c => ?_) (fun c => ?_)
  · have hf := if_t hf c
    refine lv_iconst (v := 0) hx hb d_G_mayBeVerbWord_23 (by decide) ?_
    obtain rfl := Option.some.inj hf
    exact W.zret (ty := .boolean) hx hb hr0 rfl (fun t ht _ => ⟨⟨rfl, by rw [ht]; exact hP⟩, hS.F ht⟩) hS.2.2 d_G_mayBeVerbWord_24 hlk
  · have hf := if_f hf c
    refine lv_aload_n hx hb d_G_mayBeVerbWord_7 rfl (lv_at hl 0 rfl) ?_
    refine va_get (D := D) (v := .ref (ao 22)) hx hb htg in_G hown hK hP 27 xo_27 rfl 1 (by decide) (htg _ k_f_G_19) (fun _ h9 => h9) rfl d_G_mayBeVerbWord_8 ?_
    refine lv_iload_n hx hb d_G_mayBeVerbWord_11 rfl (lv_at hl 1 rfl) ?_
    obtain ⟨q2, he, hf⟩ := ob_some hf
    refine cl_Vi (As := [.int x0]) (rest := []) X (c_x_Verbs_find he) ok_x_Verbs_find k_m_G_192 (va_recv hK hP rfl xo_22) rfl rfl hl.1 (Nat.le_of_ble_eq_true rfl) d_G_mayBeVerbWord_12 ⟨by decide, by decide⟩ hP hS (fun H locs hP hS => ?_)
    refine lv_iconst (v := (-1)) hx hb d_G_mayBeVerbWord_15 (by decide) ?_
    refine lv_icmp_ne (tgt := 23) hx hb d_G_mayBeVerbWord_16 (by decide) (fun c => ?_) (fun c => ?_)
    · have hf := if_f hf c
      refine lv_iconst (v := 0) hx hb d_G_mayBeVerbWord_23 (by decide) ?_
      obtain rfl := Option.some.inj hf
      exact W.zret (ty := .boolean) hx hb hr0 rfl (fun t ht _ => ⟨⟨rfl, by rw [ht]; exact hP⟩, hS.F ht⟩) hS.2.2 d_G_mayBeVerbWord_24 hlk
    · have hf := if_t hf c
      refine lv_iconst (v := 1) hx hb d_G_mayBeVerbWord_19 (by decide) ?_
      refine lv_goto (tgt := 24) hx hb d_G_mayBeVerbWord_20 (by decide) ?_
      obtain rfl := Option.some.inj hf
      exact W.zret (ty := .boolean) hx hb hr0 rfl (fun t ht _ => ⟨⟨rfl, by rw [ht]; exact hP⟩, hS.F ht⟩) hS.2.2 d_G_mayBeVerbWord_24 hlk
theorem c_x_G_mayBeVerbWord {l : Launch} {D : va_G} {cI cZ cJ : ClassId} {ao aa : Nat → Nat} {S : St} {x0 : Int32} {z : Int32 × St} (hz : x_G_mayBeVerbWord S x0 = some z) : Ct l y_G_mayBeVerbWord (.code y_G_mayBeVerbWord b_G_mayBeVerbWord 2 (some .boolean) :: gw) rm_x_G_mayBeVerbWord D [(cI, .int), (cZ, .boolean), (cJ, .long)] (xA ao aa) (xW cI cZ cJ ao aa) [.ref (ao 27), .int x0] S (some (.int z.1)) z.2 :=
  Ct_of (by decide) (fun p e s m args below meth c X => w_x_G_mayBeVerbWord X _ _ hz) (Nat.le_of_ble_eq_true rfl)
def x_Verbs_isFull (S : St) : Option (Int32 × St) :=
  if (gI S 24) < (20 : Int32) then
    some ((0 : Int32), S)
  else
    some ((1 : Int32), S)
def rm_x_Verbs_isFull : Room := { frames := 0, cells := 0, slots := 0, locals := 0 }
theorem ok_x_Verbs_isFull : CalV y_Verbs_isFull b_Verbs_isFull 1 (some .boolean) 0 rm_x_Verbs_isFull := ⟨kc_Verbs_isFull, ki_Verbs_isFull, kl_Verbs_isFull, ji_Verbs, ⟨by decide, by decide, by decide +kernel⟩, rfl, rfl⟩
set_option maxHeartbeats 4000000 in
set_option maxRecDepth 100000 in
theorem w_x_Verbs_isFull {z : Int32 × St} (X : Cx b_Verbs_isFull 1 (some .boolean) R_Verbs D [(cI, .int), (cZ, .boolean), (cJ, .long)] (xA ao aa) (xW cI cZ cJ ao aa) p s m args meth c) (S : St) (hf : x_Verbs_isFull S = some z) : WX rm_x_Verbs_isFull D (xA ao aa) (xW cI cZ cJ ao aa) p l e s m args below meth c (some (.int z.1)) z.2 0 [] 1 [(0, .ref (ao 22))] S := by
  intro H locs ls hP hS hl
  obtain ⟨hx, hb, hr0, hml, hown, htg, hlk, hK, hN, hI⟩ := id X
  unfold x_Verbs_isFull at hf
  refine lv_aload_n hx hb d_Verbs_isFull_0 rfl (lv_at hl 0 rfl) ?_
  refine va_get (D := D) (v := .int (gI S 24)) hx hb htg in_Verbs hown hK hP 22 xo_22 rfl 2 (by decide) (htg _ k_f_Verbs_23) (fun _ h9 => h9) rfl d_Verbs_isFull_1 ?_
  refine lv_bipush (v := 20) hx hb d_Verbs_isFull_4 (by decide) ?_
  refine lv_icmp_lt (tgt := 13) hx hb d_Verbs_isFull_6 (by decide) (fun c => ?_) (fun c => ?_)
  · have hf := if_t hf c
    refine lv_iconst (v := 0) hx hb d_Verbs_isFull_13 (by decide) ?_
    obtain rfl := Option.some.inj hf
    exact W.zret (ty := .boolean) hx hb hr0 rfl (fun t ht _ => ⟨⟨rfl, by rw [ht]; exact hP⟩, hS.F ht⟩) hS.2.2 d_Verbs_isFull_14 hlk
  · have hf := if_f hf c
    refine lv_iconst (v := 1) hx hb d_Verbs_isFull_9 (by decide) ?_
    refine lv_goto (tgt := 14) hx hb d_Verbs_isFull_10 (by decide) ?_
    obtain rfl := Option.some.inj hf
    exact W.zret (ty := .boolean) hx hb hr0 rfl (fun t ht _ => ⟨⟨rfl, by rw [ht]; exact hP⟩, hS.F ht⟩) hS.2.2 d_Verbs_isFull_14 hlk
theorem c_x_Verbs_isFull {l : Launch} {D : va_G} {cI cZ cJ : ClassId} {ao aa : Nat → Nat} {S : St} {z : Int32 × St} (hz : x_Verbs_isFull S = some z) : Ct l y_Verbs_isFull (.code y_Verbs_isFull b_Verbs_isFull 1 (some .boolean) :: gw) rm_x_Verbs_isFull D [(cI, .int), (cZ, .boolean), (cJ, .long)] (xA ao aa) (xW cI cZ cJ ao aa) [.ref (ao 22)] S (some (.int z.1)) z.2 :=
  Ct_of (by decide) (fun p e s m args below meth c X => w_x_Verbs_isFull X _ hz) (Nat.le_of_ble_eq_true rfl)
def x_Verbs_hasAllWords (S : St) : Option (Int32 × St) :=
  (x_Row_size 0 S).bind fun q1 =>
  if q1.1 < (60 : Int32) then
    some ((0 : Int32), q1.2)
  else
    some ((1 : Int32), q1.2)
def rm_x_Verbs_hasAllWords : Room := { frames := 1, cells := 0, slots := 0, locals := 20 }
theorem ok_x_Verbs_hasAllWords : CalV y_Verbs_hasAllWords b_Verbs_hasAllWords 1 (some .boolean) 0 rm_x_Verbs_hasAllWords := ⟨kc_Verbs_hasAllWords, ki_Verbs_hasAllWords, kl_Verbs_hasAllWords, ji_Verbs, ⟨by decide, by decide, by decide +kernel⟩, rfl, rfl⟩
set_option maxHeartbeats 4000000 in
set_option maxRecDepth 100000 in
theorem w_x_Verbs_hasAllWords {z : Int32 × St} (X : Cx b_Verbs_hasAllWords 1 (some .boolean) R_Verbs D [(cI, .int), (cZ, .boolean), (cJ, .long)] (xA ao aa) (xW cI cZ cJ ao aa) p s m args meth c) (S : St) (hf : x_Verbs_hasAllWords S = some z) : WX rm_x_Verbs_hasAllWords D (xA ao aa) (xW cI cZ cJ ao aa) p l e s m args below meth c (some (.int z.1)) z.2 0 [] 1 [(0, .ref (ao 22))] S := by
  intro H locs ls hP hS hl
  obtain ⟨hx, hb, hr0, hml, hown, htg, hlk, hK, hN, hI⟩ := id X
  unfold x_Verbs_hasAllWords at hf
  refine lv_aload_n hx hb d_Verbs_hasAllWords_0 rfl (lv_at hl 0 rfl) ?_
  refine va_get (D := D) (v := .ref (ao 0)) hx hb htg in_Verbs hown hK hP 22 xo_22 rfl 0 (by decide) (htg _ k_f_Verbs_14) (fun _ h9 => h9) rfl d_Verbs_hasAllWords_1 ?_
  obtain ⟨q1, he, hf⟩ := ob_some hf
  refine cl_Vi (As := []) (rest := []) X (c_x_Row_size (by decide : 0 < 17) he) ok_x_Row_size k_m_Verbs_27 (va_recv hK hP rfl (xo_row (by decide : 0 < 17))) rfl rfl hl.1 (Nat.le_of_ble_eq_true rfl) d_Verbs_hasAllWords_4 ⟨by decide, by decide⟩ hP hS (fun H locs hP hS => ?_)
  refine lv_bipush (v := 60) hx hb d_Verbs_hasAllWords_7 (by decide) ?_
  refine lv_icmp_lt (tgt := 16) hx hb d_Verbs_hasAllWords_9 (by decide) (fun c => ?_) (fun c => ?_)
  · have hf := if_t hf c
    refine lv_iconst (v := 0) hx hb d_Verbs_hasAllWords_16 (by decide) ?_
    obtain rfl := Option.some.inj hf
    exact W.zret (ty := .boolean) hx hb hr0 rfl (fun t ht _ => ⟨⟨rfl, by rw [ht]; exact hP⟩, hS.F ht⟩) hS.2.2 d_Verbs_hasAllWords_17 hlk
  · have hf := if_f hf c
    refine lv_iconst (v := 1) hx hb d_Verbs_hasAllWords_12 (by decide) ?_
    refine lv_goto (tgt := 17) hx hb d_Verbs_hasAllWords_13 (by decide) ?_
    obtain rfl := Option.some.inj hf
    exact W.zret (ty := .boolean) hx hb hr0 rfl (fun t ht _ => ⟨⟨rfl, by rw [ht]; exact hP⟩, hS.F ht⟩) hS.2.2 d_Verbs_hasAllWords_17 hlk
theorem c_x_Verbs_hasAllWords {l : Launch} {D : va_G} {cI cZ cJ : ClassId} {ao aa : Nat → Nat} {S : St} {z : Int32 × St} (hz : x_Verbs_hasAllWords S = some z) : Ct l y_Verbs_hasAllWords (.code y_Verbs_hasAllWords b_Verbs_hasAllWords 1 (some .boolean) :: gw) rm_x_Verbs_hasAllWords D [(cI, .int), (cZ, .boolean), (cJ, .long)] (xA ao aa) (xW cI cZ cJ ao aa) [.ref (ao 22)] S (some (.int z.1)) z.2 :=
  Ct_of (by decide) (fun p e s m args below meth c X => w_x_Verbs_hasAllWords X _ hz) (Nat.le_of_ble_eq_true rfl)
def x_Row_add (r : Nat) (S : St) (x0 : Int32) : Option (St) :=
  if (gI S r) < 0 then
    some S
  else
    if (Int32.ofNat (xcap r)) ≤ (gI S r) then
      some S
    else
      gd (vin (gI S r) (xcap r)) <|
      some (sI (sA S r (gI S r).toNatClampNeg x0) r ((gI (sA S r (gI S r).toNatClampNeg x0) r) + (1 : Int32)))
def rm_x_Row_add : Room := { frames := 0, cells := 0, slots := 0, locals := 0 }
theorem ok_x_Row_add : CalV y_Row_add b_Row_add 2 none 1 rm_x_Row_add := ⟨kc_Row_add, ki_Row_add, kl_Row_add, ji_Row, ⟨by decide, by decide, by decide +kernel⟩, rfl, rfl⟩
set_option maxHeartbeats 4000000 in
set_option maxRecDepth 100000 in
theorem w_x_Row_add {r : Nat} (hr : r < 17) {z : St} (X : Cx b_Row_add 2 none R_Row D [(cI, .int), (cZ, .boolean), (cJ, .long)] (xA ao aa) (xW cI cZ cJ ao aa) p s m args meth c) (S : St) (x0 : Int32) (hf : x_Row_add r S x0 = some z) : WX rm_x_Row_add D (xA ao aa) (xW cI cZ cJ ao aa) p l e s m args below meth c none z 0 [] 2 [(0, .ref (ao r)), (1, .int x0)] S := by
  intro H locs ls hP hS hl
  obtain ⟨hx, hb, hr0, hml, hown, htg, hlk, hK, hN, hI⟩ := id X
  unfold x_Row_add at hf
  refine lv_aload_n hx hb d_Row_add_0 rfl (lv_at hl 0 rfl) ?_
  refine va_get (D := D) (v := .int (gI S r)) hx hb htg in_Row hown hK hP r (xo_row hr) rfl 1 (by decide) (htg _ k_f_Row_21) (fun _ h9 => h9) rfl d_Row_add_1 ?_
  refine lv_if_lt (tgt := 39) hx hb d_Row_add_4 (by decide) (fun c => ?_) (fun c => ?_)
  · have hf := if_t hf c
    obtain rfl := Option.some.inj hf
    exact W.vret hx hb hr0 (fun t ht _ => ⟨⟨rfl, by rw [ht]; exact hP⟩, hS.F ht⟩) hS.2.2 d_Row_add_39 hlk
  · have hf := if_f hf c
    refine lv_aload_n hx hb d_Row_add_7 rfl (lv_at hl 0 rfl) ?_
    refine va_get (D := D) (v := .int (gI S r)) hx hb htg in_Row hown hK hP r (xo_row hr) rfl 1 (by decide) (htg _ k_f_Row_21) (fun _ h9 => h9) rfl d_Row_add_8 ?_
    refine lv_aload_n hx hb d_Row_add_11 rfl (lv_at hl 0 rfl) ?_
    refine va_get (D := D) (v := .ref (aa r)) hx hb htg in_Row hown hK hP r (xo_row hr) rfl 0 (by decide) (htg _ k_f_Row_15) (fun _ h9 => h9) rfl d_Row_add_12 ?_
    refine va_alen (v := Int32.ofNat (xcap r)) hx hb hK hP (28 + r) 0 (xa_row hr) rfl rfl d_Row_add_15 ?_
    refine lv_icmp_ge (tgt := 39) hx hb d_Row_add_16 (by decide) (fun c => ?_) (fun c => ?_)
    · have hf := if_t hf c
      obtain rfl := Option.some.inj hf
      exact W.vret hx hb hr0 (fun t ht _ => ⟨⟨rfl, by rw [ht]; exact hP⟩, hS.F ht⟩) hS.2.2 d_Row_add_39 hlk
    · have hf := if_f hf c
      refine lv_aload_n hx hb d_Row_add_19 rfl (lv_at hl 0 rfl) ?_
      refine va_get (D := D) (v := .ref (aa r)) hx hb htg in_Row hown hK hP r (xo_row hr) rfl 0 (by decide) (htg _ k_f_Row_15) (fun _ h9 => h9) rfl d_Row_add_20 ?_
      refine lv_aload_n hx hb d_Row_add_23 rfl (lv_at hl 0 rfl) ?_
      refine va_get (D := D) (v := .int (gI S r)) hx hb htg in_Row hown hK hP r (xo_row hr) rfl 1 (by decide) (htg _ k_f_Row_21) (fun _ h9 => h9) rfl d_Row_add_24 ?_
      refine lv_iload_n hx hb d_Row_add_27 rfl (lv_at hl 1 rfl) ?_
      obtain ⟨hg, hf⟩ := gd_some hf
      refine va_iast hx hb hK hP (hI _) hS (28 + r) 0 (xa_row hr) rfl (vin_in hg) d_Row_add_28 (fun H locs hP _ hS => ?_)
      replace hP : va_P D classes (xW cI cZ cJ ao aa (sA S r (gI S r).toNatClampNeg x0)) H := pw (xt_row hr) hP
      refine lv_aload_n hx hb d_Row_add_29 rfl (lv_at hl 0 rfl) ?_
      refine lv_dup hx hb d_Row_add_30 rfl ?_
      refine va_get (D := D) (v := .int (gI (sA S r (gI S r).toNatClampNeg x0) r)) hx hb htg in_Row hown hK hP r (xo_row hr) rfl 1 (by decide) (htg _ k_f_Row_21) (fun _ h9 => h9) rfl d_Row_add_31 ?_
      refine lv_iconst (v := 1) hx hb d_Row_add_34 (by decide) ?_
      refine lv_iadd hx hb d_Row_add_35 ?_
      refine va_put (D := D) (ty := .int) hx hb htg in_Row t_Row t_Row_ok n_Row hown hK hP (hI _) hS r (xo_row hr) rfl 1 (by decide) (htg _ k_f_Row_21) (fun _ h9 => h9) rfl (by decide +kernel) rfl rfl (Nat.le_of_ble_eq_true rfl) d_Row_add_36 (fun H locs hP _ hS => ?_)
      replace hP : va_P D classes (xW cI cZ cJ ao aa (sI (sA S r (gI S r).toNatClampNeg x0) r ((gI (sA S r (gI S r).toNatClampNeg x0) r) + (1 : Int32)))) H := pw (xs_row hr) hP
      obtain rfl := Option.some.inj hf
      exact W.vret hx hb hr0 (fun t ht _ => ⟨⟨rfl, by rw [ht]; exact hP⟩, hS.F ht⟩) hS.2.2 d_Row_add_39 hlk
theorem c_x_Row_add {l : Launch} {D : va_G} {cI cZ cJ : ClassId} {ao aa : Nat → Nat} {r : Nat} (hr : r < 17) {S : St} {x0 : Int32} {z : St} (hz : x_Row_add r S x0 = some z) : Ct l y_Row_add (.code y_Row_add b_Row_add 2 none :: gw) rm_x_Row_add D [(cI, .int), (cZ, .boolean), (cJ, .long)] (xA ao aa) (xW cI cZ cJ ao aa) [.ref (ao r), .int x0] S none z :=
  Ct_of (by decide) (fun p e s m args below meth c X => w_x_Row_add hr X _ _ hz) (Nat.le_of_ble_eq_true rfl)
def x_Verbs_addWord_b49 (k21 : St → Int32 → Int32 → Int32 → Option (Int32 × St)) (S : St) (x1 : Int32) (x3 : Int32) (x4 : Int32) : Option (Int32 × St) :=
  k21 S x1 x3 (x4 + 1)
def x_Verbs_addWord_b21_f (k21 : St → Int32 → Int32 → Int32 → Option (Int32 × St)) (S : St) (x1 : Int32) (x3 : Int32) (x4 : Int32) : Option (Int32 × St) :=
  (x_Row_size 1 S).bind fun q3 =>
  if q3.1 ≤ x4 then
    some (x3, q3.2)
  else
    (x_Row_at 1 q3.2 x4).bind fun q4 =>
    if q4.1 = x1 then
      x_Verbs_addWord_b49 k21 q4.2 x1 (x3 + 1) x4
    else
      x_Verbs_addWord_b49 k21 q4.2 x1 x3 x4
def x_Verbs_addWord_b21 : Nat → St → Int32 → Int32 → Int32 → Option (Int32 × St)
  | 0, _, _, _, _ => none
  | n + 1, S, x1, x3, x4 => x_Verbs_addWord_b21_f (x_Verbs_addWord_b21 n) S x1 x3 x4
def x_Verbs_addWord (S : St) (x0 : Int32) (x1 : Int32) : Option (Int32 × St) :=
  (x_Row_add 0 S x1).bind fun q1 =>
  (x_Row_add 1 q1 x0).bind fun q2 =>
  x_Verbs_addWord_b21 fu q2 x0 (0 : Int32) (0 : Int32)
def rm_x_Verbs_addWord : Room := { frames := 1, cells := 0, slots := 0, locals := 21 }
theorem ok_x_Verbs_addWord : CalV y_Verbs_addWord b_Verbs_addWord 5 (some .int) 2 rm_x_Verbs_addWord := ⟨kc_Verbs_addWord, ki_Verbs_addWord, kl_Verbs_addWord, ji_Verbs, ⟨by decide, by decide, by decide +kernel⟩, rfl, rfl⟩
set_option maxHeartbeats 4000000 in
set_option maxRecDepth 100000 in
theorem w_x_Verbs_addWord_b49 {z : Int32 × St} (X : Cx b_Verbs_addWord 5 (some .int) R_Verbs D [(cI, .int), (cZ, .boolean), (cJ, .long)] (xA ao aa) (xW cI cZ cJ ao aa) p s m args meth c) {k21 : St → Int32 → Int32 → Int32 → Option (Int32 × St)} (hk21 : ∀ (S : St) (x1 : Int32) (x3 : Int32) (x4 : Int32), k21 S x1 x3 x4 = some z → WX rm_x_Verbs_addWord D (xA ao aa) (xW cI cZ cJ ao aa) p l e s m args below meth c (some (.int z.1)) z.2 21 [] 5 [(0, .ref (ao 22)), (1, .int x1), (3, .int x3), (4, .int x4)] S) (S : St) (x1 : Int32) (x3 : Int32) (x4 : Int32) (hf : x_Verbs_addWord_b49 k21 S x1 x3 x4 = some z) : WX rm_x_Verbs_addWord D (xA ao aa) (xW cI cZ cJ ao aa) p l e s m args below meth c (some (.int z.1)) z.2 49 [] 5 [(0, .ref (ao 22)), (1, .int x1), (3, .int x3), (4, .int x4)] S := by
  intro H locs ls hP hS hl
  obtain ⟨hx, hb, hr0, hml, hown, htg, hlk, hK, hN, hI⟩ := id X
  unfold x_Verbs_addWord_b49 at hf
  refine lv_iinc (v := (x4 + 1)) (lv' := [(4, .int (x4 + 1)), (0, .ref (ao 22)), (1, .int x1), (3, .int x3)]) hx hb d_Verbs_addWord_49 hl (k := 3) rfl rfl (by decide) rfl (fun ls hl => ?_)
  refine lv_goto (tgt := 21) hx hb d_Verbs_addWord_52 (by decide) ?_
  exact hk21 _ _ _ _ hf H locs ls hP hS (lv_sub hl [1, 2, 3, 0] rfl)
set_option maxHeartbeats 4000000 in
set_option maxRecDepth 100000 in
theorem w_x_Verbs_addWord_b21_f {z : Int32 × St} (X : Cx b_Verbs_addWord 5 (some .int) R_Verbs D [(cI, .int), (cZ, .boolean), (cJ, .long)] (xA ao aa) (xW cI cZ cJ ao aa) p s m args meth c) {k21 : St → Int32 → Int32 → Int32 → Option (Int32 × St)} (hk21 : ∀ (S : St) (x1 : Int32) (x3 : Int32) (x4 : Int32), k21 S x1 x3 x4 = some z → WX rm_x_Verbs_addWord D (xA ao aa) (xW cI cZ cJ ao aa) p l e s m args below meth c (some (.int z.1)) z.2 21 [] 5 [(0, .ref (ao 22)), (1, .int x1), (3, .int x3), (4, .int x4)] S) (S : St) (x1 : Int32) (x3 : Int32) (x4 : Int32) (hf : x_Verbs_addWord_b21_f k21 S x1 x3 x4 = some z) : WX rm_x_Verbs_addWord D (xA ao aa) (xW cI cZ cJ ao aa) p l e s m args below meth c (some (.int z.1)) z.2 21 [] 5 [(0, .ref (ao 22)), (1, .int x1), (3, .int x3), (4, .int x4)] S := by
  intro H locs ls hP hS hl
  obtain ⟨hx, hb, hr0, hml, hown, htg, hlk, hK, hN, hI⟩ := id X
  unfold x_Verbs_addWord_b21_f at hf
  refine lv_iload hx hb d_Verbs_addWord_21 (lv_at hl 3 rfl) ?_
  refine lv_aload_n hx hb d_Verbs_addWord_23 rfl (lv_at hl 0 rfl) ?_
  refine va_get (D := D) (v := .ref (ao 1)) hx hb htg in_Verbs hown hK hP 22 xo_22 rfl 1 (by decide) (htg _ k_f_Verbs_20) (fun _ h9 => h9) rfl d_Verbs_addWord_24 ?_
  obtain ⟨q3, he, hf⟩ := ob_some hf
  refine cl_Vi (As := []) (rest := [.int x4]) X (c_x_Row_size (by decide : 1 < 17) he) ok_x_Row_size k_m_Verbs_27 (va_recv hK hP rfl (xo_row (by decide : 1 < 17))) rfl rfl hl.1 (Nat.le_of_ble_eq_true rfl) d_Verbs_addWord_27 ⟨by decide, by decide⟩ hP hS (fun H locs hP hS => ?_)
  refine lv_icmp_ge (tgt := 55) hx hb d_Verbs_addWord_30 (by decide) (fun c => ?_) (fun c => ?_)
  · have hf := if_t hf c
    refine lv_iload_n hx hb d_Verbs_addWord_55 rfl (lv_at hl 2 rfl) ?_
    obtain rfl := Option.some.inj hf
    exact W.iret hx hb hr0 (fun t ht _ => ⟨⟨rfl, by rw [ht]; exact hP⟩, hS.F ht⟩) hS.2.2 d_Verbs_addWord_56 hlk
  · have hf := if_f hf c
    refine lv_aload_n hx hb d_Verbs_addWord_33 rfl (lv_at hl 0 rfl) ?_
    refine va_get (D := D) (v := .ref (ao 1)) hx hb htg in_Verbs hown hK hP 22 xo_22 rfl 1 (by decide) (htg _ k_f_Verbs_20) (fun _ h9 => h9) rfl d_Verbs_addWord_34 ?_
    refine lv_iload hx hb d_Verbs_addWord_37 (lv_at hl 3 rfl) ?_
    obtain ⟨q4, he, hf⟩ := ob_some hf
    refine cl_Vi (As := [.int x4]) (rest := []) X (c_x_Row_at (by decide : 1 < 17) he) ok_x_Row_at k_m_Verbs_38 (va_recv hK hP rfl (xo_row (by decide : 1 < 17))) rfl rfl hl.1 (Nat.le_of_ble_eq_true rfl) d_Verbs_addWord_39 ⟨by decide, by decide⟩ hP hS (fun H locs hP hS => ?_)
    refine lv_iload_n hx hb d_Verbs_addWord_42 rfl (lv_at hl 1 rfl) ?_
    refine lv_icmp_ne (tgt := 49) hx hb d_Verbs_addWord_43 (by decide) (fun c => ?_) (fun c => ?_)
    · have hf := if_f hf c
      exact w_x_Verbs_addWord_b49 X hk21 _ _ _ _ hf H locs ls hP hS (lv_sub hl [0, 1, 2, 3] rfl)
    · have hf := if_t hf c
      refine lv_iinc (v := (x3 + 1)) (lv' := [(3, .int (x3 + 1)), (0, .ref (ao 22)), (1, .int x1), (4, .int x4)]) hx hb d_Verbs_addWord_46 hl (k := 2) rfl rfl (by decide) rfl (fun ls hl => ?_)
      exact w_x_Verbs_addWord_b49 X hk21 _ _ _ _ hf H locs ls hP hS (lv_sub hl [1, 2, 0, 3] rfl)
theorem w_x_Verbs_addWord_b21 {z : Int32 × St} (X : Cx b_Verbs_addWord 5 (some .int) R_Verbs D [(cI, .int), (cZ, .boolean), (cJ, .long)] (xA ao aa) (xW cI cZ cJ ao aa) p s m args meth c) : ∀ (n : Nat) (S : St) (x1 : Int32) (x3 : Int32) (x4 : Int32), x_Verbs_addWord_b21 n S x1 x3 x4 = some z → WX rm_x_Verbs_addWord D (xA ao aa) (xW cI cZ cJ ao aa) p l e s m args below meth c (some (.int z.1)) z.2 21 [] 5 [(0, .ref (ao 22)), (1, .int x1), (3, .int x3), (4, .int x4)] S
  | 0, _, _, _, _, hf => ns hf
  | n + 1, _, _, _, _, hf => w_x_Verbs_addWord_b21_f X (w_x_Verbs_addWord_b21 X n) _ _ _ _ hf
set_option maxHeartbeats 4000000 in
set_option maxRecDepth 100000 in
theorem w_x_Verbs_addWord {z : Int32 × St} (X : Cx b_Verbs_addWord 5 (some .int) R_Verbs D [(cI, .int), (cZ, .boolean), (cJ, .long)] (xA ao aa) (xW cI cZ cJ ao aa) p s m args meth c) (S : St) (x0 : Int32) (x1 : Int32) (hf : x_Verbs_addWord S x0 x1 = some z) : WX rm_x_Verbs_addWord D (xA ao aa) (xW cI cZ cJ ao aa) p l e s m args below meth c (some (.int z.1)) z.2 0 [] 5 [(0, .ref (ao 22)), (1, .int x0), (2, .int x1)] S := by
  intro H locs ls hP hS hl
  obtain ⟨hx, hb, hr0, hml, hown, htg, hlk, hK, hN, hI⟩ := id X
  unfold x_Verbs_addWord at hf
  refine lv_aload_n hx hb d_Verbs_addWord_0 rfl (lv_at hl 0 rfl) ?_
  refine va_get (D := D) (v := .ref (ao 0)) hx hb htg in_Verbs hown hK hP 22 xo_22 rfl 0 (by decide) (htg _ k_f_Verbs_14) (fun _ h9 => h9) rfl d_Verbs_addWord_1 ?_
  refine lv_iload_n hx hb d_Verbs_addWord_4 rfl (lv_at hl 2 rfl) ?_
  obtain ⟨q1, he, hf⟩ := ob_some hf
  refine cl_Vv (As := [.int x1]) (rest := []) X (c_x_Row_add (by decide : 0 < 17) he) ok_x_Row_add k_m_Verbs_35 (va_recv hK hP rfl (xo_row (by decide : 0 < 17))) rfl rfl hl.1 (Nat.le_of_ble_eq_true rfl) d_Verbs_addWord_5 ⟨by decide, by decide⟩ hP hS (fun H locs hP hS => ?_)
  refine lv_aload_n hx hb d_Verbs_addWord_8 rfl (lv_at hl 0 rfl) ?_
  refine va_get (D := D) (v := .ref (ao 1)) hx hb htg in_Verbs hown hK hP 22 xo_22 rfl 1 (by decide) (htg _ k_f_Verbs_20) (fun _ h9 => h9) rfl d_Verbs_addWord_9 ?_
  refine lv_iload_n hx hb d_Verbs_addWord_12 rfl (lv_at hl 1 rfl) ?_
  obtain ⟨q2, he, hf⟩ := ob_some hf
  refine cl_Vv (As := [.int x0]) (rest := []) X (c_x_Row_add (by decide : 1 < 17) he) ok_x_Row_add k_m_Verbs_35 (va_recv hK hP rfl (xo_row (by decide : 1 < 17))) rfl rfl hl.1 (Nat.le_of_ble_eq_true rfl) d_Verbs_addWord_13 ⟨by decide, by decide⟩ hP hS (fun H locs hP hS => ?_)
  refine lv_iconst (v := 0) hx hb d_Verbs_addWord_16 (by decide) ?_
  refine lv_istore_n (lv' := [(3, .int (0 : Int32)), (0, .ref (ao 22)), (1, .int x0), (2, .int x1)]) hx hb d_Verbs_addWord_17 rfl hl (by decide) rfl (fun ls hl => ?_)
  refine lv_iconst (v := 0) hx hb d_Verbs_addWord_18 (by decide) ?_
  refine lv_istore (lv' := [(4, .int (0 : Int32)), (3, .int (0 : Int32)), (0, .ref (ao 22)), (1, .int x0), (2, .int x1)]) hx hb d_Verbs_addWord_19 hl (by decide) rfl (fun ls hl => ?_)
  exact w_x_Verbs_addWord_b21 X _ _ _ _ _ hf H locs ls hP hS (lv_sub hl [2, 3, 1, 0] rfl)
theorem c_x_Verbs_addWord {l : Launch} {D : va_G} {cI cZ cJ : ClassId} {ao aa : Nat → Nat} {S : St} {x0 : Int32} {x1 : Int32} {z : Int32 × St} (hz : x_Verbs_addWord S x0 x1 = some z) : Ct l y_Verbs_addWord (.code y_Verbs_addWord b_Verbs_addWord 5 (some .int) :: gw) rm_x_Verbs_addWord D [(cI, .int), (cZ, .boolean), (cJ, .long)] (xA ao aa) (xW cI cZ cJ ao aa) [.ref (ao 22), .int x0, .int x1] S (some (.int z.1)) z.2 :=
  Ct_of (by decide) (fun p e s m args below meth c X => w_x_Verbs_addWord X _ _ _ hz) (Nat.le_of_ble_eq_true rfl)
def x_Verbs_add (S : St) (x0 : Int32) : Option (Int32 × St) :=
  (x_Verbs_addWord (sI S 24 ((gI S 24) + (1 : Int32))) ((gI (sI S 24 ((gI S 24) + (1 : Int32))) 24) - (1 : Int32)) x0).bind fun q1 =>
  some (((gI q1.2 24) - (1 : Int32)), q1.2)
def rm_x_Verbs_add : Room := { frames := 2, cells := 0, slots := 0, locals := 45 }
theorem ok_x_Verbs_add : CalV y_Verbs_add b_Verbs_add 2 (some .int) 1 rm_x_Verbs_add := ⟨kc_Verbs_add, ki_Verbs_add, kl_Verbs_add, ji_Verbs, ⟨by decide, by decide, by decide +kernel⟩, rfl, rfl⟩
set_option maxHeartbeats 4000000 in
set_option maxRecDepth 100000 in
theorem w_x_Verbs_add {z : Int32 × St} (X : Cx b_Verbs_add 2 (some .int) R_Verbs D [(cI, .int), (cZ, .boolean), (cJ, .long)] (xA ao aa) (xW cI cZ cJ ao aa) p s m args meth c) (S : St) (x0 : Int32) (hf : x_Verbs_add S x0 = some z) : WX rm_x_Verbs_add D (xA ao aa) (xW cI cZ cJ ao aa) p l e s m args below meth c (some (.int z.1)) z.2 0 [] 2 [(0, .ref (ao 22)), (1, .int x0)] S := by
  intro H locs ls hP hS hl
  obtain ⟨hx, hb, hr0, hml, hown, htg, hlk, hK, hN, hI⟩ := id X
  unfold x_Verbs_add at hf
  refine lv_aload_n hx hb d_Verbs_add_0 rfl (lv_at hl 0 rfl) ?_
  refine lv_dup hx hb d_Verbs_add_1 rfl ?_
  refine va_get (D := D) (v := .int (gI S 24)) hx hb htg in_Verbs hown hK hP 22 xo_22 rfl 2 (by decide) (htg _ k_f_Verbs_23) (fun _ h9 => h9) rfl d_Verbs_add_2 ?_
  refine lv_iconst (v := 1) hx hb d_Verbs_add_5 (by decide) ?_
  refine lv_iadd hx hb d_Verbs_add_6 ?_
  refine va_put (D := D) (ty := .int) hx hb htg in_Verbs t_Verbs t_Verbs_ok n_Verbs hown hK hP (hI _) hS 22 xo_22 rfl 2 (by decide) (htg _ k_f_Verbs_23) (fun _ h9 => h9) rfl (by decide +kernel) rfl rfl (Nat.le_of_ble_eq_true rfl) d_Verbs_add_7 (fun H locs hP _ hS => ?_)
  replace hP : va_P D classes (xW cI cZ cJ ao aa (sI S 24 ((gI S 24) + (1 : Int32)))) H := pw xs_22_count hP
  refine lv_aload_n hx hb d_Verbs_add_10 rfl (lv_at hl 0 rfl) ?_
  refine lv_aload_n hx hb d_Verbs_add_11 rfl (lv_at hl 0 rfl) ?_
  refine va_get (D := D) (v := .int (gI (sI S 24 ((gI S 24) + (1 : Int32))) 24)) hx hb htg in_Verbs hown hK hP 22 xo_22 rfl 2 (by decide) (htg _ k_f_Verbs_23) (fun _ h9 => h9) rfl d_Verbs_add_12 ?_
  refine lv_iconst (v := 1) hx hb d_Verbs_add_15 (by decide) ?_
  refine lv_isub hx hb d_Verbs_add_16 ?_
  refine lv_iload_n hx hb d_Verbs_add_17 rfl (lv_at hl 1 rfl) ?_
  obtain ⟨q1, he, hf⟩ := ob_some hf
  refine cl_Vi (As := [.int ((gI (sI S 24 ((gI S 24) + (1 : Int32))) 24) - (1 : Int32)), .int x0]) (rest := []) X (c_x_Verbs_addWord he) ok_x_Verbs_addWord k_m_Verbs_31 (va_recv hK hP rfl xo_22) rfl rfl hl.1 (Nat.le_of_ble_eq_true rfl) d_Verbs_add_18 ⟨by decide, by decide⟩ hP hS (fun H locs hP hS => ?_)
  refine lv_pop hx hb d_Verbs_add_21 rfl ?_
  refine lv_aload_n hx hb d_Verbs_add_22 rfl (lv_at hl 0 rfl) ?_
  refine va_get (D := D) (v := .int (gI q1.2 24)) hx hb htg in_Verbs hown hK hP 22 xo_22 rfl 2 (by decide) (htg _ k_f_Verbs_23) (fun _ h9 => h9) rfl d_Verbs_add_23 ?_
  refine lv_iconst (v := 1) hx hb d_Verbs_add_26 (by decide) ?_
  refine lv_isub hx hb d_Verbs_add_27 ?_
  obtain rfl := Option.some.inj hf
  exact W.iret hx hb hr0 (fun t ht _ => ⟨⟨rfl, by rw [ht]; exact hP⟩, hS.F ht⟩) hS.2.2 d_Verbs_add_28 hlk
theorem c_x_Verbs_add {l : Launch} {D : va_G} {cI cZ cJ : ClassId} {ao aa : Nat → Nat} {S : St} {x0 : Int32} {z : Int32 × St} (hz : x_Verbs_add S x0 = some z) : Ct l y_Verbs_add (.code y_Verbs_add b_Verbs_add 2 (some .int) :: gw) rm_x_Verbs_add D [(cI, .int), (cZ, .boolean), (cJ, .long)] (xA ao aa) (xW cI cZ cJ ao aa) [.ref (ao 22), .int x0] S (some (.int z.1)) z.2 :=
  Ct_of (by decide) (fun p e s m args below meth c X => w_x_Verbs_add X _ _ hz) (Nat.le_of_ble_eq_true rfl)
def x_G_verb (S : St) (x0 : Int32) : Option (Int32 × St) :=
  (x_G_mayBeVerbWord S x0).bind fun q1 =>
  if q1.1 = 0 then
    some ((-102 : Int32), q1.2)
  else
    (x_Verbs_isFull q1.2).bind fun q2 =>
    if q2.1 = 0 then
      (x_Verbs_hasAllWords q2.2).bind fun q3 =>
      if q3.1 = 0 then
        (x_Verbs_add q3.2 x0).bind fun q4 =>
        some (q4.1, q4.2)
      else
        some ((-104 : Int32), q3.2)
    else
      some ((-104 : Int32), q2.2)
def rm_x_G_verb : Room := { frames := 3, cells := 0, slots := 0, locals := 66 }
theorem ok_x_G_verb : CalV y_G_verb b_G_verb 2 (some .int) 1 rm_x_G_verb := ⟨kc_G_verb, ki_G_verb, kl_G_verb, ji_G, ⟨by decide, by decide, by decide +kernel⟩, rfl, rfl⟩
set_option maxHeartbeats 4000000 in
set_option maxRecDepth 100000 in
theorem w_x_G_verb {z : Int32 × St} (X : Cx b_G_verb 2 (some .int) R_G D [(cI, .int), (cZ, .boolean), (cJ, .long)] (xA ao aa) (xW cI cZ cJ ao aa) p s m args meth c) (S : St) (x0 : Int32) (hf : x_G_verb S x0 = some z) : WX rm_x_G_verb D (xA ao aa) (xW cI cZ cJ ao aa) p l e s m args below meth c (some (.int z.1)) z.2 0 [] 2 [(0, .ref (ao 27)), (1, .int x0)] S := by
  intro H locs ls hP hS hl
  obtain ⟨hx, hb, hr0, hml, hown, htg, hlk, hK, hN, hI⟩ := id X
  unfold x_G_verb at hf
  refine lv_aload_n hx hb d_G_verb_0 rfl (lv_at hl 0 rfl) ?_
  refine lv_iload_n hx hb d_G_verb_1 rfl (lv_at hl 1 rfl) ?_
  obtain ⟨q1, he, hf⟩ := ob_some hf
  refine cl_Vi (As := [.int x0]) (rest := []) X (c_x_G_mayBeVerbWord he) ok_x_G_mayBeVerbWord k_m_G_87 (va_recv hK hP rfl xo_27) rfl rfl hl.1 (Nat.le_of_ble_eq_true rfl) d_G_verb_2 ⟨by decide, by decide⟩ hP hS (fun H locs hP hS => ?_)
  refine lv_if_ne (tgt := 11) hx hb d_G_verb_5 (by decide) (fun c => ?_) (fun c => ?_)
  · have hf := if_f hf c
    refine lv_aload_n hx hb d_G_verb_11 rfl (lv_at hl 0 rfl) ?_
    refine va_get (D := D) (v := .ref (ao 22)) hx hb htg in_G hown hK hP 27 xo_27 rfl 1 (by decide) (htg _ k_f_G_19) (fun _ h9 => h9) rfl d_G_verb_12 ?_
    obtain ⟨q2, he, hf⟩ := ob_some hf
    refine cl_Vi (As := []) (rest := []) X (c_x_Verbs_isFull he) ok_x_Verbs_isFull k_m_G_91 (va_recv hK hP rfl xo_22) rfl rfl hl.1 (Nat.le_of_ble_eq_true rfl) d_G_verb_15 ⟨by decide, by decide⟩ hP hS (fun H locs hP hS => ?_)
    refine lv_if_ne (tgt := 31) hx hb d_G_verb_18 (by decide) (fun c => ?_) (fun c => ?_)
    · have hf := if_f hf c
      refine lv_bipush (v := (-104)) hx hb d_G_verb_31 (by decide) ?_
      obtain rfl := Option.some.inj hf
      exact W.iret hx hb hr0 (fun t ht _ => ⟨⟨rfl, by rw [ht]; exact hP⟩, hS.F ht⟩) hS.2.2 d_G_verb_33 hlk
    · have hf := if_t hf c
      refine lv_aload_n hx hb d_G_verb_21 rfl (lv_at hl 0 rfl) ?_
      refine va_get (D := D) (v := .ref (ao 22)) hx hb htg in_G hown hK hP 27 xo_27 rfl 1 (by decide) (htg _ k_f_G_19) (fun _ h9 => h9) rfl d_G_verb_22 ?_
      obtain ⟨q3, he, hf⟩ := ob_some hf
      refine cl_Vi (As := []) (rest := []) X (c_x_Verbs_hasAllWords he) ok_x_Verbs_hasAllWords k_m_G_95 (va_recv hK hP rfl xo_22) rfl rfl hl.1 (Nat.le_of_ble_eq_true rfl) d_G_verb_25 ⟨by decide, by decide⟩ hP hS (fun H locs hP hS => ?_)
      refine lv_if_eq (tgt := 34) hx hb d_G_verb_28 (by decide) (fun c => ?_) (fun c => ?_)
      · have hf := if_t hf c
        refine lv_aload_n hx hb d_G_verb_34 rfl (lv_at hl 0 rfl) ?_
        refine va_get (D := D) (v := .ref (ao 22)) hx hb htg in_G hown hK hP 27 xo_27 rfl 1 (by decide) (htg _ k_f_G_19) (fun _ h9 => h9) rfl d_G_verb_35 ?_
        refine lv_iload_n hx hb d_G_verb_38 rfl (lv_at hl 1 rfl) ?_
        obtain ⟨q4, he, hf⟩ := ob_some hf
        refine cl_Vi (As := [.int x0]) (rest := []) X (c_x_Verbs_add he) ok_x_Verbs_add k_m_G_98 (va_recv hK hP rfl xo_22) rfl rfl hl.1 (Nat.le_of_ble_eq_true rfl) d_G_verb_39 ⟨by decide, by decide⟩ hP hS (fun H locs hP hS => ?_)
        obtain rfl := Option.some.inj hf
        exact W.iret hx hb hr0 (fun t ht _ => ⟨⟨rfl, by rw [ht]; exact hP⟩, hS.F ht⟩) hS.2.2 d_G_verb_42 hlk
      · have hf := if_f hf c
        refine lv_bipush (v := (-104)) hx hb d_G_verb_31 (by decide) ?_
        obtain rfl := Option.some.inj hf
        exact W.iret hx hb hr0 (fun t ht _ => ⟨⟨rfl, by rw [ht]; exact hP⟩, hS.F ht⟩) hS.2.2 d_G_verb_33 hlk
  · have hf := if_t hf c
    refine lv_bipush (v := (-102)) hx hb d_G_verb_8 (by decide) ?_
    obtain rfl := Option.some.inj hf
    exact W.iret hx hb hr0 (fun t ht _ => ⟨⟨rfl, by rw [ht]; exact hP⟩, hS.F ht⟩) hS.2.2 d_G_verb_10 hlk
theorem c_x_G_verb {l : Launch} {D : va_G} {cI cZ cJ : ClassId} {ao aa : Nat → Nat} {S : St} {x0 : Int32} {z : Int32 × St} (hz : x_G_verb S x0 = some z) : Ct l y_G_verb (.code y_G_verb b_G_verb 2 (some .int) :: gw) rm_x_G_verb D [(cI, .int), (cZ, .boolean), (cJ, .long)] (xA ao aa) (xW cI cZ cJ ao aa) [.ref (ao 27), .int x0] S (some (.int z.1)) z.2 :=
  Ct_of (by decide) (fun p e s m args below meth c X => w_x_G_verb X _ _ hz) (Nat.le_of_ble_eq_true rfl)
def x_Verbs_has (S : St) (x0 : Int32) : Option (Int32 × St) :=
  if x0 < 0 then
    some ((0 : Int32), S)
  else
    if (gI S 24) ≤ x0 then
      some ((0 : Int32), S)
    else
      some ((1 : Int32), S)
def rm_x_Verbs_has : Room := { frames := 0, cells := 0, slots := 0, locals := 0 }
theorem ok_x_Verbs_has : CalV y_Verbs_has b_Verbs_has 2 (some .boolean) 1 rm_x_Verbs_has := ⟨kc_Verbs_has, ki_Verbs_has, kl_Verbs_has, ji_Verbs, ⟨by decide, by decide, by decide +kernel⟩, rfl, rfl⟩
set_option maxHeartbeats 4000000 in
set_option maxRecDepth 100000 in
theorem w_x_Verbs_has {z : Int32 × St} (X : Cx b_Verbs_has 2 (some .boolean) R_Verbs D [(cI, .int), (cZ, .boolean), (cJ, .long)] (xA ao aa) (xW cI cZ cJ ao aa) p s m args meth c) (S : St) (x0 : Int32) (hf : x_Verbs_has S x0 = some z) : WX rm_x_Verbs_has D (xA ao aa) (xW cI cZ cJ ao aa) p l e s m args below meth c (some (.int z.1)) z.2 0 [] 2 [(0, .ref (ao 22)), (1, .int x0)] S := by
  intro H locs ls hP hS hl
  obtain ⟨hx, hb, hr0, hml, hown, htg, hlk, hK, hN, hI⟩ := id X
  unfold x_Verbs_has at hf
  refine lv_iload_n hx hb d_Verbs_has_0 rfl (lv_at hl 1 rfl) ?_
  refine lv_if_lt (tgt := 16) hx hb d_Verbs_has_1 (by decide) (fun c => ?_) (fun c => ?_)
  · have hf := if_t hf c
    refine lv_iconst (v := 0) hx hb d_Verbs_has_16 (by decide) ?_
    obtain rfl := Option.some.inj hf
    exact W.zret (ty := .boolean) hx hb hr0 rfl (fun t ht _ => ⟨⟨rfl, by rw [ht]; exact hP⟩, hS.F ht⟩) hS.2.2 d_Verbs_has_17 hlk
  · have hf := if_f hf c
    refine lv_iload_n hx hb d_Verbs_has_4 rfl (lv_at hl 1 rfl) ?_
    refine lv_aload_n hx hb d_Verbs_has_5 rfl (lv_at hl 0 rfl) ?_
    refine va_get (D := D) (v := .int (gI S 24)) hx hb htg in_Verbs hown hK hP 22 xo_22 rfl 2 (by decide) (htg _ k_f_Verbs_23) (fun _ h9 => h9) rfl d_Verbs_has_6 ?_
    refine lv_icmp_ge (tgt := 16) hx hb d_Verbs_has_9 (by decide) (fun c => ?_) (fun c => ?_)
    · have hf := if_t hf c
      refine lv_iconst (v := 0) hx hb d_Verbs_has_16 (by decide) ?_
      obtain rfl := Option.some.inj hf
      exact W.zret (ty := .boolean) hx hb hr0 rfl (fun t ht _ => ⟨⟨rfl, by rw [ht]; exact hP⟩, hS.F ht⟩) hS.2.2 d_Verbs_has_17 hlk
    · have hf := if_f hf c
      refine lv_iconst (v := 1) hx hb d_Verbs_has_12 (by decide) ?_
      refine lv_goto (tgt := 17) hx hb d_Verbs_has_13 (by decide) ?_
      obtain rfl := Option.some.inj hf
      exact W.zret (ty := .boolean) hx hb hr0 rfl (fun t ht _ => ⟨⟨rfl, by rw [ht]; exact hP⟩, hS.F ht⟩) hS.2.2 d_Verbs_has_17 hlk
theorem c_x_Verbs_has {l : Launch} {D : va_G} {cI cZ cJ : ClassId} {ao aa : Nat → Nat} {S : St} {x0 : Int32} {z : Int32 × St} (hz : x_Verbs_has S x0 = some z) : Ct l y_Verbs_has (.code y_Verbs_has b_Verbs_has 2 (some .boolean) :: gw) rm_x_Verbs_has D [(cI, .int), (cZ, .boolean), (cJ, .long)] (xA ao aa) (xW cI cZ cJ ao aa) [.ref (ao 22), .int x0] S (some (.int z.1)) z.2 :=
  Ct_of (by decide) (fun p e s m args below meth c X => w_x_Verbs_has X _ _ hz) (Nat.le_of_ble_eq_true rfl)
def x_G_like (S : St) (x0 : Int32) (x1 : Int32) : Option (Int32 × St) :=
  (x_Verbs_has S x0).bind fun q1 =>
  if q1.1 = 0 then
    some ((-101 : Int32), q1.2)
  else
    (x_G_mayBeVerbWord q1.2 x1).bind fun q2 =>
    if q2.1 = 0 then
      some ((-102 : Int32), q2.2)
    else
      (x_Verbs_hasAllWords q2.2).bind fun q3 =>
      if q3.1 = 0 then
        (x_Verbs_addWord q3.2 x0 x1).bind fun q4 =>
        some (q4.1, q4.2)
      else
        some ((-104 : Int32), q3.2)
def rm_x_G_like : Room := { frames := 3, cells := 0, slots := 0, locals := 64 }
theorem ok_x_G_like : CalV y_G_like b_G_like 3 (some .int) 2 rm_x_G_like := ⟨kc_G_like, ki_G_like, kl_G_like, ji_G, ⟨by decide, by decide, by decide +kernel⟩, rfl, rfl⟩
set_option maxHeartbeats 4000000 in
set_option maxRecDepth 100000 in
theorem w_x_G_like {z : Int32 × St} (X : Cx b_G_like 3 (some .int) R_G D [(cI, .int), (cZ, .boolean), (cJ, .long)] (xA ao aa) (xW cI cZ cJ ao aa) p s m args meth c) (S : St) (x0 : Int32) (x1 : Int32) (hf : x_G_like S x0 x1 = some z) : WX rm_x_G_like D (xA ao aa) (xW cI cZ cJ ao aa) p l e s m args below meth c (some (.int z.1)) z.2 0 [] 3 [(0, .ref (ao 27)), (1, .int x0), (2, .int x1)] S := by
  intro H locs ls hP hS hl
  obtain ⟨hx, hb, hr0, hml, hown, htg, hlk, hK, hN, hI⟩ := id X
  unfold x_G_like at hf
  refine lv_aload_n hx hb d_G_like_0 rfl (lv_at hl 0 rfl) ?_
  refine va_get (D := D) (v := .ref (ao 22)) hx hb htg in_G hown hK hP 27 xo_27 rfl 1 (by decide) (htg _ k_f_G_19) (fun _ h9 => h9) rfl d_G_like_1 ?_
  refine lv_iload_n hx hb d_G_like_4 rfl (lv_at hl 1 rfl) ?_
  obtain ⟨q1, he, hf⟩ := ob_some hf
  refine cl_Vi (As := [.int x0]) (rest := []) X (c_x_Verbs_has he) ok_x_Verbs_has k_m_G_102 (va_recv hK hP rfl xo_22) rfl rfl hl.1 (Nat.le_of_ble_eq_true rfl) d_G_like_5 ⟨by decide, by decide⟩ hP hS (fun H locs hP hS => ?_)
  refine lv_if_ne (tgt := 14) hx hb d_G_like_8 (by decide) (fun c => ?_) (fun c => ?_)
  · have hf := if_f hf c
    refine lv_aload_n hx hb d_G_like_14 rfl (lv_at hl 0 rfl) ?_
    refine lv_iload_n hx hb d_G_like_15 rfl (lv_at hl 2 rfl) ?_
    obtain ⟨q2, he, hf⟩ := ob_some hf
    refine cl_Vi (As := [.int x1]) (rest := []) X (c_x_G_mayBeVerbWord he) ok_x_G_mayBeVerbWord k_m_G_87 (va_recv hK hP rfl xo_27) rfl rfl hl.1 (Nat.le_of_ble_eq_true rfl) d_G_like_16 ⟨by decide, by decide⟩ hP hS (fun H locs hP hS => ?_)
    refine lv_if_ne (tgt := 25) hx hb d_G_like_19 (by decide) (fun c => ?_) (fun c => ?_)
    · have hf := if_f hf c
      refine lv_aload_n hx hb d_G_like_25 rfl (lv_at hl 0 rfl) ?_
      refine va_get (D := D) (v := .ref (ao 22)) hx hb htg in_G hown hK hP 27 xo_27 rfl 1 (by decide) (htg _ k_f_G_19) (fun _ h9 => h9) rfl d_G_like_26 ?_
      obtain ⟨q3, he, hf⟩ := ob_some hf
      refine cl_Vi (As := []) (rest := []) X (c_x_Verbs_hasAllWords he) ok_x_Verbs_hasAllWords k_m_G_95 (va_recv hK hP rfl xo_22) rfl rfl hl.1 (Nat.le_of_ble_eq_true rfl) d_G_like_29 ⟨by decide, by decide⟩ hP hS (fun H locs hP hS => ?_)
      refine lv_if_eq (tgt := 38) hx hb d_G_like_32 (by decide) (fun c => ?_) (fun c => ?_)
      · have hf := if_t hf c
        refine lv_aload_n hx hb d_G_like_38 rfl (lv_at hl 0 rfl) ?_
        refine va_get (D := D) (v := .ref (ao 22)) hx hb htg in_G hown hK hP 27 xo_27 rfl 1 (by decide) (htg _ k_f_G_19) (fun _ h9 => h9) rfl d_G_like_39 ?_
        refine lv_iload_n hx hb d_G_like_42 rfl (lv_at hl 1 rfl) ?_
        refine lv_iload_n hx hb d_G_like_43 rfl (lv_at hl 2 rfl) ?_
        obtain ⟨q4, he, hf⟩ := ob_some hf
        refine cl_Vi (As := [.int x0, .int x1]) (rest := []) X (c_x_Verbs_addWord he) ok_x_Verbs_addWord k_m_G_105 (va_recv hK hP rfl xo_22) rfl rfl hl.1 (Nat.le_of_ble_eq_true rfl) d_G_like_44 ⟨by decide, by decide⟩ hP hS (fun H locs hP hS => ?_)
        obtain rfl := Option.some.inj hf
        exact W.iret hx hb hr0 (fun t ht _ => ⟨⟨rfl, by rw [ht]; exact hP⟩, hS.F ht⟩) hS.2.2 d_G_like_47 hlk
      · have hf := if_f hf c
        refine lv_bipush (v := (-104)) hx hb d_G_like_35 (by decide) ?_
        obtain rfl := Option.some.inj hf
        exact W.iret hx hb hr0 (fun t ht _ => ⟨⟨rfl, by rw [ht]; exact hP⟩, hS.F ht⟩) hS.2.2 d_G_like_37 hlk
    · have hf := if_t hf c
      refine lv_bipush (v := (-102)) hx hb d_G_like_22 (by decide) ?_
      obtain rfl := Option.some.inj hf
      exact W.iret hx hb hr0 (fun t ht _ => ⟨⟨rfl, by rw [ht]; exact hP⟩, hS.F ht⟩) hS.2.2 d_G_like_24 hlk
  · have hf := if_t hf c
    refine lv_bipush (v := (-101)) hx hb d_G_like_11 (by decide) ?_
    obtain rfl := Option.some.inj hf
    exact W.iret hx hb hr0 (fun t ht _ => ⟨⟨rfl, by rw [ht]; exact hP⟩, hS.F ht⟩) hS.2.2 d_G_like_13 hlk
theorem c_x_G_like {l : Launch} {D : va_G} {cI cZ cJ : ClassId} {ao aa : Nat → Nat} {S : St} {x0 : Int32} {x1 : Int32} {z : Int32 × St} (hz : x_G_like S x0 x1 = some z) : Ct l y_G_like (.code y_G_like b_G_like 3 (some .int) :: gw) rm_x_G_like D [(cI, .int), (cZ, .boolean), (cJ, .long)] (xA ao aa) (xW cI cZ cJ ao aa) [.ref (ao 27), .int x0, .int x1] S (some (.int z.1)) z.2 :=
  Ct_of (by decide) (fun p e s m args below meth c X => w_x_G_like X _ _ _ hz) (Nat.le_of_ble_eq_true rfl)
def x_Lines_isFull (S : St) : Option (Int32 × St) :=
  if (gI S 25) < (60 : Int32) then
    some ((0 : Int32), S)
  else
    some ((1 : Int32), S)
def rm_x_Lines_isFull : Room := { frames := 0, cells := 0, slots := 0, locals := 0 }
theorem ok_x_Lines_isFull : CalV y_Lines_isFull b_Lines_isFull 1 (some .boolean) 0 rm_x_Lines_isFull := ⟨kc_Lines_isFull, ki_Lines_isFull, kl_Lines_isFull, ji_Lines, ⟨by decide, by decide, by decide +kernel⟩, rfl, rfl⟩
set_option maxHeartbeats 4000000 in
set_option maxRecDepth 100000 in
theorem w_x_Lines_isFull {z : Int32 × St} (X : Cx b_Lines_isFull 1 (some .boolean) R_Lines D [(cI, .int), (cZ, .boolean), (cJ, .long)] (xA ao aa) (xW cI cZ cJ ao aa) p s m args meth c) (S : St) (hf : x_Lines_isFull S = some z) : WX rm_x_Lines_isFull D (xA ao aa) (xW cI cZ cJ ao aa) p l e s m args below meth c (some (.int z.1)) z.2 0 [] 1 [(0, .ref (ao 23))] S := by
  intro H locs ls hP hS hl
  obtain ⟨hx, hb, hr0, hml, hown, htg, hlk, hK, hN, hI⟩ := id X
  unfold x_Lines_isFull at hf
  refine lv_aload_n hx hb d_Lines_isFull_0 rfl (lv_at hl 0 rfl) ?_
  refine va_get (D := D) (v := .int (gI S 25)) hx hb htg in_Lines hown hK hP 23 xo_23 rfl 6 (by decide) (htg _ k_f_Lines_31) (fun _ h9 => h9) rfl d_Lines_isFull_1 ?_
  refine lv_bipush (v := 60) hx hb d_Lines_isFull_4 (by decide) ?_
  refine lv_icmp_lt (tgt := 13) hx hb d_Lines_isFull_6 (by decide) (fun c => ?_) (fun c => ?_)
  · have hf := if_t hf c
    refine lv_iconst (v := 0) hx hb d_Lines_isFull_13 (by decide) ?_
    obtain rfl := Option.some.inj hf
    exact W.zret (ty := .boolean) hx hb hr0 rfl (fun t ht _ => ⟨⟨rfl, by rw [ht]; exact hP⟩, hS.F ht⟩) hS.2.2 d_Lines_isFull_14 hlk
  · have hf := if_f hf c
    refine lv_iconst (v := 1) hx hb d_Lines_isFull_9 (by decide) ?_
    refine lv_goto (tgt := 14) hx hb d_Lines_isFull_10 (by decide) ?_
    obtain rfl := Option.some.inj hf
    exact W.zret (ty := .boolean) hx hb hr0 rfl (fun t ht _ => ⟨⟨rfl, by rw [ht]; exact hP⟩, hS.F ht⟩) hS.2.2 d_Lines_isFull_14 hlk
theorem c_x_Lines_isFull {l : Launch} {D : va_G} {cI cZ cJ : ClassId} {ao aa : Nat → Nat} {S : St} {z : Int32 × St} (hz : x_Lines_isFull S = some z) : Ct l y_Lines_isFull (.code y_Lines_isFull b_Lines_isFull 1 (some .boolean) :: gw) rm_x_Lines_isFull D [(cI, .int), (cZ, .boolean), (cJ, .long)] (xA ao aa) (xW cI cZ cJ ao aa) [.ref (ao 23)] S (some (.int z.1)) z.2 :=
  Ct_of (by decide) (fun p e s m args below meth c X => w_x_Lines_isFull X _ hz) (Nat.le_of_ble_eq_true rfl)
def x_Lines_add (S : St) (x0 : Int32) (x1 : Int32) (x2 : Int32) : Option (Int32 × St) :=
  (x_Lines_isFull S).bind fun q1 =>
  if q1.1 = 0 then
    gd (vin (gI q1.2 25) 60) <|
    gd (vin (gI (sA q1.2 20 (gI q1.2 25).toNatClampNeg x0) 25) 60) <|
    gd (vin (gI (sA (sA q1.2 20 (gI q1.2 25).toNatClampNeg x0) 21 (gI (sA q1.2 20 (gI q1.2 25).toNatClampNeg x0) 25).toNatClampNeg x1) 25) 60) <|
    some (((gI (sI (sA (sA (sA q1.2 20 (gI q1.2 25).toNatClampNeg x0) 21 (gI (sA q1.2 20 (gI q1.2 25).toNatClampNeg x0) 25).toNatClampNeg x1) 22 (gI (sA (sA q1.2 20 (gI q1.2 25).toNatClampNeg x0) 21 (gI (sA q1.2 20 (gI q1.2 25).toNatClampNeg x0) 25).toNatClampNeg x1) 25).toNatClampNeg (vp_nar .boolean x2)) 25 ((gI (sA (sA (sA q1.2 20 (gI q1.2 25).toNatClampNeg x0) 21 (gI (sA q1.2 20 (gI q1.2 25).toNatClampNeg x0) 25).toNatClampNeg x1) 22 (gI (sA (sA q1.2 20 (gI q1.2 25).toNatClampNeg x0) 21 (gI (sA q1.2 20 (gI q1.2 25).toNatClampNeg x0) 25).toNatClampNeg x1) 25).toNatClampNeg (vp_nar .boolean x2)) 25) + (1 : Int32))) 25) - (1 : Int32)), (sI (sA (sA (sA q1.2 20 (gI q1.2 25).toNatClampNeg x0) 21 (gI (sA q1.2 20 (gI q1.2 25).toNatClampNeg x0) 25).toNatClampNeg x1) 22 (gI (sA (sA q1.2 20 (gI q1.2 25).toNatClampNeg x0) 21 (gI (sA q1.2 20 (gI q1.2 25).toNatClampNeg x0) 25).toNatClampNeg x1) 25).toNatClampNeg (vp_nar .boolean x2)) 25 ((gI (sA (sA (sA q1.2 20 (gI q1.2 25).toNatClampNeg x0) 21 (gI (sA q1.2 20 (gI q1.2 25).toNatClampNeg x0) 25).toNatClampNeg x1) 22 (gI (sA (sA q1.2 20 (gI q1.2 25).toNatClampNeg x0) 21 (gI (sA q1.2 20 (gI q1.2 25).toNatClampNeg x0) 25).toNatClampNeg x1) 25).toNatClampNeg (vp_nar .boolean x2)) 25) + (1 : Int32))))
  else
    some ((-1 : Int32), q1.2)
def rm_x_Lines_add : Room := { frames := 1, cells := 0, slots := 0, locals := 20 }
theorem ok_x_Lines_add : CalV y_Lines_add b_Lines_add 4 (some .int) 3 rm_x_Lines_add := ⟨kc_Lines_add, ki_Lines_add, kl_Lines_add, ji_Lines, ⟨by decide, by decide, by decide +kernel⟩, rfl, rfl⟩
set_option maxHeartbeats 4000000 in
set_option maxRecDepth 100000 in
theorem w_x_Lines_add {z : Int32 × St} (X : Cx b_Lines_add 4 (some .int) R_Lines D [(cI, .int), (cZ, .boolean), (cJ, .long)] (xA ao aa) (xW cI cZ cJ ao aa) p s m args meth c) (S : St) (x0 : Int32) (x1 : Int32) (x2 : Int32) (hf : x_Lines_add S x0 x1 x2 = some z) : WX rm_x_Lines_add D (xA ao aa) (xW cI cZ cJ ao aa) p l e s m args below meth c (some (.int z.1)) z.2 0 [] 4 [(0, .ref (ao 23)), (1, .int x0), (2, .int x1), (3, .int x2)] S := by
  intro H locs ls hP hS hl
  obtain ⟨hx, hb, hr0, hml, hown, htg, hlk, hK, hN, hI⟩ := id X
  unfold x_Lines_add at hf
  refine lv_aload_n hx hb d_Lines_add_0 rfl (lv_at hl 0 rfl) ?_
  obtain ⟨q1, he, hf⟩ := ob_some hf
  refine cl_Vi (As := []) (rest := []) X (c_x_Lines_isFull he) ok_x_Lines_isFull k_m_Lines_35 (va_recv hK hP rfl xo_23) rfl rfl hl.1 (Nat.le_of_ble_eq_true rfl) d_Lines_add_1 ⟨by decide, by decide⟩ hP hS (fun H locs hP hS => ?_)
  refine lv_if_eq (tgt := 9) hx hb d_Lines_add_4 (by decide) (fun c => ?_) (fun c => ?_)
  · have hf := if_t hf c
    refine lv_aload_n hx hb d_Lines_add_9 rfl (lv_at hl 0 rfl) ?_
    refine va_get (D := D) (v := .ref (aa 20)) hx hb htg in_Lines hown hK hP 23 xo_23 rfl 0 (by decide) (htg _ k_f_Lines_9) (fun _ h9 => h9) rfl d_Lines_add_10 ?_
    refine lv_aload_n hx hb d_Lines_add_13 rfl (lv_at hl 0 rfl) ?_
    refine va_get (D := D) (v := .int (gI q1.2 25)) hx hb htg in_Lines hown hK hP 23 xo_23 rfl 6 (by decide) (htg _ k_f_Lines_31) (fun _ h9 => h9) rfl d_Lines_add_14 ?_
    refine lv_iload_n hx hb d_Lines_add_17 rfl (lv_at hl 1 rfl) ?_
    obtain ⟨hg, hf⟩ := gd_some hf
    refine va_iast hx hb hK hP (hI _) hS 48 0 xa_20 rfl (vin_in hg) d_Lines_add_18 (fun H locs hP _ hS => ?_)
    replace hP : va_P D classes (xW cI cZ cJ ao aa (sA q1.2 20 (gI q1.2 25).toNatClampNeg x0)) H := pw xt_20 hP
    refine lv_aload_n hx hb d_Lines_add_19 rfl (lv_at hl 0 rfl) ?_
    refine va_get (D := D) (v := .ref (aa 21)) hx hb htg in_Lines hown hK hP 23 xo_23 rfl 1 (by decide) (htg _ k_f_Lines_15) (fun _ h9 => h9) rfl d_Lines_add_20 ?_
    refine lv_aload_n hx hb d_Lines_add_23 rfl (lv_at hl 0 rfl) ?_
    refine va_get (D := D) (v := .int (gI (sA q1.2 20 (gI q1.2 25).toNatClampNeg x0) 25)) hx hb htg in_Lines hown hK hP 23 xo_23 rfl 6 (by decide) (htg _ k_f_Lines_31) (fun _ h9 => h9) rfl d_Lines_add_24 ?_
    refine lv_iload_n hx hb d_Lines_add_27 rfl (lv_at hl 2 rfl) ?_
    obtain ⟨hg, hf⟩ := gd_some hf
    refine va_iast hx hb hK hP (hI _) hS 49 0 xa_21 rfl (vin_in hg) d_Lines_add_28 (fun H locs hP _ hS => ?_)
    replace hP : va_P D classes (xW cI cZ cJ ao aa (sA (sA q1.2 20 (gI q1.2 25).toNatClampNeg x0) 21 (gI (sA q1.2 20 (gI q1.2 25).toNatClampNeg x0) 25).toNatClampNeg x1)) H := pw xt_21 hP
    refine lv_aload_n hx hb d_Lines_add_29 rfl (lv_at hl 0 rfl) ?_
    refine va_get (D := D) (v := .ref (aa 22)) hx hb htg in_Lines hown hK hP 23 xo_23 rfl 2 (by decide) (htg _ k_f_Lines_18) (fun _ h9 => h9) rfl d_Lines_add_30 ?_
    refine lv_aload_n hx hb d_Lines_add_33 rfl (lv_at hl 0 rfl) ?_
    refine va_get (D := D) (v := .int (gI (sA (sA q1.2 20 (gI q1.2 25).toNatClampNeg x0) 21 (gI (sA q1.2 20 (gI q1.2 25).toNatClampNeg x0) 25).toNatClampNeg x1) 25)) hx hb htg in_Lines hown hK hP 23 xo_23 rfl 6 (by decide) (htg _ k_f_Lines_31) (fun _ h9 => h9) rfl d_Lines_add_34 ?_
    refine lv_iload_n hx hb d_Lines_add_37 rfl (lv_at hl 3 rfl) ?_
    obtain ⟨hg, hf⟩ := gd_some hf
    refine va_zast hx hb hK hP (hI _) hS 50 1 xa_22 rfl (vin_in hg) d_Lines_add_38 (fun H locs hP _ hS => ?_)
    replace hP : va_P D classes (xW cI cZ cJ ao aa (sA (sA (sA q1.2 20 (gI q1.2 25).toNatClampNeg x0) 21 (gI (sA q1.2 20 (gI q1.2 25).toNatClampNeg x0) 25).toNatClampNeg x1) 22 (gI (sA (sA q1.2 20 (gI q1.2 25).toNatClampNeg x0) 21 (gI (sA q1.2 20 (gI q1.2 25).toNatClampNeg x0) 25).toNatClampNeg x1) 25).toNatClampNeg (vp_nar .boolean x2))) H := pw xt_22 hP
    refine lv_aload_n hx hb d_Lines_add_39 rfl (lv_at hl 0 rfl) ?_
    refine lv_dup hx hb d_Lines_add_40 rfl ?_
    refine va_get (D := D) (v := .int (gI (sA (sA (sA q1.2 20 (gI q1.2 25).toNatClampNeg x0) 21 (gI (sA q1.2 20 (gI q1.2 25).toNatClampNeg x0) 25).toNatClampNeg x1) 22 (gI (sA (sA q1.2 20 (gI q1.2 25).toNatClampNeg x0) 21 (gI (sA q1.2 20 (gI q1.2 25).toNatClampNeg x0) 25).toNatClampNeg x1) 25).toNatClampNeg (vp_nar .boolean x2)) 25)) hx hb htg in_Lines hown hK hP 23 xo_23 rfl 6 (by decide) (htg _ k_f_Lines_31) (fun _ h9 => h9) rfl d_Lines_add_41 ?_
    refine lv_iconst (v := 1) hx hb d_Lines_add_44 (by decide) ?_
    refine lv_iadd hx hb d_Lines_add_45 ?_
    refine va_put (D := D) (ty := .int) hx hb htg in_Lines t_Lines t_Lines_ok n_Lines hown hK hP (hI _) hS 23 xo_23 rfl 6 (by decide) (htg _ k_f_Lines_31) (fun _ h9 => h9) rfl (by decide +kernel) rfl rfl (Nat.le_of_ble_eq_true rfl) d_Lines_add_46 (fun H locs hP _ hS => ?_)
    replace hP : va_P D classes (xW cI cZ cJ ao aa (sI (sA (sA (sA q1.2 20 (gI q1.2 25).toNatClampNeg x0) 21 (gI (sA q1.2 20 (gI q1.2 25).toNatClampNeg x0) 25).toNatClampNeg x1) 22 (gI (sA (sA q1.2 20 (gI q1.2 25).toNatClampNeg x0) 21 (gI (sA q1.2 20 (gI q1.2 25).toNatClampNeg x0) 25).toNatClampNeg x1) 25).toNatClampNeg (vp_nar .boolean x2)) 25 ((gI (sA (sA (sA q1.2 20 (gI q1.2 25).toNatClampNeg x0) 21 (gI (sA q1.2 20 (gI q1.2 25).toNatClampNeg x0) 25).toNatClampNeg x1) 22 (gI (sA (sA q1.2 20 (gI q1.2 25).toNatClampNeg x0) 21 (gI (sA q1.2 20 (gI q1.2 25).toNatClampNeg x0) 25).toNatClampNeg x1) 25).toNatClampNeg (vp_nar .boolean x2)) 25) + (1 : Int32)))) H := pw xs_23_count hP
    refine lv_aload_n hx hb d_Lines_add_49 rfl (lv_at hl 0 rfl) ?_
    refine va_get (D := D) (v := .int (gI (sI (sA (sA (sA q1.2 20 (gI q1.2 25).toNatClampNeg x0) 21 (gI (sA q1.2 20 (gI q1.2 25).toNatClampNeg x0) 25).toNatClampNeg x1) 22 (gI (sA (sA q1.2 20 (gI q1.2 25).toNatClampNeg x0) 21 (gI (sA q1.2 20 (gI q1.2 25).toNatClampNeg x0) 25).toNatClampNeg x1) 25).toNatClampNeg (vp_nar .boolean x2)) 25 ((gI (sA (sA (sA q1.2 20 (gI q1.2 25).toNatClampNeg x0) 21 (gI (sA q1.2 20 (gI q1.2 25).toNatClampNeg x0) 25).toNatClampNeg x1) 22 (gI (sA (sA q1.2 20 (gI q1.2 25).toNatClampNeg x0) 21 (gI (sA q1.2 20 (gI q1.2 25).toNatClampNeg x0) 25).toNatClampNeg x1) 25).toNatClampNeg (vp_nar .boolean x2)) 25) + (1 : Int32))) 25)) hx hb htg in_Lines hown hK hP 23 xo_23 rfl 6 (by decide) (htg _ k_f_Lines_31) (fun _ h9 => h9) rfl d_Lines_add_50 ?_
    refine lv_iconst (v := 1) hx hb d_Lines_add_53 (by decide) ?_
    refine lv_isub hx hb d_Lines_add_54 ?_
    obtain rfl := Option.some.inj hf
    exact W.iret hx hb hr0 (fun t ht _ => ⟨⟨rfl, by rw [ht]; exact hP⟩, hS.F ht⟩) hS.2.2 d_Lines_add_55 hlk
  · have hf := if_f hf c
    refine lv_iconst (v := (-1)) hx hb d_Lines_add_7 (by decide) ?_
    obtain rfl := Option.some.inj hf
    exact W.iret hx hb hr0 (fun t ht _ => ⟨⟨rfl, by rw [ht]; exact hP⟩, hS.F ht⟩) hS.2.2 d_Lines_add_8 hlk
theorem c_x_Lines_add {l : Launch} {D : va_G} {cI cZ cJ : ClassId} {ao aa : Nat → Nat} {S : St} {x0 : Int32} {x1 : Int32} {x2 : Int32} {z : Int32 × St} (hz : x_Lines_add S x0 x1 x2 = some z) : Ct l y_Lines_add (.code y_Lines_add b_Lines_add 4 (some .int) :: gw) rm_x_Lines_add D [(cI, .int), (cZ, .boolean), (cJ, .long)] (xA ao aa) (xW cI cZ cJ ao aa) [.ref (ao 23), .int x0, .int x1, .int x2] S (some (.int z.1)) z.2 :=
  Ct_of (by decide) (fun p e s m args below meth c X => w_x_Lines_add X _ _ _ _ hz) (Nat.le_of_ble_eq_true rfl)
def x_G_line (S : St) (x0 : Int32) (x1 : Int32) (x2 : Int32) : Option (Int32 × St) :=
  (x_Verbs_has S x0).bind fun q1 =>
  if q1.1 = 0 then
    some ((-101 : Int32), q1.2)
  else
    if x1 < (1 : Int32) then
      some ((-102 : Int32), q1.2)
    else
      if x1 ≤ (9999 : Int32) then
        (x_Lines_isFull q1.2).bind fun q2 =>
        if q2.1 = 0 then
          (x_Lines_add q2.2 x0 x1 x2).bind fun q3 =>
          some (q3.1, q3.2)
        else
          some ((-104 : Int32), q2.2)
      else
        some ((-102 : Int32), q1.2)
def rm_x_G_line : Room := { frames := 2, cells := 0, slots := 0, locals := 43 }
theorem ok_x_G_line : CalV y_G_line b_G_line 4 (some .int) 3 rm_x_G_line := ⟨kc_G_line, ki_G_line, kl_G_line, ji_G, ⟨by decide, by decide, by decide +kernel⟩, rfl, rfl⟩
set_option maxHeartbeats 4000000 in
set_option maxRecDepth 100000 in
theorem w_x_G_line {z : Int32 × St} (X : Cx b_G_line 4 (some .int) R_G D [(cI, .int), (cZ, .boolean), (cJ, .long)] (xA ao aa) (xW cI cZ cJ ao aa) p s m args meth c) (S : St) (x0 : Int32) (x1 : Int32) (x2 : Int32) (hf : x_G_line S x0 x1 x2 = some z) : WX rm_x_G_line D (xA ao aa) (xW cI cZ cJ ao aa) p l e s m args below meth c (some (.int z.1)) z.2 0 [] 4 [(0, .ref (ao 27)), (1, .int x0), (2, .int x1), (3, .int x2)] S := by
  intro H locs ls hP hS hl
  obtain ⟨hx, hb, hr0, hml, hown, htg, hlk, hK, hN, hI⟩ := id X
  unfold x_G_line at hf
  refine lv_aload_n hx hb d_G_line_0 rfl (lv_at hl 0 rfl) ?_
  refine va_get (D := D) (v := .ref (ao 22)) hx hb htg in_G hown hK hP 27 xo_27 rfl 1 (by decide) (htg _ k_f_G_19) (fun _ h9 => h9) rfl d_G_line_1 ?_
  refine lv_iload_n hx hb d_G_line_4 rfl (lv_at hl 1 rfl) ?_
  obtain ⟨q1, he, hf⟩ := ob_some hf
  refine cl_Vi (As := [.int x0]) (rest := []) X (c_x_Verbs_has he) ok_x_Verbs_has k_m_G_102 (va_recv hK hP rfl xo_22) rfl rfl hl.1 (Nat.le_of_ble_eq_true rfl) d_G_line_5 ⟨by decide, by decide⟩ hP hS (fun H locs hP hS => ?_)
  refine lv_if_ne (tgt := 14) hx hb d_G_line_8 (by decide) (fun c => ?_) (fun c => ?_)
  · have hf := if_f hf c
    refine lv_iload_n hx hb d_G_line_14 rfl (lv_at hl 2 rfl) ?_
    refine lv_iconst (v := 1) hx hb d_G_line_15 (by decide) ?_
    refine lv_icmp_lt (tgt := 26) hx hb d_G_line_16 (by decide) (fun c => ?_) (fun c => ?_)
    · have hf := if_t hf c
      refine lv_bipush (v := (-102)) hx hb d_G_line_26 (by decide) ?_
      obtain rfl := Option.some.inj hf
      exact W.iret hx hb hr0 (fun t ht _ => ⟨⟨rfl, by rw [ht]; exact hP⟩, hS.F ht⟩) hS.2.2 d_G_line_28 hlk
    · have hf := if_f hf c
      refine lv_iload_n hx hb d_G_line_19 rfl (lv_at hl 2 rfl) ?_
      refine lv_sipush (v := 9999) hx hb d_G_line_20 (by decide) ?_
      refine lv_icmp_le (tgt := 29) hx hb d_G_line_23 (by decide) (fun c => ?_) (fun c => ?_)
      · have hf := if_t hf c
        refine lv_aload_n hx hb d_G_line_29 rfl (lv_at hl 0 rfl) ?_
        refine va_get (D := D) (v := .ref (ao 23)) hx hb htg in_G hown hK hP 27 xo_27 rfl 2 (by decide) (htg _ k_f_G_26) (fun _ h9 => h9) rfl d_G_line_30 ?_
        obtain ⟨q2, he, hf⟩ := ob_some hf
        refine cl_Vi (As := []) (rest := []) X (c_x_Lines_isFull he) ok_x_Lines_isFull k_m_G_109 (va_recv hK hP rfl xo_23) rfl rfl hl.1 (Nat.le_of_ble_eq_true rfl) d_G_line_33 ⟨by decide, by decide⟩ hP hS (fun H locs hP hS => ?_)
        refine lv_if_eq (tgt := 42) hx hb d_G_line_36 (by decide) (fun c => ?_) (fun c => ?_)
        · have hf := if_t hf c
          refine lv_aload_n hx hb d_G_line_42 rfl (lv_at hl 0 rfl) ?_
          refine va_get (D := D) (v := .ref (ao 23)) hx hb htg in_G hown hK hP 27 xo_27 rfl 2 (by decide) (htg _ k_f_G_26) (fun _ h9 => h9) rfl d_G_line_43 ?_
          refine lv_iload_n hx hb d_G_line_46 rfl (lv_at hl 1 rfl) ?_
          refine lv_iload_n hx hb d_G_line_47 rfl (lv_at hl 2 rfl) ?_
          refine lv_iload_n hx hb d_G_line_48 rfl (lv_at hl 3 rfl) ?_
          obtain ⟨q3, he, hf⟩ := ob_some hf
          refine cl_Vi (As := [.int x0, .int x1, .int x2]) (rest := []) X (c_x_Lines_add he) ok_x_Lines_add k_m_G_110 (va_recv hK hP rfl xo_23) rfl rfl hl.1 (Nat.le_of_ble_eq_true rfl) d_G_line_49 ⟨by decide, by decide⟩ hP hS (fun H locs hP hS => ?_)
          obtain rfl := Option.some.inj hf
          exact W.iret hx hb hr0 (fun t ht _ => ⟨⟨rfl, by rw [ht]; exact hP⟩, hS.F ht⟩) hS.2.2 d_G_line_52 hlk
        · have hf := if_f hf c
          refine lv_bipush (v := (-104)) hx hb d_G_line_39 (by decide) ?_
          obtain rfl := Option.some.inj hf
          exact W.iret hx hb hr0 (fun t ht _ => ⟨⟨rfl, by rw [ht]; exact hP⟩, hS.F ht⟩) hS.2.2 d_G_line_41 hlk
      · have hf := if_f hf c
        refine lv_bipush (v := (-102)) hx hb d_G_line_26 (by decide) ?_
        obtain rfl := Option.some.inj hf
        exact W.iret hx hb hr0 (fun t ht _ => ⟨⟨rfl, by rw [ht]; exact hP⟩, hS.F ht⟩) hS.2.2 d_G_line_28 hlk
  · have hf := if_t hf c
    refine lv_bipush (v := (-101)) hx hb d_G_line_11 (by decide) ?_
    obtain rfl := Option.some.inj hf
    exact W.iret hx hb hr0 (fun t ht _ => ⟨⟨rfl, by rw [ht]; exact hP⟩, hS.F ht⟩) hS.2.2 d_G_line_13 hlk
theorem c_x_G_line {l : Launch} {D : va_G} {cI cZ cJ : ClassId} {ao aa : Nat → Nat} {S : St} {x0 : Int32} {x1 : Int32} {x2 : Int32} {z : Int32 × St} (hz : x_G_line S x0 x1 x2 = some z) : Ct l y_G_line (.code y_G_line b_G_line 4 (some .int) :: gw) rm_x_G_line D [(cI, .int), (cZ, .boolean), (cJ, .long)] (xA ao aa) (xW cI cZ cJ ao aa) [.ref (ao 27), .int x0, .int x1, .int x2] S (some (.int z.1)) z.2 :=
  Ct_of (by decide) (fun p e s m args below meth c X => w_x_G_line X _ _ _ _ hz) (Nat.le_of_ble_eq_true rfl)
def x_Lines_has (S : St) (x0 : Int32) : Option (Int32 × St) :=
  if x0 < 0 then
    some ((0 : Int32), S)
  else
    if (gI S 25) ≤ x0 then
      some ((0 : Int32), S)
    else
      some ((1 : Int32), S)
def rm_x_Lines_has : Room := { frames := 0, cells := 0, slots := 0, locals := 0 }
theorem ok_x_Lines_has : CalV y_Lines_has b_Lines_has 2 (some .boolean) 1 rm_x_Lines_has := ⟨kc_Lines_has, ki_Lines_has, kl_Lines_has, ji_Lines, ⟨by decide, by decide, by decide +kernel⟩, rfl, rfl⟩
set_option maxHeartbeats 4000000 in
set_option maxRecDepth 100000 in
theorem w_x_Lines_has {z : Int32 × St} (X : Cx b_Lines_has 2 (some .boolean) R_Lines D [(cI, .int), (cZ, .boolean), (cJ, .long)] (xA ao aa) (xW cI cZ cJ ao aa) p s m args meth c) (S : St) (x0 : Int32) (hf : x_Lines_has S x0 = some z) : WX rm_x_Lines_has D (xA ao aa) (xW cI cZ cJ ao aa) p l e s m args below meth c (some (.int z.1)) z.2 0 [] 2 [(0, .ref (ao 23)), (1, .int x0)] S := by
  intro H locs ls hP hS hl
  obtain ⟨hx, hb, hr0, hml, hown, htg, hlk, hK, hN, hI⟩ := id X
  unfold x_Lines_has at hf
  refine lv_iload_n hx hb d_Lines_has_0 rfl (lv_at hl 1 rfl) ?_
  refine lv_if_lt (tgt := 16) hx hb d_Lines_has_1 (by decide) (fun c => ?_) (fun c => ?_)
  · have hf := if_t hf c
    refine lv_iconst (v := 0) hx hb d_Lines_has_16 (by decide) ?_
    obtain rfl := Option.some.inj hf
    exact W.zret (ty := .boolean) hx hb hr0 rfl (fun t ht _ => ⟨⟨rfl, by rw [ht]; exact hP⟩, hS.F ht⟩) hS.2.2 d_Lines_has_17 hlk
  · have hf := if_f hf c
    refine lv_iload_n hx hb d_Lines_has_4 rfl (lv_at hl 1 rfl) ?_
    refine lv_aload_n hx hb d_Lines_has_5 rfl (lv_at hl 0 rfl) ?_
    refine va_get (D := D) (v := .int (gI S 25)) hx hb htg in_Lines hown hK hP 23 xo_23 rfl 6 (by decide) (htg _ k_f_Lines_31) (fun _ h9 => h9) rfl d_Lines_has_6 ?_
    refine lv_icmp_ge (tgt := 16) hx hb d_Lines_has_9 (by decide) (fun c => ?_) (fun c => ?_)
    · have hf := if_t hf c
      refine lv_iconst (v := 0) hx hb d_Lines_has_16 (by decide) ?_
      obtain rfl := Option.some.inj hf
      exact W.zret (ty := .boolean) hx hb hr0 rfl (fun t ht _ => ⟨⟨rfl, by rw [ht]; exact hP⟩, hS.F ht⟩) hS.2.2 d_Lines_has_17 hlk
    · have hf := if_f hf c
      refine lv_iconst (v := 1) hx hb d_Lines_has_12 (by decide) ?_
      refine lv_goto (tgt := 17) hx hb d_Lines_has_13 (by decide) ?_
      obtain rfl := Option.some.inj hf
      exact W.zret (ty := .boolean) hx hb hr0 rfl (fun t ht _ => ⟨⟨rfl, by rw [ht]; exact hP⟩, hS.F ht⟩) hS.2.2 d_Lines_has_17 hlk
theorem c_x_Lines_has {l : Launch} {D : va_G} {cI cZ cJ : ClassId} {ao aa : Nat → Nat} {S : St} {x0 : Int32} {z : Int32 × St} (hz : x_Lines_has S x0 = some z) : Ct l y_Lines_has (.code y_Lines_has b_Lines_has 2 (some .boolean) :: gw) rm_x_Lines_has D [(cI, .int), (cZ, .boolean), (cJ, .long)] (xA ao aa) (xW cI cZ cJ ao aa) [.ref (ao 23), .int x0] S (some (.int z.1)) z.2 :=
  Ct_of (by decide) (fun p e s m args below meth c X => w_x_Lines_has X _ _ hz) (Nat.le_of_ble_eq_true rfl)
def x_G_mayBeToken_b21 (S : St) (x1 : Int32) : Option (Int32 × St) :=
  (x_G_isPlainWord S x1).bind fun q1 =>
  gd (isB q1.1) <|
  some (q1.1, q1.2)
def x_G_mayBeToken (S : St) (x0 : Int32) (x1 : Int32) : Option (Int32 × St) :=
  if x0 < 0 then
    some ((0 : Int32), S)
  else
    if x0 ≤ (11 : Int32) then
      if x0 = 0 then
        x_G_mayBeToken_b21 S x1
      else
        if x0 = (1 : Int32) then
          x_G_mayBeToken_b21 S x1
        else
          if x0 = (11 : Int32) then
            if x1 < 0 then
              some ((0 : Int32), S)
            else
              if (9 : Int32) < x1 then
                some ((0 : Int32), S)
              else
                some ((1 : Int32), S)
          else
            some ((1 : Int32), S)
    else
      some ((0 : Int32), S)
def rm_x_G_mayBeToken : Room := { frames := 1, cells := 0, slots := 0, locals := 20 }
theorem ok_x_G_mayBeToken : CalS y_G_mayBeToken b_G_mayBeToken 2 (some .boolean) 2 rm_x_G_mayBeToken := ⟨kc_G_mayBeToken, ks_G_mayBeToken, ji_G, ⟨by decide, by decide, by decide +kernel⟩, rfl, rfl⟩
set_option maxHeartbeats 4000000 in
set_option maxRecDepth 100000 in
theorem w_x_G_mayBeToken_b21 {z : Int32 × St} (X : Cx b_G_mayBeToken 2 (some .boolean) R_G D [(cI, .int), (cZ, .boolean), (cJ, .long)] (xA ao aa) (xW cI cZ cJ ao aa) p s m args meth c) (S : St) (x1 : Int32) (hf : x_G_mayBeToken_b21 S x1 = some z) : WX rm_x_G_mayBeToken D (xA ao aa) (xW cI cZ cJ ao aa) p l e s m args below meth c (some (.int z.1)) z.2 21 [] 2 [(1, .int x1)] S := by
  intro H locs ls hP hS hl
  obtain ⟨hx, hb, hr0, hml, hown, htg, hlk, hK, hN, hI⟩ := id X
  unfold x_G_mayBeToken_b21 at hf
  refine lv_iload_n hx hb d_G_mayBeToken_21 rfl (lv_at hl 0 rfl) ?_
  obtain ⟨q1, he, hf⟩ := ob_some hf
  refine cl_Si (As := [.int x1]) (rest := []) X (c_x_G_isPlainWord he) ok_x_G_isPlainWord k_m_G_134 rfl rfl hl.1 (Nat.le_of_ble_eq_true rfl) d_G_mayBeToken_22 ⟨by decide, by decide⟩ hP hS (fun H locs hP hS => ?_)
  obtain ⟨hg, hf⟩ := gd_some hf
  obtain rfl := Option.some.inj hf
  exact W.zret (ty := .boolean) hx hb hr0 (isB_n hg) (fun t ht _ => ⟨⟨rfl, by rw [ht]; exact hP⟩, hS.F ht⟩) hS.2.2 d_G_mayBeToken_25 hlk
set_option maxHeartbeats 4000000 in
set_option maxRecDepth 100000 in
theorem w_x_G_mayBeToken {z : Int32 × St} (X : Cx b_G_mayBeToken 2 (some .boolean) R_G D [(cI, .int), (cZ, .boolean), (cJ, .long)] (xA ao aa) (xW cI cZ cJ ao aa) p s m args meth c) (S : St) (x0 : Int32) (x1 : Int32) (hf : x_G_mayBeToken S x0 x1 = some z) : WX rm_x_G_mayBeToken D (xA ao aa) (xW cI cZ cJ ao aa) p l e s m args below meth c (some (.int z.1)) z.2 0 [] 2 [(0, .int x0), (1, .int x1)] S := by
  intro H locs ls hP hS hl
  obtain ⟨hx, hb, hr0, hml, hown, htg, hlk, hK, hN, hI⟩ := id X
  unfold x_G_mayBeToken at hf
  refine lv_iload_n hx hb d_G_mayBeToken_0 rfl (lv_at hl 0 rfl) ?_
  refine lv_if_lt (tgt := 10) hx hb d_G_mayBeToken_1 (by decide) (fun c => ?_) (fun c => ?_)
  · have hf := if_t hf c
    refine lv_iconst (v := 0) hx hb d_G_mayBeToken_10 (by decide) ?_
    obtain rfl := Option.some.inj hf
    exact W.zret (ty := .boolean) hx hb hr0 rfl (fun t ht _ => ⟨⟨rfl, by rw [ht]; exact hP⟩, hS.F ht⟩) hS.2.2 d_G_mayBeToken_11 hlk
  · have hf := if_f hf c
    refine lv_iload_n hx hb d_G_mayBeToken_4 rfl (lv_at hl 0 rfl) ?_
    refine lv_bipush (v := 11) hx hb d_G_mayBeToken_5 (by decide) ?_
    refine lv_icmp_le (tgt := 12) hx hb d_G_mayBeToken_7 (by decide) (fun c => ?_) (fun c => ?_)
    · have hf := if_t hf c
      refine lv_iload_n hx hb d_G_mayBeToken_12 rfl (lv_at hl 0 rfl) ?_
      refine lv_if_eq (tgt := 21) hx hb d_G_mayBeToken_13 (by decide) (fun c => ?_) (fun c => ?_)
      · have hf := if_t hf c
        exact w_x_G_mayBeToken_b21 X _ _ hf H locs ls hP hS (lv_sub hl [1] rfl)
      · have hf := if_f hf c
        refine lv_iload_n hx hb d_G_mayBeToken_16 rfl (lv_at hl 0 rfl) ?_
        refine lv_iconst (v := 1) hx hb d_G_mayBeToken_17 (by decide) ?_
        refine lv_icmp_ne (tgt := 26) hx hb d_G_mayBeToken_18 (by decide) (fun c => ?_) (fun c => ?_)
        · have hf := if_f hf c
          refine lv_iload_n hx hb d_G_mayBeToken_26 rfl (lv_at hl 0 rfl) ?_
          refine lv_bipush (v := 11) hx hb d_G_mayBeToken_27 (by decide) ?_
          refine lv_icmp_ne (tgt := 42) hx hb d_G_mayBeToken_29 (by decide) (fun c => ?_) (fun c => ?_)
          · have hf := if_f hf c
            refine lv_iconst (v := 1) hx hb d_G_mayBeToken_42 (by decide) ?_
            refine lv_goto (tgt := 47) hx hb d_G_mayBeToken_43 (by decide) ?_
            obtain rfl := Option.some.inj hf
            exact W.zret (ty := .boolean) hx hb hr0 rfl (fun t ht _ => ⟨⟨rfl, by rw [ht]; exact hP⟩, hS.F ht⟩) hS.2.2 d_G_mayBeToken_47 hlk
          · have hf := if_t hf c
            refine lv_iload_n hx hb d_G_mayBeToken_32 rfl (lv_at hl 1 rfl) ?_
            refine lv_if_lt (tgt := 46) hx hb d_G_mayBeToken_33 (by decide) (fun c => ?_) (fun c => ?_)
            · have hf := if_t hf c
              refine lv_iconst (v := 0) hx hb d_G_mayBeToken_46 (by decide) ?_
              obtain rfl := Option.some.inj hf
              exact W.zret (ty := .boolean) hx hb hr0 rfl (fun t ht _ => ⟨⟨rfl, by rw [ht]; exact hP⟩, hS.F ht⟩) hS.2.2 d_G_mayBeToken_47 hlk
            · have hf := if_f hf c
              refine lv_iload_n hx hb d_G_mayBeToken_36 rfl (lv_at hl 1 rfl) ?_
              refine lv_bipush (v := 9) hx hb d_G_mayBeToken_37 (by decide) ?_
              refine lv_icmp_gt (tgt := 46) hx hb d_G_mayBeToken_39 (by decide) (fun c => ?_) (fun c => ?_)
              · have hf := if_t hf c
                refine lv_iconst (v := 0) hx hb d_G_mayBeToken_46 (by decide) ?_
                obtain rfl := Option.some.inj hf
                exact W.zret (ty := .boolean) hx hb hr0 rfl (fun t ht _ => ⟨⟨rfl, by rw [ht]; exact hP⟩, hS.F ht⟩) hS.2.2 d_G_mayBeToken_47 hlk
              · have hf := if_f hf c
                refine lv_iconst (v := 1) hx hb d_G_mayBeToken_42 (by decide) ?_
                refine lv_goto (tgt := 47) hx hb d_G_mayBeToken_43 (by decide) ?_
                obtain rfl := Option.some.inj hf
                exact W.zret (ty := .boolean) hx hb hr0 rfl (fun t ht _ => ⟨⟨rfl, by rw [ht]; exact hP⟩, hS.F ht⟩) hS.2.2 d_G_mayBeToken_47 hlk
        · have hf := if_t hf c
          exact w_x_G_mayBeToken_b21 X _ _ hf H locs ls hP hS (lv_sub hl [1] rfl)
    · have hf := if_f hf c
      refine lv_iconst (v := 0) hx hb d_G_mayBeToken_10 (by decide) ?_
      obtain rfl := Option.some.inj hf
      exact W.zret (ty := .boolean) hx hb hr0 rfl (fun t ht _ => ⟨⟨rfl, by rw [ht]; exact hP⟩, hS.F ht⟩) hS.2.2 d_G_mayBeToken_11 hlk
theorem c_x_G_mayBeToken {l : Launch} {D : va_G} {cI cZ cJ : ClassId} {ao aa : Nat → Nat} {S : St} {x0 : Int32} {x1 : Int32} {z : Int32 × St} (hz : x_G_mayBeToken S x0 x1 = some z) : Ct l y_G_mayBeToken (.code y_G_mayBeToken b_G_mayBeToken 2 (some .boolean) :: gw) rm_x_G_mayBeToken D [(cI, .int), (cZ, .boolean), (cJ, .long)] (xA ao aa) (xW cI cZ cJ ao aa) [.int x0, .int x1] S (some (.int z.1)) z.2 :=
  Ct_of (by decide) (fun p e s m args below meth c X => w_x_G_mayBeToken X _ _ _ hz) (Nat.le_of_ble_eq_true rfl)
def x_Lines_kindsOf (S : St) (x0 : Int32) : Option (Int32 × St) :=
  (x_Lines_has S x0).bind fun q1 =>
  if q1.1 = 0 then
    some ((0 : Int32), q1.2)
  else
    gd (vin x0 60) <|
    some ((gA q1.2 23 x0.toNatClampNeg), q1.2)
def rm_x_Lines_kindsOf : Room := { frames := 1, cells := 0, slots := 0, locals := 21 }
theorem ok_x_Lines_kindsOf : CalV y_Lines_kindsOf b_Lines_kindsOf 2 (some .int) 1 rm_x_Lines_kindsOf := ⟨kc_Lines_kindsOf, ki_Lines_kindsOf, kl_Lines_kindsOf, ji_Lines, ⟨by decide, by decide, by decide +kernel⟩, rfl, rfl⟩
set_option maxHeartbeats 4000000 in
set_option maxRecDepth 100000 in
theorem w_x_Lines_kindsOf {z : Int32 × St} (X : Cx b_Lines_kindsOf 2 (some .int) R_Lines D [(cI, .int), (cZ, .boolean), (cJ, .long)] (xA ao aa) (xW cI cZ cJ ao aa) p s m args meth c) (S : St) (x0 : Int32) (hf : x_Lines_kindsOf S x0 = some z) : WX rm_x_Lines_kindsOf D (xA ao aa) (xW cI cZ cJ ao aa) p l e s m args below meth c (some (.int z.1)) z.2 0 [] 2 [(0, .ref (ao 23)), (1, .int x0)] S := by
  intro H locs ls hP hS hl
  obtain ⟨hx, hb, hr0, hml, hown, htg, hlk, hK, hN, hI⟩ := id X
  unfold x_Lines_kindsOf at hf
  refine lv_aload_n hx hb d_Lines_kindsOf_0 rfl (lv_at hl 0 rfl) ?_
  refine lv_iload_n hx hb d_Lines_kindsOf_1 rfl (lv_at hl 1 rfl) ?_
  obtain ⟨q1, he, hf⟩ := ob_some hf
  refine cl_Vi (As := [.int x0]) (rest := []) X (c_x_Lines_has he) ok_x_Lines_has k_m_Lines_39 (va_recv hK hP rfl xo_23) rfl rfl hl.1 (Nat.le_of_ble_eq_true rfl) d_Lines_kindsOf_2 ⟨by decide, by decide⟩ hP hS (fun H locs hP hS => ?_)
  refine lv_if_eq (tgt := 17) hx hb d_Lines_kindsOf_5 (by decide) (fun c => ?_) (fun c => ?_)
  · have hf := if_t hf c
    refine lv_iconst (v := 0) hx hb d_Lines_kindsOf_17 (by decide) ?_
    obtain rfl := Option.some.inj hf
    exact W.iret hx hb hr0 (fun t ht _ => ⟨⟨rfl, by rw [ht]; exact hP⟩, hS.F ht⟩) hS.2.2 d_Lines_kindsOf_18 hlk
  · have hf := if_f hf c
    refine lv_aload_n hx hb d_Lines_kindsOf_8 rfl (lv_at hl 0 rfl) ?_
    refine va_get (D := D) (v := .ref (aa 23)) hx hb htg in_Lines hown hK hP 23 xo_23 rfl 3 (by decide) (htg _ k_f_Lines_22) (fun _ h9 => h9) rfl d_Lines_kindsOf_9 ?_
    refine lv_iload_n hx hb d_Lines_kindsOf_12 rfl (lv_at hl 1 rfl) ?_
    obtain ⟨hg, hf⟩ := gd_some hf
    refine va_iald hx hb hK hP 51 0 xa_23 rfl (vin_in hg) d_Lines_kindsOf_13 ?_
    refine lv_goto (tgt := 18) hx hb d_Lines_kindsOf_14 (by decide) ?_
    obtain rfl := Option.some.inj hf
    exact W.iret hx hb hr0 (fun t ht _ => ⟨⟨rfl, by rw [ht]; exact hP⟩, hS.F ht⟩) hS.2.2 d_Lines_kindsOf_18 hlk
theorem c_x_Lines_kindsOf {l : Launch} {D : va_G} {cI cZ cJ : ClassId} {ao aa : Nat → Nat} {S : St} {x0 : Int32} {z : Int32 × St} (hz : x_Lines_kindsOf S x0 = some z) : Ct l y_Lines_kindsOf (.code y_Lines_kindsOf b_Lines_kindsOf 2 (some .int) :: gw) rm_x_Lines_kindsOf D [(cI, .int), (cZ, .boolean), (cJ, .long)] (xA ao aa) (xW cI cZ cJ ao aa) [.ref (ao 23), .int x0] S (some (.int z.1)) z.2 :=
  Ct_of (by decide) (fun p e s m args below meth c X => w_x_Lines_kindsOf X _ _ hz) (Nat.le_of_ble_eq_true rfl)
def x_Lines_kindAt (S : St) (x0 : Int32) (x1 : Int32) : Option (Int32 × St) :=
  (x_Lines_has S x0).bind fun q1 =>
  if q1.1 = 0 then
    some ((-1 : Int32), q1.2)
  else
    if x1 < 0 then
      some ((-1 : Int32), q1.2)
    else
      gd (vin x0 60) <|
      if (gA q1.2 23 x0.toNatClampNeg) ≤ x1 then
        some ((-1 : Int32), q1.2)
      else
        gd (vin ((x0 * (8 : Int32)) + x1) 480) <|
        some ((gA q1.2 24 ((x0 * (8 : Int32)) + x1).toNatClampNeg), q1.2)
def rm_x_Lines_kindAt : Room := { frames := 1, cells := 0, slots := 0, locals := 21 }
theorem ok_x_Lines_kindAt : CalV y_Lines_kindAt b_Lines_kindAt 3 (some .int) 2 rm_x_Lines_kindAt := ⟨kc_Lines_kindAt, ki_Lines_kindAt, kl_Lines_kindAt, ji_Lines, ⟨by decide, by decide, by decide +kernel⟩, rfl, rfl⟩
set_option maxHeartbeats 4000000 in
set_option maxRecDepth 100000 in
theorem w_x_Lines_kindAt {z : Int32 × St} (X : Cx b_Lines_kindAt 3 (some .int) R_Lines D [(cI, .int), (cZ, .boolean), (cJ, .long)] (xA ao aa) (xW cI cZ cJ ao aa) p s m args meth c) (S : St) (x0 : Int32) (x1 : Int32) (hf : x_Lines_kindAt S x0 x1 = some z) : WX rm_x_Lines_kindAt D (xA ao aa) (xW cI cZ cJ ao aa) p l e s m args below meth c (some (.int z.1)) z.2 0 [] 3 [(0, .ref (ao 23)), (1, .int x0), (2, .int x1)] S := by
  intro H locs ls hP hS hl
  obtain ⟨hx, hb, hr0, hml, hown, htg, hlk, hK, hN, hI⟩ := id X
  unfold x_Lines_kindAt at hf
  refine lv_aload_n hx hb d_Lines_kindAt_0 rfl (lv_at hl 0 rfl) ?_
  refine lv_iload_n hx hb d_Lines_kindAt_1 rfl (lv_at hl 1 rfl) ?_
  obtain ⟨q1, he, hf⟩ := ob_some hf
  refine cl_Vi (As := [.int x0]) (rest := []) X (c_x_Lines_has he) ok_x_Lines_has k_m_Lines_39 (va_recv hK hP rfl xo_23) rfl rfl hl.1 (Nat.le_of_ble_eq_true rfl) d_Lines_kindAt_2 ⟨by decide, by decide⟩ hP hS (fun H locs hP hS => ?_)
  refine lv_if_eq (tgt := 36) hx hb d_Lines_kindAt_5 (by decide) (fun c => ?_) (fun c => ?_)
  · have hf := if_t hf c
    refine lv_iconst (v := (-1)) hx hb d_Lines_kindAt_36 (by decide) ?_
    obtain rfl := Option.some.inj hf
    exact W.iret hx hb hr0 (fun t ht _ => ⟨⟨rfl, by rw [ht]; exact hP⟩, hS.F ht⟩) hS.2.2 d_Lines_kindAt_37 hlk
  · have hf := if_f hf c
    refine lv_iload_n hx hb d_Lines_kindAt_8 rfl (lv_at hl 2 rfl) ?_
    refine lv_if_lt (tgt := 36) hx hb d_Lines_kindAt_9 (by decide) (fun c => ?_) (fun c => ?_)
    · have hf := if_t hf c
      refine lv_iconst (v := (-1)) hx hb d_Lines_kindAt_36 (by decide) ?_
      obtain rfl := Option.some.inj hf
      exact W.iret hx hb hr0 (fun t ht _ => ⟨⟨rfl, by rw [ht]; exact hP⟩, hS.F ht⟩) hS.2.2 d_Lines_kindAt_37 hlk
    · have hf := if_f hf c
      refine lv_iload_n hx hb d_Lines_kindAt_12 rfl (lv_at hl 2 rfl) ?_
      refine lv_aload_n hx hb d_Lines_kindAt_13 rfl (lv_at hl 0 rfl) ?_
      refine va_get (D := D) (v := .ref (aa 23)) hx hb htg in_Lines hown hK hP 23 xo_23 rfl 3 (by decide) (htg _ k_f_Lines_22) (fun _ h9 => h9) rfl d_Lines_kindAt_14 ?_
      refine lv_iload_n hx hb d_Lines_kindAt_17 rfl (lv_at hl 1 rfl) ?_
      obtain ⟨hg, hf⟩ := gd_some hf
      refine va_iald hx hb hK hP 51 0 xa_23 rfl (vin_in hg) d_Lines_kindAt_18 ?_
      refine lv_icmp_ge (tgt := 36) hx hb d_Lines_kindAt_19 (by decide) (fun c => ?_) (fun c => ?_)
      · have hf := if_t hf c
        refine lv_iconst (v := (-1)) hx hb d_Lines_kindAt_36 (by decide) ?_
        obtain rfl := Option.some.inj hf
        exact W.iret hx hb hr0 (fun t ht _ => ⟨⟨rfl, by rw [ht]; exact hP⟩, hS.F ht⟩) hS.2.2 d_Lines_kindAt_37 hlk
      · have hf := if_f hf c
        refine lv_aload_n hx hb d_Lines_kindAt_22 rfl (lv_at hl 0 rfl) ?_
        refine va_get (D := D) (v := .ref (aa 24)) hx hb htg in_Lines hown hK hP 23 xo_23 rfl 4 (by decide) (htg _ k_f_Lines_25) (fun _ h9 => h9) rfl d_Lines_kindAt_23 ?_
        refine lv_iload_n hx hb d_Lines_kindAt_26 rfl (lv_at hl 1 rfl) ?_
        refine lv_bipush (v := 8) hx hb d_Lines_kindAt_27 (by decide) ?_
        refine lv_imul hx hb d_Lines_kindAt_29 ?_
        refine lv_iload_n hx hb d_Lines_kindAt_30 rfl (lv_at hl 2 rfl) ?_
        refine lv_iadd hx hb d_Lines_kindAt_31 ?_
        obtain ⟨hg, hf⟩ := gd_some hf
        refine va_iald hx hb hK hP 52 0 xa_24 rfl (vin_in hg) d_Lines_kindAt_32 ?_
        refine lv_goto (tgt := 37) hx hb d_Lines_kindAt_33 (by decide) ?_
        obtain rfl := Option.some.inj hf
        exact W.iret hx hb hr0 (fun t ht _ => ⟨⟨rfl, by rw [ht]; exact hP⟩, hS.F ht⟩) hS.2.2 d_Lines_kindAt_37 hlk
theorem c_x_Lines_kindAt {l : Launch} {D : va_G} {cI cZ cJ : ClassId} {ao aa : Nat → Nat} {S : St} {x0 : Int32} {x1 : Int32} {z : Int32 × St} (hz : x_Lines_kindAt S x0 x1 = some z) : Ct l y_Lines_kindAt (.code y_Lines_kindAt b_Lines_kindAt 3 (some .int) :: gw) rm_x_Lines_kindAt D [(cI, .int), (cZ, .boolean), (cJ, .long)] (xA ao aa) (xW cI cZ cJ ao aa) [.ref (ao 23), .int x0, .int x1] S (some (.int z.1)) z.2 :=
  Ct_of (by decide) (fun p e s m args below meth c X => w_x_Lines_kindAt X _ _ _ hz) (Nat.le_of_ble_eq_true rfl)
def x_G_isSlot (S : St) (x0 : Int32) : Option (Int32 × St) :=
  if x0 < (2 : Int32) then
    some ((0 : Int32), S)
  else
    if (11 : Int32) < x0 then
      some ((0 : Int32), S)
    else
      some ((1 : Int32), S)
def rm_x_G_isSlot : Room := { frames := 0, cells := 0, slots := 0, locals := 0 }
theorem ok_x_G_isSlot : CalS y_G_isSlot b_G_isSlot 1 (some .boolean) 1 rm_x_G_isSlot := ⟨kc_G_isSlot, ks_G_isSlot, ji_G, ⟨by decide, by decide, by decide +kernel⟩, rfl, rfl⟩
set_option maxHeartbeats 4000000 in
set_option maxRecDepth 100000 in
theorem w_x_G_isSlot {z : Int32 × St} (X : Cx b_G_isSlot 1 (some .boolean) R_G D [(cI, .int), (cZ, .boolean), (cJ, .long)] (xA ao aa) (xW cI cZ cJ ao aa) p s m args meth c) (S : St) (x0 : Int32) (hf : x_G_isSlot S x0 = some z) : WX rm_x_G_isSlot D (xA ao aa) (xW cI cZ cJ ao aa) p l e s m args below meth c (some (.int z.1)) z.2 0 [] 1 [(0, .int x0)] S := by
  intro H locs ls hP hS hl
  obtain ⟨hx, hb, hr0, hml, hown, htg, hlk, hK, hN, hI⟩ := id X
  unfold x_G_isSlot at hf
  refine lv_iload_n hx hb d_G_isSlot_0 rfl (lv_at hl 0 rfl) ?_
  refine lv_iconst (v := 2) hx hb d_G_isSlot_1 (by decide) ?_
  refine lv_icmp_lt (tgt := 15) hx hb d_G_isSlot_2 (by decide) (fun c => ?_) (fun c => ?_)
  · have hf := if_t hf c
    refine lv_iconst (v := 0) hx hb d_G_isSlot_15 (by decide) ?_
    obtain rfl := Option.some.inj hf
    exact W.zret (ty := .boolean) hx hb hr0 rfl (fun t ht _ => ⟨⟨rfl, by rw [ht]; exact hP⟩, hS.F ht⟩) hS.2.2 d_G_isSlot_16 hlk
  · have hf := if_f hf c
    refine lv_iload_n hx hb d_G_isSlot_5 rfl (lv_at hl 0 rfl) ?_
    refine lv_bipush (v := 11) hx hb d_G_isSlot_6 (by decide) ?_
    refine lv_icmp_gt (tgt := 15) hx hb d_G_isSlot_8 (by decide) (fun c => ?_) (fun c => ?_)
    · have hf := if_t hf c
      refine lv_iconst (v := 0) hx hb d_G_isSlot_15 (by decide) ?_
      obtain rfl := Option.some.inj hf
      exact W.zret (ty := .boolean) hx hb hr0 rfl (fun t ht _ => ⟨⟨rfl, by rw [ht]; exact hP⟩, hS.F ht⟩) hS.2.2 d_G_isSlot_16 hlk
    · have hf := if_f hf c
      refine lv_iconst (v := 1) hx hb d_G_isSlot_11 (by decide) ?_
      refine lv_goto (tgt := 16) hx hb d_G_isSlot_12 (by decide) ?_
      obtain rfl := Option.some.inj hf
      exact W.zret (ty := .boolean) hx hb hr0 rfl (fun t ht _ => ⟨⟨rfl, by rw [ht]; exact hP⟩, hS.F ht⟩) hS.2.2 d_G_isSlot_16 hlk
theorem c_x_G_isSlot {l : Launch} {D : va_G} {cI cZ cJ : ClassId} {ao aa : Nat → Nat} {S : St} {x0 : Int32} {z : Int32 × St} (hz : x_G_isSlot S x0 = some z) : Ct l y_G_isSlot (.code y_G_isSlot b_G_isSlot 1 (some .boolean) :: gw) rm_x_G_isSlot D [(cI, .int), (cZ, .boolean), (cJ, .long)] (xA ao aa) (xW cI cZ cJ ao aa) [.int x0] S (some (.int z.1)) z.2 :=
  Ct_of (by decide) (fun p e s m args below meth c X => w_x_G_isSlot X _ _ hz) (Nat.le_of_ble_eq_true rfl)
def x_Lines_slotsOf_b28 (k4 : St → Int32 → Int32 → Int32 → Option (Int32 × St)) (S : St) (x1 : Int32) (x2 : Int32) (x3 : Int32) : Option (Int32 × St) :=
  k4 S x1 x2 (x3 + 1)
def x_Lines_slotsOf_b4_f (k4 : St → Int32 → Int32 → Int32 → Option (Int32 × St)) (S : St) (x1 : Int32) (x2 : Int32) (x3 : Int32) : Option (Int32 × St) :=
  (x_Lines_kindsOf S x1).bind fun q1 =>
  if q1.1 ≤ x3 then
    some (x2, q1.2)
  else
    (x_Lines_kindAt q1.2 x1 x3).bind fun q2 =>
    (x_G_isSlot q2.2 q2.1).bind fun q3 =>
    if q3.1 = 0 then
      x_Lines_slotsOf_b28 k4 q3.2 x1 x2 x3
    else
      x_Lines_slotsOf_b28 k4 q3.2 x1 (x2 + 1) x3
def x_Lines_slotsOf_b4 : Nat → St → Int32 → Int32 → Int32 → Option (Int32 × St)
  | 0, _, _, _, _ => none
  | n + 1, S, x1, x2, x3 => x_Lines_slotsOf_b4_f (x_Lines_slotsOf_b4 n) S x1 x2 x3
def x_Lines_slotsOf (S : St) (x0 : Int32) : Option (Int32 × St) :=
  x_Lines_slotsOf_b4 fu S x0 (0 : Int32) (0 : Int32)
def rm_x_Lines_slotsOf : Room := { frames := 2, cells := 0, slots := 0, locals := 43 }
theorem ok_x_Lines_slotsOf : CalV y_Lines_slotsOf b_Lines_slotsOf 4 (some .int) 1 rm_x_Lines_slotsOf := ⟨kc_Lines_slotsOf, ki_Lines_slotsOf, kl_Lines_slotsOf, ji_Lines, ⟨by decide, by decide, by decide +kernel⟩, rfl, rfl⟩
set_option maxHeartbeats 4000000 in
set_option maxRecDepth 100000 in
theorem w_x_Lines_slotsOf_b28 {z : Int32 × St} (X : Cx b_Lines_slotsOf 4 (some .int) R_Lines D [(cI, .int), (cZ, .boolean), (cJ, .long)] (xA ao aa) (xW cI cZ cJ ao aa) p s m args meth c) {k4 : St → Int32 → Int32 → Int32 → Option (Int32 × St)} (hk4 : ∀ (S : St) (x1 : Int32) (x2 : Int32) (x3 : Int32), k4 S x1 x2 x3 = some z → WX rm_x_Lines_slotsOf D (xA ao aa) (xW cI cZ cJ ao aa) p l e s m args below meth c (some (.int z.1)) z.2 4 [] 4 [(0, .ref (ao 23)), (1, .int x1), (2, .int x2), (3, .int x3)] S) (S : St) (x1 : Int32) (x2 : Int32) (x3 : Int32) (hf : x_Lines_slotsOf_b28 k4 S x1 x2 x3 = some z) : WX rm_x_Lines_slotsOf D (xA ao aa) (xW cI cZ cJ ao aa) p l e s m args below meth c (some (.int z.1)) z.2 28 [] 4 [(0, .ref (ao 23)), (1, .int x1), (2, .int x2), (3, .int x3)] S := by
  intro H locs ls hP hS hl
  obtain ⟨hx, hb, hr0, hml, hown, htg, hlk, hK, hN, hI⟩ := id X
  unfold x_Lines_slotsOf_b28 at hf
  refine lv_iinc (v := (x3 + 1)) (lv' := [(3, .int (x3 + 1)), (0, .ref (ao 23)), (1, .int x1), (2, .int x2)]) hx hb d_Lines_slotsOf_28 hl (k := 3) rfl rfl (by decide) rfl (fun ls hl => ?_)
  refine lv_goto (tgt := 4) hx hb d_Lines_slotsOf_31 (by decide) ?_
  exact hk4 _ _ _ _ hf H locs ls hP hS (lv_sub hl [1, 2, 3, 0] rfl)
set_option maxHeartbeats 4000000 in
set_option maxRecDepth 100000 in
theorem w_x_Lines_slotsOf_b4_f {z : Int32 × St} (X : Cx b_Lines_slotsOf 4 (some .int) R_Lines D [(cI, .int), (cZ, .boolean), (cJ, .long)] (xA ao aa) (xW cI cZ cJ ao aa) p s m args meth c) {k4 : St → Int32 → Int32 → Int32 → Option (Int32 × St)} (hk4 : ∀ (S : St) (x1 : Int32) (x2 : Int32) (x3 : Int32), k4 S x1 x2 x3 = some z → WX rm_x_Lines_slotsOf D (xA ao aa) (xW cI cZ cJ ao aa) p l e s m args below meth c (some (.int z.1)) z.2 4 [] 4 [(0, .ref (ao 23)), (1, .int x1), (2, .int x2), (3, .int x3)] S) (S : St) (x1 : Int32) (x2 : Int32) (x3 : Int32) (hf : x_Lines_slotsOf_b4_f k4 S x1 x2 x3 = some z) : WX rm_x_Lines_slotsOf D (xA ao aa) (xW cI cZ cJ ao aa) p l e s m args below meth c (some (.int z.1)) z.2 4 [] 4 [(0, .ref (ao 23)), (1, .int x1), (2, .int x2), (3, .int x3)] S := by
  intro H locs ls hP hS hl
  obtain ⟨hx, hb, hr0, hml, hown, htg, hlk, hK, hN, hI⟩ := id X
  unfold x_Lines_slotsOf_b4_f at hf
  refine lv_iload_n hx hb d_Lines_slotsOf_4 rfl (lv_at hl 3 rfl) ?_
  refine lv_aload_n hx hb d_Lines_slotsOf_5 rfl (lv_at hl 0 rfl) ?_
  refine lv_iload_n hx hb d_Lines_slotsOf_6 rfl (lv_at hl 1 rfl) ?_
  obtain ⟨q1, he, hf⟩ := ob_some hf
  refine cl_Vi (As := [.int x1]) (rest := [.int x3]) X (c_x_Lines_kindsOf he) ok_x_Lines_kindsOf k_m_Lines_43 (va_recv hK hP rfl xo_23) rfl rfl hl.1 (Nat.le_of_ble_eq_true rfl) d_Lines_slotsOf_7 ⟨by decide, by decide⟩ hP hS (fun H locs hP hS => ?_)
  refine lv_icmp_ge (tgt := 34) hx hb d_Lines_slotsOf_10 (by decide) (fun c => ?_) (fun c => ?_)
  · have hf := if_t hf c
    refine lv_iload_n hx hb d_Lines_slotsOf_34 rfl (lv_at hl 2 rfl) ?_
    obtain rfl := Option.some.inj hf
    exact W.iret hx hb hr0 (fun t ht _ => ⟨⟨rfl, by rw [ht]; exact hP⟩, hS.F ht⟩) hS.2.2 d_Lines_slotsOf_35 hlk
  · have hf := if_f hf c
    refine lv_aload_n hx hb d_Lines_slotsOf_13 rfl (lv_at hl 0 rfl) ?_
    refine lv_iload_n hx hb d_Lines_slotsOf_14 rfl (lv_at hl 1 rfl) ?_
    refine lv_iload_n hx hb d_Lines_slotsOf_15 rfl (lv_at hl 3 rfl) ?_
    obtain ⟨q2, he, hf⟩ := ob_some hf
    refine cl_Vi (As := [.int x1, .int x3]) (rest := []) X (c_x_Lines_kindAt he) ok_x_Lines_kindAt k_m_Lines_47 (va_recv hK hP rfl xo_23) rfl rfl hl.1 (Nat.le_of_ble_eq_true rfl) d_Lines_slotsOf_16 ⟨by decide, by decide⟩ hP hS (fun H locs hP hS => ?_)
    obtain ⟨q3, he, hf⟩ := ob_some hf
    refine cl_Ti (As := [.int q2.1]) (rest := []) X (c_x_G_isSlot he) ok_x_G_isSlot k_mn_Lines_51 rfl rfl hl.1 (Nat.le_of_ble_eq_true rfl) d_Lines_slotsOf_19 ⟨by decide, by decide⟩ hP hS (fun H locs hP hS => ?_)
    refine lv_if_eq (tgt := 28) hx hb d_Lines_slotsOf_22 (by decide) (fun c => ?_) (fun c => ?_)
    · have hf := if_t hf c
      exact w_x_Lines_slotsOf_b28 X hk4 _ _ _ _ hf H locs ls hP hS (lv_sub hl [0, 1, 2, 3] rfl)
    · have hf := if_f hf c
      refine lv_iinc (v := (x2 + 1)) (lv' := [(2, .int (x2 + 1)), (0, .ref (ao 23)), (1, .int x1), (3, .int x3)]) hx hb d_Lines_slotsOf_25 hl (k := 2) rfl rfl (by decide) rfl (fun ls hl => ?_)
      exact w_x_Lines_slotsOf_b28 X hk4 _ _ _ _ hf H locs ls hP hS (lv_sub hl [1, 2, 0, 3] rfl)
theorem w_x_Lines_slotsOf_b4 {z : Int32 × St} (X : Cx b_Lines_slotsOf 4 (some .int) R_Lines D [(cI, .int), (cZ, .boolean), (cJ, .long)] (xA ao aa) (xW cI cZ cJ ao aa) p s m args meth c) : ∀ (n : Nat) (S : St) (x1 : Int32) (x2 : Int32) (x3 : Int32), x_Lines_slotsOf_b4 n S x1 x2 x3 = some z → WX rm_x_Lines_slotsOf D (xA ao aa) (xW cI cZ cJ ao aa) p l e s m args below meth c (some (.int z.1)) z.2 4 [] 4 [(0, .ref (ao 23)), (1, .int x1), (2, .int x2), (3, .int x3)] S
  | 0, _, _, _, _, hf => ns hf
  | n + 1, _, _, _, _, hf => w_x_Lines_slotsOf_b4_f X (w_x_Lines_slotsOf_b4 X n) _ _ _ _ hf
set_option maxHeartbeats 4000000 in
set_option maxRecDepth 100000 in
theorem w_x_Lines_slotsOf {z : Int32 × St} (X : Cx b_Lines_slotsOf 4 (some .int) R_Lines D [(cI, .int), (cZ, .boolean), (cJ, .long)] (xA ao aa) (xW cI cZ cJ ao aa) p s m args meth c) (S : St) (x0 : Int32) (hf : x_Lines_slotsOf S x0 = some z) : WX rm_x_Lines_slotsOf D (xA ao aa) (xW cI cZ cJ ao aa) p l e s m args below meth c (some (.int z.1)) z.2 0 [] 4 [(0, .ref (ao 23)), (1, .int x0)] S := by
  intro H locs ls hP hS hl
  obtain ⟨hx, hb, hr0, hml, hown, htg, hlk, hK, hN, hI⟩ := id X
  unfold x_Lines_slotsOf at hf
  refine lv_iconst (v := 0) hx hb d_Lines_slotsOf_0 (by decide) ?_
  refine lv_istore_n (lv' := [(2, .int (0 : Int32)), (0, .ref (ao 23)), (1, .int x0)]) hx hb d_Lines_slotsOf_1 rfl hl (by decide) rfl (fun ls hl => ?_)
  refine lv_iconst (v := 0) hx hb d_Lines_slotsOf_2 (by decide) ?_
  refine lv_istore_n (lv' := [(3, .int (0 : Int32)), (2, .int (0 : Int32)), (0, .ref (ao 23)), (1, .int x0)]) hx hb d_Lines_slotsOf_3 rfl hl (by decide) rfl (fun ls hl => ?_)
  exact w_x_Lines_slotsOf_b4 X _ _ _ _ _ hf H locs ls hP hS (lv_sub hl [2, 3, 1, 0] rfl)
theorem c_x_Lines_slotsOf {l : Launch} {D : va_G} {cI cZ cJ : ClassId} {ao aa : Nat → Nat} {S : St} {x0 : Int32} {z : Int32 × St} (hz : x_Lines_slotsOf S x0 = some z) : Ct l y_Lines_slotsOf (.code y_Lines_slotsOf b_Lines_slotsOf 4 (some .int) :: gw) rm_x_Lines_slotsOf D [(cI, .int), (cZ, .boolean), (cJ, .long)] (xA ao aa) (xW cI cZ cJ ao aa) [.ref (ao 23), .int x0] S (some (.int z.1)) z.2 :=
  Ct_of (by decide) (fun p e s m args below meth c X => w_x_Lines_slotsOf X _ _ hz) (Nat.le_of_ble_eq_true rfl)
def x_Lines_allows_b45 (S : St) (x1 : Int32) (x2 : Int32) : Option (Int32 × St) :=
  (x_G_isSlot S x2).bind fun q3 =>
  if q3.1 = 0 then
    some ((1 : Int32), q3.2)
  else
    (x_Lines_slotsOf q3.2 x1).bind fun q4 =>
    if (2 : Int32) ≤ q4.1 then
      some ((0 : Int32), q4.2)
    else
      some ((1 : Int32), q4.2)
def x_Lines_allows (S : St) (x0 : Int32) (x1 : Int32) : Option (Int32 × St) :=
  (x_Lines_kindsOf S x0).bind fun q1 =>
  (x_Lines_kindAt q1.2 x0 (q1.1 - (1 : Int32))).bind fun q2 =>
  if x1 = (1 : Int32) then
    if q2.1 = 0 then
      some ((1 : Int32), q2.2)
    else
      if q2.1 = (1 : Int32) then
        some ((1 : Int32), q2.2)
      else
        some ((0 : Int32), q2.2)
  else
    if q2.1 = (9 : Int32) then
      if x1 = 0 then
        x_Lines_allows_b45 q2.2 x0 x1
      else
        some ((0 : Int32), q2.2)
    else
      x_Lines_allows_b45 q2.2 x0 x1
def rm_x_Lines_allows : Room := { frames := 3, cells := 0, slots := 0, locals := 66 }
theorem ok_x_Lines_allows : CalV y_Lines_allows b_Lines_allows 4 (some .boolean) 2 rm_x_Lines_allows := ⟨kc_Lines_allows, ki_Lines_allows, kl_Lines_allows, ji_Lines, ⟨by decide, by decide, by decide +kernel⟩, rfl, rfl⟩
set_option maxHeartbeats 4000000 in
set_option maxRecDepth 100000 in
theorem w_x_Lines_allows_b45 {z : Int32 × St} (X : Cx b_Lines_allows 4 (some .boolean) R_Lines D [(cI, .int), (cZ, .boolean), (cJ, .long)] (xA ao aa) (xW cI cZ cJ ao aa) p s m args meth c) (S : St) (x1 : Int32) (x2 : Int32) (hf : x_Lines_allows_b45 S x1 x2 = some z) : WX rm_x_Lines_allows D (xA ao aa) (xW cI cZ cJ ao aa) p l e s m args below meth c (some (.int z.1)) z.2 45 [] 4 [(0, .ref (ao 23)), (1, .int x1), (2, .int x2)] S := by
  intro H locs ls hP hS hl
  obtain ⟨hx, hb, hr0, hml, hown, htg, hlk, hK, hN, hI⟩ := id X
  unfold x_Lines_allows_b45 at hf
  refine lv_iload_n hx hb d_Lines_allows_45 rfl (lv_at hl 2 rfl) ?_
  obtain ⟨q3, he, hf⟩ := ob_some hf
  refine cl_Ti (As := [.int x2]) (rest := []) X (c_x_G_isSlot he) ok_x_G_isSlot k_mn_Lines_51 rfl rfl hl.1 (Nat.le_of_ble_eq_true rfl) d_Lines_allows_46 ⟨by decide, by decide⟩ hP hS (fun H locs hP hS => ?_)
  refine lv_if_eq (tgt := 61) hx hb d_Lines_allows_49 (by decide) (fun c => ?_) (fun c => ?_)
  · have hf := if_t hf c
    refine lv_iconst (v := 1) hx hb d_Lines_allows_61 (by decide) ?_
    refine lv_goto (tgt := 66) hx hb d_Lines_allows_62 (by decide) ?_
    obtain rfl := Option.some.inj hf
    exact W.zret (ty := .boolean) hx hb hr0 rfl (fun t ht _ => ⟨⟨rfl, by rw [ht]; exact hP⟩, hS.F ht⟩) hS.2.2 d_Lines_allows_66 hlk
  · have hf := if_f hf c
    refine lv_aload_n hx hb d_Lines_allows_52 rfl (lv_at hl 0 rfl) ?_
    refine lv_iload_n hx hb d_Lines_allows_53 rfl (lv_at hl 1 rfl) ?_
    obtain ⟨q4, he, hf⟩ := ob_some hf
    refine cl_Vi (As := [.int x1]) (rest := []) X (c_x_Lines_slotsOf he) ok_x_Lines_slotsOf k_m_Lines_54 (va_recv hK hP rfl xo_23) rfl rfl hl.1 (Nat.le_of_ble_eq_true rfl) d_Lines_allows_54 ⟨by decide, by decide⟩ hP hS (fun H locs hP hS => ?_)
    refine lv_iconst (v := 2) hx hb d_Lines_allows_57 (by decide) ?_
    refine lv_icmp_ge (tgt := 65) hx hb d_Lines_allows_58 (by decide) (fun c => ?_) (fun c => ?_)
    · have hf := if_t hf c
      refine lv_iconst (v := 0) hx hb d_Lines_allows_65 (by decide) ?_
      obtain rfl := Option.some.inj hf
      exact W.zret (ty := .boolean) hx hb hr0 rfl (fun t ht _ => ⟨⟨rfl, by rw [ht]; exact hP⟩, hS.F ht⟩) hS.2.2 d_Lines_allows_66 hlk
    · have hf := if_f hf c
      refine lv_iconst (v := 1) hx hb d_Lines_allows_61 (by decide) ?_
      refine lv_goto (tgt := 66) hx hb d_Lines_allows_62 (by decide) ?_
      obtain rfl := Option.some.inj hf
      exact W.zret (ty := .boolean) hx hb hr0 rfl (fun t ht _ => ⟨⟨rfl, by rw [ht]; exact hP⟩, hS.F ht⟩) hS.2.2 d_Lines_allows_66 hlk
set_option maxHeartbeats 4000000 in
set_option maxRecDepth 100000 in
theorem w_x_Lines_allows {z : Int32 × St} (X : Cx b_Lines_allows 4 (some .boolean) R_Lines D [(cI, .int), (cZ, .boolean), (cJ, .long)] (xA ao aa) (xW cI cZ cJ ao aa) p s m args meth c) (S : St) (x0 : Int32) (x1 : Int32) (hf : x_Lines_allows S x0 x1 = some z) : WX rm_x_Lines_allows D (xA ao aa) (xW cI cZ cJ ao aa) p l e s m args below meth c (some (.int z.1)) z.2 0 [] 4 [(0, .ref (ao 23)), (1, .int x0), (2, .int x1)] S := by
  intro H locs ls hP hS hl
  obtain ⟨hx, hb, hr0, hml, hown, htg, hlk, hK, hN, hI⟩ := id X
  unfold x_Lines_allows at hf
  refine lv_aload_n hx hb d_Lines_allows_0 rfl (lv_at hl 0 rfl) ?_
  refine lv_iload_n hx hb d_Lines_allows_1 rfl (lv_at hl 1 rfl) ?_
  refine lv_aload_n hx hb d_Lines_allows_2 rfl (lv_at hl 0 rfl) ?_
  refine lv_iload_n hx hb d_Lines_allows_3 rfl (lv_at hl 1 rfl) ?_
  obtain ⟨q1, he, hf⟩ := ob_some hf
  refine cl_Vi (As := [.int x0]) (rest := [.int x0, .ref (ao 23)]) X (c_x_Lines_kindsOf he) ok_x_Lines_kindsOf k_m_Lines_43 (va_recv hK hP rfl xo_23) rfl rfl hl.1 (Nat.le_of_ble_eq_true rfl) d_Lines_allows_4 ⟨by decide, by decide⟩ hP hS (fun H locs hP hS => ?_)
  refine lv_iconst (v := 1) hx hb d_Lines_allows_7 (by decide) ?_
  refine lv_isub hx hb d_Lines_allows_8 ?_
  obtain ⟨q2, he, hf⟩ := ob_some hf
  refine cl_Vi (As := [.int x0, .int (q1.1 - (1 : Int32))]) (rest := []) X (c_x_Lines_kindAt he) ok_x_Lines_kindAt k_m_Lines_47 (va_recv hK hP rfl xo_23) rfl rfl hl.1 (Nat.le_of_ble_eq_true rfl) d_Lines_allows_9 ⟨by decide, by decide⟩ hP hS (fun H locs hP hS => ?_)
  refine lv_istore_n (lv' := [(3, .int q2.1), (0, .ref (ao 23)), (1, .int x0), (2, .int x1)]) hx hb d_Lines_allows_12 rfl hl (by decide) rfl (fun ls hl => ?_)
  refine lv_iload_n hx hb d_Lines_allows_13 rfl (lv_at hl 3 rfl) ?_
  refine lv_iconst (v := 1) hx hb d_Lines_allows_14 (by decide) ?_
  refine lv_icmp_ne (tgt := 33) hx hb d_Lines_allows_15 (by decide) (fun c => ?_) (fun c => ?_)
  · have hf := if_f hf c
    refine lv_iload_n hx hb d_Lines_allows_33 rfl (lv_at hl 0 rfl) ?_
    refine lv_bipush (v := 9) hx hb d_Lines_allows_34 (by decide) ?_
    refine lv_icmp_ne (tgt := 45) hx hb d_Lines_allows_36 (by decide) (fun c => ?_) (fun c => ?_)
    · have hf := if_f hf c
      exact w_x_Lines_allows_b45 X _ _ _ hf H locs ls hP hS (lv_sub hl [1, 2, 3] rfl)
    · have hf := if_t hf c
      refine lv_iload_n hx hb d_Lines_allows_39 rfl (lv_at hl 3 rfl) ?_
      refine lv_if_eq (tgt := 45) hx hb d_Lines_allows_40 (by decide) (fun c => ?_) (fun c => ?_)
      · have hf := if_t hf c
        exact w_x_Lines_allows_b45 X _ _ _ hf H locs ls hP hS (lv_sub hl [1, 2, 3] rfl)
      · have hf := if_f hf c
        refine lv_iconst (v := 0) hx hb d_Lines_allows_43 (by decide) ?_
        obtain rfl := Option.some.inj hf
        exact W.zret (ty := .boolean) hx hb hr0 rfl (fun t ht _ => ⟨⟨rfl, by rw [ht]; exact hP⟩, hS.F ht⟩) hS.2.2 d_Lines_allows_44 hlk
  · have hf := if_t hf c
    refine lv_iload_n hx hb d_Lines_allows_18 rfl (lv_at hl 0 rfl) ?_
    refine lv_if_eq (tgt := 27) hx hb d_Lines_allows_19 (by decide) (fun c => ?_) (fun c => ?_)
    · have hf := if_t hf c
      refine lv_iconst (v := 1) hx hb d_Lines_allows_27 (by decide) ?_
      refine lv_goto (tgt := 32) hx hb d_Lines_allows_28 (by decide) ?_
      obtain rfl := Option.some.inj hf
      exact W.zret (ty := .boolean) hx hb hr0 rfl (fun t ht _ => ⟨⟨rfl, by rw [ht]; exact hP⟩, hS.F ht⟩) hS.2.2 d_Lines_allows_32 hlk
    · have hf := if_f hf c
      refine lv_iload_n hx hb d_Lines_allows_22 rfl (lv_at hl 0 rfl) ?_
      refine lv_iconst (v := 1) hx hb d_Lines_allows_23 (by decide) ?_
      refine lv_icmp_ne (tgt := 31) hx hb d_Lines_allows_24 (by decide) (fun c => ?_) (fun c => ?_)
      · have hf := if_f hf c
        refine lv_iconst (v := 0) hx hb d_Lines_allows_31 (by decide) ?_
        obtain rfl := Option.some.inj hf
        exact W.zret (ty := .boolean) hx hb hr0 rfl (fun t ht _ => ⟨⟨rfl, by rw [ht]; exact hP⟩, hS.F ht⟩) hS.2.2 d_Lines_allows_32 hlk
      · have hf := if_t hf c
        refine lv_iconst (v := 1) hx hb d_Lines_allows_27 (by decide) ?_
        refine lv_goto (tgt := 32) hx hb d_Lines_allows_28 (by decide) ?_
        obtain rfl := Option.some.inj hf
        exact W.zret (ty := .boolean) hx hb hr0 rfl (fun t ht _ => ⟨⟨rfl, by rw [ht]; exact hP⟩, hS.F ht⟩) hS.2.2 d_Lines_allows_32 hlk
theorem c_x_Lines_allows {l : Launch} {D : va_G} {cI cZ cJ : ClassId} {ao aa : Nat → Nat} {S : St} {x0 : Int32} {x1 : Int32} {z : Int32 × St} (hz : x_Lines_allows S x0 x1 = some z) : Ct l y_Lines_allows (.code y_Lines_allows b_Lines_allows 4 (some .boolean) :: gw) rm_x_Lines_allows D [(cI, .int), (cZ, .boolean), (cJ, .long)] (xA ao aa) (xW cI cZ cJ ao aa) [.ref (ao 23), .int x0, .int x1] S (some (.int z.1)) z.2 :=
  Ct_of (by decide) (fun p e s m args below meth c X => w_x_Lines_allows X _ _ _ hz) (Nat.le_of_ble_eq_true rfl)
end

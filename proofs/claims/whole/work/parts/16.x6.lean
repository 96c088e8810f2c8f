section
variable {p : Program} {l : Launch} {e : Env} {s : State} {m : MethodId} {args : Array Value} {below : List Frame} {meth : Method} {c : Code} {D : va_G} {cI cZ cJ : ClassId} {ao aa : Nat → Nat}
def x_G_putAnswer_b30_f (k30 : St → Int32 → Int32 → Int32 → Option (St)) (S : St) (x1 : Int32) (x2 : Int32) (x3 : Int32) : Option (St) :=
  if x2 < x3 then
    (x_Row_add 6 S x1).bind fun q1 =>
    some q1
  else
    (x_Row_at 16 S x3).bind fun q2 =>
    (x_Row_add 6 q2.2 q2.1).bind fun q3 =>
    k30 q3 x1 x2 (x3 + 1)
def x_G_putAnswer_b30 : Nat → St → Int32 → Int32 → Int32 → Option (St)
  | 0, _, _, _, _ => none
  | n + 1, S, x1, x2, x3 => x_G_putAnswer_b30_f (x_G_putAnswer_b30 n) S x1 x2 x3
def x_G_putAnswer (S : St) (x0 : Int32) (x1 : Int32) : Option (St) :=
  if (gI S 31) = (15 : Int32) then
    (x_Row_insert 6 S (gI S 34) x0).bind fun q4 =>
    some q4
  else
    x_G_putAnswer_b30 fu S x0 x1 (1 : Int32)
def rm_x_G_putAnswer : Room := { frames := 1, cells := 0, slots := 0, locals := 23 }
theorem ok_x_G_putAnswer : CalV y_G_putAnswer b_G_putAnswer 4 none 2 rm_x_G_putAnswer := ⟨kc_G_putAnswer, ki_G_putAnswer, kl_G_putAnswer, ji_G, ⟨by decide, by decide, by decide +kernel⟩, rfl, rfl⟩
set_option maxHeartbeats 4000000 in
set_option maxRecDepth 100000 in
theorem w_x_G_putAnswer_b30_f {z : St} (X : Cx b_G_putAnswer 4 none R_G D [(cI, .int), (cZ, .boolean), (cJ, .long)] (xA ao aa) (xW cI cZ cJ ao aa) p s m args meth c) {k30 : St → Int32 → Int32 → Int32 → Option (St)} (hk30 : ∀ (S : St) (x1 : Int32) (x2 : Int32) (x3 : Int32), k30 S x1 x2 x3 = some z → WX rm_x_G_putAnswer D (xA ao aa) (xW cI cZ cJ ao aa) p l e s m args below meth c none z 30 [] 4 [(0, .ref (ao 27)), (1, .int x1), (2, .int x2), (3, .int x3)] S) (S : St) (x1 : Int32) (x2 : Int32) (x3 : Int32) (hf : x_G_putAnswer_b30_f k30 S x1 x2 x3 = some z) : WX rm_x_G_putAnswer D (xA ao aa) (xW cI cZ cJ ao aa) p l e s m args below meth c none z 30 [] 4 [(0, .ref (ao 27)), (1, .int x1), (2, .int x2), (3, .int x3)] S := by
  intro H locs ls hP hS hl
  obtain ⟨hx, hb, hr0, hml, hown, htg, hlk, hK, hN, hI⟩ := id X
  unfold x_G_putAnswer_b30_f at hf
  refine lv_iload_n hx hb d_G_putAnswer_30 rfl (lv_at hl 3 rfl) ?_
  refine lv_iload_n hx hb d_G_putAnswer_31 rfl (lv_at hl 2 rfl) ?_
  refine lv_icmp_gt (tgt := 59) hx hb d_G_putAnswer_32 (by decide) (fun c => ?_) (fun c => ?_)
  · have hf := if_t hf c
    refine lv_aload_n hx hb d_G_putAnswer_59 rfl (lv_at hl 0 rfl) ?_
    refine va_get (D := D) (v := .ref (ao 6)) hx hb htg in_G hown hK hP 27 xo_27 rfl 5 (by decide) (htg _ k_f_G_46) (fun _ h9 => h9) rfl d_G_putAnswer_60 ?_
    refine lv_iload_n hx hb d_G_putAnswer_63 rfl (lv_at hl 1 rfl) ?_
    obtain ⟨q1, he, hf⟩ := ob_some hf
    refine cl_Vv (As := [.int x1]) (rest := []) X (c_x_Row_add (by decide : 6 < 17) he) ok_x_Row_add k_m_G_165 (va_recv hK hP rfl (xo_row (by decide : 6 < 17))) rfl rfl hl.1 (Nat.le_of_ble_eq_true rfl) d_G_putAnswer_64 ⟨by decide, by decide⟩ hP hS (fun H locs hP hS => ?_)
    obtain rfl := Option.some.inj hf
    exact W.vret hx hb hr0 (fun t ht _ => ⟨⟨rfl, by rw [ht]; exact hP⟩, hS.F ht⟩) hS.2.2 d_G_putAnswer_67 hlk
  · have hf := if_f hf c
    refine lv_aload_n hx hb d_G_putAnswer_35 rfl (lv_at hl 0 rfl) ?_
    refine va_get (D := D) (v := .ref (ao 6)) hx hb htg in_G hown hK hP 27 xo_27 rfl 5 (by decide) (htg _ k_f_G_46) (fun _ h9 => h9) rfl d_G_putAnswer_36 ?_
    refine lv_aload_n hx hb d_G_putAnswer_39 rfl (lv_at hl 0 rfl) ?_
    refine va_get (D := D) (v := .ref (ao 26)) hx hb htg in_G hown hK hP 27 xo_27 rfl 10 (by decide) (htg _ k_f_G_76) (fun _ h9 => h9) rfl d_G_putAnswer_40 ?_
    refine va_getN (D := D) (v := .ref (ao 16)) hx hb htg in_Report hown hK hP 26 xo_26 rfl 3 (by decide) (va_Nw.use rfl (hN _ k_fn_G_200)) (fun _ h9 => h9) rfl d_G_putAnswer_43 ?_
    refine lv_iload_n hx hb d_G_putAnswer_46 rfl (lv_at hl 3 rfl) ?_
    obtain ⟨q2, he, hf⟩ := ob_some hf
    refine cl_Vi (As := [.int x3]) (rest := [.ref (ao 6)]) X (c_x_Row_at (by decide : 16 < 17) he) ok_x_Row_at k_m_G_234 (va_recv hK hP rfl (xo_row (by decide : 16 < 17))) rfl rfl hl.1 (Nat.le_of_ble_eq_true rfl) d_G_putAnswer_47 ⟨by decide, by decide⟩ hP hS (fun H locs hP hS => ?_)
    obtain ⟨q3, he, hf⟩ := ob_some hf
    refine cl_Vv (As := [.int q2.1]) (rest := []) X (c_x_Row_add (by decide : 6 < 17) he) ok_x_Row_add k_m_G_165 (va_recv hK hP rfl (xo_row (by decide : 6 < 17))) rfl rfl hl.1 (Nat.le_of_ble_eq_true rfl) d_G_putAnswer_50 ⟨by decide, by decide⟩ hP hS (fun H locs hP hS => ?_)
    refine lv_iinc (v := (x3 + 1)) (lv' := [(3, .int (x3 + 1)), (0, .ref (ao 27)), (1, .int x1), (2, .int x2)]) hx hb d_G_putAnswer_53 hl (k := 3) rfl rfl (by decide) rfl (fun ls hl => ?_)
    refine lv_goto (tgt := 30) hx hb d_G_putAnswer_56 (by decide) ?_
    exact hk30 _ _ _ _ hf H locs ls hP hS (lv_sub hl [1, 2, 3, 0] rfl)
theorem w_x_G_putAnswer_b30 {z : St} (X : Cx b_G_putAnswer 4 none R_G D [(cI, .int), (cZ, .boolean), (cJ, .long)] (xA ao aa) (xW cI cZ cJ ao aa) p s m args meth c) : ∀ (n : Nat) (S : St) (x1 : Int32) (x2 : Int32) (x3 : Int32), x_G_putAnswer_b30 n S x1 x2 x3 = some z → WX rm_x_G_putAnswer D (xA ao aa) (xW cI cZ cJ ao aa) p l e s m args below meth c none z 30 [] 4 [(0, .ref (ao 27)), (1, .int x1), (2, .int x2), (3, .int x3)] S
  | 0, _, _, _, _, hf => ns hf
  | n + 1, _, _, _, _, hf => w_x_G_putAnswer_b30_f X (w_x_G_putAnswer_b30 X n) _ _ _ _ hf
set_option maxHeartbeats 4000000 in
set_option maxRecDepth 100000 in
theorem w_x_G_putAnswer {z : St} (X : Cx b_G_putAnswer 4 none R_G D [(cI, .int), (cZ, .boolean), (cJ, .long)] (xA ao aa) (xW cI cZ cJ ao aa) p s m args meth c) (S : St) (x0 : Int32) (x1 : Int32) (hf : x_G_putAnswer S x0 x1 = some z) : WX rm_x_G_putAnswer D (xA ao aa) (xW cI cZ cJ ao aa) p l e s m args below meth c none z 0 [] 4 [(0, .ref (ao 27)), (1, .int x0), (2, .int x1)] S := by
  intro H locs ls hP hS hl
  obtain ⟨hx, hb, hr0, hml, hown, htg, hlk, hK, hN, hI⟩ := id X
  unfold x_G_putAnswer at hf
  refine lv_aload_n hx hb d_G_putAnswer_0 rfl (lv_at hl 0 rfl) ?_
  refine va_get (D := D) (v := .ref (ao 26)) hx hb htg in_G hown hK hP 27 xo_27 rfl 10 (by decide) (htg _ k_f_G_76) (fun _ h9 => h9) rfl d_G_putAnswer_1 ?_
  refine va_getN (D := D) (v := .int (gI S 31)) hx hb htg in_Report hown hK hP 26 xo_26 rfl 5 (by decide) (va_Nw.use rfl (hN _ k_fn_G_197)) (fun _ h9 => h9) rfl d_G_putAnswer_4 ?_
  refine lv_bipush (v := 15) hx hb d_G_putAnswer_7 (by decide) ?_
  refine lv_icmp_ne (tgt := 28) hx hb d_G_putAnswer_9 (by decide) (fun c => ?_) (fun c => ?_)
  · have hf := if_f hf c
    refine lv_iconst (v := 1) hx hb d_G_putAnswer_28 (by decide) ?_
    refine lv_istore_n (lv' := [(3, .int (1 : Int32)), (0, .ref (ao 27)), (1, .int x0), (2, .int x1)]) hx hb d_G_putAnswer_29 rfl hl (by decide) rfl (fun ls hl => ?_)
    exact w_x_G_putAnswer_b30 X _ _ _ _ _ hf H locs ls hP hS (lv_sub hl [1, 2, 3, 0] rfl)
  · have hf := if_t hf c
    refine lv_aload_n hx hb d_G_putAnswer_12 rfl (lv_at hl 0 rfl) ?_
    refine va_get (D := D) (v := .ref (ao 6)) hx hb htg in_G hown hK hP 27 xo_27 rfl 5 (by decide) (htg _ k_f_G_46) (fun _ h9 => h9) rfl d_G_putAnswer_13 ?_
    refine lv_aload_n hx hb d_G_putAnswer_16 rfl (lv_at hl 0 rfl) ?_
    refine va_get (D := D) (v := .ref (ao 26)) hx hb htg in_G hown hK hP 27 xo_27 rfl 10 (by decide) (htg _ k_f_G_76) (fun _ h9 => h9) rfl d_G_putAnswer_17 ?_
    refine va_getN (D := D) (v := .int (gI S 34)) hx hb htg in_Report hown hK hP 26 xo_26 rfl 8 (by decide) (va_Nw.use rfl (hN _ k_fn_G_292)) (fun _ h9 => h9) rfl d_G_putAnswer_20 ?_
    refine lv_iload_n hx hb d_G_putAnswer_23 rfl (lv_at hl 1 rfl) ?_
    obtain ⟨q4, he, hf⟩ := ob_some hf
    refine cl_Vv (As := [.int (gI S 34), .int x0]) (rest := []) X (c_x_Row_insert (by decide : 6 < 17) he) ok_x_Row_insert k_m_G_295 (va_recv hK hP rfl (xo_row (by decide : 6 < 17))) rfl rfl hl.1 (Nat.le_of_ble_eq_true rfl) d_G_putAnswer_24 ⟨by decide, by decide⟩ hP hS (fun H locs hP hS => ?_)
    obtain rfl := Option.some.inj hf
    exact W.vret hx hb hr0 (fun t ht _ => ⟨⟨rfl, by rw [ht]; exact hP⟩, hS.F ht⟩) hS.2.2 d_G_putAnswer_27 hlk
theorem c_x_G_putAnswer {l : Launch} {D : va_G} {cI cZ cJ : ClassId} {ao aa : Nat → Nat} {S : St} {x0 : Int32} {x1 : Int32} {z : St} (hz : x_G_putAnswer S x0 x1 = some z) : Ct l y_G_putAnswer (.code y_G_putAnswer b_G_putAnswer 4 none :: gw) rm_x_G_putAnswer D [(cI, .int), (cZ, .boolean), (cJ, .long)] (xA ao aa) (xW cI cZ cJ ao aa) [.ref (ao 27), .int x0, .int x1] S none z :=
  Ct_of (by decide) (fun p e s m args below meth c X => w_x_G_putAnswer X _ _ _ hz) (Nat.le_of_ble_eq_true rfl)
def x_G_beginAnew (S : St) (x0 : Int32) : Option (St) :=
  (x_Row_empty 5 S).bind fun q1 =>
  (x_Row_empty 6 q1).bind fun q2 =>
  (x_Row_add 6 q2 x0).bind fun q3 =>
  some (sI q3 35 (-1 : Int32))
def rm_x_G_beginAnew : Room := { frames := 1, cells := 0, slots := 0, locals := 21 }
theorem ok_x_G_beginAnew : CalV y_G_beginAnew b_G_beginAnew 2 none 1 rm_x_G_beginAnew := ⟨kc_G_beginAnew, ki_G_beginAnew, kl_G_beginAnew, ji_G, ⟨by decide, by decide, by decide +kernel⟩, rfl, rfl⟩
set_option maxHeartbeats 4000000 in
set_option maxRecDepth 100000 in
theorem w_x_G_beginAnew {z : St} (X : Cx b_G_beginAnew 2 none R_G D [(cI, .int), (cZ, .boolean), (cJ, .long)] (xA ao aa) (xW cI cZ cJ ao aa) p s m args meth c) (S : St) (x0 : Int32) (hf : x_G_beginAnew S x0 = some z) : WX rm_x_G_beginAnew D (xA ao aa) (xW cI cZ cJ ao aa) p l e s m args below meth c none z 0 [] 2 [(0, .ref (ao 27)), (1, .int x0)] S := by
  intro H locs ls hP hS hl
  obtain ⟨hx, hb, hr0, hml, hown, htg, hlk, hK, hN, hI⟩ := id X
  unfold x_G_beginAnew at hf
  refine lv_aload_n hx hb d_G_beginAnew_0 rfl (lv_at hl 0 rfl) ?_
  refine va_get (D := D) (v := .ref (ao 5)) hx hb htg in_G hown hK hP 27 xo_27 rfl 4 (by decide) (htg _ k_f_G_42) (fun _ h9 => h9) rfl d_G_beginAnew_1 ?_
  obtain ⟨q1, he, hf⟩ := ob_some hf
  refine cl_Vv (As := []) (rest := []) X (c_x_Row_empty (by decide : 5 < 17) he) ok_x_Row_empty k_m_G_167 (va_recv hK hP rfl (xo_row (by decide : 5 < 17))) rfl rfl hl.1 (Nat.le_of_ble_eq_true rfl) d_G_beginAnew_4 ⟨by decide, by decide⟩ hP hS (fun H locs hP hS => ?_)
  refine lv_aload_n hx hb d_G_beginAnew_7 rfl (lv_at hl 0 rfl) ?_
  refine va_get (D := D) (v := .ref (ao 6)) hx hb htg in_G hown hK hP 27 xo_27 rfl 5 (by decide) (htg _ k_f_G_46) (fun _ h9 => h9) rfl d_G_beginAnew_8 ?_
  obtain ⟨q2, he, hf⟩ := ob_some hf
  refine cl_Vv (As := []) (rest := []) X (c_x_Row_empty (by decide : 6 < 17) he) ok_x_Row_empty k_m_G_167 (va_recv hK hP rfl (xo_row (by decide : 6 < 17))) rfl rfl hl.1 (Nat.le_of_ble_eq_true rfl) d_G_beginAnew_11 ⟨by decide, by decide⟩ hP hS (fun H locs hP hS => ?_)
  refine lv_aload_n hx hb d_G_beginAnew_14 rfl (lv_at hl 0 rfl) ?_
  refine va_get (D := D) (v := .ref (ao 6)) hx hb htg in_G hown hK hP 27 xo_27 rfl 5 (by decide) (htg _ k_f_G_46) (fun _ h9 => h9) rfl d_G_beginAnew_15 ?_
  refine lv_iload_n hx hb d_G_beginAnew_18 rfl (lv_at hl 1 rfl) ?_
  obtain ⟨q3, he, hf⟩ := ob_some hf
  refine cl_Vv (As := [.int x0]) (rest := []) X (c_x_Row_add (by decide : 6 < 17) he) ok_x_Row_add k_m_G_165 (va_recv hK hP rfl (xo_row (by decide : 6 < 17))) rfl rfl hl.1 (Nat.le_of_ble_eq_true rfl) d_G_beginAnew_19 ⟨by decide, by decide⟩ hP hS (fun H locs hP hS => ?_)
  refine lv_aload_n hx hb d_G_beginAnew_22 rfl (lv_at hl 0 rfl) ?_
  refine lv_iconst (v := (-1)) hx hb d_G_beginAnew_23 (by decide) ?_
  refine va_put (D := D) (ty := .int) hx hb htg in_G t_G t_G_ok n_G hown hK hP (hI _) hS 27 xo_27 rfl 11 (by decide) (htg _ k_f_G_80) (fun _ h9 => h9) rfl (by decide +kernel) rfl rfl (Nat.le_of_ble_eq_true rfl) d_G_beginAnew_24 (fun H locs hP _ hS => ?_)
  replace hP : va_P D classes (xW cI cZ cJ ao aa (sI q3 35 (-1 : Int32))) H := pw xs_27_recipient hP
  obtain rfl := Option.some.inj hf
  exact W.vret hx hb hr0 (fun t ht _ => ⟨⟨rfl, by rw [ht]; exact hP⟩, hS.F ht⟩) hS.2.2 d_G_beginAnew_27 hlk
theorem c_x_G_beginAnew {l : Launch} {D : va_G} {cI cZ cJ : ClassId} {ao aa : Nat → Nat} {S : St} {x0 : Int32} {z : St} (hz : x_G_beginAnew S x0 = some z) : Ct l y_G_beginAnew (.code y_G_beginAnew b_G_beginAnew 2 none :: gw) rm_x_G_beginAnew D [(cI, .int), (cZ, .boolean), (cJ, .long)] (xA ao aa) (xW cI cZ cJ ao aa) [.ref (ao 27), .int x0] S none z :=
  Ct_of (by decide) (fun p e s m args below meth c X => w_x_G_beginAnew X _ _ hz) (Nat.le_of_ble_eq_true rfl)
def x_G_answer_b73 (S : St) (x1 : Int32) (s0 : Int32) : Option (Int32 × St) :=
  (x_Row_size 6 S).bind fun q4 =>
  if ((q4.1 + s0) + (1 : Int32)) ≤ (60 : Int32) then
    (x_G_putAnswer q4.2 x1 s0).bind fun q5 =>
    (x_G_tryCommand q5).bind fun q6 =>
    some (q6.1, q6.2)
  else
    some ((-104 : Int32), q4.2)
def x_G_answer (S : St) (x0 : Int32) : Option (Int32 × St) :=
  (x_G_isWord S x0).bind fun q1 =>
  if q1.1 = 0 then
    some ((-102 : Int32), q1.2)
  else
    (x_Report_isAsked q1.2).bind fun q2 =>
    if q2.1 = 0 then
      some ((-103 : Int32), q2.2)
    else
      (x_Verbs_find q2.2 x0).bind fun q3 =>
      if q3.1 = (-1 : Int32) then
        if (gI q3.2 31) = (16 : Int32) then
          (x_Row_size 16 q3.2).bind fun q7 =>
          x_G_answer_b73 q7.2 x0 (q7.1 - (1 : Int32))
        else
          x_G_answer_b73 q3.2 x0 (0 : Int32)
      else
        (x_G_beginAnew q3.2 x0).bind fun q8 =>
        (x_G_tryCommand q8).bind fun q9 =>
        some (q9.1, q9.2)
def rm_x_G_answer : Room := { frames := 6, cells := 0, slots := 0, locals := 146 }
theorem ok_x_G_answer : CalV y_G_answer b_G_answer 3 (some .int) 1 rm_x_G_answer := ⟨kc_G_answer, ki_G_answer, kl_G_answer, ji_G, ⟨by decide, by decide, by decide +kernel⟩, rfl, rfl⟩
set_option maxHeartbeats 4000000 in
set_option maxRecDepth 100000 in
theorem w_x_G_answer_b73 {z : Int32 × St} (X : Cx b_G_answer 3 (some .int) R_G D [(cI, .int), (cZ, .boolean), (cJ, .long)] (xA ao aa) (xW cI cZ cJ ao aa) p s m args meth c) (S : St) (x1 : Int32) (s0 : Int32) (hf : x_G_answer_b73 S x1 s0 = some z) : WX rm_x_G_answer D (xA ao aa) (xW cI cZ cJ ao aa) p l e s m args below meth c (some (.int z.1)) z.2 73 [.int s0] 3 [(0, .ref (ao 27)), (1, .int x1)] S := by
  intro H locs ls hP hS hl
  obtain ⟨hx, hb, hr0, hml, hown, htg, hlk, hK, hN, hI⟩ := id X
  unfold x_G_answer_b73 at hf
  refine lv_istore_n (lv' := [(2, .int s0), (0, .ref (ao 27)), (1, .int x1)]) hx hb d_G_answer_73 rfl hl (by decide) rfl (fun ls hl => ?_)
  refine lv_aload_n hx hb d_G_answer_74 rfl (lv_at hl 1 rfl) ?_
  refine va_get (D := D) (v := .ref (ao 6)) hx hb htg in_G hown hK hP 27 xo_27 rfl 5 (by decide) (htg _ k_f_G_46) (fun _ h9 => h9) rfl d_G_answer_75 ?_
  obtain ⟨q4, he, hf⟩ := ob_some hf
  refine cl_Vi (As := []) (rest := []) X (c_x_Row_size (by decide : 6 < 17) he) ok_x_Row_size k_m_G_162 (va_recv hK hP rfl (xo_row (by decide : 6 < 17))) rfl rfl hl.1 (Nat.le_of_ble_eq_true rfl) d_G_answer_78 ⟨by decide, by decide⟩ hP hS (fun H locs hP hS => ?_)
  refine lv_iload_n hx hb d_G_answer_81 rfl (lv_at hl 0 rfl) ?_
  refine lv_iadd hx hb d_G_answer_82 ?_
  refine lv_iconst (v := 1) hx hb d_G_answer_83 (by decide) ?_
  refine lv_iadd hx hb d_G_answer_84 ?_
  refine lv_bipush (v := 60) hx hb d_G_answer_85 (by decide) ?_
  refine lv_icmp_le (tgt := 93) hx hb d_G_answer_87 (by decide) (fun c => ?_) (fun c => ?_)
  · have hf := if_t hf c
    refine lv_aload_n hx hb d_G_answer_93 rfl (lv_at hl 1 rfl) ?_
    refine lv_iload_n hx hb d_G_answer_94 rfl (lv_at hl 2 rfl) ?_
    refine lv_iload_n hx hb d_G_answer_95 rfl (lv_at hl 0 rfl) ?_
    obtain ⟨q5, he, hf⟩ := ob_some hf
    refine cl_Vv (As := [.int x1, .int s0]) (rest := []) X (c_x_G_putAnswer he) ok_x_G_putAnswer k_m_G_203 (va_recv hK hP rfl xo_27) rfl rfl hl.1 (Nat.le_of_ble_eq_true rfl) d_G_answer_96 ⟨by decide, by decide⟩ hP hS (fun H locs hP hS => ?_)
    refine lv_aload_n hx hb d_G_answer_99 rfl (lv_at hl 1 rfl) ?_
    obtain ⟨q6, he, hf⟩ := ob_some hf
    refine cl_Vi (As := []) (rest := []) X (c_x_G_tryCommand he) ok_x_G_tryCommand k_m_G_179 (va_recv hK hP rfl xo_27) rfl rfl hl.1 (Nat.le_of_ble_eq_true rfl) d_G_answer_100 ⟨by decide, by decide⟩ hP hS (fun H locs hP hS => ?_)
    obtain rfl := Option.some.inj hf
    exact W.iret hx hb hr0 (fun t ht _ => ⟨⟨rfl, by rw [ht]; exact hP⟩, hS.F ht⟩) hS.2.2 d_G_answer_103 hlk
  · have hf := if_f hf c
    refine lv_bipush (v := (-104)) hx hb d_G_answer_90 (by decide) ?_
    obtain rfl := Option.some.inj hf
    exact W.iret hx hb hr0 (fun t ht _ => ⟨⟨rfl, by rw [ht]; exact hP⟩, hS.F ht⟩) hS.2.2 d_G_answer_92 hlk
set_option maxHeartbeats 4000000 in
set_option maxRecDepth 100000 in
theorem w_x_G_answer {z : Int32 × St} (X : Cx b_G_answer 3 (some .int) R_G D [(cI, .int), (cZ, .boolean), (cJ, .long)] (xA ao aa) (xW cI cZ cJ ao aa) p s m args meth c) (S : St) (x0 : Int32) (hf : x_G_answer S x0 = some z) : WX rm_x_G_answer D (xA ao aa) (xW cI cZ cJ ao aa) p l e s m args below meth c (some (.int z.1)) z.2 0 [] 3 [(0, .ref (ao 27)), (1, .int x0)] S := by
  intro H locs ls hP hS hl
  obtain ⟨hx, hb, hr0, hml, hown, htg, hlk, hK, hN, hI⟩ := id X
  unfold x_G_answer at hf
  refine lv_iload_n hx hb d_G_answer_0 rfl (lv_at hl 1 rfl) ?_
  obtain ⟨q1, he, hf⟩ := ob_some hf
  refine cl_Si (As := [.int x0]) (rest := []) X (c_x_G_isWord he) ok_x_G_isWord k_m_G_159 rfl rfl hl.1 (Nat.le_of_ble_eq_true rfl) d_G_answer_1 ⟨by decide, by decide⟩ hP hS (fun H locs hP hS => ?_)
  refine lv_if_ne (tgt := 10) hx hb d_G_answer_4 (by decide) (fun c => ?_) (fun c => ?_)
  · have hf := if_f hf c
    refine lv_aload_n hx hb d_G_answer_10 rfl (lv_at hl 0 rfl) ?_
    refine va_get (D := D) (v := .ref (ao 26)) hx hb htg in_G hown hK hP 27 xo_27 rfl 10 (by decide) (htg _ k_f_G_76) (fun _ h9 => h9) rfl d_G_answer_11 ?_
    obtain ⟨q2, he, hf⟩ := ob_some hf
    refine cl_Vi (As := []) (rest := []) X (c_x_Report_isAsked he) ok_x_Report_isAsked k_m_G_189 (va_recv hK hP rfl xo_26) rfl rfl hl.1 (Nat.le_of_ble_eq_true rfl) d_G_answer_14 ⟨by decide, by decide⟩ hP hS (fun H locs hP hS => ?_)
    refine lv_if_ne (tgt := 23) hx hb d_G_answer_17 (by decide) (fun c => ?_) (fun c => ?_)
    · have hf := if_f hf c
      refine lv_aload_n hx hb d_G_answer_23 rfl (lv_at hl 0 rfl) ?_
      refine va_get (D := D) (v := .ref (ao 22)) hx hb htg in_G hown hK hP 27 xo_27 rfl 1 (by decide) (htg _ k_f_G_19) (fun _ h9 => h9) rfl d_G_answer_24 ?_
      refine lv_iload_n hx hb d_G_answer_27 rfl (lv_at hl 1 rfl) ?_
      obtain ⟨q3, he, hf⟩ := ob_some hf
      refine cl_Vi (As := [.int x0]) (rest := []) X (c_x_Verbs_find he) ok_x_Verbs_find k_m_G_192 (va_recv hK hP rfl xo_22) rfl rfl hl.1 (Nat.le_of_ble_eq_true rfl) d_G_answer_28 ⟨by decide, by decide⟩ hP hS (fun H locs hP hS => ?_)
      refine lv_iconst (v := (-1)) hx hb d_G_answer_31 (by decide) ?_
      refine lv_icmp_eq (tgt := 45) hx hb d_G_answer_32 (by decide) (fun c => ?_) (fun c => ?_)
      · have hf := if_t hf c
        refine lv_aload_n hx hb d_G_answer_45 rfl (lv_at hl 0 rfl) ?_
        refine va_get (D := D) (v := .ref (ao 26)) hx hb htg in_G hown hK hP 27 xo_27 rfl 10 (by decide) (htg _ k_f_G_76) (fun _ h9 => h9) rfl d_G_answer_46 ?_
        refine va_getN (D := D) (v := .int (gI q3.2 31)) hx hb htg in_Report hown hK hP 26 xo_26 rfl 5 (by decide) (va_Nw.use rfl (hN _ k_fn_G_197)) (fun _ h9 => h9) rfl d_G_answer_49 ?_
        refine lv_bipush (v := 16) hx hb d_G_answer_52 (by decide) ?_
        refine lv_icmp_ne (tgt := 72) hx hb d_G_answer_54 (by decide) (fun c => ?_) (fun c => ?_)
        · have hf := if_f hf c
          refine lv_iconst (v := 0) hx hb d_G_answer_72 (by decide) ?_
          exact w_x_G_answer_b73 X _ _ _ hf H locs ls hP hS (lv_sub hl [0, 1] rfl)
        · have hf := if_t hf c
          refine lv_aload_n hx hb d_G_answer_57 rfl (lv_at hl 0 rfl) ?_
          refine va_get (D := D) (v := .ref (ao 26)) hx hb htg in_G hown hK hP 27 xo_27 rfl 10 (by decide) (htg _ k_f_G_76) (fun _ h9 => h9) rfl d_G_answer_58 ?_
          refine va_getN (D := D) (v := .ref (ao 16)) hx hb htg in_Report hown hK hP 26 xo_26 rfl 3 (by decide) (va_Nw.use rfl (hN _ k_fn_G_200)) (fun _ h9 => h9) rfl d_G_answer_61 ?_
          obtain ⟨q7, he, hf⟩ := ob_some hf
          refine cl_Vi (As := []) (rest := []) X (c_x_Row_size (by decide : 16 < 17) he) ok_x_Row_size k_m_G_162 (va_recv hK hP rfl (xo_row (by decide : 16 < 17))) rfl rfl hl.1 (Nat.le_of_ble_eq_true rfl) d_G_answer_64 ⟨by decide, by decide⟩ hP hS (fun H locs hP hS => ?_)
          refine lv_iconst (v := 1) hx hb d_G_answer_67 (by decide) ?_
          refine lv_isub hx hb d_G_answer_68 ?_
          refine lv_goto (tgt := 73) hx hb d_G_answer_69 (by decide) ?_
          exact w_x_G_answer_b73 X _ _ _ hf H locs ls hP hS (lv_sub hl [0, 1] rfl)
      · have hf := if_f hf c
        refine lv_aload_n hx hb d_G_answer_35 rfl (lv_at hl 0 rfl) ?_
        refine lv_iload_n hx hb d_G_answer_36 rfl (lv_at hl 1 rfl) ?_
        obtain ⟨q8, he, hf⟩ := ob_some hf
        refine cl_Vv (As := [.int x0]) (rest := []) X (c_x_G_beginAnew he) ok_x_G_beginAnew k_m_G_194 (va_recv hK hP rfl xo_27) rfl rfl hl.1 (Nat.le_of_ble_eq_true rfl) d_G_answer_37 ⟨by decide, by decide⟩ hP hS (fun H locs hP hS => ?_)
        refine lv_aload_n hx hb d_G_answer_40 rfl (lv_at hl 0 rfl) ?_
        obtain ⟨q9, he, hf⟩ := ob_some hf
        refine cl_Vi (As := []) (rest := []) X (c_x_G_tryCommand he) ok_x_G_tryCommand k_m_G_179 (va_recv hK hP rfl xo_27) rfl rfl hl.1 (Nat.le_of_ble_eq_true rfl) d_G_answer_41 ⟨by decide, by decide⟩ hP hS (fun H locs hP hS => ?_)
        obtain rfl := Option.some.inj hf
        exact W.iret hx hb hr0 (fun t ht _ => ⟨⟨rfl, by rw [ht]; exact hP⟩, hS.F ht⟩) hS.2.2 d_G_answer_44 hlk
    · have hf := if_t hf c
      refine lv_bipush (v := (-103)) hx hb d_G_answer_20 (by decide) ?_
      obtain rfl := Option.some.inj hf
      exact W.iret hx hb hr0 (fun t ht _ => ⟨⟨rfl, by rw [ht]; exact hP⟩, hS.F ht⟩) hS.2.2 d_G_answer_22 hlk
  · have hf := if_t hf c
    refine lv_bipush (v := (-102)) hx hb d_G_answer_7 (by decide) ?_
    obtain rfl := Option.some.inj hf
    exact W.iret hx hb hr0 (fun t ht _ => ⟨⟨rfl, by rw [ht]; exact hP⟩, hS.F ht⟩) hS.2.2 d_G_answer_9 hlk
theorem c_x_G_answer {l : Launch} {D : va_G} {cI cZ cJ : ClassId} {ao aa : Nat → Nat} {S : St} {x0 : Int32} {z : Int32 × St} (hz : x_G_answer S x0 = some z) : Ct l y_G_answer (.code y_G_answer b_G_answer 3 (some .int) :: gw) rm_x_G_answer D [(cI, .int), (cZ, .boolean), (cJ, .long)] (xA ao aa) (xW cI cZ cJ ao aa) [.ref (ao 27), .int x0] S (some (.int z.1)) z.2 :=
  Ct_of (by decide) (fun p e s m args below meth c X => w_x_G_answer X _ _ hz) (Nat.le_of_ble_eq_true rfl)
def x_Lines_isReversed (S : St) (x0 : Int32) : Option (Int32 × St) :=
  (x_Lines_has S x0).bind fun q1 =>
  if q1.1 = 0 then
    some ((0 : Int32), q1.2)
  else
    gd (vin x0 60) <|
    if (gA q1.2 22 x0.toNatClampNeg) = 0 then
      some ((0 : Int32), q1.2)
    else
      some ((1 : Int32), q1.2)
def rm_x_Lines_isReversed : Room := { frames := 1, cells := 0, slots := 0, locals := 21 }
theorem ok_x_Lines_isReversed : CalV y_Lines_isReversed b_Lines_isReversed 2 (some .boolean) 1 rm_x_Lines_isReversed := ⟨kc_Lines_isReversed, ki_Lines_isReversed, kl_Lines_isReversed, ji_Lines, ⟨by decide, by decide, by decide +kernel⟩, rfl, rfl⟩
set_option maxHeartbeats 4000000 in
set_option maxRecDepth 100000 in
theorem w_x_Lines_isReversed {z : Int32 × St} (X : Cx b_Lines_isReversed 2 (some .boolean) R_Lines D [(cI, .int), (cZ, .boolean), (cJ, .long)] (xA ao aa) (xW cI cZ cJ ao aa) p s m args meth c) (S : St) (x0 : Int32) (hf : x_Lines_isReversed S x0 = some z) : WX rm_x_Lines_isReversed D (xA ao aa) (xW cI cZ cJ ao aa) p l e s m args below meth c (some (.int z.1)) z.2 0 [] 2 [(0, .ref (ao 23)), (1, .int x0)] S := by
  intro H locs ls hP hS hl
  obtain ⟨hx, hb, hr0, hml, hown, htg, hlk, hK, hN, hI⟩ := id X
  unfold x_Lines_isReversed at hf
  refine lv_aload_n hx hb d_Lines_isReversed_0 rfl (lv_at hl 0 rfl) ?_
  refine lv_iload_n hx hb d_Lines_isReversed_1 rfl (lv_at hl 1 rfl) ?_
  obtain ⟨q1, he, hf⟩ := ob_some hf
  refine cl_Vi (As := [.int x0]) (rest := []) X (c_x_Lines_has he) ok_x_Lines_has k_m_Lines_39 (va_recv hK hP rfl xo_23) rfl rfl hl.1 (Nat.le_of_ble_eq_true rfl) d_Lines_isReversed_2 ⟨by decide, by decide⟩ hP hS (fun H locs hP hS => ?_)
  refine lv_if_eq (tgt := 21) hx hb d_Lines_isReversed_5 (by decide) (fun c => ?_) (fun c => ?_)
  · have hf := if_t hf c
    refine lv_iconst (v := 0) hx hb d_Lines_isReversed_21 (by decide) ?_
    obtain rfl := Option.some.inj hf
    exact W.zret (ty := .boolean) hx hb hr0 rfl (fun t ht _ => ⟨⟨rfl, by rw [ht]; exact hP⟩, hS.F ht⟩) hS.2.2 d_Lines_isReversed_22 hlk
  · have hf := if_f hf c
    refine lv_aload_n hx hb d_Lines_isReversed_8 rfl (lv_at hl 0 rfl) ?_
    refine va_get (D := D) (v := .ref (aa 22)) hx hb htg in_Lines hown hK hP 23 xo_23 rfl 2 (by decide) (htg _ k_f_Lines_18) (fun _ h9 => h9) rfl d_Lines_isReversed_9 ?_
    refine lv_iload_n hx hb d_Lines_isReversed_12 rfl (lv_at hl 1 rfl) ?_
    obtain ⟨hg, hf⟩ := gd_some hf
    refine va_zald hx hb hK hP 50 1 xa_22 rfl (vin_in hg) d_Lines_isReversed_13 ?_
    refine lv_if_eq (tgt := 21) hx hb d_Lines_isReversed_14 (by decide) (fun c => ?_) (fun c => ?_)
    · have hf := if_t hf c
      refine lv_iconst (v := 0) hx hb d_Lines_isReversed_21 (by decide) ?_
      obtain rfl := Option.some.inj hf
      exact W.zret (ty := .boolean) hx hb hr0 rfl (fun t ht _ => ⟨⟨rfl, by rw [ht]; exact hP⟩, hS.F ht⟩) hS.2.2 d_Lines_isReversed_22 hlk
    · have hf := if_f hf c
      refine lv_iconst (v := 1) hx hb d_Lines_isReversed_17 (by decide) ?_
      refine lv_goto (tgt := 22) hx hb d_Lines_isReversed_18 (by decide) ?_
      obtain rfl := Option.some.inj hf
      exact W.zret (ty := .boolean) hx hb hr0 rfl (fun t ht _ => ⟨⟨rfl, by rw [ht]; exact hP⟩, hS.F ht⟩) hS.2.2 d_Lines_isReversed_22 hlk
theorem c_x_Lines_isReversed {l : Launch} {D : va_G} {cI cZ cJ : ClassId} {ao aa : Nat → Nat} {S : St} {x0 : Int32} {z : Int32 × St} (hz : x_Lines_isReversed S x0 = some z) : Ct l y_Lines_isReversed (.code y_Lines_isReversed b_Lines_isReversed 2 (some .boolean) :: gw) rm_x_Lines_isReversed D [(cI, .int), (cZ, .boolean), (cJ, .long)] (xA ao aa) (xW cI cZ cJ ao aa) [.ref (ao 23), .int x0] S (some (.int z.1)) z.2 :=
  Ct_of (by decide) (fun p e s m args below meth c X => w_x_Lines_isReversed X _ _ hz) (Nat.le_of_ble_eq_true rfl)
def x_Trial_slotsTaken_b16 (S : St) (s0 : Int32) : Option (Int32 × St) :=
  if (gI S 19) = (-1 : Int32) then
    some ((s0 + (0 : Int32)), S)
  else
    some ((s0 + (1 : Int32)), S)
def x_Trial_slotsTaken (S : St) : Option (Int32 × St) :=
  if (gI S 17) = (-1 : Int32) then
    x_Trial_slotsTaken_b16 S (0 : Int32)
  else
    x_Trial_slotsTaken_b16 S (1 : Int32)
def rm_x_Trial_slotsTaken : Room := { frames := 0, cells := 0, slots := 0, locals := 0 }
theorem ok_x_Trial_slotsTaken : CalV y_Trial_slotsTaken b_Trial_slotsTaken 1 (some .int) 0 rm_x_Trial_slotsTaken := ⟨kc_Trial_slotsTaken, ki_Trial_slotsTaken, kl_Trial_slotsTaken, ji_Trial, ⟨by decide, by decide, by decide +kernel⟩, rfl, rfl⟩
set_option maxHeartbeats 4000000 in
set_option maxRecDepth 100000 in
theorem w_x_Trial_slotsTaken_b16 {z : Int32 × St} (X : Cx b_Trial_slotsTaken 1 (some .int) R_Trial D [(cI, .int), (cZ, .boolean), (cJ, .long)] (xA ao aa) (xW cI cZ cJ ao aa) p s m args meth c) (S : St) (s0 : Int32) (hf : x_Trial_slotsTaken_b16 S s0 = some z) : WX rm_x_Trial_slotsTaken D (xA ao aa) (xW cI cZ cJ ao aa) p l e s m args below meth c (some (.int z.1)) z.2 16 [.int s0] 1 [(0, .ref (ao 25))] S := by
  intro H locs ls hP hS hl
  obtain ⟨hx, hb, hr0, hml, hown, htg, hlk, hK, hN, hI⟩ := id X
  unfold x_Trial_slotsTaken_b16 at hf
  refine lv_aload_n hx hb d_Trial_slotsTaken_16 rfl (lv_at hl 0 rfl) ?_
  refine va_get (D := D) (v := .ref (ao 18)) hx hb htg in_Trial hown hK hP 25 xo_25 rfl 6 (by decide) (htg _ k_f_Trial_18) (fun _ h9 => h9) rfl d_Trial_slotsTaken_17 ?_
  refine va_getN (D := D) (v := .int (gI S 19)) hx hb htg in_Slot hown hK hP 18 xo_18 rfl 1 (by decide) (va_Nw.use rfl (hN _ k_fn_Trial_64)) (fun _ h9 => h9) rfl d_Trial_slotsTaken_20 ?_
  refine lv_iconst (v := (-1)) hx hb d_Trial_slotsTaken_23 (by decide) ?_
  refine lv_icmp_ne (tgt := 31) hx hb d_Trial_slotsTaken_24 (by decide) (fun c => ?_) (fun c => ?_)
  · have hf := if_f hf c
    refine lv_iconst (v := 1) hx hb d_Trial_slotsTaken_31 (by decide) ?_
    refine lv_iadd hx hb d_Trial_slotsTaken_32 ?_
    obtain rfl := Option.some.inj hf
    exact W.iret hx hb hr0 (fun t ht _ => ⟨⟨rfl, by rw [ht]; exact hP⟩, hS.F ht⟩) hS.2.2 d_Trial_slotsTaken_33 hlk
  · have hf := if_t hf c
    refine lv_iconst (v := 0) hx hb d_Trial_slotsTaken_27 (by decide) ?_
    refine lv_goto (tgt := 32) hx hb d_Trial_slotsTaken_28 (by decide) ?_
    refine lv_iadd hx hb d_Trial_slotsTaken_32 ?_
    obtain rfl := Option.some.inj hf
    exact W.iret hx hb hr0 (fun t ht _ => ⟨⟨rfl, by rw [ht]; exact hP⟩, hS.F ht⟩) hS.2.2 d_Trial_slotsTaken_33 hlk
set_option maxHeartbeats 4000000 in
set_option maxRecDepth 100000 in
theorem w_x_Trial_slotsTaken {z : Int32 × St} (X : Cx b_Trial_slotsTaken 1 (some .int) R_Trial D [(cI, .int), (cZ, .boolean), (cJ, .long)] (xA ao aa) (xW cI cZ cJ ao aa) p s m args meth c) (S : St) (hf : x_Trial_slotsTaken S = some z) : WX rm_x_Trial_slotsTaken D (xA ao aa) (xW cI cZ cJ ao aa) p l e s m args below meth c (some (.int z.1)) z.2 0 [] 1 [(0, .ref (ao 25))] S := by
  intro H locs ls hP hS hl
  obtain ⟨hx, hb, hr0, hml, hown, htg, hlk, hK, hN, hI⟩ := id X
  unfold x_Trial_slotsTaken at hf
  refine lv_aload_n hx hb d_Trial_slotsTaken_0 rfl (lv_at hl 0 rfl) ?_
  refine va_get (D := D) (v := .ref (ao 17)) hx hb htg in_Trial hown hK hP 25 xo_25 rfl 5 (by decide) (htg _ k_f_Trial_12) (fun _ h9 => h9) rfl d_Trial_slotsTaken_1 ?_
  refine va_getN (D := D) (v := .int (gI S 17)) hx hb htg in_Slot hown hK hP 17 xo_17 rfl 1 (by decide) (va_Nw.use rfl (hN _ k_fn_Trial_64)) (fun _ h9 => h9) rfl d_Trial_slotsTaken_4 ?_
  refine lv_iconst (v := (-1)) hx hb d_Trial_slotsTaken_7 (by decide) ?_
  refine lv_icmp_ne (tgt := 15) hx hb d_Trial_slotsTaken_8 (by decide) (fun c => ?_) (fun c => ?_)
  · have hf := if_f hf c
    refine lv_iconst (v := 1) hx hb d_Trial_slotsTaken_15 (by decide) ?_
    exact w_x_Trial_slotsTaken_b16 X _ _ hf H locs ls hP hS (lv_sub hl [0] rfl)
  · have hf := if_t hf c
    refine lv_iconst (v := 0) hx hb d_Trial_slotsTaken_11 (by decide) ?_
    refine lv_goto (tgt := 16) hx hb d_Trial_slotsTaken_12 (by decide) ?_
    exact w_x_Trial_slotsTaken_b16 X _ _ hf H locs ls hP hS (lv_sub hl [0] rfl)
theorem c_x_Trial_slotsTaken {l : Launch} {D : va_G} {cI cZ cJ : ClassId} {ao aa : Nat → Nat} {S : St} {z : Int32 × St} (hz : x_Trial_slotsTaken S = some z) : Ct l y_Trial_slotsTaken (.code y_Trial_slotsTaken b_Trial_slotsTaken 1 (some .int) :: gw) rm_x_Trial_slotsTaken D [(cI, .int), (cZ, .boolean), (cJ, .long)] (xA ao aa) (xW cI cZ cJ ao aa) [.ref (ao 25)] S (some (.int z.1)) z.2 :=
  Ct_of (by decide) (fun p e s m args below meth c X => w_x_Trial_slotsTaken X _ hz) (Nat.le_of_ble_eq_true rfl)
def x_G_object_b106 (S : St) (x2 : Int32) : Option (Int32 × St) :=
  if (gI S 19) = (-1 : Int32) then
    some ((-1 : Int32), S)
  else
    if x2 = (-2 : Int32) then
      some ((gI S 19), S)
    else
      if x2 = (-1 : Int32) then
        (x_Row_size 10 S).bind fun q3 =>
        some (q3.1, q3.2)
      else
        (x_Row_at 10 S x2).bind fun q2 =>
        some (q2.1, q2.2)
def x_G_object_b106_1 (S : St) (x2 : Int32) : Option (Int32 × St) :=
  if (gI S 17) = (-1 : Int32) then
    some ((-1 : Int32), S)
  else
    if x2 = (-2 : Int32) then
      some ((gI S 17), S)
    else
      if x2 = (-1 : Int32) then
        (x_Row_size 9 S).bind fun q5 =>
        some (q5.1, q5.2)
      else
        (x_Row_at 9 S x2).bind fun q4 =>
        some (q4.1, q4.2)
def x_G_object_b82 (S : St) (x2 : Int32) (s0 : Int32) : Option (Int32 × St) :=
  if s0 = 0 then
    x_G_object_b106 S x2
  else
    x_G_object_b106_1 S x2
def x_G_object_b55 (S : St) (x1 : Int32) (x2 : Int32) (s0 : Int32) : Option (Int32 × St) :=
  if s0 = 0 then
    if x1 = 0 then
      x_G_object_b82 S x2 (1 : Int32)
    else
      x_G_object_b82 S x2 (0 : Int32)
  else
    if x1 = (1 : Int32) then
      x_G_object_b82 S x2 (1 : Int32)
    else
      x_G_object_b82 S x2 (0 : Int32)
def x_G_object_b54 (S : St) (x1 : Int32) (x2 : Int32) : Option (Int32 × St) :=
  x_G_object_b55 S x1 x2 (0 : Int32)
def x_G_object (S : St) (x0 : Int32) (x1 : Int32) : Option (Int32 × St) :=
  if x0 < 0 then
    some ((-1 : Int32), S)
  else
    if (2 : Int32) ≤ x0 then
      some ((-1 : Int32), S)
    else
      if (gI S 30) = (-1 : Int32) then
        some ((-1 : Int32), S)
      else
        (x_Lines_isReversed S (gI S 33)).bind fun q1 =>
        if q1.1 = 0 then
          x_G_object_b54 q1.2 x0 x1
        else
          (x_Trial_slotsTaken q1.2).bind fun q6 =>
          if q6.1 = (2 : Int32) then
            x_G_object_b55 q6.2 x0 x1 (1 : Int32)
          else
            x_G_object_b54 q6.2 x0 x1
def rm_x_G_object : Room := { frames := 2, cells := 0, slots := 0, locals := 42 }
theorem ok_x_G_object : CalV y_G_object b_G_object 6 (some .int) 2 rm_x_G_object := ⟨kc_G_object, ki_G_object, kl_G_object, ji_G, ⟨by decide, by decide, by decide +kernel⟩, rfl, rfl⟩
set_option maxHeartbeats 4000000 in
set_option maxRecDepth 100000 in
theorem w_x_G_object_b106 {z : Int32 × St} (X : Cx b_G_object 6 (some .int) R_G D [(cI, .int), (cZ, .boolean), (cJ, .long)] (xA ao aa) (xW cI cZ cJ ao aa) p s m args meth c) (S : St) (x2 : Int32) (hf : x_G_object_b106 S x2 = some z) : WX rm_x_G_object D (xA ao aa) (xW cI cZ cJ ao aa) p l e s m args below meth c (some (.int z.1)) z.2 106 [.ref (ao 18)] 6 [(2, .int x2)] S := by
  intro H locs ls hP hS hl
  obtain ⟨hx, hb, hr0, hml, hown, htg, hlk, hK, hN, hI⟩ := id X
  unfold x_G_object_b106 at hf
  refine lv_astore (lv' := [(5, .ref (ao 18)), (2, .int x2)]) hx hb d_G_object_106 hl (by decide) rfl (fun ls hl => ?_)
  refine lv_aload hx hb d_G_object_108 (lv_at hl 0 rfl) ?_
  refine va_getN (D := D) (v := .int (gI S 19)) hx hb htg in_Slot hown hK hP 18 xo_18 rfl 1 (by decide) (va_Nw.use rfl (hN _ k_fn_G_226)) (fun _ h9 => h9) rfl d_G_object_110 ?_
  refine lv_iconst (v := (-1)) hx hb d_G_object_113 (by decide) ?_
  refine lv_icmp_ne (tgt := 119) hx hb d_G_object_114 (by decide) (fun c => ?_) (fun c => ?_)
  · have hf := if_f hf c
    refine lv_iload_n hx hb d_G_object_119 rfl (lv_at hl 1 rfl) ?_
    refine lv_bipush (v := (-2)) hx hb d_G_object_120 (by decide) ?_
    refine lv_icmp_ne (tgt := 131) hx hb d_G_object_122 (by decide) (fun c => ?_) (fun c => ?_)
    · have hf := if_f hf c
      refine lv_iload_n hx hb d_G_object_131 rfl (lv_at hl 1 rfl) ?_
      refine lv_iconst (v := (-1)) hx hb d_G_object_132 (by decide) ?_
      refine lv_icmp_ne (tgt := 147) hx hb d_G_object_133 (by decide) (fun c => ?_) (fun c => ?_)
      · have hf := if_f hf c
        refine lv_aload hx hb d_G_object_147 (lv_at hl 0 rfl) ?_
        refine va_getN (D := D) (v := .ref (ao 10)) hx hb htg in_Slot hown hK hP 18 xo_18 rfl 0 (by decide) (va_Nw.use rfl (hN _ k_fn_G_231)) (fun _ h9 => h9) rfl d_G_object_149 ?_
        refine lv_iload_n hx hb d_G_object_152 rfl (lv_at hl 1 rfl) ?_
        obtain ⟨q2, he, hf⟩ := ob_some hf
        refine cl_Vi (As := [.int x2]) (rest := []) X (c_x_Row_at (by decide : 10 < 17) he) ok_x_Row_at k_m_G_234 (va_recv hK hP rfl (xo_row (by decide : 10 < 17))) rfl rfl hl.1 (Nat.le_of_ble_eq_true rfl) d_G_object_153 ⟨by decide, by decide⟩ hP hS (fun H locs hP hS => ?_)
        obtain rfl := Option.some.inj hf
        exact W.iret hx hb hr0 (fun t ht _ => ⟨⟨rfl, by rw [ht]; exact hP⟩, hS.F ht⟩) hS.2.2 d_G_object_156 hlk
      · have hf := if_t hf c
        refine lv_aload hx hb d_G_object_136 (lv_at hl 0 rfl) ?_
        refine va_getN (D := D) (v := .ref (ao 10)) hx hb htg in_Slot hown hK hP 18 xo_18 rfl 0 (by decide) (va_Nw.use rfl (hN _ k_fn_G_231)) (fun _ h9 => h9) rfl d_G_object_138 ?_
        obtain ⟨q3, he, hf⟩ := ob_some hf
        refine cl_Vi (As := []) (rest := []) X (c_x_Row_size (by decide : 10 < 17) he) ok_x_Row_size k_m_G_162 (va_recv hK hP rfl (xo_row (by decide : 10 < 17))) rfl rfl hl.1 (Nat.le_of_ble_eq_true rfl) d_G_object_141 ⟨by decide, by decide⟩ hP hS (fun H locs hP hS => ?_)
        refine lv_goto (tgt := 156) hx hb d_G_object_144 (by decide) ?_
        obtain rfl := Option.some.inj hf
        exact W.iret hx hb hr0 (fun t ht _ => ⟨⟨rfl, by rw [ht]; exact hP⟩, hS.F ht⟩) hS.2.2 d_G_object_156 hlk
    · have hf := if_t hf c
      refine lv_aload hx hb d_G_object_125 (lv_at hl 0 rfl) ?_
      refine va_getN (D := D) (v := .int (gI S 19)) hx hb htg in_Slot hown hK hP 18 xo_18 rfl 1 (by decide) (va_Nw.use rfl (hN _ k_fn_G_226)) (fun _ h9 => h9) rfl d_G_object_127 ?_
      obtain rfl := Option.some.inj hf
      exact W.iret hx hb hr0 (fun t ht _ => ⟨⟨rfl, by rw [ht]; exact hP⟩, hS.F ht⟩) hS.2.2 d_G_object_130 hlk
  · have hf := if_t hf c
    refine lv_iconst (v := (-1)) hx hb d_G_object_117 (by decide) ?_
    obtain rfl := Option.some.inj hf
    exact W.iret hx hb hr0 (fun t ht _ => ⟨⟨rfl, by rw [ht]; exact hP⟩, hS.F ht⟩) hS.2.2 d_G_object_118 hlk
set_option maxHeartbeats 4000000 in
set_option maxRecDepth 100000 in
theorem w_x_G_object_b106_1 {z : Int32 × St} (X : Cx b_G_object 6 (some .int) R_G D [(cI, .int), (cZ, .boolean), (cJ, .long)] (xA ao aa) (xW cI cZ cJ ao aa) p s m args meth c) (S : St) (x2 : Int32) (hf : x_G_object_b106_1 S x2 = some z) : WX rm_x_G_object D (xA ao aa) (xW cI cZ cJ ao aa) p l e s m args below meth c (some (.int z.1)) z.2 106 [.ref (ao 17)] 6 [(2, .int x2)] S := by
  intro H locs ls hP hS hl
  obtain ⟨hx, hb, hr0, hml, hown, htg, hlk, hK, hN, hI⟩ := id X
  unfold x_G_object_b106_1 at hf
  refine lv_astore (lv' := [(5, .ref (ao 17)), (2, .int x2)]) hx hb d_G_object_106 hl (by decide) rfl (fun ls hl => ?_)
  refine lv_aload hx hb d_G_object_108 (lv_at hl 0 rfl) ?_
  refine va_getN (D := D) (v := .int (gI S 17)) hx hb htg in_Slot hown hK hP 17 xo_17 rfl 1 (by decide) (va_Nw.use rfl (hN _ k_fn_G_226)) (fun _ h9 => h9) rfl d_G_object_110 ?_
  refine lv_iconst (v := (-1)) hx hb d_G_object_113 (by decide) ?_
  refine lv_icmp_ne (tgt := 119) hx hb d_G_object_114 (by decide) (fun c => ?_) (fun c => ?_)
  · have hf := if_f hf c
    refine lv_iload_n hx hb d_G_object_119 rfl (lv_at hl 1 rfl) ?_
    refine lv_bipush (v := (-2)) hx hb d_G_object_120 (by decide) ?_
    refine lv_icmp_ne (tgt := 131) hx hb d_G_object_122 (by decide) (fun c => ?_) (fun c => ?_)
    · have hf := if_f hf c
      refine lv_iload_n hx hb d_G_object_131 rfl (lv_at hl 1 rfl) ?_
      refine lv_iconst (v := (-1)) hx hb d_G_object_132 (by decide) ?_
      refine lv_icmp_ne (tgt := 147) hx hb d_G_object_133 (by decide) (fun c => ?_) (fun c => ?_)
      · have hf := if_f hf c
        refine lv_aload hx hb d_G_object_147 (lv_at hl 0 rfl) ?_
        refine va_getN (D := D) (v := .ref (ao 9)) hx hb htg in_Slot hown hK hP 17 xo_17 rfl 0 (by decide) (va_Nw.use rfl (hN _ k_fn_G_231)) (fun _ h9 => h9) rfl d_G_object_149 ?_
        refine lv_iload_n hx hb d_G_object_152 rfl (lv_at hl 1 rfl) ?_
        obtain ⟨q4, he, hf⟩ := ob_some hf
        refine cl_Vi (As := [.int x2]) (rest := []) X (c_x_Row_at (by decide : 9 < 17) he) ok_x_Row_at k_m_G_234 (va_recv hK hP rfl (xo_row (by decide : 9 < 17))) rfl rfl hl.1 (Nat.le_of_ble_eq_true rfl) d_G_object_153 ⟨by decide, by decide⟩ hP hS (fun H locs hP hS => ?_)
        obtain rfl := Option.some.inj hf
        exact W.iret hx hb hr0 (fun t ht _ => ⟨⟨rfl, by rw [ht]; exact hP⟩, hS.F ht⟩) hS.2.2 d_G_object_156 hlk
      · have hf := if_t hf c
        refine lv_aload hx hb d_G_object_136 (lv_at hl 0 rfl) ?_
        refine va_getN (D := D) (v := .ref (ao 9)) hx hb htg in_Slot hown hK hP 17 xo_17 rfl 0 (by decide) (va_Nw.use rfl (hN _ k_fn_G_231)) (fun _ h9 => h9) rfl d_G_object_138 ?_
        obtain ⟨q5, he, hf⟩ := ob_some hf
        refine cl_Vi (As := []) (rest := []) X (c_x_Row_size (by decide : 9 < 17) he) ok_x_Row_size k_m_G_162 (va_recv hK hP rfl (xo_row (by decide : 9 < 17))) rfl rfl hl.1 (Nat.le_of_ble_eq_true rfl) d_G_object_141 ⟨by decide, by decide⟩ hP hS (fun H locs hP hS => ?_)
        refine lv_goto (tgt := 156) hx hb d_G_object_144 (by decide) ?_
        obtain rfl := Option.some.inj hf
        exact W.iret hx hb hr0 (fun t ht _ => ⟨⟨rfl, by rw [ht]; exact hP⟩, hS.F ht⟩) hS.2.2 d_G_object_156 hlk
    · have hf := if_t hf c
      refine lv_aload hx hb d_G_object_125 (lv_at hl 0 rfl) ?_
      refine va_getN (D := D) (v := .int (gI S 17)) hx hb htg in_Slot hown hK hP 17 xo_17 rfl 1 (by decide) (va_Nw.use rfl (hN _ k_fn_G_226)) (fun _ h9 => h9) rfl d_G_object_127 ?_
      obtain rfl := Option.some.inj hf
      exact W.iret hx hb hr0 (fun t ht _ => ⟨⟨rfl, by rw [ht]; exact hP⟩, hS.F ht⟩) hS.2.2 d_G_object_130 hlk
  · have hf := if_t hf c
    refine lv_iconst (v := (-1)) hx hb d_G_object_117 (by decide) ?_
    obtain rfl := Option.some.inj hf
    exact W.iret hx hb hr0 (fun t ht _ => ⟨⟨rfl, by rw [ht]; exact hP⟩, hS.F ht⟩) hS.2.2 d_G_object_118 hlk
set_option maxHeartbeats 4000000 in
set_option maxRecDepth 100000 in
theorem w_x_G_object_b82 {z : Int32 × St} (X : Cx b_G_object 6 (some .int) R_G D [(cI, .int), (cZ, .boolean), (cJ, .long)] (xA ao aa) (xW cI cZ cJ ao aa) p s m args meth c) (S : St) (x2 : Int32) (s0 : Int32) (hf : x_G_object_b82 S x2 s0 = some z) : WX rm_x_G_object D (xA ao aa) (xW cI cZ cJ ao aa) p l e s m args below meth c (some (.int z.1)) z.2 82 [.int s0] 6 [(0, .ref (ao 27)), (2, .int x2)] S := by
  intro H locs ls hP hS hl
  obtain ⟨hx, hb, hr0, hml, hown, htg, hlk, hK, hN, hI⟩ := id X
  unfold x_G_object_b82 at hf
  refine lv_istore (lv' := [(4, .int s0), (0, .ref (ao 27)), (2, .int x2)]) hx hb d_G_object_82 hl (by decide) rfl (fun ls hl => ?_)
  refine lv_iload hx hb d_G_object_84 (lv_at hl 0 rfl) ?_
  refine lv_if_eq (tgt := 99) hx hb d_G_object_86 (by decide) (fun c => ?_) (fun c => ?_)
  · have hf := if_t hf c
    refine lv_aload_n hx hb d_G_object_99 rfl (lv_at hl 1 rfl) ?_
    refine va_get (D := D) (v := .ref (ao 25)) hx hb htg in_G hown hK hP 27 xo_27 rfl 9 (by decide) (htg _ k_f_G_69) (fun _ h9 => h9) rfl d_G_object_100 ?_
    refine va_getN (D := D) (v := .ref (ao 18)) hx hb htg in_Trial hown hK hP 25 xo_25 rfl 6 (by decide) (va_Nw.use rfl (hN _ k_fn_G_223)) (fun _ h9 => h9) rfl d_G_object_103 ?_
    exact w_x_G_object_b106 X _ _ hf H locs ls hP hS (lv_sub hl [2] rfl)
  · have hf := if_f hf c
    refine lv_aload_n hx hb d_G_object_89 rfl (lv_at hl 1 rfl) ?_
    refine va_get (D := D) (v := .ref (ao 25)) hx hb htg in_G hown hK hP 27 xo_27 rfl 9 (by decide) (htg _ k_f_G_69) (fun _ h9 => h9) rfl d_G_object_90 ?_
    refine va_getN (D := D) (v := .ref (ao 17)) hx hb htg in_Trial hown hK hP 25 xo_25 rfl 5 (by decide) (va_Nw.use rfl (hN _ k_fn_G_219)) (fun _ h9 => h9) rfl d_G_object_93 ?_
    refine lv_goto (tgt := 106) hx hb d_G_object_96 (by decide) ?_
    exact w_x_G_object_b106_1 X _ _ hf H locs ls hP hS (lv_sub hl [2] rfl)
set_option maxHeartbeats 4000000 in
set_option maxRecDepth 100000 in
theorem w_x_G_object_b55 {z : Int32 × St} (X : Cx b_G_object 6 (some .int) R_G D [(cI, .int), (cZ, .boolean), (cJ, .long)] (xA ao aa) (xW cI cZ cJ ao aa) p s m args meth c) (S : St) (x1 : Int32) (x2 : Int32) (s0 : Int32) (hf : x_G_object_b55 S x1 x2 s0 = some z) : WX rm_x_G_object D (xA ao aa) (xW cI cZ cJ ao aa) p l e s m args below meth c (some (.int z.1)) z.2 55 [.int s0] 6 [(0, .ref (ao 27)), (1, .int x1), (2, .int x2)] S := by
  intro H locs ls hP hS hl
  obtain ⟨hx, hb, hr0, hml, hown, htg, hlk, hK, hN, hI⟩ := id X
  unfold x_G_object_b55 at hf
  refine lv_istore_n (lv' := [(3, .int s0), (0, .ref (ao 27)), (1, .int x1), (2, .int x2)]) hx hb d_G_object_55 rfl hl (by decide) rfl (fun ls hl => ?_)
  refine lv_iload_n hx hb d_G_object_56 rfl (lv_at hl 0 rfl) ?_
  refine lv_if_eq (tgt := 73) hx hb d_G_object_57 (by decide) (fun c => ?_) (fun c => ?_)
  · have hf := if_t hf c
    refine lv_iload_n hx hb d_G_object_73 rfl (lv_at hl 2 rfl) ?_
    refine lv_if_ne (tgt := 81) hx hb d_G_object_74 (by decide) (fun c => ?_) (fun c => ?_)
    · have hf := if_f hf c
      refine lv_iconst (v := 0) hx hb d_G_object_81 (by decide) ?_
      exact w_x_G_object_b82 X _ _ _ hf H locs ls hP hS (lv_sub hl [1, 3] rfl)
    · have hf := if_t hf c
      refine lv_iconst (v := 1) hx hb d_G_object_77 (by decide) ?_
      refine lv_goto (tgt := 82) hx hb d_G_object_78 (by decide) ?_
      exact w_x_G_object_b82 X _ _ _ hf H locs ls hP hS (lv_sub hl [1, 3] rfl)
  · have hf := if_f hf c
    refine lv_iload_n hx hb d_G_object_60 rfl (lv_at hl 2 rfl) ?_
    refine lv_iconst (v := 1) hx hb d_G_object_61 (by decide) ?_
    refine lv_icmp_ne (tgt := 69) hx hb d_G_object_62 (by decide) (fun c => ?_) (fun c => ?_)
    · have hf := if_f hf c
      refine lv_iconst (v := 0) hx hb d_G_object_69 (by decide) ?_
      refine lv_goto (tgt := 82) hx hb d_G_object_70 (by decide) ?_
      exact w_x_G_object_b82 X _ _ _ hf H locs ls hP hS (lv_sub hl [1, 3] rfl)
    · have hf := if_t hf c
      refine lv_iconst (v := 1) hx hb d_G_object_65 (by decide) ?_
      refine lv_goto (tgt := 82) hx hb d_G_object_66 (by decide) ?_
      exact w_x_G_object_b82 X _ _ _ hf H locs ls hP hS (lv_sub hl [1, 3] rfl)
set_option maxHeartbeats 4000000 in
set_option maxRecDepth 100000 in
theorem w_x_G_object_b54 {z : Int32 × St} (X : Cx b_G_object 6 (some .int) R_G D [(cI, .int), (cZ, .boolean), (cJ, .long)] (xA ao aa) (xW cI cZ cJ ao aa) p s m args meth c) (S : St) (x1 : Int32) (x2 : Int32) (hf : x_G_object_b54 S x1 x2 = some z) : WX rm_x_G_object D (xA ao aa) (xW cI cZ cJ ao aa) p l e s m args below meth c (some (.int z.1)) z.2 54 [] 6 [(0, .ref (ao 27)), (1, .int x1), (2, .int x2)] S := by
  intro H locs ls hP hS hl
  obtain ⟨hx, hb, hr0, hml, hown, htg, hlk, hK, hN, hI⟩ := id X
  unfold x_G_object_b54 at hf
  refine lv_iconst (v := 0) hx hb d_G_object_54 (by decide) ?_
  exact w_x_G_object_b55 X _ _ _ _ hf H locs ls hP hS (lv_sub hl [0, 1, 2] rfl)
set_option maxHeartbeats 4000000 in
set_option maxRecDepth 100000 in
theorem w_x_G_object {z : Int32 × St} (X : Cx b_G_object 6 (some .int) R_G D [(cI, .int), (cZ, .boolean), (cJ, .long)] (xA ao aa) (xW cI cZ cJ ao aa) p s m args meth c) (S : St) (x0 : Int32) (x1 : Int32) (hf : x_G_object S x0 x1 = some z) : WX rm_x_G_object D (xA ao aa) (xW cI cZ cJ ao aa) p l e s m args below meth c (some (.int z.1)) z.2 0 [] 6 [(0, .ref (ao 27)), (1, .int x0), (2, .int x1)] S := by
  intro H locs ls hP hS hl
  obtain ⟨hx, hb, hr0, hml, hown, htg, hlk, hK, hN, hI⟩ := id X
  unfold x_G_object at hf
  refine lv_iload_n hx hb d_G_object_0 rfl (lv_at hl 1 rfl) ?_
  refine lv_if_lt (tgt := 20) hx hb d_G_object_1 (by decide) (fun c => ?_) (fun c => ?_)
  · have hf := if_t hf c
    refine lv_iconst (v := (-1)) hx hb d_G_object_20 (by decide) ?_
    obtain rfl := Option.some.inj hf
    exact W.iret hx hb hr0 (fun t ht _ => ⟨⟨rfl, by rw [ht]; exact hP⟩, hS.F ht⟩) hS.2.2 d_G_object_21 hlk
  · have hf := if_f hf c
    refine lv_iload_n hx hb d_G_object_4 rfl (lv_at hl 1 rfl) ?_
    refine lv_iconst (v := 2) hx hb d_G_object_5 (by decide) ?_
    refine lv_icmp_ge (tgt := 20) hx hb d_G_object_6 (by decide) (fun c => ?_) (fun c => ?_)
    · have hf := if_t hf c
      refine lv_iconst (v := (-1)) hx hb d_G_object_20 (by decide) ?_
      obtain rfl := Option.some.inj hf
      exact W.iret hx hb hr0 (fun t ht _ => ⟨⟨rfl, by rw [ht]; exact hP⟩, hS.F ht⟩) hS.2.2 d_G_object_21 hlk
    · have hf := if_f hf c
      refine lv_aload_n hx hb d_G_object_9 rfl (lv_at hl 0 rfl) ?_
      refine va_get (D := D) (v := .ref (ao 26)) hx hb htg in_G hown hK hP 27 xo_27 rfl 10 (by decide) (htg _ k_f_G_76) (fun _ h9 => h9) rfl d_G_object_10 ?_
      refine va_getN (D := D) (v := .int (gI S 30)) hx hb htg in_Report hown hK hP 26 xo_26 rfl 4 (by decide) (va_Nw.use rfl (hN _ k_fn_G_207)) (fun _ h9 => h9) rfl d_G_object_13 ?_
      refine lv_iconst (v := (-1)) hx hb d_G_object_16 (by decide) ?_
      refine lv_icmp_ne (tgt := 22) hx hb d_G_object_17 (by decide) (fun c => ?_) (fun c => ?_)
      · have hf := if_f hf c
        refine lv_aload_n hx hb d_G_object_22 rfl (lv_at hl 0 rfl) ?_
        refine va_get (D := D) (v := .ref (ao 23)) hx hb htg in_G hown hK hP 27 xo_27 rfl 2 (by decide) (htg _ k_f_G_26) (fun _ h9 => h9) rfl d_G_object_23 ?_
        refine lv_aload_n hx hb d_G_object_26 rfl (lv_at hl 0 rfl) ?_
        refine va_get (D := D) (v := .ref (ao 26)) hx hb htg in_G hown hK hP 27 xo_27 rfl 10 (by decide) (htg _ k_f_G_76) (fun _ h9 => h9) rfl d_G_object_27 ?_
        refine va_getN (D := D) (v := .int (gI S 33)) hx hb htg in_Report hown hK hP 26 xo_26 rfl 7 (by decide) (va_Nw.use rfl (hN _ k_fn_G_210)) (fun _ h9 => h9) rfl d_G_object_30 ?_
        obtain ⟨q1, he, hf⟩ := ob_some hf
        refine cl_Vi (As := [.int (gI S 33)]) (rest := []) X (c_x_Lines_isReversed he) ok_x_Lines_isReversed k_m_G_213 (va_recv hK hP rfl xo_23) rfl rfl hl.1 (Nat.le_of_ble_eq_true rfl) d_G_object_33 ⟨by decide, by decide⟩ hP hS (fun H locs hP hS => ?_)
        refine lv_if_eq (tgt := 54) hx hb d_G_object_36 (by decide) (fun c => ?_) (fun c => ?_)
        · have hf := if_t hf c
          exact w_x_G_object_b54 X _ _ _ hf H locs ls hP hS (lv_sub hl [0, 1, 2] rfl)
        · have hf := if_f hf c
          refine lv_aload_n hx hb d_G_object_39 rfl (lv_at hl 0 rfl) ?_
          refine va_get (D := D) (v := .ref (ao 25)) hx hb htg in_G hown hK hP 27 xo_27 rfl 9 (by decide) (htg _ k_f_G_69) (fun _ h9 => h9) rfl d_G_object_40 ?_
          obtain ⟨q6, he, hf⟩ := ob_some hf
          refine cl_Vi (As := []) (rest := []) X (c_x_Trial_slotsTaken he) ok_x_Trial_slotsTaken k_m_G_216 (va_recv hK hP rfl xo_25) rfl rfl hl.1 (Nat.le_of_ble_eq_true rfl) d_G_object_43 ⟨by decide, by decide⟩ hP hS (fun H locs hP hS => ?_)
          refine lv_iconst (v := 2) hx hb d_G_object_46 (by decide) ?_
          refine lv_icmp_ne (tgt := 54) hx hb d_G_object_47 (by decide) (fun c => ?_) (fun c => ?_)
          · have hf := if_f hf c
            exact w_x_G_object_b54 X _ _ _ hf H locs ls hP hS (lv_sub hl [0, 1, 2] rfl)
          · have hf := if_t hf c
            refine lv_iconst (v := 1) hx hb d_G_object_50 (by decide) ?_
            refine lv_goto (tgt := 55) hx hb d_G_object_51 (by decide) ?_
            exact w_x_G_object_b55 X _ _ _ _ hf H locs ls hP hS (lv_sub hl [0, 1, 2] rfl)
      · have hf := if_t hf c
        refine lv_iconst (v := (-1)) hx hb d_G_object_20 (by decide) ?_
        obtain rfl := Option.some.inj hf
        exact W.iret hx hb hr0 (fun t ht _ => ⟨⟨rfl, by rw [ht]; exact hP⟩, hS.F ht⟩) hS.2.2 d_G_object_21 hlk
theorem c_x_G_object {l : Launch} {D : va_G} {cI cZ cJ : ClassId} {ao aa : Nat → Nat} {S : St} {x0 : Int32} {x1 : Int32} {z : Int32 × St} (hz : x_G_object S x0 x1 = some z) : Ct l y_G_object (.code y_G_object b_G_object 6 (some .int) :: gw) rm_x_G_object D [(cI, .int), (cZ, .boolean), (cJ, .long)] (xA ao aa) (xW cI cZ cJ ao aa) [.ref (ao 27), .int x0, .int x1] S (some (.int z.1)) z.2 :=
  Ct_of (by decide) (fun p e s m args below meth c X => w_x_G_object X _ _ _ hz) (Nat.le_of_ble_eq_true rfl)
def x_G_asked (S : St) (x0 : Int32) : Option (Int32 × St) :=
  if x0 = (-1 : Int32) then
    (x_Report_isAsked S).bind fun q3 =>
    if q3.1 = 0 then
      some ((0 : Int32), q3.2)
    else
      some ((gI q3.2 31), q3.2)
  else
    (x_Report_isAsked S).bind fun q1 =>
    if q1.1 = 0 then
      some ((-1 : Int32), q1.2)
    else
      (x_Row_at 16 q1.2 x0).bind fun q2 =>
      some (q2.1, q2.2)
def rm_x_G_asked : Room := { frames := 1, cells := 0, slots := 0, locals := 21 }
theorem ok_x_G_asked : CalV y_G_asked b_G_asked 2 (some .int) 1 rm_x_G_asked := ⟨kc_G_asked, ki_G_asked, kl_G_asked, ji_G, ⟨by decide, by decide, by decide +kernel⟩, rfl, rfl⟩
set_option maxHeartbeats 4000000 in
set_option maxRecDepth 100000 in
theorem w_x_G_asked {z : Int32 × St} (X : Cx b_G_asked 2 (some .int) R_G D [(cI, .int), (cZ, .boolean), (cJ, .long)] (xA ao aa) (xW cI cZ cJ ao aa) p s m args meth c) (S : St) (x0 : Int32) (hf : x_G_asked S x0 = some z) : WX rm_x_G_asked D (xA ao aa) (xW cI cZ cJ ao aa) p l e s m args below meth c (some (.int z.1)) z.2 0 [] 2 [(0, .ref (ao 27)), (1, .int x0)] S := by
  intro H locs ls hP hS hl
  obtain ⟨hx, hb, hr0, hml, hown, htg, hlk, hK, hN, hI⟩ := id X
  unfold x_G_asked at hf
  refine lv_iload_n hx hb d_G_asked_0 rfl (lv_at hl 1 rfl) ?_
  refine lv_iconst (v := (-1)) hx hb d_G_asked_1 (by decide) ?_
  refine lv_icmp_ne (tgt := 27) hx hb d_G_asked_2 (by decide) (fun c => ?_) (fun c => ?_)
  · have hf := if_f hf c
    refine lv_aload_n hx hb d_G_asked_27 rfl (lv_at hl 0 rfl) ?_
    refine va_get (D := D) (v := .ref (ao 26)) hx hb htg in_G hown hK hP 27 xo_27 rfl 10 (by decide) (htg _ k_f_G_76) (fun _ h9 => h9) rfl d_G_asked_28 ?_
    obtain ⟨q1, he, hf⟩ := ob_some hf
    refine cl_Vi (As := []) (rest := []) X (c_x_Report_isAsked he) ok_x_Report_isAsked k_m_G_189 (va_recv hK hP rfl xo_26) rfl rfl hl.1 (Nat.le_of_ble_eq_true rfl) d_G_asked_31 ⟨by decide, by decide⟩ hP hS (fun H locs hP hS => ?_)
    refine lv_if_eq (tgt := 51) hx hb d_G_asked_34 (by decide) (fun c => ?_) (fun c => ?_)
    · have hf := if_t hf c
      refine lv_iconst (v := (-1)) hx hb d_G_asked_51 (by decide) ?_
      obtain rfl := Option.some.inj hf
      exact W.iret hx hb hr0 (fun t ht _ => ⟨⟨rfl, by rw [ht]; exact hP⟩, hS.F ht⟩) hS.2.2 d_G_asked_52 hlk
    · have hf := if_f hf c
      refine lv_aload_n hx hb d_G_asked_37 rfl (lv_at hl 0 rfl) ?_
      refine va_get (D := D) (v := .ref (ao 26)) hx hb htg in_G hown hK hP 27 xo_27 rfl 10 (by decide) (htg _ k_f_G_76) (fun _ h9 => h9) rfl d_G_asked_38 ?_
      refine va_getN (D := D) (v := .ref (ao 16)) hx hb htg in_Report hown hK hP 26 xo_26 rfl 3 (by decide) (va_Nw.use rfl (hN _ k_fn_G_200)) (fun _ h9 => h9) rfl d_G_asked_41 ?_
      refine lv_iload_n hx hb d_G_asked_44 rfl (lv_at hl 1 rfl) ?_
      obtain ⟨q2, he, hf⟩ := ob_some hf
      refine cl_Vi (As := [.int x0]) (rest := []) X (c_x_Row_at (by decide : 16 < 17) he) ok_x_Row_at k_m_G_234 (va_recv hK hP rfl (xo_row (by decide : 16 < 17))) rfl rfl hl.1 (Nat.le_of_ble_eq_true rfl) d_G_asked_45 ⟨by decide, by decide⟩ hP hS (fun H locs hP hS => ?_)
      refine lv_goto (tgt := 52) hx hb d_G_asked_48 (by decide) ?_
      obtain rfl := Option.some.inj hf
      exact W.iret hx hb hr0 (fun t ht _ => ⟨⟨rfl, by rw [ht]; exact hP⟩, hS.F ht⟩) hS.2.2 d_G_asked_52 hlk
  · have hf := if_t hf c
    refine lv_aload_n hx hb d_G_asked_5 rfl (lv_at hl 0 rfl) ?_
    refine va_get (D := D) (v := .ref (ao 26)) hx hb htg in_G hown hK hP 27 xo_27 rfl 10 (by decide) (htg _ k_f_G_76) (fun _ h9 => h9) rfl d_G_asked_6 ?_
    obtain ⟨q3, he, hf⟩ := ob_some hf
    refine cl_Vi (As := []) (rest := []) X (c_x_Report_isAsked he) ok_x_Report_isAsked k_m_G_189 (va_recv hK hP rfl xo_26) rfl rfl hl.1 (Nat.le_of_ble_eq_true rfl) d_G_asked_9 ⟨by decide, by decide⟩ hP hS (fun H locs hP hS => ?_)
    refine lv_if_eq (tgt := 25) hx hb d_G_asked_12 (by decide) (fun c => ?_) (fun c => ?_)
    · have hf := if_t hf c
      refine lv_iconst (v := 0) hx hb d_G_asked_25 (by decide) ?_
      obtain rfl := Option.some.inj hf
      exact W.iret hx hb hr0 (fun t ht _ => ⟨⟨rfl, by rw [ht]; exact hP⟩, hS.F ht⟩) hS.2.2 d_G_asked_26 hlk
    · have hf := if_f hf c
      refine lv_aload_n hx hb d_G_asked_15 rfl (lv_at hl 0 rfl) ?_
      refine va_get (D := D) (v := .ref (ao 26)) hx hb htg in_G hown hK hP 27 xo_27 rfl 10 (by decide) (htg _ k_f_G_76) (fun _ h9 => h9) rfl d_G_asked_16 ?_
      refine va_getN (D := D) (v := .int (gI q3.2 31)) hx hb htg in_Report hown hK hP 26 xo_26 rfl 5 (by decide) (va_Nw.use rfl (hN _ k_fn_G_197)) (fun _ h9 => h9) rfl d_G_asked_19 ?_
      refine lv_goto (tgt := 26) hx hb d_G_asked_22 (by decide) ?_
      obtain rfl := Option.some.inj hf
      exact W.iret hx hb hr0 (fun t ht _ => ⟨⟨rfl, by rw [ht]; exact hP⟩, hS.F ht⟩) hS.2.2 d_G_asked_26 hlk
theorem c_x_G_asked {l : Launch} {D : va_G} {cI cZ cJ : ClassId} {ao aa : Nat → Nat} {S : St} {x0 : Int32} {z : Int32 × St} (hz : x_G_asked S x0 = some z) : Ct l y_G_asked (.code y_G_asked b_G_asked 2 (some .int) :: gw) rm_x_G_asked D [(cI, .int), (cZ, .boolean), (cJ, .long)] (xA ao aa) (xW cI cZ cJ ao aa) [.ref (ao 27), .int x0] S (some (.int z.1)) z.2 :=
  Ct_of (by decide) (fun p e s m args below meth c X => w_x_G_asked X _ _ hz) (Nat.le_of_ble_eq_true rfl)
def x_G_filled (S : St) (x0 : Int32) : Option (Int32 × St) :=
  if (gI S 30) = (-1 : Int32) then
    some ((-1 : Int32), S)
  else
    (x_Row_at 11 S x0).bind fun q1 =>
    some (q1.1, q1.2)
def rm_x_G_filled : Room := { frames := 1, cells := 0, slots := 0, locals := 21 }
theorem ok_x_G_filled : CalV y_G_filled b_G_filled 2 (some .int) 1 rm_x_G_filled := ⟨kc_G_filled, ki_G_filled, kl_G_filled, ji_G, ⟨by decide, by decide, by decide +kernel⟩, rfl, rfl⟩
set_option maxHeartbeats 4000000 in
set_option maxRecDepth 100000 in
theorem w_x_G_filled {z : Int32 × St} (X : Cx b_G_filled 2 (some .int) R_G D [(cI, .int), (cZ, .boolean), (cJ, .long)] (xA ao aa) (xW cI cZ cJ ao aa) p s m args meth c) (S : St) (x0 : Int32) (hf : x_G_filled S x0 = some z) : WX rm_x_G_filled D (xA ao aa) (xW cI cZ cJ ao aa) p l e s m args below meth c (some (.int z.1)) z.2 0 [] 2 [(0, .ref (ao 27)), (1, .int x0)] S := by
  intro H locs ls hP hS hl
  obtain ⟨hx, hb, hr0, hml, hown, htg, hlk, hK, hN, hI⟩ := id X
  unfold x_G_filled at hf
  refine lv_aload_n hx hb d_G_filled_0 rfl (lv_at hl 0 rfl) ?_
  refine va_get (D := D) (v := .ref (ao 26)) hx hb htg in_G hown hK hP 27 xo_27 rfl 10 (by decide) (htg _ k_f_G_76) (fun _ h9 => h9) rfl d_G_filled_1 ?_
  refine va_getN (D := D) (v := .int (gI S 30)) hx hb htg in_Report hown hK hP 26 xo_26 rfl 4 (by decide) (va_Nw.use rfl (hN _ k_fn_G_207)) (fun _ h9 => h9) rfl d_G_filled_4 ?_
  refine lv_iconst (v := (-1)) hx hb d_G_filled_7 (by decide) ?_
  refine lv_icmp_ne (tgt := 15) hx hb d_G_filled_8 (by decide) (fun c => ?_) (fun c => ?_)
  · have hf := if_f hf c
    refine lv_aload_n hx hb d_G_filled_15 rfl (lv_at hl 0 rfl) ?_
    refine va_get (D := D) (v := .ref (ao 25)) hx hb htg in_G hown hK hP 27 xo_27 rfl 9 (by decide) (htg _ k_f_G_69) (fun _ h9 => h9) rfl d_G_filled_16 ?_
    refine va_getN (D := D) (v := .ref (ao 11)) hx hb htg in_Trial hown hK hP 25 xo_25 rfl 7 (by decide) (va_Nw.use rfl (hN _ k_fn_G_237)) (fun _ h9 => h9) rfl d_G_filled_19 ?_
    refine lv_iload_n hx hb d_G_filled_22 rfl (lv_at hl 1 rfl) ?_
    obtain ⟨q1, he, hf⟩ := ob_some hf
    refine cl_Vi (As := [.int x0]) (rest := []) X (c_x_Row_at (by decide : 11 < 17) he) ok_x_Row_at k_m_G_234 (va_recv hK hP rfl (xo_row (by decide : 11 < 17))) rfl rfl hl.1 (Nat.le_of_ble_eq_true rfl) d_G_filled_23 ⟨by decide, by decide⟩ hP hS (fun H locs hP hS => ?_)
    obtain rfl := Option.some.inj hf
    exact W.iret hx hb hr0 (fun t ht _ => ⟨⟨rfl, by rw [ht]; exact hP⟩, hS.F ht⟩) hS.2.2 d_G_filled_26 hlk
  · have hf := if_t hf c
    refine lv_iconst (v := (-1)) hx hb d_G_filled_11 (by decide) ?_
    refine lv_goto (tgt := 26) hx hb d_G_filled_12 (by decide) ?_
    obtain rfl := Option.some.inj hf
    exact W.iret hx hb hr0 (fun t ht _ => ⟨⟨rfl, by rw [ht]; exact hP⟩, hS.F ht⟩) hS.2.2 d_G_filled_26 hlk
theorem c_x_G_filled {l : Launch} {D : va_G} {cI cZ cJ : ClassId} {ao aa : Nat → Nat} {S : St} {x0 : Int32} {z : Int32 × St} (hz : x_G_filled S x0 = some z) : Ct l y_G_filled (.code y_G_filled b_G_filled 2 (some .int) :: gw) rm_x_G_filled D [(cI, .int), (cZ, .boolean), (cJ, .long)] (xA ao aa) (xW cI cZ cJ ao aa) [.ref (ao 27), .int x0] S (some (.int z.1)) z.2 :=
  Ct_of (by decide) (fun p e s m args below meth c X => w_x_G_filled X _ _ hz) (Nat.le_of_ble_eq_true rfl)
def x_Verbs_count (S : St) : Option (Int32 × St) :=
  some ((gI S 24), S)
def rm_x_Verbs_count : Room := { frames := 0, cells := 0, slots := 0, locals := 0 }
theorem ok_x_Verbs_count : CalV y_Verbs_count b_Verbs_count 1 (some .int) 0 rm_x_Verbs_count := ⟨kc_Verbs_count, ki_Verbs_count, kl_Verbs_count, ji_Verbs, ⟨by decide, by decide, by decide +kernel⟩, rfl, rfl⟩
set_option maxHeartbeats 4000000 in
set_option maxRecDepth 100000 in
theorem w_x_Verbs_count {z : Int32 × St} (X : Cx b_Verbs_count 1 (some .int) R_Verbs D [(cI, .int), (cZ, .boolean), (cJ, .long)] (xA ao aa) (xW cI cZ cJ ao aa) p s m args meth c) (S : St) (hf : x_Verbs_count S = some z) : WX rm_x_Verbs_count D (xA ao aa) (xW cI cZ cJ ao aa) p l e s m args below meth c (some (.int z.1)) z.2 0 [] 1 [(0, .ref (ao 22))] S := by
  intro H locs ls hP hS hl
  obtain ⟨hx, hb, hr0, hml, hown, htg, hlk, hK, hN, hI⟩ := id X
  unfold x_Verbs_count at hf
  refine lv_aload_n hx hb d_Verbs_count_0 rfl (lv_at hl 0 rfl) ?_
  refine va_get (D := D) (v := .int (gI S 24)) hx hb htg in_Verbs hown hK hP 22 xo_22 rfl 2 (by decide) (htg _ k_f_Verbs_23) (fun _ h9 => h9) rfl d_Verbs_count_1 ?_
  obtain rfl := Option.some.inj hf
  exact W.iret hx hb hr0 (fun t ht _ => ⟨⟨rfl, by rw [ht]; exact hP⟩, hS.F ht⟩) hS.2.2 d_Verbs_count_4 hlk
theorem c_x_Verbs_count {l : Launch} {D : va_G} {cI cZ cJ : ClassId} {ao aa : Nat → Nat} {S : St} {z : Int32 × St} (hz : x_Verbs_count S = some z) : Ct l y_Verbs_count (.code y_Verbs_count b_Verbs_count 1 (some .int) :: gw) rm_x_Verbs_count D [(cI, .int), (cZ, .boolean), (cJ, .long)] (xA ao aa) (xW cI cZ cJ ao aa) [.ref (ao 22)] S (some (.int z.1)) z.2 :=
  Ct_of (by decide) (fun p e s m args below meth c X => w_x_Verbs_count X _ hz) (Nat.le_of_ble_eq_true rfl)
def x_Things_count (S : St) : Option (Int32 × St) :=
  some ((gI S 23), S)
def rm_x_Things_count : Room := { frames := 0, cells := 0, slots := 0, locals := 0 }
theorem ok_x_Things_count : CalV y_Things_count b_Things_count 1 (some .int) 0 rm_x_Things_count := ⟨kc_Things_count, ki_Things_count, kl_Things_count, ji_Things, ⟨by decide, by decide, by decide +kernel⟩, rfl, rfl⟩
set_option maxHeartbeats 4000000 in
set_option maxRecDepth 100000 in
theorem w_x_Things_count {z : Int32 × St} (X : Cx b_Things_count 1 (some .int) R_Things D [(cI, .int), (cZ, .boolean), (cJ, .long)] (xA ao aa) (xW cI cZ cJ ao aa) p s m args meth c) (S : St) (hf : x_Things_count S = some z) : WX rm_x_Things_count D (xA ao aa) (xW cI cZ cJ ao aa) p l e s m args below meth c (some (.int z.1)) z.2 0 [] 1 [(0, .ref (ao 21))] S := by
  intro H locs ls hP hS hl
  obtain ⟨hx, hb, hr0, hml, hown, htg, hlk, hK, hN, hI⟩ := id X
  unfold x_Things_count at hf
  refine lv_aload_n hx hb d_Things_count_0 rfl (lv_at hl 0 rfl) ?_
  refine va_get (D := D) (v := .int (gI S 23)) hx hb htg in_Things hown hK hP 21 xo_21 rfl 3 (by decide) (htg _ k_f_Things_21) (fun _ h9 => h9) rfl d_Things_count_1 ?_
  obtain rfl := Option.some.inj hf
  exact W.iret hx hb hr0 (fun t ht _ => ⟨⟨rfl, by rw [ht]; exact hP⟩, hS.F ht⟩) hS.2.2 d_Things_count_4 hlk
theorem c_x_Things_count {l : Launch} {D : va_G} {cI cZ cJ : ClassId} {ao aa : Nat → Nat} {S : St} {z : Int32 × St} (hz : x_Things_count S = some z) : Ct l y_Things_count (.code y_Things_count b_Things_count 1 (some .int) :: gw) rm_x_Things_count D [(cI, .int), (cZ, .boolean), (cJ, .long)] (xA ao aa) (xW cI cZ cJ ao aa) [.ref (ao 21)] S (some (.int z.1)) z.2 :=
  Ct_of (by decide) (fun p e s m args below meth c X => w_x_Things_count X _ hz) (Nat.le_of_ble_eq_true rfl)
def x_G_told (S : St) (x0 : Int32) : Option (Int32 × St) :=
  if x0.toInt < 0 ∨ 10 < x0.toInt then
    some ((-1 : Int32), S)
  else
  if x0 = (0 : Int32) then
    some ((gI S 31), S)
  else
  if x0 = (1 : Int32) then
    some ((gI S 32), S)
  else
  if x0 = (2 : Int32) then
    some ((gI S 33), S)
  else
  if x0 = (3 : Int32) then
    some ((gI S 35), S)
  else
  if x0 = (4 : Int32) then
    (x_Row_size 13 S).bind fun q1 =>
    some (q1.1, q1.2)
  else
  if x0 = (5 : Int32) then
    (x_Row_size 5 S).bind fun q2 =>
    some (q2.1, q2.2)
  else
  if x0 = (6 : Int32) then
    (x_Row_size 6 S).bind fun q3 =>
    some (q3.1, q3.2)
  else
  if x0 = (7 : Int32) then
    (x_Verbs_count S).bind fun q4 =>
    some (q4.1, q4.2)
  else
  if x0 = (8 : Int32) then
    (x_Lines_count S).bind fun q5 =>
    some (q5.1, q5.2)
  else
  if x0 = (9 : Int32) then
    (x_Things_count S).bind fun q6 =>
    some (q6.1, q6.2)
  else
  if x0 = (10 : Int32) then
    (x_Values_count S).bind fun q7 =>
    some (q7.1, q7.2)
  else
  none
def rm_x_G_told : Room := { frames := 2, cells := 0, slots := 0, locals := 40 }
theorem ok_x_G_told : CalV y_G_told b_G_told 2 (some .int) 1 rm_x_G_told := ⟨kc_G_told, ki_G_told, kl_G_told, ji_G, ⟨by decide, by decide, by decide +kernel⟩, rfl, rfl⟩
set_option maxHeartbeats 4000000 in
set_option maxRecDepth 100000 in
theorem w_x_G_told {z : Int32 × St} (X : Cx b_G_told 2 (some .int) R_G D [(cI, .int), (cZ, .boolean), (cJ, .long)] (xA ao aa) (xW cI cZ cJ ao aa) p s m args meth c) (S : St) (x0 : Int32) (hf : x_G_told S x0 = some z) : WX rm_x_G_told D (xA ao aa) (xW cI cZ cJ ao aa) p l e s m args below meth c (some (.int z.1)) z.2 0 [] 2 [(0, .ref (ao 27)), (1, .int x0)] S := by
  intro H locs ls hP hS hl
  obtain ⟨hx, hb, hr0, hml, hown, htg, hlk, hK, hN, hI⟩ := id X
  unfold x_G_told at hf
  refine lv_iload_n hx hb d_G_told_0 rfl (lv_at hl 1 rfl) ?_
  by_cases c : x0.toInt < 0 ∨ 10 < x0.toInt
  · have hf := if_t hf c
    refine lv_tableOut (tgt := 148) hx hb d_G_told_1 c (by decide) ?_
    refine lv_iconst (v := (-1)) hx hb d_G_told_148 (by decide) ?_
    obtain rfl := Option.some.inj hf
    exact W.iret hx hb hr0 (fun t ht _ => ⟨⟨rfl, by rw [ht]; exact hP⟩, hS.F ht⟩) hS.2.2 d_G_told_149 hlk
  have hf := if_f hf c
  by_cases c : x0 = (0 : Int32)
  · have hf := if_t hf c
    refine lv_tableIn (off := 59) (tgt := 60) hx hb d_G_told_1 (by rw [c]; decide) (by rw [c]; decide) (by rw [c]; rfl) (by decide) ?_
    refine lv_aload_n hx hb d_G_told_60 rfl (lv_at hl 0 rfl) ?_
    refine va_get (D := D) (v := .ref (ao 26)) hx hb htg in_G hown hK hP 27 xo_27 rfl 10 (by decide) (htg _ k_f_G_76) (fun _ h9 => h9) rfl d_G_told_61 ?_
    refine va_getN (D := D) (v := .int (gI S 31)) hx hb htg in_Report hown hK hP 26 xo_26 rfl 5 (by decide) (va_Nw.use rfl (hN _ k_fn_G_197)) (fun _ h9 => h9) rfl d_G_told_64 ?_
    obtain rfl := Option.some.inj hf
    exact W.iret hx hb hr0 (fun t ht _ => ⟨⟨rfl, by rw [ht]; exact hP⟩, hS.F ht⟩) hS.2.2 d_G_told_67 hlk
  have hf := if_f hf c
  by_cases c : x0 = (1 : Int32)
  · have hf := if_t hf c
    refine lv_tableIn (off := 67) (tgt := 68) hx hb d_G_told_1 (by rw [c]; decide) (by rw [c]; decide) (by rw [c]; rfl) (by decide) ?_
    refine lv_aload_n hx hb d_G_told_68 rfl (lv_at hl 0 rfl) ?_
    refine va_get (D := D) (v := .ref (ao 26)) hx hb htg in_G hown hK hP 27 xo_27 rfl 10 (by decide) (htg _ k_f_G_76) (fun _ h9 => h9) rfl d_G_told_69 ?_
    refine va_getN (D := D) (v := .int (gI S 32)) hx hb htg in_Report hown hK hP 26 xo_26 rfl 6 (by decide) (va_Nw.use rfl (hN _ k_fn_G_240)) (fun _ h9 => h9) rfl d_G_told_72 ?_
    obtain rfl := Option.some.inj hf
    exact W.iret hx hb hr0 (fun t ht _ => ⟨⟨rfl, by rw [ht]; exact hP⟩, hS.F ht⟩) hS.2.2 d_G_told_75 hlk
  have hf := if_f hf c
  by_cases c : x0 = (2 : Int32)
  · have hf := if_t hf c
    refine lv_tableIn (off := 75) (tgt := 76) hx hb d_G_told_1 (by rw [c]; decide) (by rw [c]; decide) (by rw [c]; rfl) (by decide) ?_
    refine lv_aload_n hx hb d_G_told_76 rfl (lv_at hl 0 rfl) ?_
    refine va_get (D := D) (v := .ref (ao 26)) hx hb htg in_G hown hK hP 27 xo_27 rfl 10 (by decide) (htg _ k_f_G_76) (fun _ h9 => h9) rfl d_G_told_77 ?_
    refine va_getN (D := D) (v := .int (gI S 33)) hx hb htg in_Report hown hK hP 26 xo_26 rfl 7 (by decide) (va_Nw.use rfl (hN _ k_fn_G_210)) (fun _ h9 => h9) rfl d_G_told_80 ?_
    obtain rfl := Option.some.inj hf
    exact W.iret hx hb hr0 (fun t ht _ => ⟨⟨rfl, by rw [ht]; exact hP⟩, hS.F ht⟩) hS.2.2 d_G_told_83 hlk
  have hf := if_f hf c
  by_cases c : x0 = (3 : Int32)
  · have hf := if_t hf c
    refine lv_tableIn (off := 83) (tgt := 84) hx hb d_G_told_1 (by rw [c]; decide) (by rw [c]; decide) (by rw [c]; rfl) (by decide) ?_
    refine lv_aload_n hx hb d_G_told_84 rfl (lv_at hl 0 rfl) ?_
    refine va_get (D := D) (v := .int (gI S 35)) hx hb htg in_G hown hK hP 27 xo_27 rfl 11 (by decide) (htg _ k_f_G_80) (fun _ h9 => h9) rfl d_G_told_85 ?_
    obtain rfl := Option.some.inj hf
    exact W.iret hx hb hr0 (fun t ht _ => ⟨⟨rfl, by rw [ht]; exact hP⟩, hS.F ht⟩) hS.2.2 d_G_told_88 hlk
  have hf := if_f hf c
  by_cases c : x0 = (4 : Int32)
  · have hf := if_t hf c
    refine lv_tableIn (off := 88) (tgt := 89) hx hb d_G_told_1 (by rw [c]; decide) (by rw [c]; decide) (by rw [c]; rfl) (by decide) ?_
    refine lv_aload_n hx hb d_G_told_89 rfl (lv_at hl 0 rfl) ?_
    refine va_get (D := D) (v := .ref (ao 26)) hx hb htg in_G hown hK hP 27 xo_27 rfl 10 (by decide) (htg _ k_f_G_76) (fun _ h9 => h9) rfl d_G_told_90 ?_
    refine va_getN (D := D) (v := .ref (ao 13)) hx hb htg in_Report hown hK hP 26 xo_26 rfl 0 (by decide) (va_Nw.use rfl (hN _ k_fn_G_243)) (fun _ h9 => h9) rfl d_G_told_93 ?_
    obtain ⟨q1, he, hf⟩ := ob_some hf
    refine cl_Vi (As := []) (rest := []) X (c_x_Row_size (by decide : 13 < 17) he) ok_x_Row_size k_m_G_162 (va_recv hK hP rfl (xo_row (by decide : 13 < 17))) rfl rfl hl.1 (Nat.le_of_ble_eq_true rfl) d_G_told_96 ⟨by decide, by decide⟩ hP hS (fun H locs hP hS => ?_)
    obtain rfl := Option.some.inj hf
    exact W.iret hx hb hr0 (fun t ht _ => ⟨⟨rfl, by rw [ht]; exact hP⟩, hS.F ht⟩) hS.2.2 d_G_told_99 hlk
  have hf := if_f hf c
  by_cases c : x0 = (5 : Int32)
  · have hf := if_t hf c
    refine lv_tableIn (off := 99) (tgt := 100) hx hb d_G_told_1 (by rw [c]; decide) (by rw [c]; decide) (by rw [c]; rfl) (by decide) ?_
    refine lv_aload_n hx hb d_G_told_100 rfl (lv_at hl 0 rfl) ?_
    refine va_get (D := D) (v := .ref (ao 5)) hx hb htg in_G hown hK hP 27 xo_27 rfl 4 (by decide) (htg _ k_f_G_42) (fun _ h9 => h9) rfl d_G_told_101 ?_
    obtain ⟨q2, he, hf⟩ := ob_some hf
    refine cl_Vi (As := []) (rest := []) X (c_x_Row_size (by decide : 5 < 17) he) ok_x_Row_size k_m_G_162 (va_recv hK hP rfl (xo_row (by decide : 5 < 17))) rfl rfl hl.1 (Nat.le_of_ble_eq_true rfl) d_G_told_104 ⟨by decide, by decide⟩ hP hS (fun H locs hP hS => ?_)
    obtain rfl := Option.some.inj hf
    exact W.iret hx hb hr0 (fun t ht _ => ⟨⟨rfl, by rw [ht]; exact hP⟩, hS.F ht⟩) hS.2.2 d_G_told_107 hlk
  have hf := if_f hf c
  by_cases c : x0 = (6 : Int32)
  · have hf := if_t hf c
    refine lv_tableIn (off := 107) (tgt := 108) hx hb d_G_told_1 (by rw [c]; decide) (by rw [c]; decide) (by rw [c]; rfl) (by decide) ?_
    refine lv_aload_n hx hb d_G_told_108 rfl (lv_at hl 0 rfl) ?_
    refine va_get (D := D) (v := .ref (ao 6)) hx hb htg in_G hown hK hP 27 xo_27 rfl 5 (by decide) (htg _ k_f_G_46) (fun _ h9 => h9) rfl d_G_told_109 ?_
    obtain ⟨q3, he, hf⟩ := ob_some hf
    refine cl_Vi (As := []) (rest := []) X (c_x_Row_size (by decide : 6 < 17) he) ok_x_Row_size k_m_G_162 (va_recv hK hP rfl (xo_row (by decide : 6 < 17))) rfl rfl hl.1 (Nat.le_of_ble_eq_true rfl) d_G_told_112 ⟨by decide, by decide⟩ hP hS (fun H locs hP hS => ?_)
    obtain rfl := Option.some.inj hf
    exact W.iret hx hb hr0 (fun t ht _ => ⟨⟨rfl, by rw [ht]; exact hP⟩, hS.F ht⟩) hS.2.2 d_G_told_115 hlk
  have hf := if_f hf c
  by_cases c : x0 = (7 : Int32)
  · have hf := if_t hf c
    refine lv_tableIn (off := 115) (tgt := 116) hx hb d_G_told_1 (by rw [c]; decide) (by rw [c]; decide) (by rw [c]; rfl) (by decide) ?_
    refine lv_aload_n hx hb d_G_told_116 rfl (lv_at hl 0 rfl) ?_
    refine va_get (D := D) (v := .ref (ao 22)) hx hb htg in_G hown hK hP 27 xo_27 rfl 1 (by decide) (htg _ k_f_G_19) (fun _ h9 => h9) rfl d_G_told_117 ?_
    obtain ⟨q4, he, hf⟩ := ob_some hf
    refine cl_Vi (As := []) (rest := []) X (c_x_Verbs_count he) ok_x_Verbs_count k_m_G_246 (va_recv hK hP rfl xo_22) rfl rfl hl.1 (Nat.le_of_ble_eq_true rfl) d_G_told_120 ⟨by decide, by decide⟩ hP hS (fun H locs hP hS => ?_)
    obtain rfl := Option.some.inj hf
    exact W.iret hx hb hr0 (fun t ht _ => ⟨⟨rfl, by rw [ht]; exact hP⟩, hS.F ht⟩) hS.2.2 d_G_told_123 hlk
  have hf := if_f hf c
  by_cases c : x0 = (8 : Int32)
  · have hf := if_t hf c
    refine lv_tableIn (off := 123) (tgt := 124) hx hb d_G_told_1 (by rw [c]; decide) (by rw [c]; decide) (by rw [c]; rfl) (by decide) ?_
    refine lv_aload_n hx hb d_G_told_124 rfl (lv_at hl 0 rfl) ?_
    refine va_get (D := D) (v := .ref (ao 23)) hx hb htg in_G hown hK hP 27 xo_27 rfl 2 (by decide) (htg _ k_f_G_26) (fun _ h9 => h9) rfl d_G_told_125 ?_
    obtain ⟨q5, he, hf⟩ := ob_some hf
    refine cl_Vi (As := []) (rest := []) X (c_x_Lines_count he) ok_x_Lines_count k_m_G_247 (va_recv hK hP rfl xo_23) rfl rfl hl.1 (Nat.le_of_ble_eq_true rfl) d_G_told_128 ⟨by decide, by decide⟩ hP hS (fun H locs hP hS => ?_)
    obtain rfl := Option.some.inj hf
    exact W.iret hx hb hr0 (fun t ht _ => ⟨⟨rfl, by rw [ht]; exact hP⟩, hS.F ht⟩) hS.2.2 d_G_told_131 hlk
  have hf := if_f hf c
  by_cases c : x0 = (9 : Int32)
  · have hf := if_t hf c
    refine lv_tableIn (off := 131) (tgt := 132) hx hb d_G_told_1 (by rw [c]; decide) (by rw [c]; decide) (by rw [c]; rfl) (by decide) ?_
    refine lv_aload_n hx hb d_G_told_132 rfl (lv_at hl 0 rfl) ?_
    refine va_get (D := D) (v := .ref (ao 21)) hx hb htg in_G hown hK hP 27 xo_27 rfl 0 (by decide) (htg _ k_f_G_10) (fun _ h9 => h9) rfl d_G_told_133 ?_
    obtain ⟨q6, he, hf⟩ := ob_some hf
    refine cl_Vi (As := []) (rest := []) X (c_x_Things_count he) ok_x_Things_count k_m_G_248 (va_recv hK hP rfl xo_21) rfl rfl hl.1 (Nat.le_of_ble_eq_true rfl) d_G_told_136 ⟨by decide, by decide⟩ hP hS (fun H locs hP hS => ?_)
    obtain rfl := Option.some.inj hf
    exact W.iret hx hb hr0 (fun t ht _ => ⟨⟨rfl, by rw [ht]; exact hP⟩, hS.F ht⟩) hS.2.2 d_G_told_139 hlk
  have hf := if_f hf c
  by_cases c : x0 = (10 : Int32)
  · have hf := if_t hf c
    refine lv_tableIn (off := 139) (tgt := 140) hx hb d_G_told_1 (by rw [c]; decide) (by rw [c]; decide) (by rw [c]; rfl) (by decide) ?_
    refine lv_aload_n hx hb d_G_told_140 rfl (lv_at hl 0 rfl) ?_
    refine va_get (D := D) (v := .ref (ao 24)) hx hb htg in_G hown hK hP 27 xo_27 rfl 3 (by decide) (htg _ k_f_G_33) (fun _ h9 => h9) rfl d_G_told_141 ?_
    obtain ⟨q7, he, hf⟩ := ob_some hf
    refine cl_Vi (As := []) (rest := []) X (c_x_Values_count he) ok_x_Values_count k_m_G_152 (va_recv hK hP rfl xo_24) rfl rfl hl.1 (Nat.le_of_ble_eq_true rfl) d_G_told_144 ⟨by decide, by decide⟩ hP hS (fun H locs hP hS => ?_)
    obtain rfl := Option.some.inj hf
    exact W.iret hx hb hr0 (fun t ht _ => ⟨⟨rfl, by rw [ht]; exact hP⟩, hS.F ht⟩) hS.2.2 d_G_told_147 hlk
  have hf := if_f hf c
  exact ns hf
theorem c_x_G_told {l : Launch} {D : va_G} {cI cZ cJ : ClassId} {ao aa : Nat → Nat} {S : St} {x0 : Int32} {z : Int32 × St} (hz : x_G_told S x0 = some z) : Ct l y_G_told (.code y_G_told b_G_told 2 (some .int) :: gw) rm_x_G_told D [(cI, .int), (cZ, .boolean), (cJ, .long)] (xA ao aa) (xW cI cZ cJ ao aa) [.ref (ao 27), .int x0] S (some (.int z.1)) z.2 :=
  Ct_of (by decide) (fun p e s m args below meth c X => w_x_G_told X _ _ hz) (Nat.le_of_ble_eq_true rfl)
def x_G_trace (S : St) (x0 : Int32) (x1 : Int32) : Option (Int32 × St) :=
  if x1.toInt < 0 ∨ 2 < x1.toInt then
    some ((-1 : Int32), S)
  else
  if x1 = (0 : Int32) then
    (x_Row_at 13 S x0).bind fun q1 =>
    some (q1.1, q1.2)
  else
  if x1 = (1 : Int32) then
    (x_Row_at 14 S x0).bind fun q2 =>
    some (q2.1, q2.2)
  else
  if x1 = (2 : Int32) then
    (x_Row_at 15 S x0).bind fun q3 =>
    some (q3.1, q3.2)
  else
  none
def rm_x_G_trace : Room := { frames := 1, cells := 0, slots := 0, locals := 21 }
theorem ok_x_G_trace : CalV y_G_trace b_G_trace 3 (some .int) 2 rm_x_G_trace := ⟨kc_G_trace, ki_G_trace, kl_G_trace, ji_G, ⟨by decide, by decide, by decide +kernel⟩, rfl, rfl⟩
set_option maxHeartbeats 4000000 in
set_option maxRecDepth 100000 in
theorem w_x_G_trace {z : Int32 × St} (X : Cx b_G_trace 3 (some .int) R_G D [(cI, .int), (cZ, .boolean), (cJ, .long)] (xA ao aa) (xW cI cZ cJ ao aa) p s m args meth c) (S : St) (x0 : Int32) (x1 : Int32) (hf : x_G_trace S x0 x1 = some z) : WX rm_x_G_trace D (xA ao aa) (xW cI cZ cJ ao aa) p l e s m args below meth c (some (.int z.1)) z.2 0 [] 3 [(0, .ref (ao 27)), (1, .int x0), (2, .int x1)] S := by
  intro H locs ls hP hS hl
  obtain ⟨hx, hb, hr0, hml, hown, htg, hlk, hK, hN, hI⟩ := id X
  unfold x_G_trace at hf
  refine lv_iload_n hx hb d_G_trace_0 rfl (lv_at hl 2 rfl) ?_
  by_cases c : x1.toInt < 0 ∨ 2 < x1.toInt
  · have hf := if_t hf c
    refine lv_tableOut (tgt := 64) hx hb d_G_trace_1 c (by decide) ?_
    refine lv_iconst (v := (-1)) hx hb d_G_trace_64 (by decide) ?_
    obtain rfl := Option.some.inj hf
    exact W.iret hx hb hr0 (fun t ht _ => ⟨⟨rfl, by rw [ht]; exact hP⟩, hS.F ht⟩) hS.2.2 d_G_trace_65 hlk
  have hf := if_f hf c
  by_cases c : x1 = (0 : Int32)
  · have hf := if_t hf c
    refine lv_tableIn (off := 27) (tgt := 28) hx hb d_G_trace_1 (by rw [c]; decide) (by rw [c]; decide) (by rw [c]; rfl) (by decide) ?_
    refine lv_aload_n hx hb d_G_trace_28 rfl (lv_at hl 0 rfl) ?_
    refine va_get (D := D) (v := .ref (ao 26)) hx hb htg in_G hown hK hP 27 xo_27 rfl 10 (by decide) (htg _ k_f_G_76) (fun _ h9 => h9) rfl d_G_trace_29 ?_
    refine va_getN (D := D) (v := .ref (ao 13)) hx hb htg in_Report hown hK hP 26 xo_26 rfl 0 (by decide) (va_Nw.use rfl (hN _ k_fn_G_243)) (fun _ h9 => h9) rfl d_G_trace_32 ?_
    refine lv_iload_n hx hb d_G_trace_35 rfl (lv_at hl 1 rfl) ?_
    obtain ⟨q1, he, hf⟩ := ob_some hf
    refine cl_Vi (As := [.int x0]) (rest := []) X (c_x_Row_at (by decide : 13 < 17) he) ok_x_Row_at k_m_G_234 (va_recv hK hP rfl (xo_row (by decide : 13 < 17))) rfl rfl hl.1 (Nat.le_of_ble_eq_true rfl) d_G_trace_36 ⟨by decide, by decide⟩ hP hS (fun H locs hP hS => ?_)
    obtain rfl := Option.some.inj hf
    exact W.iret hx hb hr0 (fun t ht _ => ⟨⟨rfl, by rw [ht]; exact hP⟩, hS.F ht⟩) hS.2.2 d_G_trace_39 hlk
  have hf := if_f hf c
  by_cases c : x1 = (1 : Int32)
  · have hf := if_t hf c
    refine lv_tableIn (off := 39) (tgt := 40) hx hb d_G_trace_1 (by rw [c]; decide) (by rw [c]; decide) (by rw [c]; rfl) (by decide) ?_
    refine lv_aload_n hx hb d_G_trace_40 rfl (lv_at hl 0 rfl) ?_
    refine va_get (D := D) (v := .ref (ao 26)) hx hb htg in_G hown hK hP 27 xo_27 rfl 10 (by decide) (htg _ k_f_G_76) (fun _ h9 => h9) rfl d_G_trace_41 ?_
    refine va_getN (D := D) (v := .ref (ao 14)) hx hb htg in_Report hown hK hP 26 xo_26 rfl 1 (by decide) (va_Nw.use rfl (hN _ k_fn_G_249)) (fun _ h9 => h9) rfl d_G_trace_44 ?_
    refine lv_iload_n hx hb d_G_trace_47 rfl (lv_at hl 1 rfl) ?_
    obtain ⟨q2, he, hf⟩ := ob_some hf
    refine cl_Vi (As := [.int x0]) (rest := []) X (c_x_Row_at (by decide : 14 < 17) he) ok_x_Row_at k_m_G_234 (va_recv hK hP rfl (xo_row (by decide : 14 < 17))) rfl rfl hl.1 (Nat.le_of_ble_eq_true rfl) d_G_trace_48 ⟨by decide, by decide⟩ hP hS (fun H locs hP hS => ?_)
    obtain rfl := Option.some.inj hf
    exact W.iret hx hb hr0 (fun t ht _ => ⟨⟨rfl, by rw [ht]; exact hP⟩, hS.F ht⟩) hS.2.2 d_G_trace_51 hlk
  have hf := if_f hf c
  by_cases c : x1 = (2 : Int32)
  · have hf := if_t hf c
    refine lv_tableIn (off := 51) (tgt := 52) hx hb d_G_trace_1 (by rw [c]; decide) (by rw [c]; decide) (by rw [c]; rfl) (by decide) ?_
    refine lv_aload_n hx hb d_G_trace_52 rfl (lv_at hl 0 rfl) ?_
    refine va_get (D := D) (v := .ref (ao 26)) hx hb htg in_G hown hK hP 27 xo_27 rfl 10 (by decide) (htg _ k_f_G_76) (fun _ h9 => h9) rfl d_G_trace_53 ?_
    refine va_getN (D := D) (v := .ref (ao 15)) hx hb htg in_Report hown hK hP 26 xo_26 rfl 2 (by decide) (va_Nw.use rfl (hN _ k_fn_G_252)) (fun _ h9 => h9) rfl d_G_trace_56 ?_
    refine lv_iload_n hx hb d_G_trace_59 rfl (lv_at hl 1 rfl) ?_
    obtain ⟨q3, he, hf⟩ := ob_some hf
    refine cl_Vi (As := [.int x0]) (rest := []) X (c_x_Row_at (by decide : 15 < 17) he) ok_x_Row_at k_m_G_234 (va_recv hK hP rfl (xo_row (by decide : 15 < 17))) rfl rfl hl.1 (Nat.le_of_ble_eq_true rfl) d_G_trace_60 ⟨by decide, by decide⟩ hP hS (fun H locs hP hS => ?_)
    obtain rfl := Option.some.inj hf
    exact W.iret hx hb hr0 (fun t ht _ => ⟨⟨rfl, by rw [ht]; exact hP⟩, hS.F ht⟩) hS.2.2 d_G_trace_63 hlk
  have hf := if_f hf c
  exact ns hf
theorem c_x_G_trace {l : Launch} {D : va_G} {cI cZ cJ : ClassId} {ao aa : Nat → Nat} {S : St} {x0 : Int32} {x1 : Int32} {z : Int32 × St} (hz : x_G_trace S x0 x1 = some z) : Ct l y_G_trace (.code y_G_trace b_G_trace 3 (some .int) :: gw) rm_x_G_trace D [(cI, .int), (cZ, .boolean), (cJ, .long)] (xA ao aa) (xW cI cZ cJ ao aa) [.ref (ao 27), .int x0, .int x1] S (some (.int z.1)) z.2 :=
  Ct_of (by decide) (fun p e s m args below meth c X => w_x_G_trace X _ _ _ hz) (Nat.le_of_ble_eq_true rfl)
def x_G_said (S : St) (x0 : Int32) (x1 : Int32) : Option (Int32 × St) :=
  if x0 = 0 then
    (x_Row_at 6 S x1).bind fun q2 =>
    some (q2.1, q2.2)
  else
    if x0 = (1 : Int32) then
      (x_Row_at 5 S x1).bind fun q1 =>
      some (q1.1, q1.2)
    else
      some ((-1 : Int32), S)
def rm_x_G_said : Room := { frames := 1, cells := 0, slots := 0, locals := 21 }
theorem ok_x_G_said : CalV y_G_said b_G_said 3 (some .int) 2 rm_x_G_said := ⟨kc_G_said, ki_G_said, kl_G_said, ji_G, ⟨by decide, by decide, by decide +kernel⟩, rfl, rfl⟩
set_option maxHeartbeats 4000000 in
set_option maxRecDepth 100000 in
theorem w_x_G_said {z : Int32 × St} (X : Cx b_G_said 3 (some .int) R_G D [(cI, .int), (cZ, .boolean), (cJ, .long)] (xA ao aa) (xW cI cZ cJ ao aa) p s m args meth c) (S : St) (x0 : Int32) (x1 : Int32) (hf : x_G_said S x0 x1 = some z) : WX rm_x_G_said D (xA ao aa) (xW cI cZ cJ ao aa) p l e s m args below meth c (some (.int z.1)) z.2 0 [] 3 [(0, .ref (ao 27)), (1, .int x0), (2, .int x1)] S := by
  intro H locs ls hP hS hl
  obtain ⟨hx, hb, hr0, hml, hown, htg, hlk, hK, hN, hI⟩ := id X
  unfold x_G_said at hf
  refine lv_iload_n hx hb d_G_said_0 rfl (lv_at hl 1 rfl) ?_
  refine lv_if_ne (tgt := 13) hx hb d_G_said_1 (by decide) (fun c => ?_) (fun c => ?_)
  · have hf := if_f hf c
    refine lv_iload_n hx hb d_G_said_13 rfl (lv_at hl 1 rfl) ?_
    refine lv_iconst (v := 1) hx hb d_G_said_14 (by decide) ?_
    refine lv_icmp_ne (tgt := 29) hx hb d_G_said_15 (by decide) (fun c => ?_) (fun c => ?_)
    · have hf := if_f hf c
      refine lv_iconst (v := (-1)) hx hb d_G_said_29 (by decide) ?_
      obtain rfl := Option.some.inj hf
      exact W.iret hx hb hr0 (fun t ht _ => ⟨⟨rfl, by rw [ht]; exact hP⟩, hS.F ht⟩) hS.2.2 d_G_said_30 hlk
    · have hf := if_t hf c
      refine lv_aload_n hx hb d_G_said_18 rfl (lv_at hl 0 rfl) ?_
      refine va_get (D := D) (v := .ref (ao 5)) hx hb htg in_G hown hK hP 27 xo_27 rfl 4 (by decide) (htg _ k_f_G_42) (fun _ h9 => h9) rfl d_G_said_19 ?_
      refine lv_iload_n hx hb d_G_said_22 rfl (lv_at hl 2 rfl) ?_
      obtain ⟨q1, he, hf⟩ := ob_some hf
      refine cl_Vi (As := [.int x1]) (rest := []) X (c_x_Row_at (by decide : 5 < 17) he) ok_x_Row_at k_m_G_234 (va_recv hK hP rfl (xo_row (by decide : 5 < 17))) rfl rfl hl.1 (Nat.le_of_ble_eq_true rfl) d_G_said_23 ⟨by decide, by decide⟩ hP hS (fun H locs hP hS => ?_)
      refine lv_goto (tgt := 30) hx hb d_G_said_26 (by decide) ?_
      obtain rfl := Option.some.inj hf
      exact W.iret hx hb hr0 (fun t ht _ => ⟨⟨rfl, by rw [ht]; exact hP⟩, hS.F ht⟩) hS.2.2 d_G_said_30 hlk
  · have hf := if_t hf c
    refine lv_aload_n hx hb d_G_said_4 rfl (lv_at hl 0 rfl) ?_
    refine va_get (D := D) (v := .ref (ao 6)) hx hb htg in_G hown hK hP 27 xo_27 rfl 5 (by decide) (htg _ k_f_G_46) (fun _ h9 => h9) rfl d_G_said_5 ?_
    refine lv_iload_n hx hb d_G_said_8 rfl (lv_at hl 2 rfl) ?_
    obtain ⟨q2, he, hf⟩ := ob_some hf
    refine cl_Vi (As := [.int x1]) (rest := []) X (c_x_Row_at (by decide : 6 < 17) he) ok_x_Row_at k_m_G_234 (va_recv hK hP rfl (xo_row (by decide : 6 < 17))) rfl rfl hl.1 (Nat.le_of_ble_eq_true rfl) d_G_said_9 ⟨by decide, by decide⟩ hP hS (fun H locs hP hS => ?_)
    obtain rfl := Option.some.inj hf
    exact W.iret hx hb hr0 (fun t ht _ => ⟨⟨rfl, by rw [ht]; exact hP⟩, hS.F ht⟩) hS.2.2 d_G_said_12 hlk
theorem c_x_G_said {l : Launch} {D : va_G} {cI cZ cJ : ClassId} {ao aa : Nat → Nat} {S : St} {x0 : Int32} {x1 : Int32} {z : Int32 × St} (hz : x_G_said S x0 x1 = some z) : Ct l y_G_said (.code y_G_said b_G_said 3 (some .int) :: gw) rm_x_G_said D [(cI, .int), (cZ, .boolean), (cJ, .long)] (xA ao aa) (xW cI cZ cJ ao aa) [.ref (ao 27), .int x0, .int x1] S (some (.int z.1)) z.2 :=
  Ct_of (by decide) (fun p e s m args below meth c X => w_x_G_said X _ _ _ hz) (Nat.le_of_ble_eq_true rfl)
end

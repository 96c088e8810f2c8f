section
variable {p : Program} {l : Launch} {e : Env} {s : State} {m : MethodId} {args : Array Value} {below : List Frame} {meth : Method} {c : Code} {D : va_G} {cI cZ cJ : ClassId} {ao aa : Nat → Nat}
def x_Report_begin (S : St) : Option (St) :=
  (x_Row_empty 13 S).bind fun q1 =>
  (x_Row_empty 14 q1).bind fun q2 =>
  (x_Row_empty 15 q2).bind fun q3 =>
  (x_Row_empty 16 q3).bind fun q4 =>
  some (sI (sI (sI (sI q4 30 (-1 : Int32)) 31 (0 : Int32)) 32 (-1 : Int32)) 33 (-1 : Int32))
def rm_x_Report_begin : Room := { frames := 1, cells := 0, slots := 0, locals := 20 }
theorem ok_x_Report_begin : CalV y_Report_begin b_Report_begin 1 none 0 rm_x_Report_begin := ⟨kc_Report_begin, ki_Report_begin, kl_Report_begin, ji_Report, ⟨by decide, by decide, by decide +kernel⟩, rfl, rfl⟩
set_option maxHeartbeats 4000000 in
set_option maxRecDepth 100000 in
theorem w_x_Report_begin {z : St} (X : Cx b_Report_begin 1 none R_Report D [(cI, .int), (cZ, .boolean), (cJ, .long)] (xA ao aa) (xW cI cZ cJ ao aa) p s m args meth c) (S : St) (hf : x_Report_begin S = some z) : WX rm_x_Report_begin D (xA ao aa) (xW cI cZ cJ ao aa) p l e s m args below meth c none z 0 [] 1 [(0, .ref (ao 26))] S := by
  intro H locs ls hP hS hl
  obtain ⟨hx, hb, hr0, hml, hown, htg, hlk, hK, hN, hI⟩ := id X
  unfold x_Report_begin at hf
  refine lv_aload_n hx hb d_Report_begin_0 rfl (lv_at hl 0 rfl) ?_
  refine va_get (D := D) (v := .ref (ao 13)) hx hb htg in_Report hown hK hP 26 xo_26 rfl 0 (by decide) (htg _ k_f_Report_14) (fun _ h9 => h9) rfl d_Report_begin_1 ?_
  obtain ⟨q1, he, hf⟩ := ob_some hf
  refine cl_Vv (As := []) (rest := []) X (c_x_Row_empty (by decide : 13 < 17) he) ok_x_Row_empty k_m_Report_39 (va_recv hK hP rfl (xo_row (by decide : 13 < 17))) rfl rfl hl.1 (Nat.le_of_ble_eq_true rfl) d_Report_begin_4 ⟨by decide, by decide⟩ hP hS (fun H locs hP hS => ?_)
  refine lv_aload_n hx hb d_Report_begin_7 rfl (lv_at hl 0 rfl) ?_
  refine va_get (D := D) (v := .ref (ao 14)) hx hb htg in_Report hown hK hP 26 xo_26 rfl 1 (by decide) (htg _ k_f_Report_20) (fun _ h9 => h9) rfl d_Report_begin_8 ?_
  obtain ⟨q2, he, hf⟩ := ob_some hf
  refine cl_Vv (As := []) (rest := []) X (c_x_Row_empty (by decide : 14 < 17) he) ok_x_Row_empty k_m_Report_39 (va_recv hK hP rfl (xo_row (by decide : 14 < 17))) rfl rfl hl.1 (Nat.le_of_ble_eq_true rfl) d_Report_begin_11 ⟨by decide, by decide⟩ hP hS (fun H locs hP hS => ?_)
  refine lv_aload_n hx hb d_Report_begin_14 rfl (lv_at hl 0 rfl) ?_
  refine va_get (D := D) (v := .ref (ao 15)) hx hb htg in_Report hown hK hP 26 xo_26 rfl 2 (by decide) (htg _ k_f_Report_23) (fun _ h9 => h9) rfl d_Report_begin_15 ?_
  obtain ⟨q3, he, hf⟩ := ob_some hf
  refine cl_Vv (As := []) (rest := []) X (c_x_Row_empty (by decide : 15 < 17) he) ok_x_Row_empty k_m_Report_39 (va_recv hK hP rfl (xo_row (by decide : 15 < 17))) rfl rfl hl.1 (Nat.le_of_ble_eq_true rfl) d_Report_begin_18 ⟨by decide, by decide⟩ hP hS (fun H locs hP hS => ?_)
  refine lv_aload_n hx hb d_Report_begin_21 rfl (lv_at hl 0 rfl) ?_
  refine va_get (D := D) (v := .ref (ao 16)) hx hb htg in_Report hown hK hP 26 xo_26 rfl 3 (by decide) (htg _ k_f_Report_26) (fun _ h9 => h9) rfl d_Report_begin_22 ?_
  obtain ⟨q4, he, hf⟩ := ob_some hf
  refine cl_Vv (As := []) (rest := []) X (c_x_Row_empty (by decide : 16 < 17) he) ok_x_Row_empty k_m_Report_39 (va_recv hK hP rfl (xo_row (by decide : 16 < 17))) rfl rfl hl.1 (Nat.le_of_ble_eq_true rfl) d_Report_begin_25 ⟨by decide, by decide⟩ hP hS (fun H locs hP hS => ?_)
  refine lv_aload_n hx hb d_Report_begin_28 rfl (lv_at hl 0 rfl) ?_
  refine lv_iconst (v := (-1)) hx hb d_Report_begin_29 (by decide) ?_
  refine va_put (D := D) (ty := .int) hx hb htg in_Report t_Report t_Report_ok n_Report hown hK hP (hI _) hS 26 xo_26 rfl 4 (by decide) (htg _ k_f_Report_29) (fun _ h9 => h9) rfl (by decide +kernel) rfl rfl (Nat.le_of_ble_eq_true rfl) d_Report_begin_30 (fun H locs hP _ hS => ?_)
  replace hP : va_P D classes (xW cI cZ cJ ao aa (sI q4 30 (-1 : Int32))) H := pw xs_26_action hP
  refine lv_aload_n hx hb d_Report_begin_33 rfl (lv_at hl 0 rfl) ?_
  refine lv_iconst (v := 0) hx hb d_Report_begin_34 (by decide) ?_
  refine va_put (D := D) (ty := .int) hx hb htg in_Report t_Report t_Report_ok n_Report hown hK hP (hI _) hS 26 xo_26 rfl 5 (by decide) (htg _ k_f_Report_42) (fun _ h9 => h9) rfl (by decide +kernel) rfl rfl (Nat.le_of_ble_eq_true rfl) d_Report_begin_35 (fun H locs hP _ hS => ?_)
  replace hP : va_P D classes (xW cI cZ cJ ao aa (sI (sI q4 30 (-1 : Int32)) 31 (0 : Int32))) H := pw xs_26_error hP
  refine lv_aload_n hx hb d_Report_begin_38 rfl (lv_at hl 0 rfl) ?_
  refine lv_iconst (v := (-1)) hx hb d_Report_begin_39 (by decide) ?_
  refine va_put (D := D) (ty := .int) hx hb htg in_Report t_Report t_Report_ok n_Report hown hK hP (hI _) hS 26 xo_26 rfl 6 (by decide) (htg _ k_f_Report_33) (fun _ h9 => h9) rfl (by decide +kernel) rfl rfl (Nat.le_of_ble_eq_true rfl) d_Report_begin_40 (fun H locs hP _ hS => ?_)
  replace hP : va_P D classes (xW cI cZ cJ ao aa (sI (sI (sI q4 30 (-1 : Int32)) 31 (0 : Int32)) 32 (-1 : Int32))) H := pw xs_26_place hP
  refine lv_aload_n hx hb d_Report_begin_43 rfl (lv_at hl 0 rfl) ?_
  refine lv_iconst (v := (-1)) hx hb d_Report_begin_44 (by decide) ?_
  refine va_put (D := D) (ty := .int) hx hb htg in_Report t_Report t_Report_ok n_Report hown hK hP (hI _) hS 26 xo_26 rfl 7 (by decide) (htg _ k_f_Report_36) (fun _ h9 => h9) rfl (by decide +kernel) rfl rfl (Nat.le_of_ble_eq_true rfl) d_Report_begin_45 (fun H locs hP _ hS => ?_)
  replace hP : va_P D classes (xW cI cZ cJ ao aa (sI (sI (sI (sI q4 30 (-1 : Int32)) 31 (0 : Int32)) 32 (-1 : Int32)) 33 (-1 : Int32))) H := pw xs_26_line hP
  obtain rfl := Option.some.inj hf
  exact W.vret hx hb hr0 (fun t ht _ => ⟨⟨rfl, by rw [ht]; exact hP⟩, hS.F ht⟩) hS.2.2 d_Report_begin_48 hlk
theorem c_x_Report_begin {l : Launch} {D : va_G} {cI cZ cJ : ClassId} {ao aa : Nat → Nat} {S : St} {z : St} (hz : x_Report_begin S = some z) : Ct l y_Report_begin (.code y_Report_begin b_Report_begin 1 none :: gw) rm_x_Report_begin D [(cI, .int), (cZ, .boolean), (cJ, .long)] (xA ao aa) (xW cI cZ cJ ao aa) [.ref (ao 26)] S none z :=
  Ct_of (by decide) (fun p e s m args below meth c X => w_x_Report_begin X _ hz) (Nat.le_of_ble_eq_true rfl)
def x_Report_fail (S : St) (x0 : Int32) (x1 : Int32) (x2 : Int32) : Option (St) :=
  some (sI (sI (sI S 31 x0) 32 x1) 33 x2)
def rm_x_Report_fail : Room := { frames := 0, cells := 0, slots := 0, locals := 0 }
theorem ok_x_Report_fail : CalV y_Report_fail b_Report_fail 4 none 3 rm_x_Report_fail := ⟨kc_Report_fail, ki_Report_fail, kl_Report_fail, ji_Report, ⟨by decide, by decide, by decide +kernel⟩, rfl, rfl⟩
set_option maxHeartbeats 4000000 in
set_option maxRecDepth 100000 in
theorem w_x_Report_fail {z : St} (X : Cx b_Report_fail 4 none R_Report D [(cI, .int), (cZ, .boolean), (cJ, .long)] (xA ao aa) (xW cI cZ cJ ao aa) p s m args meth c) (S : St) (x0 : Int32) (x1 : Int32) (x2 : Int32) (hf : x_Report_fail S x0 x1 x2 = some z) : WX rm_x_Report_fail D (xA ao aa) (xW cI cZ cJ ao aa) p l e s m args below meth c none z 0 [] 4 [(0, .ref (ao 26)), (1, .int x0), (2, .int x1), (3, .int x2)] S := by
  intro H locs ls hP hS hl
  obtain ⟨hx, hb, hr0, hml, hown, htg, hlk, hK, hN, hI⟩ := id X
  unfold x_Report_fail at hf
  refine lv_aload_n hx hb d_Report_fail_0 rfl (lv_at hl 0 rfl) ?_
  refine lv_iload_n hx hb d_Report_fail_1 rfl (lv_at hl 1 rfl) ?_
  refine va_put (D := D) (ty := .int) hx hb htg in_Report t_Report t_Report_ok n_Report hown hK hP (hI _) hS 26 xo_26 rfl 5 (by decide) (htg _ k_f_Report_42) (fun _ h9 => h9) rfl (by decide +kernel) rfl rfl (Nat.le_of_ble_eq_true rfl) d_Report_fail_2 (fun H locs hP _ hS => ?_)
  replace hP : va_P D classes (xW cI cZ cJ ao aa (sI S 31 x0)) H := pw xs_26_error hP
  refine lv_aload_n hx hb d_Report_fail_5 rfl (lv_at hl 0 rfl) ?_
  refine lv_iload_n hx hb d_Report_fail_6 rfl (lv_at hl 2 rfl) ?_
  refine va_put (D := D) (ty := .int) hx hb htg in_Report t_Report t_Report_ok n_Report hown hK hP (hI _) hS 26 xo_26 rfl 6 (by decide) (htg _ k_f_Report_33) (fun _ h9 => h9) rfl (by decide +kernel) rfl rfl (Nat.le_of_ble_eq_true rfl) d_Report_fail_7 (fun H locs hP _ hS => ?_)
  replace hP : va_P D classes (xW cI cZ cJ ao aa (sI (sI S 31 x0) 32 x1)) H := pw xs_26_place hP
  refine lv_aload_n hx hb d_Report_fail_10 rfl (lv_at hl 0 rfl) ?_
  refine lv_iload_n hx hb d_Report_fail_11 rfl (lv_at hl 3 rfl) ?_
  refine va_put (D := D) (ty := .int) hx hb htg in_Report t_Report t_Report_ok n_Report hown hK hP (hI _) hS 26 xo_26 rfl 7 (by decide) (htg _ k_f_Report_36) (fun _ h9 => h9) rfl (by decide +kernel) rfl rfl (Nat.le_of_ble_eq_true rfl) d_Report_fail_12 (fun H locs hP _ hS => ?_)
  replace hP : va_P D classes (xW cI cZ cJ ao aa (sI (sI (sI S 31 x0) 32 x1) 33 x2)) H := pw xs_26_line hP
  obtain rfl := Option.some.inj hf
  exact W.vret hx hb hr0 (fun t ht _ => ⟨⟨rfl, by rw [ht]; exact hP⟩, hS.F ht⟩) hS.2.2 d_Report_fail_15 hlk
theorem c_x_Report_fail {l : Launch} {D : va_G} {cI cZ cJ : ClassId} {ao aa : Nat → Nat} {S : St} {x0 : Int32} {x1 : Int32} {x2 : Int32} {z : St} (hz : x_Report_fail S x0 x1 x2 = some z) : Ct l y_Report_fail (.code y_Report_fail b_Report_fail 4 none :: gw) rm_x_Report_fail D [(cI, .int), (cZ, .boolean), (cJ, .long)] (xA ao aa) (xW cI cZ cJ ao aa) [.ref (ao 26), .int x0, .int x1, .int x2] S none z :=
  Ct_of (by decide) (fun p e s m args below meth c X => w_x_Report_fail X _ _ _ _ hz) (Nat.le_of_ble_eq_true rfl)
def x_Lines_count (S : St) : Option (Int32 × St) :=
  some ((gI S 25), S)
def rm_x_Lines_count : Room := { frames := 0, cells := 0, slots := 0, locals := 0 }
theorem ok_x_Lines_count : CalV y_Lines_count b_Lines_count 1 (some .int) 0 rm_x_Lines_count := ⟨kc_Lines_count, ki_Lines_count, kl_Lines_count, ji_Lines, ⟨by decide, by decide, by decide +kernel⟩, rfl, rfl⟩
set_option maxHeartbeats 4000000 in
set_option maxRecDepth 100000 in
theorem w_x_Lines_count {z : Int32 × St} (X : Cx b_Lines_count 1 (some .int) R_Lines D [(cI, .int), (cZ, .boolean), (cJ, .long)] (xA ao aa) (xW cI cZ cJ ao aa) p s m args meth c) (S : St) (hf : x_Lines_count S = some z) : WX rm_x_Lines_count D (xA ao aa) (xW cI cZ cJ ao aa) p l e s m args below meth c (some (.int z.1)) z.2 0 [] 1 [(0, .ref (ao 23))] S := by
  intro H locs ls hP hS hl
  obtain ⟨hx, hb, hr0, hml, hown, htg, hlk, hK, hN, hI⟩ := id X
  unfold x_Lines_count at hf
  refine lv_aload_n hx hb d_Lines_count_0 rfl (lv_at hl 0 rfl) ?_
  refine va_get (D := D) (v := .int (gI S 25)) hx hb htg in_Lines hown hK hP 23 xo_23 rfl 6 (by decide) (htg _ k_f_Lines_31) (fun _ h9 => h9) rfl d_Lines_count_1 ?_
  obtain rfl := Option.some.inj hf
  exact W.iret hx hb hr0 (fun t ht _ => ⟨⟨rfl, by rw [ht]; exact hP⟩, hS.F ht⟩) hS.2.2 d_Lines_count_4 hlk
theorem c_x_Lines_count {l : Launch} {D : va_G} {cI cZ cJ : ClassId} {ao aa : Nat → Nat} {S : St} {z : Int32 × St} (hz : x_Lines_count S = some z) : Ct l y_Lines_count (.code y_Lines_count b_Lines_count 1 (some .int) :: gw) rm_x_Lines_count D [(cI, .int), (cZ, .boolean), (cJ, .long)] (xA ao aa) (xW cI cZ cJ ao aa) [.ref (ao 23)] S (some (.int z.1)) z.2 :=
  Ct_of (by decide) (fun p e s m args below meth c X => w_x_Lines_count X _ hz) (Nat.le_of_ble_eq_true rfl)
def x_Report_isAsked (S : St) : Option (Int32 × St) :=
  if (gI S 31) = (15 : Int32) then
    some ((1 : Int32), S)
  else
    if (gI S 31) = (16 : Int32) then
      some ((1 : Int32), S)
    else
      some ((0 : Int32), S)
def rm_x_Report_isAsked : Room := { frames := 0, cells := 0, slots := 0, locals := 0 }
theorem ok_x_Report_isAsked : CalV y_Report_isAsked b_Report_isAsked 1 (some .boolean) 0 rm_x_Report_isAsked := ⟨kc_Report_isAsked, ki_Report_isAsked, kl_Report_isAsked, ji_Report, ⟨by decide, by decide, by decide +kernel⟩, rfl, rfl⟩
set_option maxHeartbeats 4000000 in
set_option maxRecDepth 100000 in
theorem w_x_Report_isAsked {z : Int32 × St} (X : Cx b_Report_isAsked 1 (some .boolean) R_Report D [(cI, .int), (cZ, .boolean), (cJ, .long)] (xA ao aa) (xW cI cZ cJ ao aa) p s m args meth c) (S : St) (hf : x_Report_isAsked S = some z) : WX rm_x_Report_isAsked D (xA ao aa) (xW cI cZ cJ ao aa) p l e s m args below meth c (some (.int z.1)) z.2 0 [] 1 [(0, .ref (ao 26))] S := by
  intro H locs ls hP hS hl
  obtain ⟨hx, hb, hr0, hml, hown, htg, hlk, hK, hN, hI⟩ := id X
  unfold x_Report_isAsked at hf
  refine lv_aload_n hx hb d_Report_isAsked_0 rfl (lv_at hl 0 rfl) ?_
  refine va_get (D := D) (v := .int (gI S 31)) hx hb htg in_Report hown hK hP 26 xo_26 rfl 5 (by decide) (htg _ k_f_Report_42) (fun _ h9 => h9) rfl d_Report_isAsked_1 ?_
  refine lv_bipush (v := 15) hx hb d_Report_isAsked_4 (by decide) ?_
  refine lv_icmp_eq (tgt := 18) hx hb d_Report_isAsked_6 (by decide) (fun c => ?_) (fun c => ?_)
  · have hf := if_t hf c
    refine lv_iconst (v := 1) hx hb d_Report_isAsked_18 (by decide) ?_
    refine lv_goto (tgt := 23) hx hb d_Report_isAsked_19 (by decide) ?_
    obtain rfl := Option.some.inj hf
    exact W.zret (ty := .boolean) hx hb hr0 rfl (fun t ht _ => ⟨⟨rfl, by rw [ht]; exact hP⟩, hS.F ht⟩) hS.2.2 d_Report_isAsked_23 hlk
  · have hf := if_f hf c
    refine lv_aload_n hx hb d_Report_isAsked_9 rfl (lv_at hl 0 rfl) ?_
    refine va_get (D := D) (v := .int (gI S 31)) hx hb htg in_Report hown hK hP 26 xo_26 rfl 5 (by decide) (htg _ k_f_Report_42) (fun _ h9 => h9) rfl d_Report_isAsked_10 ?_
    refine lv_bipush (v := 16) hx hb d_Report_isAsked_13 (by decide) ?_
    refine lv_icmp_ne (tgt := 22) hx hb d_Report_isAsked_15 (by decide) (fun c => ?_) (fun c => ?_)
    · have hf := if_f hf c
      refine lv_iconst (v := 0) hx hb d_Report_isAsked_22 (by decide) ?_
      obtain rfl := Option.some.inj hf
      exact W.zret (ty := .boolean) hx hb hr0 rfl (fun t ht _ => ⟨⟨rfl, by rw [ht]; exact hP⟩, hS.F ht⟩) hS.2.2 d_Report_isAsked_23 hlk
    · have hf := if_t hf c
      refine lv_iconst (v := 1) hx hb d_Report_isAsked_18 (by decide) ?_
      refine lv_goto (tgt := 23) hx hb d_Report_isAsked_19 (by decide) ?_
      obtain rfl := Option.some.inj hf
      exact W.zret (ty := .boolean) hx hb hr0 rfl (fun t ht _ => ⟨⟨rfl, by rw [ht]; exact hP⟩, hS.F ht⟩) hS.2.2 d_Report_isAsked_23 hlk
theorem c_x_Report_isAsked {l : Launch} {D : va_G} {cI cZ cJ : ClassId} {ao aa : Nat → Nat} {S : St} {z : Int32 × St} (hz : x_Report_isAsked S = some z) : Ct l y_Report_isAsked (.code y_Report_isAsked b_Report_isAsked 1 (some .boolean) :: gw) rm_x_Report_isAsked D [(cI, .int), (cZ, .boolean), (cJ, .long)] (xA ao aa) (xW cI cZ cJ ao aa) [.ref (ao 26)] S (some (.int z.1)) z.2 :=
  Ct_of (by decide) (fun p e s m args below meth c X => w_x_Report_isAsked X _ hz) (Nat.le_of_ble_eq_true rfl)
def x_Lines_verbOf (S : St) (x0 : Int32) : Option (Int32 × St) :=
  (x_Lines_has S x0).bind fun q1 =>
  if q1.1 = 0 then
    some ((-1 : Int32), q1.2)
  else
    gd (vin x0 60) <|
    some ((gA q1.2 20 x0.toNatClampNeg), q1.2)
def rm_x_Lines_verbOf : Room := { frames := 1, cells := 0, slots := 0, locals := 21 }
theorem ok_x_Lines_verbOf : CalV y_Lines_verbOf b_Lines_verbOf 2 (some .int) 1 rm_x_Lines_verbOf := ⟨kc_Lines_verbOf, ki_Lines_verbOf, kl_Lines_verbOf, ji_Lines, ⟨by decide, by decide, by decide +kernel⟩, rfl, rfl⟩
set_option maxHeartbeats 4000000 in
set_option maxRecDepth 100000 in
theorem w_x_Lines_verbOf {z : Int32 × St} (X : Cx b_Lines_verbOf 2 (some .int) R_Lines D [(cI, .int), (cZ, .boolean), (cJ, .long)] (xA ao aa) (xW cI cZ cJ ao aa) p s m args meth c) (S : St) (x0 : Int32) (hf : x_Lines_verbOf S x0 = some z) : WX rm_x_Lines_verbOf D (xA ao aa) (xW cI cZ cJ ao aa) p l e s m args below meth c (some (.int z.1)) z.2 0 [] 2 [(0, .ref (ao 23)), (1, .int x0)] S := by
  intro H locs ls hP hS hl
  obtain ⟨hx, hb, hr0, hml, hown, htg, hlk, hK, hN, hI⟩ := id X
  unfold x_Lines_verbOf at hf
  refine lv_aload_n hx hb d_Lines_verbOf_0 rfl (lv_at hl 0 rfl) ?_
  refine lv_iload_n hx hb d_Lines_verbOf_1 rfl (lv_at hl 1 rfl) ?_
  obtain ⟨q1, he, hf⟩ := ob_some hf
  refine cl_Vi (As := [.int x0]) (rest := []) X (c_x_Lines_has he) ok_x_Lines_has k_m_Lines_39 (va_recv hK hP rfl xo_23) rfl rfl hl.1 (Nat.le_of_ble_eq_true rfl) d_Lines_verbOf_2 ⟨by decide, by decide⟩ hP hS (fun H locs hP hS => ?_)
  refine lv_if_eq (tgt := 17) hx hb d_Lines_verbOf_5 (by decide) (fun c => ?_) (fun c => ?_)
  · have hf := if_t hf c
    refine lv_iconst (v := (-1)) hx hb d_Lines_verbOf_17 (by decide) ?_
    obtain rfl := Option.some.inj hf
    exact W.iret hx hb hr0 (fun t ht _ => ⟨⟨rfl, by rw [ht]; exact hP⟩, hS.F ht⟩) hS.2.2 d_Lines_verbOf_18 hlk
  · have hf := if_f hf c
    refine lv_aload_n hx hb d_Lines_verbOf_8 rfl (lv_at hl 0 rfl) ?_
    refine va_get (D := D) (v := .ref (aa 20)) hx hb htg in_Lines hown hK hP 23 xo_23 rfl 0 (by decide) (htg _ k_f_Lines_9) (fun _ h9 => h9) rfl d_Lines_verbOf_9 ?_
    refine lv_iload_n hx hb d_Lines_verbOf_12 rfl (lv_at hl 1 rfl) ?_
    obtain ⟨hg, hf⟩ := gd_some hf
    refine va_iald hx hb hK hP 48 0 xa_20 rfl (vin_in hg) d_Lines_verbOf_13 ?_
    refine lv_goto (tgt := 18) hx hb d_Lines_verbOf_14 (by decide) ?_
    obtain rfl := Option.some.inj hf
    exact W.iret hx hb hr0 (fun t ht _ => ⟨⟨rfl, by rw [ht]; exact hP⟩, hS.F ht⟩) hS.2.2 d_Lines_verbOf_18 hlk
theorem c_x_Lines_verbOf {l : Launch} {D : va_G} {cI cZ cJ : ClassId} {ao aa : Nat → Nat} {S : St} {x0 : Int32} {z : Int32 × St} (hz : x_Lines_verbOf S x0 = some z) : Ct l y_Lines_verbOf (.code y_Lines_verbOf b_Lines_verbOf 2 (some .int) :: gw) rm_x_Lines_verbOf D [(cI, .int), (cZ, .boolean), (cJ, .long)] (xA ao aa) (xW cI cZ cJ ao aa) [.ref (ao 23), .int x0] S (some (.int z.1)) z.2 :=
  Ct_of (by decide) (fun p e s m args below meth c X => w_x_Lines_verbOf X _ _ hz) (Nat.le_of_ble_eq_true rfl)
def x_Slot_empty_17 (S : St) : Option (St) :=
  (x_Row_empty 9 S).bind fun q1 =>
  some (sL (sI (sI q1 17 (-1 : Int32)) 18 (-1 : Int32)) 0 (0 : Int64))
def rm_x_Slot_empty_17 : Room := { frames := 1, cells := 0, slots := 0, locals := 20 }
theorem ok_x_Slot_empty_17 : CalV y_Slot_empty b_Slot_empty 1 none 0 rm_x_Slot_empty_17 := ⟨kc_Slot_empty, ki_Slot_empty, kl_Slot_empty, ji_Slot, ⟨by decide, by decide, by decide +kernel⟩, rfl, rfl⟩
set_option maxHeartbeats 4000000 in
set_option maxRecDepth 100000 in
theorem w_x_Slot_empty_17 {z : St} (X : Cx b_Slot_empty 1 none R_Slot D [(cI, .int), (cZ, .boolean), (cJ, .long)] (xA ao aa) (xW cI cZ cJ ao aa) p s m args meth c) (S : St) (hf : x_Slot_empty_17 S = some z) : WX rm_x_Slot_empty_17 D (xA ao aa) (xW cI cZ cJ ao aa) p l e s m args below meth c none z 0 [] 1 [(0, .ref (ao 17))] S := by
  intro H locs ls hP hS hl
  obtain ⟨hx, hb, hr0, hml, hown, htg, hlk, hK, hN, hI⟩ := id X
  unfold x_Slot_empty_17 at hf
  refine lv_aload_n hx hb d_Slot_empty_0 rfl (lv_at hl 0 rfl) ?_
  refine va_get (D := D) (v := .ref (ao 9)) hx hb htg in_Slot hown hK hP 17 xo_17 rfl 0 (by decide) (htg _ k_f_Slot_14) (fun _ h9 => h9) rfl d_Slot_empty_1 ?_
  obtain ⟨q1, he, hf⟩ := ob_some hf
  refine cl_Vv (As := []) (rest := []) X (c_x_Row_empty (by decide : 9 < 17) he) ok_x_Row_empty k_m_Slot_27 (va_recv hK hP rfl (xo_row (by decide : 9 < 17))) rfl rfl hl.1 (Nat.le_of_ble_eq_true rfl) d_Slot_empty_4 ⟨by decide, by decide⟩ hP hS (fun H locs hP hS => ?_)
  refine lv_aload_n hx hb d_Slot_empty_7 rfl (lv_at hl 0 rfl) ?_
  refine lv_iconst (v := (-1)) hx hb d_Slot_empty_8 (by decide) ?_
  refine va_put (D := D) (ty := .int) hx hb htg in_Slot t_Slot t_Slot_ok n_Slot hown hK hP (hI _) hS 17 xo_17 rfl 1 (by decide) (htg _ k_f_Slot_20) (fun _ h9 => h9) rfl (by decide +kernel) rfl rfl (Nat.le_of_ble_eq_true rfl) d_Slot_empty_9 (fun H locs hP _ hS => ?_)
  replace hP : va_P D classes (xW cI cZ cJ ao aa (sI q1 17 (-1 : Int32))) H := pw xs_17_kind hP
  refine lv_aload_n hx hb d_Slot_empty_12 rfl (lv_at hl 0 rfl) ?_
  refine lv_iconst (v := (-1)) hx hb d_Slot_empty_13 (by decide) ?_
  refine va_put (D := D) (ty := .int) hx hb htg in_Slot t_Slot t_Slot_ok n_Slot hown hK hP (hI _) hS 17 xo_17 rfl 2 (by decide) (htg _ k_f_Slot_24) (fun _ h9 => h9) rfl (by decide +kernel) rfl rfl (Nat.le_of_ble_eq_true rfl) d_Slot_empty_14 (fun H locs hP _ hS => ?_)
  replace hP : va_P D classes (xW cI cZ cJ ao aa (sI (sI q1 17 (-1 : Int32)) 18 (-1 : Int32))) H := pw xs_17_place hP
  refine lv_aload_n hx hb d_Slot_empty_17 rfl (lv_at hl 0 rfl) ?_
  refine lv_lconst (v := 0) hx hb d_Slot_empty_18 (by decide) ?_
  refine va_put (D := D) (ty := .long) hx hb htg in_Slot t_Slot t_Slot_ok n_Slot hown hK hP (hI _) hS 17 xo_17 rfl 3 (by decide) (htg _ k_f_Slot_30) (fun _ h9 => h9) rfl (by decide +kernel) rfl rfl (Nat.le_of_ble_eq_true rfl) d_Slot_empty_19 (fun H locs hP _ hS => ?_)
  replace hP : va_P D classes (xW cI cZ cJ ao aa (sL (sI (sI q1 17 (-1 : Int32)) 18 (-1 : Int32)) 0 (0 : Int64))) H := pw xs_17_things hP
  obtain rfl := Option.some.inj hf
  exact W.vret hx hb hr0 (fun t ht _ => ⟨⟨rfl, by rw [ht]; exact hP⟩, hS.F ht⟩) hS.2.2 d_Slot_empty_22 hlk
theorem c_x_Slot_empty_17 {l : Launch} {D : va_G} {cI cZ cJ : ClassId} {ao aa : Nat → Nat} {S : St} {z : St} (hz : x_Slot_empty_17 S = some z) : Ct l y_Slot_empty (.code y_Slot_empty b_Slot_empty 1 none :: gw) rm_x_Slot_empty_17 D [(cI, .int), (cZ, .boolean), (cJ, .long)] (xA ao aa) (xW cI cZ cJ ao aa) [.ref (ao 17)] S none z :=
  Ct_of (by decide) (fun p e s m args below meth c X => w_x_Slot_empty_17 X _ hz) (Nat.le_of_ble_eq_true rfl)
def x_Slot_empty_18 (S : St) : Option (St) :=
  (x_Row_empty 10 S).bind fun q1 =>
  some (sL (sI (sI q1 19 (-1 : Int32)) 20 (-1 : Int32)) 1 (0 : Int64))
def rm_x_Slot_empty_18 : Room := { frames := 1, cells := 0, slots := 0, locals := 20 }
theorem ok_x_Slot_empty_18 : CalV y_Slot_empty b_Slot_empty 1 none 0 rm_x_Slot_empty_18 := ⟨kc_Slot_empty, ki_Slot_empty, kl_Slot_empty, ji_Slot, ⟨by decide, by decide, by decide +kernel⟩, rfl, rfl⟩
set_option maxHeartbeats 4000000 in
set_option maxRecDepth 100000 in
theorem w_x_Slot_empty_18 {z : St} (X : Cx b_Slot_empty 1 none R_Slot D [(cI, .int), (cZ, .boolean), (cJ, .long)] (xA ao aa) (xW cI cZ cJ ao aa) p s m args meth c) (S : St) (hf : x_Slot_empty_18 S = some z) : WX rm_x_Slot_empty_18 D (xA ao aa) (xW cI cZ cJ ao aa) p l e s m args below meth c none z 0 [] 1 [(0, .ref (ao 18))] S := by
  intro H locs ls hP hS hl
  obtain ⟨hx, hb, hr0, hml, hown, htg, hlk, hK, hN, hI⟩ := id X
  unfold x_Slot_empty_18 at hf
  refine lv_aload_n hx hb d_Slot_empty_0 rfl (lv_at hl 0 rfl) ?_
  refine va_get (D := D) (v := .ref (ao 10)) hx hb htg in_Slot hown hK hP 18 xo_18 rfl 0 (by decide) (htg _ k_f_Slot_14) (fun _ h9 => h9) rfl d_Slot_empty_1 ?_
  obtain ⟨q1, he, hf⟩ := ob_some hf
  refine cl_Vv (As := []) (rest := []) X (c_x_Row_empty (by decide : 10 < 17) he) ok_x_Row_empty k_m_Slot_27 (va_recv hK hP rfl (xo_row (by decide : 10 < 17))) rfl rfl hl.1 (Nat.le_of_ble_eq_true rfl) d_Slot_empty_4 ⟨by decide, by decide⟩ hP hS (fun H locs hP hS => ?_)
  refine lv_aload_n hx hb d_Slot_empty_7 rfl (lv_at hl 0 rfl) ?_
  refine lv_iconst (v := (-1)) hx hb d_Slot_empty_8 (by decide) ?_
  refine va_put (D := D) (ty := .int) hx hb htg in_Slot t_Slot t_Slot_ok n_Slot hown hK hP (hI _) hS 18 xo_18 rfl 1 (by decide) (htg _ k_f_Slot_20) (fun _ h9 => h9) rfl (by decide +kernel) rfl rfl (Nat.le_of_ble_eq_true rfl) d_Slot_empty_9 (fun H locs hP _ hS => ?_)
  replace hP : va_P D classes (xW cI cZ cJ ao aa (sI q1 19 (-1 : Int32))) H := pw xs_18_kind hP
  refine lv_aload_n hx hb d_Slot_empty_12 rfl (lv_at hl 0 rfl) ?_
  refine lv_iconst (v := (-1)) hx hb d_Slot_empty_13 (by decide) ?_
  refine va_put (D := D) (ty := .int) hx hb htg in_Slot t_Slot t_Slot_ok n_Slot hown hK hP (hI _) hS 18 xo_18 rfl 2 (by decide) (htg _ k_f_Slot_24) (fun _ h9 => h9) rfl (by decide +kernel) rfl rfl (Nat.le_of_ble_eq_true rfl) d_Slot_empty_14 (fun H locs hP _ hS => ?_)
  replace hP : va_P D classes (xW cI cZ cJ ao aa (sI (sI q1 19 (-1 : Int32)) 20 (-1 : Int32))) H := pw xs_18_place hP
  refine lv_aload_n hx hb d_Slot_empty_17 rfl (lv_at hl 0 rfl) ?_
  refine lv_lconst (v := 0) hx hb d_Slot_empty_18 (by decide) ?_
  refine va_put (D := D) (ty := .long) hx hb htg in_Slot t_Slot t_Slot_ok n_Slot hown hK hP (hI _) hS 18 xo_18 rfl 3 (by decide) (htg _ k_f_Slot_30) (fun _ h9 => h9) rfl (by decide +kernel) rfl rfl (Nat.le_of_ble_eq_true rfl) d_Slot_empty_19 (fun H locs hP _ hS => ?_)
  replace hP : va_P D classes (xW cI cZ cJ ao aa (sL (sI (sI q1 19 (-1 : Int32)) 20 (-1 : Int32)) 1 (0 : Int64))) H := pw xs_18_things hP
  obtain rfl := Option.some.inj hf
  exact W.vret hx hb hr0 (fun t ht _ => ⟨⟨rfl, by rw [ht]; exact hP⟩, hS.F ht⟩) hS.2.2 d_Slot_empty_22 hlk
theorem c_x_Slot_empty_18 {l : Launch} {D : va_G} {cI cZ cJ : ClassId} {ao aa : Nat → Nat} {S : St} {z : St} (hz : x_Slot_empty_18 S = some z) : Ct l y_Slot_empty (.code y_Slot_empty b_Slot_empty 1 none :: gw) rm_x_Slot_empty_18 D [(cI, .int), (cZ, .boolean), (cJ, .long)] (xA ao aa) (xW cI cZ cJ ao aa) [.ref (ao 18)] S none z :=
  Ct_of (by decide) (fun p e s m args below meth c X => w_x_Slot_empty_18 X _ hz) (Nat.le_of_ble_eq_true rfl)
def x_Trial_begin (S : St) (x0 : Int32) : Option (St) :=
  (x_Slot_empty_17 (sI (sI (sI (sI S 26 x0) 27 (1 : Int32)) 28 (0 : Int32)) 29 (-1 : Int32))).bind fun q1 =>
  (x_Slot_empty_18 q1).bind fun q2 =>
  (x_Row_empty 11 q2).bind fun q3 =>
  (x_Row_empty 12 q3).bind fun q4 =>
  some q4
def rm_x_Trial_begin : Room := { frames := 2, cells := 0, slots := 0, locals := 40 }
theorem ok_x_Trial_begin : CalV y_Trial_begin b_Trial_begin 2 none 1 rm_x_Trial_begin := ⟨kc_Trial_begin, ki_Trial_begin, kl_Trial_begin, ji_Trial, ⟨by decide, by decide, by decide +kernel⟩, rfl, rfl⟩
set_option maxHeartbeats 4000000 in
set_option maxRecDepth 100000 in
theorem w_x_Trial_begin {z : St} (X : Cx b_Trial_begin 2 none R_Trial D [(cI, .int), (cZ, .boolean), (cJ, .long)] (xA ao aa) (xW cI cZ cJ ao aa) p s m args meth c) (S : St) (x0 : Int32) (hf : x_Trial_begin S x0 = some z) : WX rm_x_Trial_begin D (xA ao aa) (xW cI cZ cJ ao aa) p l e s m args below meth c none z 0 [] 2 [(0, .ref (ao 25)), (1, .int x0)] S := by
  intro H locs ls hP hS hl
  obtain ⟨hx, hb, hr0, hml, hown, htg, hlk, hK, hN, hI⟩ := id X
  unfold x_Trial_begin at hf
  refine lv_aload_n hx hb d_Trial_begin_0 rfl (lv_at hl 0 rfl) ?_
  refine lv_iload_n hx hb d_Trial_begin_1 rfl (lv_at hl 1 rfl) ?_
  refine va_put (D := D) (ty := .int) hx hb htg in_Trial t_Trial t_Trial_ok n_Trial hown hK hP (hI _) hS 25 xo_25 rfl 9 (by decide) (htg _ k_f_Trial_33) (fun _ h9 => h9) rfl (by decide +kernel) rfl rfl (Nat.le_of_ble_eq_true rfl) d_Trial_begin_2 (fun H locs hP _ hS => ?_)
  replace hP : va_P D classes (xW cI cZ cJ ao aa (sI S 26 x0)) H := pw xs_25_line hP
  refine lv_aload_n hx hb d_Trial_begin_5 rfl (lv_at hl 0 rfl) ?_
  refine lv_iconst (v := 1) hx hb d_Trial_begin_6 (by decide) ?_
  refine va_put (D := D) (ty := .int) hx hb htg in_Trial t_Trial t_Trial_ok n_Trial hown hK hP (hI _) hS 25 xo_25 rfl 10 (by decide) (htg _ k_f_Trial_83) (fun _ h9 => h9) rfl (by decide +kernel) rfl rfl (Nat.le_of_ble_eq_true rfl) d_Trial_begin_7 (fun H locs hP _ hS => ?_)
  replace hP : va_P D classes (xW cI cZ cJ ao aa (sI (sI S 26 x0) 27 (1 : Int32))) H := pw xs_25_cursor hP
  refine lv_aload_n hx hb d_Trial_begin_10 rfl (lv_at hl 0 rfl) ?_
  refine lv_iconst (v := 0) hx hb d_Trial_begin_11 (by decide) ?_
  refine va_put (D := D) (ty := .int) hx hb htg in_Trial t_Trial t_Trial_ok n_Trial hown hK hP (hI _) hS 25 xo_25 rfl 11 (by decide) (htg _ k_f_Trial_76) (fun _ h9 => h9) rfl (by decide +kernel) rfl rfl (Nat.le_of_ble_eq_true rfl) d_Trial_begin_12 (fun H locs hP _ hS => ?_)
  replace hP : va_P D classes (xW cI cZ cJ ao aa (sI (sI (sI S 26 x0) 27 (1 : Int32)) 28 (0 : Int32))) H := pw xs_25_error hP
  refine lv_aload_n hx hb d_Trial_begin_15 rfl (lv_at hl 0 rfl) ?_
  refine lv_iconst (v := (-1)) hx hb d_Trial_begin_16 (by decide) ?_
  refine va_put (D := D) (ty := .int) hx hb htg in_Trial t_Trial t_Trial_ok n_Trial hown hK hP (hI _) hS 25 xo_25 rfl 12 (by decide) (htg _ k_f_Trial_37) (fun _ h9 => h9) rfl (by decide +kernel) rfl rfl (Nat.le_of_ble_eq_true rfl) d_Trial_begin_17 (fun H locs hP _ hS => ?_)
  replace hP : va_P D classes (xW cI cZ cJ ao aa (sI (sI (sI (sI S 26 x0) 27 (1 : Int32)) 28 (0 : Int32)) 29 (-1 : Int32))) H := pw xs_25_place hP
  refine lv_aload_n hx hb d_Trial_begin_20 rfl (lv_at hl 0 rfl) ?_
  refine va_get (D := D) (v := .ref (ao 17)) hx hb htg in_Trial hown hK hP 25 xo_25 rfl 5 (by decide) (htg _ k_f_Trial_12) (fun _ h9 => h9) rfl d_Trial_begin_21 ?_
  obtain ⟨q1, he, hf⟩ := ob_some hf
  refine cl_Vv (As := []) (rest := []) X (c_x_Slot_empty_17 he) ok_x_Slot_empty_17 k_m_Trial_127 (va_recv hK hP rfl xo_17) rfl rfl hl.1 (Nat.le_of_ble_eq_true rfl) d_Trial_begin_24 ⟨by decide, by decide⟩ hP hS (fun H locs hP hS => ?_)
  refine lv_aload_n hx hb d_Trial_begin_27 rfl (lv_at hl 0 rfl) ?_
  refine va_get (D := D) (v := .ref (ao 18)) hx hb htg in_Trial hown hK hP 25 xo_25 rfl 6 (by decide) (htg _ k_f_Trial_18) (fun _ h9 => h9) rfl d_Trial_begin_28 ?_
  obtain ⟨q2, he, hf⟩ := ob_some hf
  refine cl_Vv (As := []) (rest := []) X (c_x_Slot_empty_18 he) ok_x_Slot_empty_18 k_m_Trial_127 (va_recv hK hP rfl xo_18) rfl rfl hl.1 (Nat.le_of_ble_eq_true rfl) d_Trial_begin_31 ⟨by decide, by decide⟩ hP hS (fun H locs hP hS => ?_)
  refine lv_aload_n hx hb d_Trial_begin_34 rfl (lv_at hl 0 rfl) ?_
  refine va_get (D := D) (v := .ref (ao 11)) hx hb htg in_Trial hown hK hP 25 xo_25 rfl 7 (by decide) (htg _ k_f_Trial_26) (fun _ h9 => h9) rfl d_Trial_begin_35 ?_
  obtain ⟨q3, he, hf⟩ := ob_some hf
  refine cl_Vv (As := []) (rest := []) X (c_x_Row_empty (by decide : 11 < 17) he) ok_x_Row_empty k_m_Trial_130 (va_recv hK hP rfl (xo_row (by decide : 11 < 17))) rfl rfl hl.1 (Nat.le_of_ble_eq_true rfl) d_Trial_begin_38 ⟨by decide, by decide⟩ hP hS (fun H locs hP hS => ?_)
  refine lv_aload_n hx hb d_Trial_begin_41 rfl (lv_at hl 0 rfl) ?_
  refine va_get (D := D) (v := .ref (ao 12)) hx hb htg in_Trial hown hK hP 25 xo_25 rfl 8 (by decide) (htg _ k_f_Trial_30) (fun _ h9 => h9) rfl d_Trial_begin_42 ?_
  obtain ⟨q4, he, hf⟩ := ob_some hf
  refine cl_Vv (As := []) (rest := []) X (c_x_Row_empty (by decide : 12 < 17) he) ok_x_Row_empty k_m_Trial_130 (va_recv hK hP rfl (xo_row (by decide : 12 < 17))) rfl rfl hl.1 (Nat.le_of_ble_eq_true rfl) d_Trial_begin_45 ⟨by decide, by decide⟩ hP hS (fun H locs hP hS => ?_)
  obtain rfl := Option.some.inj hf
  exact W.vret hx hb hr0 (fun t ht _ => ⟨⟨rfl, by rw [ht]; exact hP⟩, hS.F ht⟩) hS.2.2 d_Trial_begin_48 hlk
theorem c_x_Trial_begin {l : Launch} {D : va_G} {cI cZ cJ : ClassId} {ao aa : Nat → Nat} {S : St} {x0 : Int32} {z : St} (hz : x_Trial_begin S x0 = some z) : Ct l y_Trial_begin (.code y_Trial_begin b_Trial_begin 2 none :: gw) rm_x_Trial_begin D [(cI, .int), (cZ, .boolean), (cJ, .long)] (xA ao aa) (xW cI cZ cJ ao aa) [.ref (ao 25), .int x0] S none z :=
  Ct_of (by decide) (fun p e s m args below meth c X => w_x_Trial_begin X _ _ hz) (Nat.le_of_ble_eq_true rfl)
def x_G_isOfOneThing (S : St) (x0 : Int32) : Option (Int32 × St) :=
  if x0 < (2 : Int32) then
    some ((0 : Int32), S)
  else
    if (5 : Int32) < x0 then
      some ((0 : Int32), S)
    else
      some ((1 : Int32), S)
def rm_x_G_isOfOneThing : Room := { frames := 0, cells := 0, slots := 0, locals := 0 }
theorem ok_x_G_isOfOneThing : CalS y_G_isOfOneThing b_G_isOfOneThing 1 (some .boolean) 1 rm_x_G_isOfOneThing := ⟨kc_G_isOfOneThing, ks_G_isOfOneThing, ji_G, ⟨by decide, by decide, by decide +kernel⟩, rfl, rfl⟩
set_option maxHeartbeats 4000000 in
set_option maxRecDepth 100000 in
theorem w_x_G_isOfOneThing {z : Int32 × St} (X : Cx b_G_isOfOneThing 1 (some .boolean) R_G D [(cI, .int), (cZ, .boolean), (cJ, .long)] (xA ao aa) (xW cI cZ cJ ao aa) p s m args meth c) (S : St) (x0 : Int32) (hf : x_G_isOfOneThing S x0 = some z) : WX rm_x_G_isOfOneThing D (xA ao aa) (xW cI cZ cJ ao aa) p l e s m args below meth c (some (.int z.1)) z.2 0 [] 1 [(0, .int x0)] S := by
  intro H locs ls hP hS hl
  obtain ⟨hx, hb, hr0, hml, hown, htg, hlk, hK, hN, hI⟩ := id X
  unfold x_G_isOfOneThing at hf
  refine lv_iload_n hx hb d_G_isOfOneThing_0 rfl (lv_at hl 0 rfl) ?_
  refine lv_iconst (v := 2) hx hb d_G_isOfOneThing_1 (by decide) ?_
  refine lv_icmp_lt (tgt := 14) hx hb d_G_isOfOneThing_2 (by decide) (fun c => ?_) (fun c => ?_)
  · have hf := if_t hf c
    refine lv_iconst (v := 0) hx hb d_G_isOfOneThing_14 (by decide) ?_
    obtain rfl := Option.some.inj hf
    exact W.zret (ty := .boolean) hx hb hr0 rfl (fun t ht _ => ⟨⟨rfl, by rw [ht]; exact hP⟩, hS.F ht⟩) hS.2.2 d_G_isOfOneThing_15 hlk
  · have hf := if_f hf c
    refine lv_iload_n hx hb d_G_isOfOneThing_5 rfl (lv_at hl 0 rfl) ?_
    refine lv_iconst (v := 5) hx hb d_G_isOfOneThing_6 (by decide) ?_
    refine lv_icmp_gt (tgt := 14) hx hb d_G_isOfOneThing_7 (by decide) (fun c => ?_) (fun c => ?_)
    · have hf := if_t hf c
      refine lv_iconst (v := 0) hx hb d_G_isOfOneThing_14 (by decide) ?_
      obtain rfl := Option.some.inj hf
      exact W.zret (ty := .boolean) hx hb hr0 rfl (fun t ht _ => ⟨⟨rfl, by rw [ht]; exact hP⟩, hS.F ht⟩) hS.2.2 d_G_isOfOneThing_15 hlk
    · have hf := if_f hf c
      refine lv_iconst (v := 1) hx hb d_G_isOfOneThing_10 (by decide) ?_
      refine lv_goto (tgt := 15) hx hb d_G_isOfOneThing_11 (by decide) ?_
      obtain rfl := Option.some.inj hf
      exact W.zret (ty := .boolean) hx hb hr0 rfl (fun t ht _ => ⟨⟨rfl, by rw [ht]; exact hP⟩, hS.F ht⟩) hS.2.2 d_G_isOfOneThing_15 hlk
theorem c_x_G_isOfOneThing {l : Launch} {D : va_G} {cI cZ cJ : ClassId} {ao aa : Nat → Nat} {S : St} {x0 : Int32} {z : Int32 × St} (hz : x_G_isOfOneThing S x0 = some z) : Ct l y_G_isOfOneThing (.code y_G_isOfOneThing b_G_isOfOneThing 1 (some .boolean) :: gw) rm_x_G_isOfOneThing D [(cI, .int), (cZ, .boolean), (cJ, .long)] (xA ao aa) (xW cI cZ cJ ao aa) [.int x0] S (some (.int z.1)) z.2 :=
  Ct_of (by decide) (fun p e s m args below meth c X => w_x_G_isOfOneThing X _ _ hz) (Nat.le_of_ble_eq_true rfl)
def x_Trial_fail (S : St) (x0 : Int32) (x1 : Int32) : Option (St) :=
  some (sI (sI S 28 x0) 29 x1)
def rm_x_Trial_fail : Room := { frames := 0, cells := 0, slots := 0, locals := 0 }
theorem ok_x_Trial_fail : CalV y_Trial_fail b_Trial_fail 3 none 2 rm_x_Trial_fail := ⟨kc_Trial_fail, ki_Trial_fail, kl_Trial_fail, ji_Trial, ⟨by decide, by decide, by decide +kernel⟩, rfl, rfl⟩
set_option maxHeartbeats 4000000 in
set_option maxRecDepth 100000 in
theorem w_x_Trial_fail {z : St} (X : Cx b_Trial_fail 3 none R_Trial D [(cI, .int), (cZ, .boolean), (cJ, .long)] (xA ao aa) (xW cI cZ cJ ao aa) p s m args meth c) (S : St) (x0 : Int32) (x1 : Int32) (hf : x_Trial_fail S x0 x1 = some z) : WX rm_x_Trial_fail D (xA ao aa) (xW cI cZ cJ ao aa) p l e s m args below meth c none z 0 [] 3 [(0, .ref (ao 25)), (1, .int x0), (2, .int x1)] S := by
  intro H locs ls hP hS hl
  obtain ⟨hx, hb, hr0, hml, hown, htg, hlk, hK, hN, hI⟩ := id X
  unfold x_Trial_fail at hf
  refine lv_aload_n hx hb d_Trial_fail_0 rfl (lv_at hl 0 rfl) ?_
  refine lv_iload_n hx hb d_Trial_fail_1 rfl (lv_at hl 1 rfl) ?_
  refine va_put (D := D) (ty := .int) hx hb htg in_Trial t_Trial t_Trial_ok n_Trial hown hK hP (hI _) hS 25 xo_25 rfl 11 (by decide) (htg _ k_f_Trial_76) (fun _ h9 => h9) rfl (by decide +kernel) rfl rfl (Nat.le_of_ble_eq_true rfl) d_Trial_fail_2 (fun H locs hP _ hS => ?_)
  replace hP : va_P D classes (xW cI cZ cJ ao aa (sI S 28 x0)) H := pw xs_25_error hP
  refine lv_aload_n hx hb d_Trial_fail_5 rfl (lv_at hl 0 rfl) ?_
  refine lv_iload_n hx hb d_Trial_fail_6 rfl (lv_at hl 2 rfl) ?_
  refine va_put (D := D) (ty := .int) hx hb htg in_Trial t_Trial t_Trial_ok n_Trial hown hK hP (hI _) hS 25 xo_25 rfl 12 (by decide) (htg _ k_f_Trial_37) (fun _ h9 => h9) rfl (by decide +kernel) rfl rfl (Nat.le_of_ble_eq_true rfl) d_Trial_fail_7 (fun H locs hP _ hS => ?_)
  replace hP : va_P D classes (xW cI cZ cJ ao aa (sI (sI S 28 x0) 29 x1)) H := pw xs_25_place hP
  obtain rfl := Option.some.inj hf
  exact W.vret hx hb hr0 (fun t ht _ => ⟨⟨rfl, by rw [ht]; exact hP⟩, hS.F ht⟩) hS.2.2 d_Trial_fail_10 hlk
theorem c_x_Trial_fail {l : Launch} {D : va_G} {cI cZ cJ : ClassId} {ao aa : Nat → Nat} {S : St} {x0 : Int32} {x1 : Int32} {z : St} (hz : x_Trial_fail S x0 x1 = some z) : Ct l y_Trial_fail (.code y_Trial_fail b_Trial_fail 3 none :: gw) rm_x_Trial_fail D [(cI, .int), (cZ, .boolean), (cJ, .long)] (xA ao aa) (xW cI cZ cJ ao aa) [.ref (ao 25), .int x0, .int x1] S none z :=
  Ct_of (by decide) (fun p e s m args below meth c X => w_x_Trial_fail X _ _ _ hz) (Nat.le_of_ble_eq_true rfl)
def x_Trial_takeOut_17_18 (S : St) : Option (St) :=
  if (gI S 17) = (8 : Int32) then
    (x_G_isOfOneThing S (gI S 19)).bind fun q1 =>
    if q1.1 = 0 then
      some q1.2
    else
      if (lg_cmp (gL (sL q1.2 0 ((gL q1.2 0) &&& ((gL q1.2 1) ^^^ (-1 : Int64)))) 0) (0 : Int64)) = 0 then
        (x_Trial_fail (sL q1.2 0 ((gL q1.2 0) &&& ((gL q1.2 1) ^^^ (-1 : Int64)))) (14 : Int32) (gI (sL q1.2 0 ((gL q1.2 0) &&& ((gL q1.2 1) ^^^ (-1 : Int64)))) 18)).bind fun q2 =>
        some q2
      else
        some (sL q1.2 0 ((gL q1.2 0) &&& ((gL q1.2 1) ^^^ (-1 : Int64))))
  else
    some S
def rm_x_Trial_takeOut_17_18 : Room := { frames := 1, cells := 0, slots := 0, locals := 22 }
theorem ok_x_Trial_takeOut_17_18 : CalV y_Trial_takeOut b_Trial_takeOut 4 none 2 rm_x_Trial_takeOut_17_18 := ⟨kc_Trial_takeOut, ki_Trial_takeOut, kl_Trial_takeOut, ji_Trial, ⟨by decide, by decide, by decide +kernel⟩, rfl, rfl⟩
set_option maxHeartbeats 4000000 in
set_option maxRecDepth 100000 in
theorem w_x_Trial_takeOut_17_18 {z : St} (X : Cx b_Trial_takeOut 4 none R_Trial D [(cI, .int), (cZ, .boolean), (cJ, .long)] (xA ao aa) (xW cI cZ cJ ao aa) p s m args meth c) (S : St) (hf : x_Trial_takeOut_17_18 S = some z) : WX rm_x_Trial_takeOut_17_18 D (xA ao aa) (xW cI cZ cJ ao aa) p l e s m args below meth c none z 0 [] 4 [(0, .ref (ao 25)), (1, .ref (ao 17)), (2, .ref (ao 18))] S := by
  intro H locs ls hP hS hl
  obtain ⟨hx, hb, hr0, hml, hown, htg, hlk, hK, hN, hI⟩ := id X
  unfold x_Trial_takeOut_17_18 at hf
  refine lv_aload_n hx hb d_Trial_takeOut_0 rfl (lv_at hl 1 rfl) ?_
  refine va_getN (D := D) (v := .int (gI S 17)) hx hb htg in_Slot hown hK hP 17 xo_17 rfl 1 (by decide) (va_Nw.use rfl (hN _ k_fn_Trial_64)) (fun _ h9 => h9) rfl d_Trial_takeOut_1 ?_
  refine lv_bipush (v := 8) hx hb d_Trial_takeOut_4 (by decide) ?_
  refine lv_icmp_ne (tgt := 19) hx hb d_Trial_takeOut_6 (by decide) (fun c => ?_) (fun c => ?_)
  · have hf := if_f hf c
    obtain rfl := Option.some.inj hf
    exact W.vret hx hb hr0 (fun t ht _ => ⟨⟨rfl, by rw [ht]; exact hP⟩, hS.F ht⟩) hS.2.2 d_Trial_takeOut_19 hlk
  · have hf := if_t hf c
    refine lv_aload_n hx hb d_Trial_takeOut_9 rfl (lv_at hl 2 rfl) ?_
    refine va_getN (D := D) (v := .int (gI S 19)) hx hb htg in_Slot hown hK hP 18 xo_18 rfl 1 (by decide) (va_Nw.use rfl (hN _ k_fn_Trial_64)) (fun _ h9 => h9) rfl d_Trial_takeOut_10 ?_
    obtain ⟨q1, he, hf⟩ := ob_some hf
    refine cl_Ti (As := [.int (gI S 19)]) (rest := []) X (c_x_G_isOfOneThing he) ok_x_G_isOfOneThing k_mn_Trial_108 rfl rfl hl.1 (Nat.le_of_ble_eq_true rfl) d_Trial_takeOut_13 ⟨by decide, by decide⟩ hP hS (fun H locs hP hS => ?_)
    refine lv_if_ne (tgt := 20) hx hb d_Trial_takeOut_16 (by decide) (fun c => ?_) (fun c => ?_)
    · have hf := if_f hf c
      refine lv_aload_n hx hb d_Trial_takeOut_20 rfl (lv_at hl 1 rfl) ?_
      refine lv_astore_n (lv' := [(3, .ref (ao 17)), (0, .ref (ao 25)), (1, .ref (ao 17)), (2, .ref (ao 18))]) hx hb d_Trial_takeOut_21 rfl hl (by decide) rfl (fun ls hl => ?_)
      refine lv_aload_n hx hb d_Trial_takeOut_22 rfl (lv_at hl 0 rfl) ?_
      refine lv_aload_n hx hb d_Trial_takeOut_23 rfl (lv_at hl 0 rfl) ?_
      refine va_getN (D := D) (v := .long (gL q1.2 0)) hx hb htg in_Slot hown hK hP 17 xo_17 rfl 3 (by decide) (va_Nw.use rfl (hN _ k_fn_Trial_159)) (fun _ h9 => h9) rfl d_Trial_takeOut_24 ?_
      refine lv_aload_n hx hb d_Trial_takeOut_27 rfl (lv_at hl 3 rfl) ?_
      refine va_getN (D := D) (v := .long (gL q1.2 1)) hx hb htg in_Slot hown hK hP 18 xo_18 rfl 3 (by decide) (va_Nw.use rfl (hN _ k_fn_Trial_159)) (fun _ h9 => h9) rfl d_Trial_takeOut_28 ?_
      refine lv_ldc2 (v := (-1)) hx hb hown (htg _ k_cl_Trial_192) d_Trial_takeOut_31 ?_
      refine lv_lxor hx hb d_Trial_takeOut_34 ?_
      refine lv_land hx hb d_Trial_takeOut_35 ?_
      refine lv_dup2_x1_2 hx hb d_Trial_takeOut_36 rfl rfl ?_
      refine va_putN (D := D) (ty := .long) hx hb htg in_Slot t_Slot t_Slot_ok n_Slot hown hK hP (hI _) hS 17 xo_17 rfl 3 (by decide) (va_Nw.use rfl (hN _ k_fn_Trial_159)) (fun _ h9 => h9) rfl (by decide +kernel) rfl rfl (Nat.le_of_ble_eq_true rfl) d_Trial_takeOut_37 (fun H locs hP _ hS => ?_)
      replace hP : va_P D classes (xW cI cZ cJ ao aa (sL q1.2 0 ((gL q1.2 0) &&& ((gL q1.2 1) ^^^ (-1 : Int64))))) H := pw xs_17_things hP
      refine lv_pop2_2 hx hb d_Trial_takeOut_40 rfl ?_
      refine lv_aload_n hx hb d_Trial_takeOut_41 rfl (lv_at hl 2 rfl) ?_
      refine va_getN (D := D) (v := .long (gL (sL q1.2 0 ((gL q1.2 0) &&& ((gL q1.2 1) ^^^ (-1 : Int64)))) 0)) hx hb htg in_Slot hown hK hP 17 xo_17 rfl 3 (by decide) (va_Nw.use rfl (hN _ k_fn_Trial_159)) (fun _ h9 => h9) rfl d_Trial_takeOut_42 ?_
      refine lv_lconst (v := 0) hx hb d_Trial_takeOut_45 (by decide) ?_
      refine W.lcmp hx hb d_Trial_takeOut_46 ?_
      refine lv_if_ne (tgt := 60) hx hb d_Trial_takeOut_47 (by decide) (fun c => ?_) (fun c => ?_)
      · have hf := if_f hf c
        obtain rfl := Option.some.inj hf
        exact W.vret hx hb hr0 (fun t ht _ => ⟨⟨rfl, by rw [ht]; exact hP⟩, hS.F ht⟩) hS.2.2 d_Trial_takeOut_60 hlk
      · have hf := if_t hf c
        refine lv_aload_n hx hb d_Trial_takeOut_50 rfl (lv_at hl 1 rfl) ?_
        refine lv_bipush (v := 14) hx hb d_Trial_takeOut_51 (by decide) ?_
        refine lv_aload_n hx hb d_Trial_takeOut_53 rfl (lv_at hl 2 rfl) ?_
        refine va_getN (D := D) (v := .int (gI (sL q1.2 0 ((gL q1.2 0) &&& ((gL q1.2 1) ^^^ (-1 : Int64)))) 18)) hx hb htg in_Slot hown hK hP 17 xo_17 rfl 2 (by decide) (va_Nw.use rfl (hN _ k_fn_Trial_131)) (fun _ h9 => h9) rfl d_Trial_takeOut_54 ?_
        obtain ⟨q2, he, hf⟩ := ob_some hf
        refine cl_Vv (As := [.int (14 : Int32), .int (gI (sL q1.2 0 ((gL q1.2 0) &&& ((gL q1.2 1) ^^^ (-1 : Int64)))) 18)]) (rest := []) X (c_x_Trial_fail he) ok_x_Trial_fail k_m_Trial_136 (va_recv hK hP rfl xo_25) rfl rfl hl.1 (Nat.le_of_ble_eq_true rfl) d_Trial_takeOut_57 ⟨by decide, by decide⟩ hP hS (fun H locs hP hS => ?_)
        obtain rfl := Option.some.inj hf
        exact W.vret hx hb hr0 (fun t ht _ => ⟨⟨rfl, by rw [ht]; exact hP⟩, hS.F ht⟩) hS.2.2 d_Trial_takeOut_60 hlk
    · have hf := if_t hf c
      obtain rfl := Option.some.inj hf
      exact W.vret hx hb hr0 (fun t ht _ => ⟨⟨rfl, by rw [ht]; exact hP⟩, hS.F ht⟩) hS.2.2 d_Trial_takeOut_19 hlk
theorem c_x_Trial_takeOut_17_18 {l : Launch} {D : va_G} {cI cZ cJ : ClassId} {ao aa : Nat → Nat} {S : St} {z : St} (hz : x_Trial_takeOut_17_18 S = some z) : Ct l y_Trial_takeOut (.code y_Trial_takeOut b_Trial_takeOut 4 none :: gw) rm_x_Trial_takeOut_17_18 D [(cI, .int), (cZ, .boolean), (cJ, .long)] (xA ao aa) (xW cI cZ cJ ao aa) [.ref (ao 25), .ref (ao 17), .ref (ao 18)] S none z :=
  Ct_of (by decide) (fun p e s m args below meth c X => w_x_Trial_takeOut_17_18 X _ hz) (Nat.le_of_ble_eq_true rfl)
def x_Trial_takeOut_18_17 (S : St) : Option (St) :=
  if (gI S 19) = (8 : Int32) then
    (x_G_isOfOneThing S (gI S 17)).bind fun q1 =>
    if q1.1 = 0 then
      some q1.2
    else
      if (lg_cmp (gL (sL q1.2 1 ((gL q1.2 1) &&& ((gL q1.2 0) ^^^ (-1 : Int64)))) 1) (0 : Int64)) = 0 then
        (x_Trial_fail (sL q1.2 1 ((gL q1.2 1) &&& ((gL q1.2 0) ^^^ (-1 : Int64)))) (14 : Int32) (gI (sL q1.2 1 ((gL q1.2 1) &&& ((gL q1.2 0) ^^^ (-1 : Int64)))) 20)).bind fun q2 =>
        some q2
      else
        some (sL q1.2 1 ((gL q1.2 1) &&& ((gL q1.2 0) ^^^ (-1 : Int64))))
  else
    some S
def rm_x_Trial_takeOut_18_17 : Room := { frames := 1, cells := 0, slots := 0, locals := 22 }
theorem ok_x_Trial_takeOut_18_17 : CalV y_Trial_takeOut b_Trial_takeOut 4 none 2 rm_x_Trial_takeOut_18_17 := ⟨kc_Trial_takeOut, ki_Trial_takeOut, kl_Trial_takeOut, ji_Trial, ⟨by decide, by decide, by decide +kernel⟩, rfl, rfl⟩
set_option maxHeartbeats 4000000 in
set_option maxRecDepth 100000 in
theorem w_x_Trial_takeOut_18_17 {z : St} (X : Cx b_Trial_takeOut 4 none R_Trial D [(cI, .int), (cZ, .boolean), (cJ, .long)] (xA ao aa) (xW cI cZ cJ ao aa) p s m args meth c) (S : St) (hf : x_Trial_takeOut_18_17 S = some z) : WX rm_x_Trial_takeOut_18_17 D (xA ao aa) (xW cI cZ cJ ao aa) p l e s m args below meth c none z 0 [] 4 [(0, .ref (ao 25)), (1, .ref (ao 18)), (2, .ref (ao 17))] S := by
  intro H locs ls hP hS hl
  obtain ⟨hx, hb, hr0, hml, hown, htg, hlk, hK, hN, hI⟩ := id X
  unfold x_Trial_takeOut_18_17 at hf
  refine lv_aload_n hx hb d_Trial_takeOut_0 rfl (lv_at hl 1 rfl) ?_
  refine va_getN (D := D) (v := .int (gI S 19)) hx hb htg in_Slot hown hK hP 18 xo_18 rfl 1 (by decide) (va_Nw.use rfl (hN _ k_fn_Trial_64)) (fun _ h9 => h9) rfl d_Trial_takeOut_1 ?_
  refine lv_bipush (v := 8) hx hb d_Trial_takeOut_4 (by decide) ?_
  refine lv_icmp_ne (tgt := 19) hx hb d_Trial_takeOut_6 (by decide) (fun c => ?_) (fun c => ?_)
  · have hf := if_f hf c
    obtain rfl := Option.some.inj hf
    exact W.vret hx hb hr0 (fun t ht _ => ⟨⟨rfl, by rw [ht]; exact hP⟩, hS.F ht⟩) hS.2.2 d_Trial_takeOut_19 hlk
  · have hf := if_t hf c
    refine lv_aload_n hx hb d_Trial_takeOut_9 rfl (lv_at hl 2 rfl) ?_
    refine va_getN (D := D) (v := .int (gI S 17)) hx hb htg in_Slot hown hK hP 17 xo_17 rfl 1 (by decide) (va_Nw.use rfl (hN _ k_fn_Trial_64)) (fun _ h9 => h9) rfl d_Trial_takeOut_10 ?_
    obtain ⟨q1, he, hf⟩ := ob_some hf
    refine cl_Ti (As := [.int (gI S 17)]) (rest := []) X (c_x_G_isOfOneThing he) ok_x_G_isOfOneThing k_mn_Trial_108 rfl rfl hl.1 (Nat.le_of_ble_eq_true rfl) d_Trial_takeOut_13 ⟨by decide, by decide⟩ hP hS (fun H locs hP hS => ?_)
    refine lv_if_ne (tgt := 20) hx hb d_Trial_takeOut_16 (by decide) (fun c => ?_) (fun c => ?_)
    · have hf := if_f hf c
      refine lv_aload_n hx hb d_Trial_takeOut_20 rfl (lv_at hl 1 rfl) ?_
      refine lv_astore_n (lv' := [(3, .ref (ao 18)), (0, .ref (ao 25)), (1, .ref (ao 18)), (2, .ref (ao 17))]) hx hb d_Trial_takeOut_21 rfl hl (by decide) rfl (fun ls hl => ?_)
      refine lv_aload_n hx hb d_Trial_takeOut_22 rfl (lv_at hl 0 rfl) ?_
      refine lv_aload_n hx hb d_Trial_takeOut_23 rfl (lv_at hl 0 rfl) ?_
      refine va_getN (D := D) (v := .long (gL q1.2 1)) hx hb htg in_Slot hown hK hP 18 xo_18 rfl 3 (by decide) (va_Nw.use rfl (hN _ k_fn_Trial_159)) (fun _ h9 => h9) rfl d_Trial_takeOut_24 ?_
      refine lv_aload_n hx hb d_Trial_takeOut_27 rfl (lv_at hl 3 rfl) ?_
      refine va_getN (D := D) (v := .long (gL q1.2 0)) hx hb htg in_Slot hown hK hP 17 xo_17 rfl 3 (by decide) (va_Nw.use rfl (hN _ k_fn_Trial_159)) (fun _ h9 => h9) rfl d_Trial_takeOut_28 ?_
      refine lv_ldc2 (v := (-1)) hx hb hown (htg _ k_cl_Trial_192) d_Trial_takeOut_31 ?_
      refine lv_lxor hx hb d_Trial_takeOut_34 ?_
      refine lv_land hx hb d_Trial_takeOut_35 ?_
      refine lv_dup2_x1_2 hx hb d_Trial_takeOut_36 rfl rfl ?_
      refine va_putN (D := D) (ty := .long) hx hb htg in_Slot t_Slot t_Slot_ok n_Slot hown hK hP (hI _) hS 18 xo_18 rfl 3 (by decide) (va_Nw.use rfl (hN _ k_fn_Trial_159)) (fun _ h9 => h9) rfl (by decide +kernel) rfl rfl (Nat.le_of_ble_eq_true rfl) d_Trial_takeOut_37 (fun H locs hP _ hS => ?_)
      replace hP : va_P D classes (xW cI cZ cJ ao aa (sL q1.2 1 ((gL q1.2 1) &&& ((gL q1.2 0) ^^^ (-1 : Int64))))) H := pw xs_18_things hP
      refine lv_pop2_2 hx hb d_Trial_takeOut_40 rfl ?_
      refine lv_aload_n hx hb d_Trial_takeOut_41 rfl (lv_at hl 2 rfl) ?_
      refine va_getN (D := D) (v := .long (gL (sL q1.2 1 ((gL q1.2 1) &&& ((gL q1.2 0) ^^^ (-1 : Int64)))) 1)) hx hb htg in_Slot hown hK hP 18 xo_18 rfl 3 (by decide) (va_Nw.use rfl (hN _ k_fn_Trial_159)) (fun _ h9 => h9) rfl d_Trial_takeOut_42 ?_
      refine lv_lconst (v := 0) hx hb d_Trial_takeOut_45 (by decide) ?_
      refine W.lcmp hx hb d_Trial_takeOut_46 ?_
      refine lv_if_ne (tgt := 60) hx hb d_Trial_takeOut_47 (by decide) (fun c => ?_) (fun c => ?_)
      · have hf := if_f hf c
        obtain rfl := Option.some.inj hf
        exact W.vret hx hb hr0 (fun t ht _ => ⟨⟨rfl, by rw [ht]; exact hP⟩, hS.F ht⟩) hS.2.2 d_Trial_takeOut_60 hlk
      · have hf := if_t hf c
        refine lv_aload_n hx hb d_Trial_takeOut_50 rfl (lv_at hl 1 rfl) ?_
        refine lv_bipush (v := 14) hx hb d_Trial_takeOut_51 (by decide) ?_
        refine lv_aload_n hx hb d_Trial_takeOut_53 rfl (lv_at hl 2 rfl) ?_
        refine va_getN (D := D) (v := .int (gI (sL q1.2 1 ((gL q1.2 1) &&& ((gL q1.2 0) ^^^ (-1 : Int64)))) 20)) hx hb htg in_Slot hown hK hP 18 xo_18 rfl 2 (by decide) (va_Nw.use rfl (hN _ k_fn_Trial_131)) (fun _ h9 => h9) rfl d_Trial_takeOut_54 ?_
        obtain ⟨q2, he, hf⟩ := ob_some hf
        refine cl_Vv (As := [.int (14 : Int32), .int (gI (sL q1.2 1 ((gL q1.2 1) &&& ((gL q1.2 0) ^^^ (-1 : Int64)))) 20)]) (rest := []) X (c_x_Trial_fail he) ok_x_Trial_fail k_m_Trial_136 (va_recv hK hP rfl xo_25) rfl rfl hl.1 (Nat.le_of_ble_eq_true rfl) d_Trial_takeOut_57 ⟨by decide, by decide⟩ hP hS (fun H locs hP hS => ?_)
        obtain rfl := Option.some.inj hf
        exact W.vret hx hb hr0 (fun t ht _ => ⟨⟨rfl, by rw [ht]; exact hP⟩, hS.F ht⟩) hS.2.2 d_Trial_takeOut_60 hlk
    · have hf := if_t hf c
      obtain rfl := Option.some.inj hf
      exact W.vret hx hb hr0 (fun t ht _ => ⟨⟨rfl, by rw [ht]; exact hP⟩, hS.F ht⟩) hS.2.2 d_Trial_takeOut_19 hlk
theorem c_x_Trial_takeOut_18_17 {l : Launch} {D : va_G} {cI cZ cJ : ClassId} {ao aa : Nat → Nat} {S : St} {z : St} (hz : x_Trial_takeOut_18_17 S = some z) : Ct l y_Trial_takeOut (.code y_Trial_takeOut b_Trial_takeOut 4 none :: gw) rm_x_Trial_takeOut_18_17 D [(cI, .int), (cZ, .boolean), (cJ, .long)] (xA ao aa) (xW cI cZ cJ ao aa) [.ref (ao 25), .ref (ao 18), .ref (ao 17)] S none z :=
  Ct_of (by decide) (fun p e s m args below meth c X => w_x_Trial_takeOut_18_17 X _ hz) (Nat.le_of_ble_eq_true rfl)
def x_Row_addThings_b23 (r : Nat) (k2 : St → Int64 → Int32 → Option (St)) (S : St) (w1 : Int64) (x3 : Int32) : Option (St) :=
  k2 S w1 (x3 + 1)
def x_Row_addThings_b2_f (r : Nat) (k2 : St → Int64 → Int32 → Option (St)) (S : St) (w1 : Int64) (x3 : Int32) : Option (St) :=
  if (40 : Int32) ≤ x3 then
    some S
  else
    if (lg_cmp ((w1 >>> (x3.toInt64 &&& 63)) &&& (1 : Int64)) (0 : Int64)) = 0 then
      x_Row_addThings_b23 r k2 S w1 x3
    else
      (x_Row_add r S x3).bind fun q1 =>
      x_Row_addThings_b23 r k2 q1 w1 x3
def x_Row_addThings_b2 (r : Nat) : Nat → St → Int64 → Int32 → Option (St)
  | 0, _, _, _ => none
  | n + 1, S, w1, x3 => x_Row_addThings_b2_f r (x_Row_addThings_b2 r n) S w1 x3
def x_Row_addThings (r : Nat) (S : St) (w0 : Int64) : Option (St) :=
  x_Row_addThings_b2 r fu S w0 (0 : Int32)
def rm_x_Row_addThings : Room := { frames := 1, cells := 0, slots := 0, locals := 21 }
theorem ok_x_Row_addThings : CalV y_Row_addThings b_Row_addThings 4 none 1 rm_x_Row_addThings := ⟨kc_Row_addThings, ki_Row_addThings, kl_Row_addThings, ji_Row, ⟨by decide, by decide, by decide +kernel⟩, rfl, rfl⟩
set_option maxHeartbeats 4000000 in
set_option maxRecDepth 100000 in
theorem w_x_Row_addThings_b23 {r : Nat} (hr : r < 17) {z : St} (X : Cx b_Row_addThings 4 none R_Row D [(cI, .int), (cZ, .boolean), (cJ, .long)] (xA ao aa) (xW cI cZ cJ ao aa) p s m args meth c) {k2 : St → Int64 → Int32 → Option (St)} (hk2 : ∀ (S : St) (w1 : Int64) (x3 : Int32), k2 S w1 x3 = some z → WX rm_x_Row_addThings D (xA ao aa) (xW cI cZ cJ ao aa) p l e s m args below meth c none z 2 [] 4 [(0, .ref (ao r)), (1, .long w1), (3, .int x3)] S) (S : St) (w1 : Int64) (x3 : Int32) (hf : x_Row_addThings_b23 r k2 S w1 x3 = some z) : WX rm_x_Row_addThings D (xA ao aa) (xW cI cZ cJ ao aa) p l e s m args below meth c none z 23 [] 4 [(0, .ref (ao r)), (1, .long w1), (3, .int x3)] S := by
  intro H locs ls hP hS hl
  obtain ⟨hx, hb, hr0, hml, hown, htg, hlk, hK, hN, hI⟩ := id X
  unfold x_Row_addThings_b23 at hf
  refine lv_iinc (v := (x3 + 1)) (lv' := [(3, .int (x3 + 1)), (0, .ref (ao r)), (1, .long w1)]) hx hb d_Row_addThings_23 hl (k := 2) rfl rfl (by decide) rfl (fun ls hl => ?_)
  refine lv_goto (tgt := 2) hx hb d_Row_addThings_26 (by decide) ?_
  exact hk2 _ _ _ hf H locs ls hP hS (lv_sub hl [1, 2, 0] rfl)
set_option maxHeartbeats 4000000 in
set_option maxRecDepth 100000 in
theorem w_x_Row_addThings_b2_f {r : Nat} (hr : r < 17) {z : St} (X : Cx b_Row_addThings 4 none R_Row D [(cI, .int), (cZ, .boolean), (cJ, .long)] (xA ao aa) (xW cI cZ cJ ao aa) p s m args meth c) {k2 : St → Int64 → Int32 → Option (St)} (hk2 : ∀ (S : St) (w1 : Int64) (x3 : Int32), k2 S w1 x3 = some z → WX rm_x_Row_addThings D (xA ao aa) (xW cI cZ cJ ao aa) p l e s m args below meth c none z 2 [] 4 [(0, .ref (ao r)), (1, .long w1), (3, .int x3)] S) (S : St) (w1 : Int64) (x3 : Int32) (hf : x_Row_addThings_b2_f r k2 S w1 x3 = some z) : WX rm_x_Row_addThings D (xA ao aa) (xW cI cZ cJ ao aa) p l e s m args below meth c none z 2 [] 4 [(0, .ref (ao r)), (1, .long w1), (3, .int x3)] S := by
  intro H locs ls hP hS hl
  obtain ⟨hx, hb, hr0, hml, hown, htg, hlk, hK, hN, hI⟩ := id X
  unfold x_Row_addThings_b2_f at hf
  refine lv_iload_n hx hb d_Row_addThings_2 rfl (lv_at hl 2 rfl) ?_
  refine lv_bipush (v := 40) hx hb d_Row_addThings_3 (by decide) ?_
  refine lv_icmp_ge (tgt := 29) hx hb d_Row_addThings_5 (by decide) (fun c => ?_) (fun c => ?_)
  · have hf := if_t hf c
    obtain rfl := Option.some.inj hf
    exact W.vret hx hb hr0 (fun t ht _ => ⟨⟨rfl, by rw [ht]; exact hP⟩, hS.F ht⟩) hS.2.2 d_Row_addThings_29 hlk
  · have hf := if_f hf c
    refine lv_lload_n hx hb d_Row_addThings_8 rfl (lv_at hl 1 rfl) ?_
    refine lv_iload_n hx hb d_Row_addThings_9 rfl (lv_at hl 2 rfl) ?_
    refine lv_lshr hx hb d_Row_addThings_10 rfl ?_
    refine lv_lconst (v := 1) hx hb d_Row_addThings_11 (by decide) ?_
    refine lv_land hx hb d_Row_addThings_12 ?_
    refine lv_lconst (v := 0) hx hb d_Row_addThings_13 (by decide) ?_
    refine W.lcmp hx hb d_Row_addThings_14 ?_
    refine lv_if_eq (tgt := 23) hx hb d_Row_addThings_15 (by decide) (fun c => ?_) (fun c => ?_)
    · have hf := if_t hf c
      exact w_x_Row_addThings_b23 hr X hk2 _ _ _ hf H locs ls hP hS (lv_sub hl [0, 1, 2] rfl)
    · have hf := if_f hf c
      refine lv_aload_n hx hb d_Row_addThings_18 rfl (lv_at hl 0 rfl) ?_
      refine lv_iload_n hx hb d_Row_addThings_19 rfl (lv_at hl 2 rfl) ?_
      obtain ⟨q1, he, hf⟩ := ob_some hf
      refine cl_Vv (As := [.int x3]) (rest := []) X (c_x_Row_add hr he) ok_x_Row_add k_m_Row_31 (va_recv hK hP rfl (xo_row hr)) rfl rfl hl.1 (Nat.le_of_ble_eq_true rfl) d_Row_addThings_20 ⟨by decide, by decide⟩ hP hS (fun H locs hP hS => ?_)
      exact w_x_Row_addThings_b23 hr X hk2 _ _ _ hf H locs ls hP hS (lv_sub hl [0, 1, 2] rfl)
theorem w_x_Row_addThings_b2 {r : Nat} (hr : r < 17) {z : St} (X : Cx b_Row_addThings 4 none R_Row D [(cI, .int), (cZ, .boolean), (cJ, .long)] (xA ao aa) (xW cI cZ cJ ao aa) p s m args meth c) : ∀ (n : Nat) (S : St) (w1 : Int64) (x3 : Int32), x_Row_addThings_b2 r n S w1 x3 = some z → WX rm_x_Row_addThings D (xA ao aa) (xW cI cZ cJ ao aa) p l e s m args below meth c none z 2 [] 4 [(0, .ref (ao r)), (1, .long w1), (3, .int x3)] S
  | 0, _, _, _, hf => ns hf
  | n + 1, _, _, _, hf => w_x_Row_addThings_b2_f hr X (w_x_Row_addThings_b2 hr X n) _ _ _ hf
set_option maxHeartbeats 4000000 in
set_option maxRecDepth 100000 in
theorem w_x_Row_addThings {r : Nat} (hr : r < 17) {z : St} (X : Cx b_Row_addThings 4 none R_Row D [(cI, .int), (cZ, .boolean), (cJ, .long)] (xA ao aa) (xW cI cZ cJ ao aa) p s m args meth c) (S : St) (w0 : Int64) (hf : x_Row_addThings r S w0 = some z) : WX rm_x_Row_addThings D (xA ao aa) (xW cI cZ cJ ao aa) p l e s m args below meth c none z 0 [] 4 [(0, .ref (ao r)), (1, .long w0)] S := by
  intro H locs ls hP hS hl
  obtain ⟨hx, hb, hr0, hml, hown, htg, hlk, hK, hN, hI⟩ := id X
  unfold x_Row_addThings at hf
  refine lv_iconst (v := 0) hx hb d_Row_addThings_0 (by decide) ?_
  refine lv_istore_n (lv' := [(3, .int (0 : Int32)), (0, .ref (ao r)), (1, .long w0)]) hx hb d_Row_addThings_1 rfl hl (by decide) rfl (fun ls hl => ?_)
  exact w_x_Row_addThings_b2 hr X _ _ _ _ hf H locs ls hP hS (lv_sub hl [1, 2, 0] rfl)
theorem c_x_Row_addThings {l : Launch} {D : va_G} {cI cZ cJ : ClassId} {ao aa : Nat → Nat} {r : Nat} (hr : r < 17) {S : St} {w0 : Int64} {z : St} (hz : x_Row_addThings r S w0 = some z) : Ct l y_Row_addThings (.code y_Row_addThings b_Row_addThings 4 none :: gw) rm_x_Row_addThings D [(cI, .int), (cZ, .boolean), (cJ, .long)] (xA ao aa) (xW cI cZ cJ ao aa) [.ref (ao r), .long w0] S none z :=
  Ct_of (by decide) (fun p e s m args below meth c X => w_x_Row_addThings hr X _ _ hz) (Nat.le_of_ble_eq_true rfl)
def x_Trial_finish (S : St) : Option (St) :=
  (x_Row_size 6 S).bind fun q1 =>
  if q1.1 ≤ (gI S 27) then
    (x_Trial_takeOut_17_18 q1.2).bind fun q2 =>
    (x_Trial_takeOut_18_17 q2).bind fun q3 =>
    (x_Row_addThings 9 q3 (gL q3 0)).bind fun q4 =>
    (x_Row_addThings 10 q4 (gL q4 1)).bind fun q5 =>
    some q5
  else
    (x_Trial_fail q1.2 (6 : Int32) (gI q1.2 27)).bind fun q6 =>
    some q6
def rm_x_Trial_finish : Room := { frames := 2, cells := 0, slots := 0, locals := 45 }
theorem ok_x_Trial_finish : CalV y_Trial_finish b_Trial_finish 1 none 0 rm_x_Trial_finish := ⟨kc_Trial_finish, ki_Trial_finish, kl_Trial_finish, ji_Trial, ⟨by decide, by decide, by decide +kernel⟩, rfl, rfl⟩
set_option maxHeartbeats 4000000 in
set_option maxRecDepth 100000 in
theorem w_x_Trial_finish {z : St} (X : Cx b_Trial_finish 1 none R_Trial D [(cI, .int), (cZ, .boolean), (cJ, .long)] (xA ao aa) (xW cI cZ cJ ao aa) p s m args meth c) (S : St) (hf : x_Trial_finish S = some z) : WX rm_x_Trial_finish D (xA ao aa) (xW cI cZ cJ ao aa) p l e s m args below meth c none z 0 [] 1 [(0, .ref (ao 25))] S := by
  intro H locs ls hP hS hl
  obtain ⟨hx, hb, hr0, hml, hown, htg, hlk, hK, hN, hI⟩ := id X
  unfold x_Trial_finish at hf
  refine lv_aload_n hx hb d_Trial_finish_0 rfl (lv_at hl 0 rfl) ?_
  refine va_get (D := D) (v := .int (gI S 27)) hx hb htg in_Trial hown hK hP 25 xo_25 rfl 10 (by decide) (htg _ k_f_Trial_83) (fun _ h9 => h9) rfl d_Trial_finish_1 ?_
  refine lv_aload_n hx hb d_Trial_finish_4 rfl (lv_at hl 0 rfl) ?_
  refine va_get (D := D) (v := .ref (ao 6)) hx hb htg in_Trial hown hK hP 25 xo_25 rfl 3 (by decide) (htg _ k_f_Trial_52) (fun _ h9 => h9) rfl d_Trial_finish_5 ?_
  obtain ⟨q1, he, hf⟩ := ob_some hf
  refine cl_Vi (As := []) (rest := [.int (gI S 27)]) X (c_x_Row_size (by decide : 6 < 17) he) ok_x_Row_size k_m_Trial_86 (va_recv hK hP rfl (xo_row (by decide : 6 < 17))) rfl rfl hl.1 (Nat.le_of_ble_eq_true rfl) d_Trial_finish_8 ⟨by decide, by decide⟩ hP hS (fun H locs hP hS => ?_)
  refine lv_icmp_ge (tgt := 25) hx hb d_Trial_finish_11 (by decide) (fun c => ?_) (fun c => ?_)
  · have hf := if_t hf c
    refine lv_aload_n hx hb d_Trial_finish_25 rfl (lv_at hl 0 rfl) ?_
    refine lv_aload_n hx hb d_Trial_finish_26 rfl (lv_at hl 0 rfl) ?_
    refine va_get (D := D) (v := .ref (ao 17)) hx hb htg in_Trial hown hK hP 25 xo_25 rfl 5 (by decide) (htg _ k_f_Trial_12) (fun _ h9 => h9) rfl d_Trial_finish_27 ?_
    refine lv_aload_n hx hb d_Trial_finish_30 rfl (lv_at hl 0 rfl) ?_
    refine va_get (D := D) (v := .ref (ao 18)) hx hb htg in_Trial hown hK hP 25 xo_25 rfl 6 (by decide) (htg _ k_f_Trial_18) (fun _ h9 => h9) rfl d_Trial_finish_31 ?_
    obtain ⟨q2, he, hf⟩ := ob_some hf
    refine cl_Vv (As := [.ref (ao 17), .ref (ao 18)]) (rest := []) X (c_x_Trial_takeOut_17_18 he) ok_x_Trial_takeOut_17_18 k_m_Trial_209 (va_recv hK hP rfl xo_25) rfl rfl hl.1 (Nat.le_of_ble_eq_true rfl) d_Trial_finish_34 ⟨by decide, by decide⟩ hP hS (fun H locs hP hS => ?_)
    refine lv_aload_n hx hb d_Trial_finish_37 rfl (lv_at hl 0 rfl) ?_
    refine lv_aload_n hx hb d_Trial_finish_38 rfl (lv_at hl 0 rfl) ?_
    refine va_get (D := D) (v := .ref (ao 18)) hx hb htg in_Trial hown hK hP 25 xo_25 rfl 6 (by decide) (htg _ k_f_Trial_18) (fun _ h9 => h9) rfl d_Trial_finish_39 ?_
    refine lv_aload_n hx hb d_Trial_finish_42 rfl (lv_at hl 0 rfl) ?_
    refine va_get (D := D) (v := .ref (ao 17)) hx hb htg in_Trial hown hK hP 25 xo_25 rfl 5 (by decide) (htg _ k_f_Trial_12) (fun _ h9 => h9) rfl d_Trial_finish_43 ?_
    obtain ⟨q3, he, hf⟩ := ob_some hf
    refine cl_Vv (As := [.ref (ao 18), .ref (ao 17)]) (rest := []) X (c_x_Trial_takeOut_18_17 he) ok_x_Trial_takeOut_18_17 k_m_Trial_209 (va_recv hK hP rfl xo_25) rfl rfl hl.1 (Nat.le_of_ble_eq_true rfl) d_Trial_finish_46 ⟨by decide, by decide⟩ hP hS (fun H locs hP hS => ?_)
    refine lv_aload_n hx hb d_Trial_finish_49 rfl (lv_at hl 0 rfl) ?_
    refine va_get (D := D) (v := .ref (ao 17)) hx hb htg in_Trial hown hK hP 25 xo_25 rfl 5 (by decide) (htg _ k_f_Trial_12) (fun _ h9 => h9) rfl d_Trial_finish_50 ?_
    refine va_getN (D := D) (v := .ref (ao 9)) hx hb htg in_Slot hown hK hP 17 xo_17 rfl 0 (by decide) (va_Nw.use rfl (hN _ k_fn_Trial_144)) (fun _ h9 => h9) rfl d_Trial_finish_53 ?_
    refine lv_aload_n hx hb d_Trial_finish_56 rfl (lv_at hl 0 rfl) ?_
    refine va_get (D := D) (v := .ref (ao 17)) hx hb htg in_Trial hown hK hP 25 xo_25 rfl 5 (by decide) (htg _ k_f_Trial_12) (fun _ h9 => h9) rfl d_Trial_finish_57 ?_
    refine va_getN (D := D) (v := .long (gL q3 0)) hx hb htg in_Slot hown hK hP 17 xo_17 rfl 3 (by decide) (va_Nw.use rfl (hN _ k_fn_Trial_159)) (fun _ h9 => h9) rfl d_Trial_finish_60 ?_
    obtain ⟨q4, he, hf⟩ := ob_some hf
    refine cl_Vv (As := [.long (gL q3 0)]) (rest := []) X (c_x_Row_addThings (by decide : 9 < 17) he) ok_x_Row_addThings k_m_Trial_182 (va_recv hK hP rfl (xo_row (by decide : 9 < 17))) rfl rfl hl.1 (Nat.le_of_ble_eq_true rfl) d_Trial_finish_63 ⟨by decide, by decide⟩ hP hS (fun H locs hP hS => ?_)
    refine lv_aload_n hx hb d_Trial_finish_66 rfl (lv_at hl 0 rfl) ?_
    refine va_get (D := D) (v := .ref (ao 18)) hx hb htg in_Trial hown hK hP 25 xo_25 rfl 6 (by decide) (htg _ k_f_Trial_18) (fun _ h9 => h9) rfl d_Trial_finish_67 ?_
    refine va_getN (D := D) (v := .ref (ao 10)) hx hb htg in_Slot hown hK hP 18 xo_18 rfl 0 (by decide) (va_Nw.use rfl (hN _ k_fn_Trial_144)) (fun _ h9 => h9) rfl d_Trial_finish_70 ?_
    refine lv_aload_n hx hb d_Trial_finish_73 rfl (lv_at hl 0 rfl) ?_
    refine va_get (D := D) (v := .ref (ao 18)) hx hb htg in_Trial hown hK hP 25 xo_25 rfl 6 (by decide) (htg _ k_f_Trial_18) (fun _ h9 => h9) rfl d_Trial_finish_74 ?_
    refine va_getN (D := D) (v := .long (gL q4 1)) hx hb htg in_Slot hown hK hP 18 xo_18 rfl 3 (by decide) (va_Nw.use rfl (hN _ k_fn_Trial_159)) (fun _ h9 => h9) rfl d_Trial_finish_77 ?_
    obtain ⟨q5, he, hf⟩ := ob_some hf
    refine cl_Vv (As := [.long (gL q4 1)]) (rest := []) X (c_x_Row_addThings (by decide : 10 < 17) he) ok_x_Row_addThings k_m_Trial_182 (va_recv hK hP rfl (xo_row (by decide : 10 < 17))) rfl rfl hl.1 (Nat.le_of_ble_eq_true rfl) d_Trial_finish_80 ⟨by decide, by decide⟩ hP hS (fun H locs hP hS => ?_)
    obtain rfl := Option.some.inj hf
    exact W.vret hx hb hr0 (fun t ht _ => ⟨⟨rfl, by rw [ht]; exact hP⟩, hS.F ht⟩) hS.2.2 d_Trial_finish_83 hlk
  · have hf := if_f hf c
    refine lv_aload_n hx hb d_Trial_finish_14 rfl (lv_at hl 0 rfl) ?_
    refine lv_bipush (v := 6) hx hb d_Trial_finish_15 (by decide) ?_
    refine lv_aload_n hx hb d_Trial_finish_17 rfl (lv_at hl 0 rfl) ?_
    refine va_get (D := D) (v := .int (gI q1.2 27)) hx hb htg in_Trial hown hK hP 25 xo_25 rfl 10 (by decide) (htg _ k_f_Trial_83) (fun _ h9 => h9) rfl d_Trial_finish_18 ?_
    obtain ⟨q6, he, hf⟩ := ob_some hf
    refine cl_Vv (As := [.int (6 : Int32), .int (gI q1.2 27)]) (rest := []) X (c_x_Trial_fail he) ok_x_Trial_fail k_m_Trial_136 (va_recv hK hP rfl xo_25) rfl rfl hl.1 (Nat.le_of_ble_eq_true rfl) d_Trial_finish_21 ⟨by decide, by decide⟩ hP hS (fun H locs hP hS => ?_)
    obtain rfl := Option.some.inj hf
    exact W.vret hx hb hr0 (fun t ht _ => ⟨⟨rfl, by rw [ht]; exact hP⟩, hS.F ht⟩) hS.2.2 d_Trial_finish_24 hlk
theorem c_x_Trial_finish {l : Launch} {D : va_G} {cI cZ cJ : ClassId} {ao aa : Nat → Nat} {S : St} {z : St} (hz : x_Trial_finish S = some z) : Ct l y_Trial_finish (.code y_Trial_finish b_Trial_finish 1 none :: gw) rm_x_Trial_finish D [(cI, .int), (cZ, .boolean), (cJ, .long)] (xA ao aa) (xW cI cZ cJ ao aa) [.ref (ao 25)] S none z :=
  Ct_of (by decide) (fun p e s m args below meth c X => w_x_Trial_finish X _ hz) (Nat.le_of_ble_eq_true rfl)
def x_Trial_openSlot_b22 (S : St) (x1 : Int32) : Option (Nat × St) :=
  some (18, (sI (sI S 19 x1) 20 (gI (sI S 19 x1) 27)))
def x_Trial_openSlot_b22_1 (S : St) (x1 : Int32) : Option (Nat × St) :=
  some (17, (sI (sI S 17 x1) 18 (gI (sI S 17 x1) 27)))
def x_Trial_openSlot (S : St) (x0 : Int32) : Option (Nat × St) :=
  if (gI S 17) = (-1 : Int32) then
    x_Trial_openSlot_b22_1 S x0
  else
    x_Trial_openSlot_b22 S x0
def rm_x_Trial_openSlot : Room := { frames := 0, cells := 0, slots := 0, locals := 0 }
theorem ok_x_Trial_openSlot : CalV y_Trial_openSlot b_Trial_openSlot 3 (some (.object R_Slot)) 1 rm_x_Trial_openSlot := ⟨kc_Trial_openSlot, ki_Trial_openSlot, kl_Trial_openSlot, ji_Trial, ⟨by decide, by decide, by decide +kernel⟩, rfl, rfl⟩
set_option maxHeartbeats 4000000 in
set_option maxRecDepth 100000 in
theorem w_x_Trial_openSlot_b22 {z : Nat × St} (X : Cx b_Trial_openSlot 3 (some (.object R_Slot)) R_Trial D [(cI, .int), (cZ, .boolean), (cJ, .long)] (xA ao aa) (xW cI cZ cJ ao aa) p s m args meth c) (S : St) (x1 : Int32) (hf : x_Trial_openSlot_b22 S x1 = some z) : WX rm_x_Trial_openSlot D (xA ao aa) (xW cI cZ cJ ao aa) p l e s m args below meth c (some (.ref (ao z.1))) z.2 22 [.ref (ao 18)] 3 [(0, .ref (ao 25)), (1, .int x1)] S := by
  intro H locs ls hP hS hl
  obtain ⟨hx, hb, hr0, hml, hown, htg, hlk, hK, hN, hI⟩ := id X
  unfold x_Trial_openSlot_b22 at hf
  refine lv_astore_n (lv' := [(2, .ref (ao 18)), (0, .ref (ao 25)), (1, .int x1)]) hx hb d_Trial_openSlot_22 rfl hl (by decide) rfl (fun ls hl => ?_)
  refine lv_aload_n hx hb d_Trial_openSlot_23 rfl (lv_at hl 0 rfl) ?_
  refine lv_iload_n hx hb d_Trial_openSlot_24 rfl (lv_at hl 2 rfl) ?_
  refine va_putN (D := D) (ty := .int) hx hb htg in_Slot t_Slot t_Slot_ok n_Slot hown hK hP (hI _) hS 18 xo_18 rfl 1 (by decide) (va_Nw.use rfl (hN _ k_fn_Trial_64)) (fun _ h9 => h9) rfl (by decide +kernel) rfl rfl (Nat.le_of_ble_eq_true rfl) d_Trial_openSlot_25 (fun H locs hP _ hS => ?_)
  replace hP : va_P D classes (xW cI cZ cJ ao aa (sI S 19 x1)) H := pw xs_18_kind hP
  refine lv_aload_n hx hb d_Trial_openSlot_28 rfl (lv_at hl 0 rfl) ?_
  refine lv_aload_n hx hb d_Trial_openSlot_29 rfl (lv_at hl 1 rfl) ?_
  refine va_get (D := D) (v := .int (gI (sI S 19 x1) 27)) hx hb htg in_Trial hown hK hP 25 xo_25 rfl 10 (by decide) (htg _ k_f_Trial_83) (fun _ h9 => h9) rfl d_Trial_openSlot_30 ?_
  refine va_putN (D := D) (ty := .int) hx hb htg in_Slot t_Slot t_Slot_ok n_Slot hown hK hP (hI _) hS 18 xo_18 rfl 2 (by decide) (va_Nw.use rfl (hN _ k_fn_Trial_131)) (fun _ h9 => h9) rfl (by decide +kernel) rfl rfl (Nat.le_of_ble_eq_true rfl) d_Trial_openSlot_33 (fun H locs hP _ hS => ?_)
  replace hP : va_P D classes (xW cI cZ cJ ao aa (sI (sI S 19 x1) 20 (gI (sI S 19 x1) 27))) H := pw xs_18_place hP
  refine lv_aload_n hx hb d_Trial_openSlot_36 rfl (lv_at hl 0 rfl) ?_
  obtain rfl := Option.some.inj hf
  exact W.aret hx hb hr0 (Or.inl ⟨_, rfl⟩) (Or.inr ⟨_, rfl⟩) (fun t ht _ => ⟨⟨rfl, by rw [ht]; exact hP⟩, hS.F ht⟩) hS.2.2 d_Trial_openSlot_37 hlk
set_option maxHeartbeats 4000000 in
set_option maxRecDepth 100000 in
theorem w_x_Trial_openSlot_b22_1 {z : Nat × St} (X : Cx b_Trial_openSlot 3 (some (.object R_Slot)) R_Trial D [(cI, .int), (cZ, .boolean), (cJ, .long)] (xA ao aa) (xW cI cZ cJ ao aa) p s m args meth c) (S : St) (x1 : Int32) (hf : x_Trial_openSlot_b22_1 S x1 = some z) : WX rm_x_Trial_openSlot D (xA ao aa) (xW cI cZ cJ ao aa) p l e s m args below meth c (some (.ref (ao z.1))) z.2 22 [.ref (ao 17)] 3 [(0, .ref (ao 25)), (1, .int x1)] S := by
  intro H locs ls hP hS hl
  obtain ⟨hx, hb, hr0, hml, hown, htg, hlk, hK, hN, hI⟩ := id X
  unfold x_Trial_openSlot_b22_1 at hf
  refine lv_astore_n (lv' := [(2, .ref (ao 17)), (0, .ref (ao 25)), (1, .int x1)]) hx hb d_Trial_openSlot_22 rfl hl (by decide) rfl (fun ls hl => ?_)
  refine lv_aload_n hx hb d_Trial_openSlot_23 rfl (lv_at hl 0 rfl) ?_
  refine lv_iload_n hx hb d_Trial_openSlot_24 rfl (lv_at hl 2 rfl) ?_
  refine va_putN (D := D) (ty := .int) hx hb htg in_Slot t_Slot t_Slot_ok n_Slot hown hK hP (hI _) hS 17 xo_17 rfl 1 (by decide) (va_Nw.use rfl (hN _ k_fn_Trial_64)) (fun _ h9 => h9) rfl (by decide +kernel) rfl rfl (Nat.le_of_ble_eq_true rfl) d_Trial_openSlot_25 (fun H locs hP _ hS => ?_)
  replace hP : va_P D classes (xW cI cZ cJ ao aa (sI S 17 x1)) H := pw xs_17_kind hP
  refine lv_aload_n hx hb d_Trial_openSlot_28 rfl (lv_at hl 0 rfl) ?_
  refine lv_aload_n hx hb d_Trial_openSlot_29 rfl (lv_at hl 1 rfl) ?_
  refine va_get (D := D) (v := .int (gI (sI S 17 x1) 27)) hx hb htg in_Trial hown hK hP 25 xo_25 rfl 10 (by decide) (htg _ k_f_Trial_83) (fun _ h9 => h9) rfl d_Trial_openSlot_30 ?_
  refine va_putN (D := D) (ty := .int) hx hb htg in_Slot t_Slot t_Slot_ok n_Slot hown hK hP (hI _) hS 17 xo_17 rfl 2 (by decide) (va_Nw.use rfl (hN _ k_fn_Trial_131)) (fun _ h9 => h9) rfl (by decide +kernel) rfl rfl (Nat.le_of_ble_eq_true rfl) d_Trial_openSlot_33 (fun H locs hP _ hS => ?_)
  replace hP : va_P D classes (xW cI cZ cJ ao aa (sI (sI S 17 x1) 18 (gI (sI S 17 x1) 27))) H := pw xs_17_place hP
  refine lv_aload_n hx hb d_Trial_openSlot_36 rfl (lv_at hl 0 rfl) ?_
  obtain rfl := Option.some.inj hf
  exact W.aret hx hb hr0 (Or.inl ⟨_, rfl⟩) (Or.inr ⟨_, rfl⟩) (fun t ht _ => ⟨⟨rfl, by rw [ht]; exact hP⟩, hS.F ht⟩) hS.2.2 d_Trial_openSlot_37 hlk
set_option maxHeartbeats 4000000 in
set_option maxRecDepth 100000 in
theorem w_x_Trial_openSlot {z : Nat × St} (X : Cx b_Trial_openSlot 3 (some (.object R_Slot)) R_Trial D [(cI, .int), (cZ, .boolean), (cJ, .long)] (xA ao aa) (xW cI cZ cJ ao aa) p s m args meth c) (S : St) (x0 : Int32) (hf : x_Trial_openSlot S x0 = some z) : WX rm_x_Trial_openSlot D (xA ao aa) (xW cI cZ cJ ao aa) p l e s m args below meth c (some (.ref (ao z.1))) z.2 0 [] 3 [(0, .ref (ao 25)), (1, .int x0)] S := by
  intro H locs ls hP hS hl
  obtain ⟨hx, hb, hr0, hml, hown, htg, hlk, hK, hN, hI⟩ := id X
  unfold x_Trial_openSlot at hf
  refine lv_aload_n hx hb d_Trial_openSlot_0 rfl (lv_at hl 0 rfl) ?_
  refine va_get (D := D) (v := .ref (ao 17)) hx hb htg in_Trial hown hK hP 25 xo_25 rfl 5 (by decide) (htg _ k_f_Trial_12) (fun _ h9 => h9) rfl d_Trial_openSlot_1 ?_
  refine va_getN (D := D) (v := .int (gI S 17)) hx hb htg in_Slot hown hK hP 17 xo_17 rfl 1 (by decide) (va_Nw.use rfl (hN _ k_fn_Trial_64)) (fun _ h9 => h9) rfl d_Trial_openSlot_4 ?_
  refine lv_iconst (v := (-1)) hx hb d_Trial_openSlot_7 (by decide) ?_
  refine lv_icmp_ne (tgt := 18) hx hb d_Trial_openSlot_8 (by decide) (fun c => ?_) (fun c => ?_)
  · have hf := if_f hf c
    refine lv_aload_n hx hb d_Trial_openSlot_18 rfl (lv_at hl 0 rfl) ?_
    refine va_get (D := D) (v := .ref (ao 18)) hx hb htg in_Trial hown hK hP 25 xo_25 rfl 6 (by decide) (htg _ k_f_Trial_18) (fun _ h9 => h9) rfl d_Trial_openSlot_19 ?_
    exact w_x_Trial_openSlot_b22 X _ _ hf H locs ls hP hS (lv_sub hl [0, 1] rfl)
  · have hf := if_t hf c
    refine lv_aload_n hx hb d_Trial_openSlot_11 rfl (lv_at hl 0 rfl) ?_
    refine va_get (D := D) (v := .ref (ao 17)) hx hb htg in_Trial hown hK hP 25 xo_25 rfl 5 (by decide) (htg _ k_f_Trial_12) (fun _ h9 => h9) rfl d_Trial_openSlot_12 ?_
    refine lv_goto (tgt := 22) hx hb d_Trial_openSlot_15 (by decide) ?_
    exact w_x_Trial_openSlot_b22_1 X _ _ hf H locs ls hP hS (lv_sub hl [0, 1] rfl)
theorem c_x_Trial_openSlot {l : Launch} {D : va_G} {cI cZ cJ : ClassId} {ao aa : Nat → Nat} {S : St} {x0 : Int32} {z : Nat × St} (hz : x_Trial_openSlot S x0 = some z) : Ct l y_Trial_openSlot (.code y_Trial_openSlot b_Trial_openSlot 3 (some (.object R_Slot)) :: gw) rm_x_Trial_openSlot D [(cI, .int), (cZ, .boolean), (cJ, .long)] (xA ao aa) (xW cI cZ cJ ao aa) [.ref (ao 25), .int x0] S (some (.ref (ao z.1))) z.2 :=
  Ct_of (by decide) (fun p e s m args below meth c X => w_x_Trial_openSlot X _ _ hz) (Nat.le_of_ble_eq_true rfl)
def x_Phrase_find_20_b73 (r : Nat) (S : St) (x2 : Int32) : Option (Int32 × St) :=
  if (gI S 22) ≤ x2 then
    some ((0 : Int32), S)
  else
    some ((1 : Int32), S)
def x_Phrase_find_20_b18_f (r : Nat) (k18 : St → Int32 → Int32 → Option (Int32 × St)) (S : St) (x2 : Int32) (x3 : Int32) : Option (Int32 × St) :=
  (x_Row_size r S).bind fun q1 =>
  if q1.1 ≤ x3 then
    x_Phrase_find_20_b73 r q1.2 x2
  else
    (x_Row_at r q1.2 x3).bind fun q2 =>
    (x_Things_namedOf q2.2 (gL q1.2 3) q2.1).bind fun q3 =>
    if (lg_cmp q3.1 (0 : Int64)) = 0 then
      x_Phrase_find_20_b73 r q3.2 x2
    else
      k18 (sI (sL q3.2 3 q3.1) 22 (x3 + (1 : Int32))) x2 (x3 + 1)
def x_Phrase_find_20_b18 (r : Nat) : Nat → St → Int32 → Int32 → Option (Int32 × St)
  | 0, _, _, _ => none
  | n + 1, S, x2, x3 => x_Phrase_find_20_b18_f r (x_Phrase_find_20_b18 r n) S x2 x3
def x_Phrase_find_20 (r : Nat) (S : St) (x0 : Int32) : Option (Int32 × St) :=
  x_Phrase_find_20_b18 r fu (sI (sL S 3 (gL S 4)) 22 x0) x0 x0
def rm_x_Phrase_find_20 : Room := { frames := 1, cells := 0, slots := 0, locals := 28 }
theorem ok_x_Phrase_find_20 : CalV y_Phrase_find b_Phrase_find 6 (some .boolean) 2 rm_x_Phrase_find_20 := ⟨kc_Phrase_find, ki_Phrase_find, kl_Phrase_find, ji_Phrase, ⟨by decide, by decide, by decide +kernel⟩, rfl, rfl⟩
set_option maxHeartbeats 4000000 in
set_option maxRecDepth 100000 in
theorem w_x_Phrase_find_20_b73 {r : Nat} (hr : r < 17) {z : Int32 × St} (X : Cx b_Phrase_find 6 (some .boolean) R_Phrase D [(cI, .int), (cZ, .boolean), (cJ, .long)] (xA ao aa) (xW cI cZ cJ ao aa) p s m args meth c) (S : St) (x2 : Int32) (hf : x_Phrase_find_20_b73 r S x2 = some z) : WX rm_x_Phrase_find_20 D (xA ao aa) (xW cI cZ cJ ao aa) p l e s m args below meth c (some (.int z.1)) z.2 73 [] 6 [(0, .ref (ao 20)), (2, .int x2)] S := by
  intro H locs ls hP hS hl
  obtain ⟨hx, hb, hr0, hml, hown, htg, hlk, hK, hN, hI⟩ := id X
  unfold x_Phrase_find_20_b73 at hf
  refine lv_aload_n hx hb d_Phrase_find_73 rfl (lv_at hl 0 rfl) ?_
  refine va_get (D := D) (v := .int (gI S 22)) hx hb htg in_Phrase hown hK hP 20 xo_20 rfl 2 (by decide) (htg _ k_f_Phrase_22) (fun _ h9 => h9) rfl d_Phrase_find_74 ?_
  refine lv_iload_n hx hb d_Phrase_find_77 rfl (lv_at hl 1 rfl) ?_
  refine lv_icmp_le (tgt := 85) hx hb d_Phrase_find_78 (by decide) (fun c => ?_) (fun c => ?_)
  · have hf := if_t hf c
    refine lv_iconst (v := 0) hx hb d_Phrase_find_85 (by decide) ?_
    obtain rfl := Option.some.inj hf
    exact W.zret (ty := .boolean) hx hb hr0 rfl (fun t ht _ => ⟨⟨rfl, by rw [ht]; exact hP⟩, hS.F ht⟩) hS.2.2 d_Phrase_find_86 hlk
  · have hf := if_f hf c
    refine lv_iconst (v := 1) hx hb d_Phrase_find_81 (by decide) ?_
    refine lv_goto (tgt := 86) hx hb d_Phrase_find_82 (by decide) ?_
    obtain rfl := Option.some.inj hf
    exact W.zret (ty := .boolean) hx hb hr0 rfl (fun t ht _ => ⟨⟨rfl, by rw [ht]; exact hP⟩, hS.F ht⟩) hS.2.2 d_Phrase_find_86 hlk
set_option maxHeartbeats 4000000 in
set_option maxRecDepth 100000 in
theorem w_x_Phrase_find_20_b18_f {r : Nat} (hr : r < 17) {z : Int32 × St} (X : Cx b_Phrase_find 6 (some .boolean) R_Phrase D [(cI, .int), (cZ, .boolean), (cJ, .long)] (xA ao aa) (xW cI cZ cJ ao aa) p s m args meth c) {k18 : St → Int32 → Int32 → Option (Int32 × St)} (hk18 : ∀ (S : St) (x2 : Int32) (x3 : Int32), k18 S x2 x3 = some z → WX rm_x_Phrase_find_20 D (xA ao aa) (xW cI cZ cJ ao aa) p l e s m args below meth c (some (.int z.1)) z.2 18 [] 6 [(0, .ref (ao 20)), (1, .ref (ao r)), (2, .int x2), (3, .int x3)] S) (S : St) (x2 : Int32) (x3 : Int32) (hf : x_Phrase_find_20_b18_f r k18 S x2 x3 = some z) : WX rm_x_Phrase_find_20 D (xA ao aa) (xW cI cZ cJ ao aa) p l e s m args below meth c (some (.int z.1)) z.2 18 [] 6 [(0, .ref (ao 20)), (1, .ref (ao r)), (2, .int x2), (3, .int x3)] S := by
  intro H locs ls hP hS hl
  obtain ⟨hx, hb, hr0, hml, hown, htg, hlk, hK, hN, hI⟩ := id X
  unfold x_Phrase_find_20_b18_f at hf
  refine lv_iload_n hx hb d_Phrase_find_18 rfl (lv_at hl 3 rfl) ?_
  refine lv_aload_n hx hb d_Phrase_find_19 rfl (lv_at hl 1 rfl) ?_
  obtain ⟨q1, he, hf⟩ := ob_some hf
  refine cl_Vi (As := []) (rest := [.int x3]) X (c_x_Row_size hr he) ok_x_Row_size k_m_Phrase_26 (va_recv hK hP rfl (xo_row hr)) rfl rfl hl.1 (Nat.le_of_ble_eq_true rfl) d_Phrase_find_20 ⟨by decide, by decide⟩ hP hS (fun H locs hP hS => ?_)
  refine lv_icmp_ge (tgt := 73) hx hb d_Phrase_find_23 (by decide) (fun c => ?_) (fun c => ?_)
  · have hf := if_t hf c
    exact w_x_Phrase_find_20_b73 hr X _ _ hf H locs ls hP hS (lv_sub hl [0, 2] rfl)
  · have hf := if_f hf c
    refine lv_aload_n hx hb d_Phrase_find_26 rfl (lv_at hl 0 rfl) ?_
    refine va_get (D := D) (v := .ref (ao 21)) hx hb htg in_Phrase hown hK hP 20 xo_20 rfl 0 (by decide) (htg _ k_f_Phrase_7) (fun _ h9 => h9) rfl d_Phrase_find_27 ?_
    refine lv_aload_n hx hb d_Phrase_find_30 rfl (lv_at hl 0 rfl) ?_
    refine va_get (D := D) (v := .long (gL q1.2 3)) hx hb htg in_Phrase hown hK hP 20 xo_20 rfl 1 (by decide) (htg _ k_f_Phrase_19) (fun _ h9 => h9) rfl d_Phrase_find_31 ?_
    refine lv_aload_n hx hb d_Phrase_find_34 rfl (lv_at hl 1 rfl) ?_
    refine lv_iload_n hx hb d_Phrase_find_35 rfl (lv_at hl 3 rfl) ?_
    obtain ⟨q2, he, hf⟩ := ob_some hf
    refine cl_Vi (As := [.int x3]) (rest := [.long (gL q1.2 3), .ref (ao 21)]) X (c_x_Row_at hr he) ok_x_Row_at k_m_Phrase_32 (va_recv hK hP rfl (xo_row hr)) rfl rfl hl.1 (Nat.le_of_ble_eq_true rfl) d_Phrase_find_36 ⟨by decide, by decide⟩ hP hS (fun H locs hP hS => ?_)
    obtain ⟨q3, he, hf⟩ := ob_some hf
    refine cl_Vl (As := [.long (gL q1.2 3), .int q2.1]) (rest := []) X (c_x_Things_namedOf he) ok_x_Things_namedOf k_m_Phrase_36 (va_recv hK hP rfl xo_21) rfl rfl hl.1 (Nat.le_of_ble_eq_true rfl) d_Phrase_find_39 ⟨by decide, by decide⟩ hP hS (fun H locs hP hS => ?_)
    refine lv_lstore (lv' := [(4, .long q3.1), (0, .ref (ao 20)), (1, .ref (ao r)), (2, .int x2), (3, .int x3)]) hx hb d_Phrase_find_42 hl (by decide) rfl (fun ls hl => ?_)
    refine lv_lload hx hb d_Phrase_find_44 (lv_at hl 0 rfl) ?_
    refine lv_lconst (v := 0) hx hb d_Phrase_find_46 (by decide) ?_
    refine W.lcmp hx hb d_Phrase_find_47 ?_
    refine lv_if_ne (tgt := 54) hx hb d_Phrase_find_48 (by decide) (fun c => ?_) (fun c => ?_)
    · have hf := if_f hf c
      refine lv_aload_n hx hb d_Phrase_find_54 rfl (lv_at hl 1 rfl) ?_
      refine lv_lload hx hb d_Phrase_find_55 (lv_at hl 0 rfl) ?_
      refine va_put (D := D) (ty := .long) hx hb htg in_Phrase t_Phrase t_Phrase_ok n_Phrase hown hK hP (hI _) hS 20 xo_20 rfl 1 (by decide) (htg _ k_f_Phrase_19) (fun _ h9 => h9) rfl (by decide +kernel) rfl rfl (Nat.le_of_ble_eq_true rfl) d_Phrase_find_57 (fun H locs hP _ hS => ?_)
      replace hP : va_P D classes (xW cI cZ cJ ao aa (sL q3.2 3 q3.1)) H := pw xs_20_its hP
      refine lv_aload_n hx hb d_Phrase_find_60 rfl (lv_at hl 1 rfl) ?_
      refine lv_iload_n hx hb d_Phrase_find_61 rfl (lv_at hl 4 rfl) ?_
      refine lv_iconst (v := 1) hx hb d_Phrase_find_62 (by decide) ?_
      refine lv_iadd hx hb d_Phrase_find_63 ?_
      refine va_put (D := D) (ty := .int) hx hb htg in_Phrase t_Phrase t_Phrase_ok n_Phrase hown hK hP (hI _) hS 20 xo_20 rfl 2 (by decide) (htg _ k_f_Phrase_22) (fun _ h9 => h9) rfl (by decide +kernel) rfl rfl (Nat.le_of_ble_eq_true rfl) d_Phrase_find_64 (fun H locs hP _ hS => ?_)
      replace hP : va_P D classes (xW cI cZ cJ ao aa (sI (sL q3.2 3 q3.1) 22 (x3 + (1 : Int32)))) H := pw xs_20_end hP
      refine lv_iinc (v := (x3 + 1)) (lv' := [(3, .int (x3 + 1)), (4, .long q3.1), (0, .ref (ao 20)), (1, .ref (ao r)), (2, .int x2)]) hx hb d_Phrase_find_67 hl (k := 4) rfl rfl (by decide) rfl (fun ls hl => ?_)
      refine lv_goto (tgt := 18) hx hb d_Phrase_find_70 (by decide) ?_
      exact hk18 _ _ _ hf H locs ls hP hS (lv_sub hl [2, 3, 4, 0] rfl)
    · have hf := if_t hf c
      refine lv_goto (tgt := 73) hx hb d_Phrase_find_51 (by decide) ?_
      exact w_x_Phrase_find_20_b73 hr X _ _ hf H locs ls hP hS (lv_sub hl [1, 3] rfl)
theorem w_x_Phrase_find_20_b18 {r : Nat} (hr : r < 17) {z : Int32 × St} (X : Cx b_Phrase_find 6 (some .boolean) R_Phrase D [(cI, .int), (cZ, .boolean), (cJ, .long)] (xA ao aa) (xW cI cZ cJ ao aa) p s m args meth c) : ∀ (n : Nat) (S : St) (x2 : Int32) (x3 : Int32), x_Phrase_find_20_b18 r n S x2 x3 = some z → WX rm_x_Phrase_find_20 D (xA ao aa) (xW cI cZ cJ ao aa) p l e s m args below meth c (some (.int z.1)) z.2 18 [] 6 [(0, .ref (ao 20)), (1, .ref (ao r)), (2, .int x2), (3, .int x3)] S
  | 0, _, _, _, hf => ns hf
  | n + 1, _, _, _, hf => w_x_Phrase_find_20_b18_f hr X (w_x_Phrase_find_20_b18 hr X n) _ _ _ hf
set_option maxHeartbeats 4000000 in
set_option maxRecDepth 100000 in
theorem w_x_Phrase_find_20 {r : Nat} (hr : r < 17) {z : Int32 × St} (X : Cx b_Phrase_find 6 (some .boolean) R_Phrase D [(cI, .int), (cZ, .boolean), (cJ, .long)] (xA ao aa) (xW cI cZ cJ ao aa) p s m args meth c) (S : St) (x0 : Int32) (hf : x_Phrase_find_20 r S x0 = some z) : WX rm_x_Phrase_find_20 D (xA ao aa) (xW cI cZ cJ ao aa) p l e s m args below meth c (some (.int z.1)) z.2 0 [] 6 [(0, .ref (ao 20)), (1, .ref (ao r)), (2, .int x0)] S := by
  intro H locs ls hP hS hl
  obtain ⟨hx, hb, hr0, hml, hown, htg, hlk, hK, hN, hI⟩ := id X
  unfold x_Phrase_find_20 at hf
  refine lv_aload_n hx hb d_Phrase_find_0 rfl (lv_at hl 0 rfl) ?_
  refine lv_aload_n hx hb d_Phrase_find_1 rfl (lv_at hl 0 rfl) ?_
  refine va_get (D := D) (v := .ref (ao 21)) hx hb htg in_Phrase hown hK hP 20 xo_20 rfl 0 (by decide) (htg _ k_f_Phrase_7) (fun _ h9 => h9) rfl d_Phrase_find_2 ?_
  refine va_getN (D := D) (v := .long (gL S 4)) hx hb htg in_Things hown hK hP 21 xo_21 rfl 4 (by decide) (va_Nw.use rfl (hN _ k_fn_Phrase_13)) (fun _ h9 => h9) rfl d_Phrase_find_5 ?_
  refine va_put (D := D) (ty := .long) hx hb htg in_Phrase t_Phrase t_Phrase_ok n_Phrase hown hK hP (hI _) hS 20 xo_20 rfl 1 (by decide) (htg _ k_f_Phrase_19) (fun _ h9 => h9) rfl (by decide +kernel) rfl rfl (Nat.le_of_ble_eq_true rfl) d_Phrase_find_8 (fun H locs hP _ hS => ?_)
  replace hP : va_P D classes (xW cI cZ cJ ao aa (sL S 3 (gL S 4))) H := pw xs_20_its hP
  refine lv_aload_n hx hb d_Phrase_find_11 rfl (lv_at hl 0 rfl) ?_
  refine lv_iload_n hx hb d_Phrase_find_12 rfl (lv_at hl 2 rfl) ?_
  refine va_put (D := D) (ty := .int) hx hb htg in_Phrase t_Phrase t_Phrase_ok n_Phrase hown hK hP (hI _) hS 20 xo_20 rfl 2 (by decide) (htg _ k_f_Phrase_22) (fun _ h9 => h9) rfl (by decide +kernel) rfl rfl (Nat.le_of_ble_eq_true rfl) d_Phrase_find_13 (fun H locs hP _ hS => ?_)
  replace hP : va_P D classes (xW cI cZ cJ ao aa (sI (sL S 3 (gL S 4)) 22 x0)) H := pw xs_20_end hP
  refine lv_iload_n hx hb d_Phrase_find_16 rfl (lv_at hl 2 rfl) ?_
  refine lv_istore_n (lv' := [(3, .int x0), (0, .ref (ao 20)), (1, .ref (ao r)), (2, .int x0)]) hx hb d_Phrase_find_17 rfl hl (by decide) rfl (fun ls hl => ?_)
  exact w_x_Phrase_find_20_b18 hr X _ _ _ _ hf H locs ls hP hS (lv_sub hl [1, 2, 3, 0] rfl)
theorem c_x_Phrase_find_20 {l : Launch} {D : va_G} {cI cZ cJ : ClassId} {ao aa : Nat → Nat} {r : Nat} (hr : r < 17) {S : St} {x0 : Int32} {z : Int32 × St} (hz : x_Phrase_find_20 r S x0 = some z) : Ct l y_Phrase_find (.code y_Phrase_find b_Phrase_find 6 (some .boolean) :: gw) rm_x_Phrase_find_20 D [(cI, .int), (cZ, .boolean), (cJ, .long)] (xA ao aa) (xW cI cZ cJ ao aa) [.ref (ao 20), .ref (ao r), .int x0] S (some (.int z.1)) z.2 :=
  Ct_of (by decide) (fun p e s m args below meth c X => w_x_Phrase_find_20 hr X _ _ hz) (Nat.le_of_ble_eq_true rfl)
def x_Things_countedFor (S : St) (x0 : Int32) : Option (Int64 × St) :=
  if x0.toInt < 3 ∨ 5 < x0.toInt then
    some ((gL S 4), S)
  else
  if x0 = (3 : Int32) then
    some ((gL S 5), S)
  else
  if x0 = (4 : Int32) then
    some ((gL S 6), S)
  else
  if x0 = (5 : Int32) then
    some ((gL S 7), S)
  else
  none
def rm_x_Things_countedFor : Room := { frames := 0, cells := 0, slots := 0, locals := 0 }
theorem ok_x_Things_countedFor : CalV y_Things_countedFor b_Things_countedFor 2 (some .long) 1 rm_x_Things_countedFor := ⟨kc_Things_countedFor, ki_Things_countedFor, kl_Things_countedFor, ji_Things, ⟨by decide, by decide, by decide +kernel⟩, rfl, rfl⟩
set_option maxHeartbeats 4000000 in
set_option maxRecDepth 100000 in
theorem w_x_Things_countedFor {z : Int64 × St} (X : Cx b_Things_countedFor 2 (some .long) R_Things D [(cI, .int), (cZ, .boolean), (cJ, .long)] (xA ao aa) (xW cI cZ cJ ao aa) p s m args meth c) (S : St) (x0 : Int32) (hf : x_Things_countedFor S x0 = some z) : WX rm_x_Things_countedFor D (xA ao aa) (xW cI cZ cJ ao aa) p l e s m args below meth c (some (.long z.1)) z.2 0 [] 2 [(0, .ref (ao 21)), (1, .int x0)] S := by
  intro H locs ls hP hS hl
  obtain ⟨hx, hb, hr0, hml, hown, htg, hlk, hK, hN, hI⟩ := id X
  unfold x_Things_countedFor at hf
  refine lv_iload_n hx hb d_Things_countedFor_0 rfl (lv_at hl 1 rfl) ?_
  by_cases c : x0.toInt < 3 ∨ 5 < x0.toInt
  · have hf := if_t hf c
    refine lv_tableOut (tgt := 43) hx hb d_Things_countedFor_1 c (by decide) ?_
    refine lv_aload_n hx hb d_Things_countedFor_43 rfl (lv_at hl 0 rfl) ?_
    refine va_get (D := D) (v := .long (gL S 4)) hx hb htg in_Things hown hK hP 21 xo_21 rfl 4 (by decide) (htg _ k_f_Things_41) (fun _ h9 => h9) rfl d_Things_countedFor_44 ?_
    obtain rfl := Option.some.inj hf
    exact W.lret hx hb hr0 (fun t ht _ => ⟨⟨rfl, by rw [ht]; exact hP⟩, hS.F ht⟩) hS.2.2 d_Things_countedFor_47 hlk
  have hf := if_f hf c
  by_cases c : x0 = (3 : Int32)
  · have hf := if_t hf c
    refine lv_tableIn (off := 27) (tgt := 28) hx hb d_Things_countedFor_1 (by rw [c]; decide) (by rw [c]; decide) (by rw [c]; rfl) (by decide) ?_
    refine lv_aload_n hx hb d_Things_countedFor_28 rfl (lv_at hl 0 rfl) ?_
    refine va_get (D := D) (v := .long (gL S 5)) hx hb htg in_Things hown hK hP 21 xo_21 rfl 5 (by decide) (htg _ k_f_Things_45) (fun _ h9 => h9) rfl d_Things_countedFor_29 ?_
    obtain rfl := Option.some.inj hf
    exact W.lret hx hb hr0 (fun t ht _ => ⟨⟨rfl, by rw [ht]; exact hP⟩, hS.F ht⟩) hS.2.2 d_Things_countedFor_32 hlk
  have hf := if_f hf c
  by_cases c : x0 = (4 : Int32)
  · have hf := if_t hf c
    refine lv_tableIn (off := 32) (tgt := 33) hx hb d_Things_countedFor_1 (by rw [c]; decide) (by rw [c]; decide) (by rw [c]; rfl) (by decide) ?_
    refine lv_aload_n hx hb d_Things_countedFor_33 rfl (lv_at hl 0 rfl) ?_
    refine va_get (D := D) (v := .long (gL S 6)) hx hb htg in_Things hown hK hP 21 xo_21 rfl 6 (by decide) (htg _ k_f_Things_48) (fun _ h9 => h9) rfl d_Things_countedFor_34 ?_
    obtain rfl := Option.some.inj hf
    exact W.lret hx hb hr0 (fun t ht _ => ⟨⟨rfl, by rw [ht]; exact hP⟩, hS.F ht⟩) hS.2.2 d_Things_countedFor_37 hlk
  have hf := if_f hf c
  by_cases c : x0 = (5 : Int32)
  · have hf := if_t hf c
    refine lv_tableIn (off := 37) (tgt := 38) hx hb d_Things_countedFor_1 (by rw [c]; decide) (by rw [c]; decide) (by rw [c]; rfl) (by decide) ?_
    refine lv_aload_n hx hb d_Things_countedFor_38 rfl (lv_at hl 0 rfl) ?_
    refine va_get (D := D) (v := .long (gL S 7)) hx hb htg in_Things hown hK hP 21 xo_21 rfl 7 (by decide) (htg _ k_f_Things_51) (fun _ h9 => h9) rfl d_Things_countedFor_39 ?_
    obtain rfl := Option.some.inj hf
    exact W.lret hx hb hr0 (fun t ht _ => ⟨⟨rfl, by rw [ht]; exact hP⟩, hS.F ht⟩) hS.2.2 d_Things_countedFor_42 hlk
  have hf := if_f hf c
  exact ns hf
theorem c_x_Things_countedFor {l : Launch} {D : va_G} {cI cZ cJ : ClassId} {ao aa : Nat → Nat} {S : St} {x0 : Int32} {z : Int64 × St} (hz : x_Things_countedFor S x0 = some z) : Ct l y_Things_countedFor (.code y_Things_countedFor b_Things_countedFor 2 (some .long) :: gw) rm_x_Things_countedFor D [(cI, .int), (cZ, .boolean), (cJ, .long)] (xA ao aa) (xW cI cZ cJ ao aa) [.ref (ao 21), .int x0] S (some (.long z.1)) z.2 :=
  Ct_of (by decide) (fun p e s m args below meth c X => w_x_Things_countedFor X _ _ hz) (Nat.le_of_ble_eq_true rfl)
def x_Trial_findOne_b103 (S : St) (s0 : Int32) : Option (Int64 × St) :=
  (x_Trial_fail S s0 (gI S 27)).bind fun q7 =>
  some ((0 : Int64), q7)
def x_Trial_findOne (S : St) (x0 : Int32) : Option (Int64 × St) :=
  (x_Row_at 6 S (gI S 27)).bind fun q1 =>
  if q1.1 = (4 : Int32) then
    (x_Trial_fail q1.2 (13 : Int32) (gI q1.2 27)).bind fun q9 =>
    some ((0 : Int64), q9)
  else
    (x_Phrase_find_20 6 q1.2 (gI q1.2 27)).bind fun q2 =>
    if q2.1 = 0 then
      (x_Trial_fail q2.2 (7 : Int32) (gI q2.2 27)).bind fun q8 =>
      some ((0 : Int64), q8)
    else
      (x_Things_countedFor q2.2 x0).bind fun q3 =>
      if (lg_cmp ((gL q2.2 3) &&& q3.1) (0 : Int64)) = 0 then
        if x0 = (3 : Int32) then
          x_Trial_findOne_b103 q3.2 (11 : Int32)
        else
          if x0 = (4 : Int32) then
            x_Trial_findOne_b103 q3.2 (12 : Int32)
          else
            x_Trial_findOne_b103 q3.2 (10 : Int32)
      else
        (x_JLong_bitCount q3.2 ((gL q2.2 3) &&& q3.1)).bind fun q4 =>
        if q4.1 ≤ (1 : Int32) then
          some (((gL q2.2 3) &&& q3.1), (sI q4.2 27 (gI q4.2 22)))
        else
          (x_Row_addThings 12 q4.2 ((gL q2.2 3) &&& q3.1)).bind fun q5 =>
          (x_Trial_fail q5 (15 : Int32) (gI q5 27)).bind fun q6 =>
          some ((0 : Int64), q6)
def rm_x_Trial_findOne : Room := { frames := 2, cells := 0, slots := 0, locals := 53 }
theorem ok_x_Trial_findOne : CalV y_Trial_findOne b_Trial_findOne 4 (some .long) 1 rm_x_Trial_findOne := ⟨kc_Trial_findOne, ki_Trial_findOne, kl_Trial_findOne, ji_Trial, ⟨by decide, by decide, by decide +kernel⟩, rfl, rfl⟩
set_option maxHeartbeats 4000000 in
set_option maxRecDepth 100000 in
theorem w_x_Trial_findOne_b103 {z : Int64 × St} (X : Cx b_Trial_findOne 4 (some .long) R_Trial D [(cI, .int), (cZ, .boolean), (cJ, .long)] (xA ao aa) (xW cI cZ cJ ao aa) p s m args meth c) (S : St) (s0 : Int32) (hf : x_Trial_findOne_b103 S s0 = some z) : WX rm_x_Trial_findOne D (xA ao aa) (xW cI cZ cJ ao aa) p l e s m args below meth c (some (.long z.1)) z.2 103 [.int s0, .ref (ao 25)] 4 [(0, .ref (ao 25))] S := by
  intro H locs ls hP hS hl
  obtain ⟨hx, hb, hr0, hml, hown, htg, hlk, hK, hN, hI⟩ := id X
  unfold x_Trial_findOne_b103 at hf
  refine lv_aload_n hx hb d_Trial_findOne_103 rfl (lv_at hl 0 rfl) ?_
  refine va_get (D := D) (v := .int (gI S 27)) hx hb htg in_Trial hown hK hP 25 xo_25 rfl 10 (by decide) (htg _ k_f_Trial_83) (fun _ h9 => h9) rfl d_Trial_findOne_104 ?_
  obtain ⟨q7, he, hf⟩ := ob_some hf
  refine cl_Vv (As := [.int s0, .int (gI S 27)]) (rest := []) X (c_x_Trial_fail he) ok_x_Trial_fail k_m_Trial_136 (va_recv hK hP rfl xo_25) rfl rfl hl.1 (Nat.le_of_ble_eq_true rfl) d_Trial_findOne_107 ⟨by decide, by decide⟩ hP hS (fun H locs hP hS => ?_)
  refine lv_lconst (v := 0) hx hb d_Trial_findOne_110 (by decide) ?_
  obtain rfl := Option.some.inj hf
  exact W.lret hx hb hr0 (fun t ht _ => ⟨⟨rfl, by rw [ht]; exact hP⟩, hS.F ht⟩) hS.2.2 d_Trial_findOne_111 hlk
set_option maxHeartbeats 4000000 in
set_option maxRecDepth 100000 in
theorem w_x_Trial_findOne {z : Int64 × St} (X : Cx b_Trial_findOne 4 (some .long) R_Trial D [(cI, .int), (cZ, .boolean), (cJ, .long)] (xA ao aa) (xW cI cZ cJ ao aa) p s m args meth c) (S : St) (x0 : Int32) (hf : x_Trial_findOne S x0 = some z) : WX rm_x_Trial_findOne D (xA ao aa) (xW cI cZ cJ ao aa) p l e s m args below meth c (some (.long z.1)) z.2 0 [] 4 [(0, .ref (ao 25)), (1, .int x0)] S := by
  intro H locs ls hP hS hl
  obtain ⟨hx, hb, hr0, hml, hown, htg, hlk, hK, hN, hI⟩ := id X
  unfold x_Trial_findOne at hf
  refine lv_aload_n hx hb d_Trial_findOne_0 rfl (lv_at hl 0 rfl) ?_
  refine va_get (D := D) (v := .ref (ao 6)) hx hb htg in_Trial hown hK hP 25 xo_25 rfl 3 (by decide) (htg _ k_f_Trial_52) (fun _ h9 => h9) rfl d_Trial_findOne_1 ?_
  refine lv_aload_n hx hb d_Trial_findOne_4 rfl (lv_at hl 0 rfl) ?_
  refine va_get (D := D) (v := .int (gI S 27)) hx hb htg in_Trial hown hK hP 25 xo_25 rfl 10 (by decide) (htg _ k_f_Trial_83) (fun _ h9 => h9) rfl d_Trial_findOne_5 ?_
  obtain ⟨q1, he, hf⟩ := ob_some hf
  refine cl_Vi (As := [.int (gI S 27)]) (rest := []) X (c_x_Row_at (by decide : 6 < 17) he) ok_x_Row_at k_m_Trial_115 (va_recv hK hP rfl (xo_row (by decide : 6 < 17))) rfl rfl hl.1 (Nat.le_of_ble_eq_true rfl) d_Trial_findOne_8 ⟨by decide, by decide⟩ hP hS (fun H locs hP hS => ?_)
  refine lv_iconst (v := 4) hx hb d_Trial_findOne_11 (by decide) ?_
  refine lv_icmp_ne (tgt := 27) hx hb d_Trial_findOne_12 (by decide) (fun c => ?_) (fun c => ?_)
  · have hf := if_f hf c
    refine lv_aload_n hx hb d_Trial_findOne_27 rfl (lv_at hl 0 rfl) ?_
    refine va_get (D := D) (v := .ref (ao 20)) hx hb htg in_Trial hown hK hP 25 xo_25 rfl 4 (by decide) (htg _ k_f_Trial_60) (fun _ h9 => h9) rfl d_Trial_findOne_28 ?_
    refine lv_aload_n hx hb d_Trial_findOne_31 rfl (lv_at hl 0 rfl) ?_
    refine va_get (D := D) (v := .ref (ao 6)) hx hb htg in_Trial hown hK hP 25 xo_25 rfl 3 (by decide) (htg _ k_f_Trial_52) (fun _ h9 => h9) rfl d_Trial_findOne_32 ?_
    refine lv_aload_n hx hb d_Trial_findOne_35 rfl (lv_at hl 0 rfl) ?_
    refine va_get (D := D) (v := .int (gI q1.2 27)) hx hb htg in_Trial hown hK hP 25 xo_25 rfl 10 (by decide) (htg _ k_f_Trial_83) (fun _ h9 => h9) rfl d_Trial_findOne_36 ?_
    obtain ⟨q2, he, hf⟩ := ob_some hf
    refine cl_Vi (As := [.ref (ao 6), .int (gI q1.2 27)]) (rest := []) X (c_x_Phrase_find_20 (by decide : 6 < 17) he) ok_x_Phrase_find_20 k_m_Trial_165 (va_recv hK hP rfl xo_20) rfl rfl hl.1 (Nat.le_of_ble_eq_true rfl) d_Trial_findOne_39 ⟨by decide, by decide⟩ hP hS (fun H locs hP hS => ?_)
    refine lv_if_ne (tgt := 57) hx hb d_Trial_findOne_42 (by decide) (fun c => ?_) (fun c => ?_)
    · have hf := if_f hf c
      refine lv_aload_n hx hb d_Trial_findOne_57 rfl (lv_at hl 0 rfl) ?_
      refine va_get (D := D) (v := .ref (ao 20)) hx hb htg in_Trial hown hK hP 25 xo_25 rfl 4 (by decide) (htg _ k_f_Trial_60) (fun _ h9 => h9) rfl d_Trial_findOne_58 ?_
      refine va_getN (D := D) (v := .long (gL q2.2 3)) hx hb htg in_Phrase hown hK hP 20 xo_20 rfl 1 (by decide) (va_Nw.use rfl (hN _ k_fn_Trial_168)) (fun _ h9 => h9) rfl d_Trial_findOne_61 ?_
      refine lv_aload_n hx hb d_Trial_findOne_64 rfl (lv_at hl 0 rfl) ?_
      refine va_get (D := D) (v := .ref (ao 21)) hx hb htg in_Trial hown hK hP 25 xo_25 rfl 0 (by decide) (htg _ k_f_Trial_40) (fun _ h9 => h9) rfl d_Trial_findOne_65 ?_
      refine lv_iload_n hx hb d_Trial_findOne_68 rfl (lv_at hl 1 rfl) ?_
      obtain ⟨q3, he, hf⟩ := ob_some hf
      refine cl_Vl (As := [.int x0]) (rest := [.long (gL q2.2 3)]) X (c_x_Things_countedFor he) ok_x_Things_countedFor k_m_Trial_171 (va_recv hK hP rfl xo_21) rfl rfl hl.1 (Nat.le_of_ble_eq_true rfl) d_Trial_findOne_69 ⟨by decide, by decide⟩ hP hS (fun H locs hP hS => ?_)
      refine lv_land hx hb d_Trial_findOne_72 ?_
      refine lv_lstore_n (lv' := [(2, .long ((gL q2.2 3) &&& q3.1)), (0, .ref (ao 25)), (1, .int x0)]) hx hb d_Trial_findOne_73 rfl hl (by decide) rfl (fun ls hl => ?_)
      refine lv_lload_n hx hb d_Trial_findOne_74 rfl (lv_at hl 0 rfl) ?_
      refine lv_lconst (v := 0) hx hb d_Trial_findOne_75 (by decide) ?_
      refine W.lcmp hx hb d_Trial_findOne_76 ?_
      refine lv_if_ne (tgt := 112) hx hb d_Trial_findOne_77 (by decide) (fun c => ?_) (fun c => ?_)
      · have hf := if_f hf c
        refine lv_lload_n hx hb d_Trial_findOne_112 rfl (lv_at hl 0 rfl) ?_
        obtain ⟨q4, he, hf⟩ := ob_some hf
        refine cl_Si (As := [.long ((gL q2.2 3) &&& q3.1)]) (rest := []) X (c_x_JLong_bitCount he) ok_x_JLong_bitCount k_m_Trial_176 rfl rfl hl.1 (Nat.le_of_ble_eq_true rfl) d_Trial_findOne_113 ⟨by decide, by decide⟩ hP hS (fun H locs hP hS => ?_)
        refine lv_iconst (v := 1) hx hb d_Trial_findOne_116 (by decide) ?_
        refine lv_icmp_le (tgt := 140) hx hb d_Trial_findOne_117 (by decide) (fun c => ?_) (fun c => ?_)
        · have hf := if_t hf c
          refine lv_aload_n hx hb d_Trial_findOne_140 rfl (lv_at hl 1 rfl) ?_
          refine lv_aload_n hx hb d_Trial_findOne_141 rfl (lv_at hl 1 rfl) ?_
          refine va_get (D := D) (v := .ref (ao 20)) hx hb htg in_Trial hown hK hP 25 xo_25 rfl 4 (by decide) (htg _ k_f_Trial_60) (fun _ h9 => h9) rfl d_Trial_findOne_142 ?_
          refine va_getN (D := D) (v := .int (gI q4.2 22)) hx hb htg in_Phrase hown hK hP 20 xo_20 rfl 2 (by decide) (va_Nw.use rfl (hN _ k_fn_Trial_186)) (fun _ h9 => h9) rfl d_Trial_findOne_145 ?_
          refine va_put (D := D) (ty := .int) hx hb htg in_Trial t_Trial t_Trial_ok n_Trial hown hK hP (hI _) hS 25 xo_25 rfl 10 (by decide) (htg _ k_f_Trial_83) (fun _ h9 => h9) rfl (by decide +kernel) rfl rfl (Nat.le_of_ble_eq_true rfl) d_Trial_findOne_148 (fun H locs hP _ hS => ?_)
          replace hP : va_P D classes (xW cI cZ cJ ao aa (sI q4.2 27 (gI q4.2 22))) H := pw xs_25_cursor hP
          refine lv_lload_n hx hb d_Trial_findOne_151 rfl (lv_at hl 0 rfl) ?_
          obtain rfl := Option.some.inj hf
          exact W.lret hx hb hr0 (fun t ht _ => ⟨⟨rfl, by rw [ht]; exact hP⟩, hS.F ht⟩) hS.2.2 d_Trial_findOne_152 hlk
        · have hf := if_f hf c
          refine lv_aload_n hx hb d_Trial_findOne_120 rfl (lv_at hl 1 rfl) ?_
          refine va_get (D := D) (v := .ref (ao 12)) hx hb htg in_Trial hown hK hP 25 xo_25 rfl 8 (by decide) (htg _ k_f_Trial_30) (fun _ h9 => h9) rfl d_Trial_findOne_121 ?_
          refine lv_lload_n hx hb d_Trial_findOne_124 rfl (lv_at hl 0 rfl) ?_
          obtain ⟨q5, he, hf⟩ := ob_some hf
          refine cl_Vv (As := [.long ((gL q2.2 3) &&& q3.1)]) (rest := []) X (c_x_Row_addThings (by decide : 12 < 17) he) ok_x_Row_addThings k_m_Trial_182 (va_recv hK hP rfl (xo_row (by decide : 12 < 17))) rfl rfl hl.1 (Nat.le_of_ble_eq_true rfl) d_Trial_findOne_125 ⟨by decide, by decide⟩ hP hS (fun H locs hP hS => ?_)
          refine lv_aload_n hx hb d_Trial_findOne_128 rfl (lv_at hl 1 rfl) ?_
          refine lv_bipush (v := 15) hx hb d_Trial_findOne_129 (by decide) ?_
          refine lv_aload_n hx hb d_Trial_findOne_131 rfl (lv_at hl 1 rfl) ?_
          refine va_get (D := D) (v := .int (gI q5 27)) hx hb htg in_Trial hown hK hP 25 xo_25 rfl 10 (by decide) (htg _ k_f_Trial_83) (fun _ h9 => h9) rfl d_Trial_findOne_132 ?_
          obtain ⟨q6, he, hf⟩ := ob_some hf
          refine cl_Vv (As := [.int (15 : Int32), .int (gI q5 27)]) (rest := []) X (c_x_Trial_fail he) ok_x_Trial_fail k_m_Trial_136 (va_recv hK hP rfl xo_25) rfl rfl hl.1 (Nat.le_of_ble_eq_true rfl) d_Trial_findOne_135 ⟨by decide, by decide⟩ hP hS (fun H locs hP hS => ?_)
          refine lv_lconst (v := 0) hx hb d_Trial_findOne_138 (by decide) ?_
          obtain rfl := Option.some.inj hf
          exact W.lret hx hb hr0 (fun t ht _ => ⟨⟨rfl, by rw [ht]; exact hP⟩, hS.F ht⟩) hS.2.2 d_Trial_findOne_139 hlk
      · have hf := if_t hf c
        refine lv_aload_n hx hb d_Trial_findOne_80 rfl (lv_at hl 1 rfl) ?_
        refine lv_iload_n hx hb d_Trial_findOne_81 rfl (lv_at hl 2 rfl) ?_
        refine lv_iconst (v := 3) hx hb d_Trial_findOne_82 (by decide) ?_
        refine lv_icmp_ne (tgt := 91) hx hb d_Trial_findOne_83 (by decide) (fun c => ?_) (fun c => ?_)
        · have hf := if_f hf c
          refine lv_iload_n hx hb d_Trial_findOne_91 rfl (lv_at hl 2 rfl) ?_
          refine lv_iconst (v := 4) hx hb d_Trial_findOne_92 (by decide) ?_
          refine lv_icmp_ne (tgt := 101) hx hb d_Trial_findOne_93 (by decide) (fun c => ?_) (fun c => ?_)
          · have hf := if_f hf c
            refine lv_bipush (v := 10) hx hb d_Trial_findOne_101 (by decide) ?_
            exact w_x_Trial_findOne_b103 X _ _ hf H locs ls hP hS (lv_sub hl [1] rfl)
          · have hf := if_t hf c
            refine lv_bipush (v := 12) hx hb d_Trial_findOne_96 (by decide) ?_
            refine lv_goto (tgt := 103) hx hb d_Trial_findOne_98 (by decide) ?_
            exact w_x_Trial_findOne_b103 X _ _ hf H locs ls hP hS (lv_sub hl [1] rfl)
        · have hf := if_t hf c
          refine lv_bipush (v := 11) hx hb d_Trial_findOne_86 (by decide) ?_
          refine lv_goto (tgt := 103) hx hb d_Trial_findOne_88 (by decide) ?_
          exact w_x_Trial_findOne_b103 X _ _ hf H locs ls hP hS (lv_sub hl [1] rfl)
    · have hf := if_t hf c
      refine lv_aload_n hx hb d_Trial_findOne_45 rfl (lv_at hl 0 rfl) ?_
      refine lv_bipush (v := 7) hx hb d_Trial_findOne_46 (by decide) ?_
      refine lv_aload_n hx hb d_Trial_findOne_48 rfl (lv_at hl 0 rfl) ?_
      refine va_get (D := D) (v := .int (gI q2.2 27)) hx hb htg in_Trial hown hK hP 25 xo_25 rfl 10 (by decide) (htg _ k_f_Trial_83) (fun _ h9 => h9) rfl d_Trial_findOne_49 ?_
      obtain ⟨q8, he, hf⟩ := ob_some hf
      refine cl_Vv (As := [.int (7 : Int32), .int (gI q2.2 27)]) (rest := []) X (c_x_Trial_fail he) ok_x_Trial_fail k_m_Trial_136 (va_recv hK hP rfl xo_25) rfl rfl hl.1 (Nat.le_of_ble_eq_true rfl) d_Trial_findOne_52 ⟨by decide, by decide⟩ hP hS (fun H locs hP hS => ?_)
      refine lv_lconst (v := 0) hx hb d_Trial_findOne_55 (by decide) ?_
      obtain rfl := Option.some.inj hf
      exact W.lret hx hb hr0 (fun t ht _ => ⟨⟨rfl, by rw [ht]; exact hP⟩, hS.F ht⟩) hS.2.2 d_Trial_findOne_56 hlk
  · have hf := if_t hf c
    refine lv_aload_n hx hb d_Trial_findOne_15 rfl (lv_at hl 0 rfl) ?_
    refine lv_bipush (v := 13) hx hb d_Trial_findOne_16 (by decide) ?_
    refine lv_aload_n hx hb d_Trial_findOne_18 rfl (lv_at hl 0 rfl) ?_
    refine va_get (D := D) (v := .int (gI q1.2 27)) hx hb htg in_Trial hown hK hP 25 xo_25 rfl 10 (by decide) (htg _ k_f_Trial_83) (fun _ h9 => h9) rfl d_Trial_findOne_19 ?_
    obtain ⟨q9, he, hf⟩ := ob_some hf
    refine cl_Vv (As := [.int (13 : Int32), .int (gI q1.2 27)]) (rest := []) X (c_x_Trial_fail he) ok_x_Trial_fail k_m_Trial_136 (va_recv hK hP rfl xo_25) rfl rfl hl.1 (Nat.le_of_ble_eq_true rfl) d_Trial_findOne_22 ⟨by decide, by decide⟩ hP hS (fun H locs hP hS => ?_)
    refine lv_lconst (v := 0) hx hb d_Trial_findOne_25 (by decide) ?_
    obtain rfl := Option.some.inj hf
    exact W.lret hx hb hr0 (fun t ht _ => ⟨⟨rfl, by rw [ht]; exact hP⟩, hS.F ht⟩) hS.2.2 d_Trial_findOne_26 hlk
theorem c_x_Trial_findOne {l : Launch} {D : va_G} {cI cZ cJ : ClassId} {ao aa : Nat → Nat} {S : St} {x0 : Int32} {z : Int64 × St} (hz : x_Trial_findOne S x0 = some z) : Ct l y_Trial_findOne (.code y_Trial_findOne b_Trial_findOne 4 (some .long) :: gw) rm_x_Trial_findOne D [(cI, .int), (cZ, .boolean), (cJ, .long)] (xA ao aa) (xW cI cZ cJ ao aa) [.ref (ao 25), .int x0] S (some (.long z.1)) z.2 :=
  Ct_of (by decide) (fun p e s m args below meth c X => w_x_Trial_findOne X _ _ hz) (Nat.le_of_ble_eq_true rfl)
def x_Trial_takeList_b96 (k24 : St → Int32 → Int32 → Int32 → Option (St)) (S : St) (x3 : Int32) (x4 : Int32) (x5 : Int32) : Option (St) :=
  k24 S x3 x4 (x5 + 1)
def x_Trial_takeList_b79 (k24 : St → Int32 → Int32 → Int32 → Option (St)) (S : St) (x3 : Int32) (x5 : Int32) (s0 : Int32) : Option (St) :=
  if s0 = 0 then
    x_Trial_takeList_b96 k24 S x3 s0 x5
  else
    x_Trial_takeList_b96 k24 (sI S 27 ((gI S 27) + (1 : Int32))) x3 s0 x5
def x_Trial_takeList_b78 (k24 : St → Int32 → Int32 → Int32 → Option (St)) (S : St) (x3 : Int32) (x5 : Int32) : Option (St) :=
  x_Trial_takeList_b79 k24 S x3 x5 (0 : Int32)
def x_Trial_takeList_b24_f (k24 : St → Int32 → Int32 → Int32 → Option (St)) (S : St) (x3 : Int32) (x4 : Int32) (x5 : Int32) : Option (St) :=
  if x4 = 0 then
    some S
  else
    if (60 : Int32) ≤ x5 then
      some S
    else
      (x_Trial_findOne S x3).bind fun q2 =>
      if (gI (sL q2.2 0 ((gL S 0) ||| q2.1)) 28) = 0 then
        (x_Row_at 6 (sL q2.2 0 ((gL S 0) ||| q2.1)) (gI (sL q2.2 0 ((gL S 0) ||| q2.1)) 27)).bind fun q3 =>
        (x_G_isJoin q3.2 q3.1).bind fun q4 =>
        if q4.1 = 0 then
          x_Trial_takeList_b78 k24 q4.2 x3 x5
        else
          x_Trial_takeList_b79 k24 q4.2 x3 x5 (1 : Int32)
      else
        x_Trial_takeList_b78 k24 (sL q2.2 0 ((gL S 0) ||| q2.1)) x3 x5
def x_Trial_takeList_b24 : Nat → St → Int32 → Int32 → Int32 → Option (St)
  | 0, _, _, _, _ => none
  | n + 1, S, x3, x4, x5 => x_Trial_takeList_b24_f (x_Trial_takeList_b24 n) S x3 x4 x5
def x_Trial_takeList_b17 (S : St) (s0 : Int32) : Option (St) :=
  x_Trial_takeList_b24 fu S s0 (1 : Int32) (0 : Int32)
def x_Trial_takeList_b96_1 (k24 : St → Int32 → Int32 → Int32 → Option (St)) (S : St) (x3 : Int32) (x4 : Int32) (x5 : Int32) : Option (St) :=
  k24 S x3 x4 (x5 + 1)
def x_Trial_takeList_b79_1 (k24 : St → Int32 → Int32 → Int32 → Option (St)) (S : St) (x3 : Int32) (x5 : Int32) (s0 : Int32) : Option (St) :=
  if s0 = 0 then
    x_Trial_takeList_b96_1 k24 S x3 s0 x5
  else
    x_Trial_takeList_b96_1 k24 (sI S 27 ((gI S 27) + (1 : Int32))) x3 s0 x5
def x_Trial_takeList_b78_1 (k24 : St → Int32 → Int32 → Int32 → Option (St)) (S : St) (x3 : Int32) (x5 : Int32) : Option (St) :=
  x_Trial_takeList_b79_1 k24 S x3 x5 (0 : Int32)
def x_Trial_takeList_b24_1_f (k24 : St → Int32 → Int32 → Int32 → Option (St)) (S : St) (x3 : Int32) (x4 : Int32) (x5 : Int32) : Option (St) :=
  if x4 = 0 then
    some S
  else
    if (60 : Int32) ≤ x5 then
      some S
    else
      (x_Trial_findOne S x3).bind fun q5 =>
      if (gI (sL q5.2 1 ((gL S 1) ||| q5.1)) 28) = 0 then
        (x_Row_at 6 (sL q5.2 1 ((gL S 1) ||| q5.1)) (gI (sL q5.2 1 ((gL S 1) ||| q5.1)) 27)).bind fun q6 =>
        (x_G_isJoin q6.2 q6.1).bind fun q7 =>
        if q7.1 = 0 then
          x_Trial_takeList_b78_1 k24 q7.2 x3 x5
        else
          x_Trial_takeList_b79_1 k24 q7.2 x3 x5 (1 : Int32)
      else
        x_Trial_takeList_b78_1 k24 (sL q5.2 1 ((gL S 1) ||| q5.1)) x3 x5
def x_Trial_takeList_b24_1 : Nat → St → Int32 → Int32 → Int32 → Option (St)
  | 0, _, _, _, _ => none
  | n + 1, S, x3, x4, x5 => x_Trial_takeList_b24_1_f (x_Trial_takeList_b24_1 n) S x3 x4 x5
def x_Trial_takeList_b17_1 (S : St) (s0 : Int32) : Option (St) :=
  x_Trial_takeList_b24_1 fu S s0 (1 : Int32) (0 : Int32)
def x_Trial_takeList (S : St) (x0 : Int32) : Option (St) :=
  (x_Trial_openSlot S x0).bind fun q1 =>
  if q1.1 = 17 then
    if x0 = (6 : Int32) then
      x_Trial_takeList_b17 q1.2 (2 : Int32)
    else
      x_Trial_takeList_b17 q1.2 (3 : Int32)
  else
  if q1.1 = 18 then
    if x0 = (6 : Int32) then
      x_Trial_takeList_b17_1 q1.2 (2 : Int32)
    else
      x_Trial_takeList_b17_1 q1.2 (3 : Int32)
  else
  none
def rm_x_Trial_takeList : Room := { frames := 3, cells := 0, slots := 0, locals := 76 }
theorem ok_x_Trial_takeList : CalV y_Trial_takeList b_Trial_takeList 6 none 1 rm_x_Trial_takeList := ⟨kc_Trial_takeList, ki_Trial_takeList, kl_Trial_takeList, ji_Trial, ⟨by decide, by decide, by decide +kernel⟩, rfl, rfl⟩
set_option maxHeartbeats 4000000 in
set_option maxRecDepth 100000 in
theorem w_x_Trial_takeList_b96 {z : St} (X : Cx b_Trial_takeList 6 none R_Trial D [(cI, .int), (cZ, .boolean), (cJ, .long)] (xA ao aa) (xW cI cZ cJ ao aa) p s m args meth c) {k24 : St → Int32 → Int32 → Int32 → Option (St)} (hk24 : ∀ (S : St) (x3 : Int32) (x4 : Int32) (x5 : Int32), k24 S x3 x4 x5 = some z → WX rm_x_Trial_takeList D (xA ao aa) (xW cI cZ cJ ao aa) p l e s m args below meth c none z 24 [] 6 [(0, .ref (ao 25)), (2, .ref (ao 17)), (3, .int x3), (4, .int x4), (5, .int x5)] S) (S : St) (x3 : Int32) (x4 : Int32) (x5 : Int32) (hf : x_Trial_takeList_b96 k24 S x3 x4 x5 = some z) : WX rm_x_Trial_takeList D (xA ao aa) (xW cI cZ cJ ao aa) p l e s m args below meth c none z 96 [] 6 [(0, .ref (ao 25)), (2, .ref (ao 17)), (3, .int x3), (4, .int x4), (5, .int x5)] S := by
  intro H locs ls hP hS hl
  obtain ⟨hx, hb, hr0, hml, hown, htg, hlk, hK, hN, hI⟩ := id X
  unfold x_Trial_takeList_b96 at hf
  refine lv_iinc (v := (x5 + 1)) (lv' := [(5, .int (x5 + 1)), (0, .ref (ao 25)), (2, .ref (ao 17)), (3, .int x3), (4, .int x4)]) hx hb d_Trial_takeList_96 hl (k := 4) rfl rfl (by decide) rfl (fun ls hl => ?_)
  refine lv_goto (tgt := 24) hx hb d_Trial_takeList_99 (by decide) ?_
  exact hk24 _ _ _ _ hf H locs ls hP hS (lv_sub hl [1, 2, 3, 4, 0] rfl)
set_option maxHeartbeats 4000000 in
set_option maxRecDepth 100000 in
theorem w_x_Trial_takeList_b79 {z : St} (X : Cx b_Trial_takeList 6 none R_Trial D [(cI, .int), (cZ, .boolean), (cJ, .long)] (xA ao aa) (xW cI cZ cJ ao aa) p s m args meth c) {k24 : St → Int32 → Int32 → Int32 → Option (St)} (hk24 : ∀ (S : St) (x3 : Int32) (x4 : Int32) (x5 : Int32), k24 S x3 x4 x5 = some z → WX rm_x_Trial_takeList D (xA ao aa) (xW cI cZ cJ ao aa) p l e s m args below meth c none z 24 [] 6 [(0, .ref (ao 25)), (2, .ref (ao 17)), (3, .int x3), (4, .int x4), (5, .int x5)] S) (S : St) (x3 : Int32) (x5 : Int32) (s0 : Int32) (hf : x_Trial_takeList_b79 k24 S x3 x5 s0 = some z) : WX rm_x_Trial_takeList D (xA ao aa) (xW cI cZ cJ ao aa) p l e s m args below meth c none z 79 [.int s0] 6 [(0, .ref (ao 25)), (2, .ref (ao 17)), (3, .int x3), (5, .int x5)] S := by
  intro H locs ls hP hS hl
  obtain ⟨hx, hb, hr0, hml, hown, htg, hlk, hK, hN, hI⟩ := id X
  unfold x_Trial_takeList_b79 at hf
  refine lv_istore (lv' := [(4, .int s0), (0, .ref (ao 25)), (2, .ref (ao 17)), (3, .int x3), (5, .int x5)]) hx hb d_Trial_takeList_79 hl (by decide) rfl (fun ls hl => ?_)
  refine lv_iload hx hb d_Trial_takeList_81 (lv_at hl 0 rfl) ?_
  refine lv_if_eq (tgt := 96) hx hb d_Trial_takeList_83 (by decide) (fun c => ?_) (fun c => ?_)
  · have hf := if_t hf c
    exact w_x_Trial_takeList_b96 X hk24 _ _ _ _ hf H locs ls hP hS (lv_sub hl [1, 2, 3, 0, 4] rfl)
  · have hf := if_f hf c
    refine lv_aload_n hx hb d_Trial_takeList_86 rfl (lv_at hl 1 rfl) ?_
    refine lv_dup hx hb d_Trial_takeList_87 rfl ?_
    refine va_get (D := D) (v := .int (gI S 27)) hx hb htg in_Trial hown hK hP 25 xo_25 rfl 10 (by decide) (htg _ k_f_Trial_83) (fun _ h9 => h9) rfl d_Trial_takeList_88 ?_
    refine lv_iconst (v := 1) hx hb d_Trial_takeList_91 (by decide) ?_
    refine lv_iadd hx hb d_Trial_takeList_92 ?_
    refine va_put (D := D) (ty := .int) hx hb htg in_Trial t_Trial t_Trial_ok n_Trial hown hK hP (hI _) hS 25 xo_25 rfl 10 (by decide) (htg _ k_f_Trial_83) (fun _ h9 => h9) rfl (by decide +kernel) rfl rfl (Nat.le_of_ble_eq_true rfl) d_Trial_takeList_93 (fun H locs hP _ hS => ?_)
    replace hP : va_P D classes (xW cI cZ cJ ao aa (sI S 27 ((gI S 27) + (1 : Int32)))) H := pw xs_25_cursor hP
    exact w_x_Trial_takeList_b96 X hk24 _ _ _ _ hf H locs ls hP hS (lv_sub hl [1, 2, 3, 0, 4] rfl)
set_option maxHeartbeats 4000000 in
set_option maxRecDepth 100000 in
theorem w_x_Trial_takeList_b78 {z : St} (X : Cx b_Trial_takeList 6 none R_Trial D [(cI, .int), (cZ, .boolean), (cJ, .long)] (xA ao aa) (xW cI cZ cJ ao aa) p s m args meth c) {k24 : St → Int32 → Int32 → Int32 → Option (St)} (hk24 : ∀ (S : St) (x3 : Int32) (x4 : Int32) (x5 : Int32), k24 S x3 x4 x5 = some z → WX rm_x_Trial_takeList D (xA ao aa) (xW cI cZ cJ ao aa) p l e s m args below meth c none z 24 [] 6 [(0, .ref (ao 25)), (2, .ref (ao 17)), (3, .int x3), (4, .int x4), (5, .int x5)] S) (S : St) (x3 : Int32) (x5 : Int32) (hf : x_Trial_takeList_b78 k24 S x3 x5 = some z) : WX rm_x_Trial_takeList D (xA ao aa) (xW cI cZ cJ ao aa) p l e s m args below meth c none z 78 [] 6 [(0, .ref (ao 25)), (2, .ref (ao 17)), (3, .int x3), (5, .int x5)] S := by
  intro H locs ls hP hS hl
  obtain ⟨hx, hb, hr0, hml, hown, htg, hlk, hK, hN, hI⟩ := id X
  unfold x_Trial_takeList_b78 at hf
  refine lv_iconst (v := 0) hx hb d_Trial_takeList_78 (by decide) ?_
  exact w_x_Trial_takeList_b79 X hk24 _ _ _ _ hf H locs ls hP hS (lv_sub hl [0, 1, 2, 3] rfl)
set_option maxHeartbeats 4000000 in
set_option maxRecDepth 100000 in
theorem w_x_Trial_takeList_b24_f {z : St} (X : Cx b_Trial_takeList 6 none R_Trial D [(cI, .int), (cZ, .boolean), (cJ, .long)] (xA ao aa) (xW cI cZ cJ ao aa) p s m args meth c) {k24 : St → Int32 → Int32 → Int32 → Option (St)} (hk24 : ∀ (S : St) (x3 : Int32) (x4 : Int32) (x5 : Int32), k24 S x3 x4 x5 = some z → WX rm_x_Trial_takeList D (xA ao aa) (xW cI cZ cJ ao aa) p l e s m args below meth c none z 24 [] 6 [(0, .ref (ao 25)), (2, .ref (ao 17)), (3, .int x3), (4, .int x4), (5, .int x5)] S) (S : St) (x3 : Int32) (x4 : Int32) (x5 : Int32) (hf : x_Trial_takeList_b24_f k24 S x3 x4 x5 = some z) : WX rm_x_Trial_takeList D (xA ao aa) (xW cI cZ cJ ao aa) p l e s m args below meth c none z 24 [] 6 [(0, .ref (ao 25)), (2, .ref (ao 17)), (3, .int x3), (4, .int x4), (5, .int x5)] S := by
  intro H locs ls hP hS hl
  obtain ⟨hx, hb, hr0, hml, hown, htg, hlk, hK, hN, hI⟩ := id X
  unfold x_Trial_takeList_b24_f at hf
  refine lv_iload hx hb d_Trial_takeList_24 (lv_at hl 3 rfl) ?_
  refine lv_if_eq (tgt := 102) hx hb d_Trial_takeList_26 (by decide) (fun c => ?_) (fun c => ?_)
  · have hf := if_t hf c
    obtain rfl := Option.some.inj hf
    exact W.vret hx hb hr0 (fun t ht _ => ⟨⟨rfl, by rw [ht]; exact hP⟩, hS.F ht⟩) hS.2.2 d_Trial_takeList_102 hlk
  · have hf := if_f hf c
    refine lv_iload hx hb d_Trial_takeList_29 (lv_at hl 4 rfl) ?_
    refine lv_bipush (v := 60) hx hb d_Trial_takeList_31 (by decide) ?_
    refine lv_icmp_ge (tgt := 102) hx hb d_Trial_takeList_33 (by decide) (fun c => ?_) (fun c => ?_)
    · have hf := if_t hf c
      obtain rfl := Option.some.inj hf
      exact W.vret hx hb hr0 (fun t ht _ => ⟨⟨rfl, by rw [ht]; exact hP⟩, hS.F ht⟩) hS.2.2 d_Trial_takeList_102 hlk
    · have hf := if_f hf c
      refine lv_aload_n hx hb d_Trial_takeList_36 rfl (lv_at hl 1 rfl) ?_
      refine lv_dup hx hb d_Trial_takeList_37 rfl ?_
      refine va_getN (D := D) (v := .long (gL S 0)) hx hb htg in_Slot hown hK hP 17 xo_17 rfl 3 (by decide) (va_Nw.use rfl (hN _ k_fn_Trial_159)) (fun _ h9 => h9) rfl d_Trial_takeList_38 ?_
      refine lv_aload_n hx hb d_Trial_takeList_41 rfl (lv_at hl 0 rfl) ?_
      refine lv_iload_n hx hb d_Trial_takeList_42 rfl (lv_at hl 2 rfl) ?_
      obtain ⟨q2, he, hf⟩ := ob_some hf
      refine cl_Vl (As := [.int x3]) (rest := [.long (gL S 0), .ref (ao 17)]) X (c_x_Trial_findOne he) ok_x_Trial_findOne k_m_Trial_155 (va_recv hK hP rfl xo_25) rfl rfl hl.1 (Nat.le_of_ble_eq_true rfl) d_Trial_takeList_43 ⟨by decide, by decide⟩ hP hS (fun H locs hP hS => ?_)
      refine lv_lor hx hb d_Trial_takeList_46 ?_
      refine va_putN (D := D) (ty := .long) hx hb htg in_Slot t_Slot t_Slot_ok n_Slot hown hK hP (hI _) hS 17 xo_17 rfl 3 (by decide) (va_Nw.use rfl (hN _ k_fn_Trial_159)) (fun _ h9 => h9) rfl (by decide +kernel) rfl rfl (Nat.le_of_ble_eq_true rfl) d_Trial_takeList_47 (fun H locs hP _ hS => ?_)
      replace hP : va_P D classes (xW cI cZ cJ ao aa (sL q2.2 0 ((gL S 0) ||| q2.1))) H := pw xs_17_things hP
      refine lv_aload_n hx hb d_Trial_takeList_50 rfl (lv_at hl 0 rfl) ?_
      refine va_get (D := D) (v := .int (gI (sL q2.2 0 ((gL S 0) ||| q2.1)) 28)) hx hb htg in_Trial hown hK hP 25 xo_25 rfl 11 (by decide) (htg _ k_f_Trial_76) (fun _ h9 => h9) rfl d_Trial_takeList_51 ?_
      refine lv_if_ne (tgt := 78) hx hb d_Trial_takeList_54 (by decide) (fun c => ?_) (fun c => ?_)
      · have hf := if_f hf c
        exact w_x_Trial_takeList_b78 X hk24 _ _ _ hf H locs ls hP hS (lv_sub hl [0, 1, 2, 4] rfl)
      · have hf := if_t hf c
        refine lv_aload_n hx hb d_Trial_takeList_57 rfl (lv_at hl 0 rfl) ?_
        refine va_get (D := D) (v := .ref (ao 6)) hx hb htg in_Trial hown hK hP 25 xo_25 rfl 3 (by decide) (htg _ k_f_Trial_52) (fun _ h9 => h9) rfl d_Trial_takeList_58 ?_
        refine lv_aload_n hx hb d_Trial_takeList_61 rfl (lv_at hl 0 rfl) ?_
        refine va_get (D := D) (v := .int (gI (sL q2.2 0 ((gL S 0) ||| q2.1)) 27)) hx hb htg in_Trial hown hK hP 25 xo_25 rfl 10 (by decide) (htg _ k_f_Trial_83) (fun _ h9 => h9) rfl d_Trial_takeList_62 ?_
        obtain ⟨q3, he, hf⟩ := ob_some hf
        refine cl_Vi (As := [.int (gI (sL q2.2 0 ((gL S 0) ||| q2.1)) 27)]) (rest := []) X (c_x_Row_at (by decide : 6 < 17) he) ok_x_Row_at k_m_Trial_115 (va_recv hK hP rfl (xo_row (by decide : 6 < 17))) rfl rfl hl.1 (Nat.le_of_ble_eq_true rfl) d_Trial_takeList_65 ⟨by decide, by decide⟩ hP hS (fun H locs hP hS => ?_)
        obtain ⟨q4, he, hf⟩ := ob_some hf
        refine cl_Ti (As := [.int q3.1]) (rest := []) X (c_x_G_isJoin he) ok_x_G_isJoin k_mn_Trial_162 rfl rfl hl.1 (Nat.le_of_ble_eq_true rfl) d_Trial_takeList_68 ⟨by decide, by decide⟩ hP hS (fun H locs hP hS => ?_)
        refine lv_if_eq (tgt := 78) hx hb d_Trial_takeList_71 (by decide) (fun c => ?_) (fun c => ?_)
        · have hf := if_t hf c
          exact w_x_Trial_takeList_b78 X hk24 _ _ _ hf H locs ls hP hS (lv_sub hl [0, 1, 2, 4] rfl)
        · have hf := if_f hf c
          refine lv_iconst (v := 1) hx hb d_Trial_takeList_74 (by decide) ?_
          refine lv_goto (tgt := 79) hx hb d_Trial_takeList_75 (by decide) ?_
          exact w_x_Trial_takeList_b79 X hk24 _ _ _ _ hf H locs ls hP hS (lv_sub hl [0, 1, 2, 4] rfl)
theorem w_x_Trial_takeList_b24 {z : St} (X : Cx b_Trial_takeList 6 none R_Trial D [(cI, .int), (cZ, .boolean), (cJ, .long)] (xA ao aa) (xW cI cZ cJ ao aa) p s m args meth c) : ∀ (n : Nat) (S : St) (x3 : Int32) (x4 : Int32) (x5 : Int32), x_Trial_takeList_b24 n S x3 x4 x5 = some z → WX rm_x_Trial_takeList D (xA ao aa) (xW cI cZ cJ ao aa) p l e s m args below meth c none z 24 [] 6 [(0, .ref (ao 25)), (2, .ref (ao 17)), (3, .int x3), (4, .int x4), (5, .int x5)] S
  | 0, _, _, _, _, hf => ns hf
  | n + 1, _, _, _, _, hf => w_x_Trial_takeList_b24_f X (w_x_Trial_takeList_b24 X n) _ _ _ _ hf
set_option maxHeartbeats 4000000 in
set_option maxRecDepth 100000 in
theorem w_x_Trial_takeList_b17 {z : St} (X : Cx b_Trial_takeList 6 none R_Trial D [(cI, .int), (cZ, .boolean), (cJ, .long)] (xA ao aa) (xW cI cZ cJ ao aa) p s m args meth c) (S : St) (s0 : Int32) (hf : x_Trial_takeList_b17 S s0 = some z) : WX rm_x_Trial_takeList D (xA ao aa) (xW cI cZ cJ ao aa) p l e s m args below meth c none z 17 [.int s0] 6 [(0, .ref (ao 25)), (2, .ref (ao 17))] S := by
  intro H locs ls hP hS hl
  obtain ⟨hx, hb, hr0, hml, hown, htg, hlk, hK, hN, hI⟩ := id X
  unfold x_Trial_takeList_b17 at hf
  refine lv_istore_n (lv' := [(3, .int s0), (0, .ref (ao 25)), (2, .ref (ao 17))]) hx hb d_Trial_takeList_17 rfl hl (by decide) rfl (fun ls hl => ?_)
  refine lv_iconst (v := 1) hx hb d_Trial_takeList_18 (by decide) ?_
  refine lv_istore (lv' := [(4, .int (1 : Int32)), (3, .int s0), (0, .ref (ao 25)), (2, .ref (ao 17))]) hx hb d_Trial_takeList_19 hl (by decide) rfl (fun ls hl => ?_)
  refine lv_iconst (v := 0) hx hb d_Trial_takeList_21 (by decide) ?_
  refine lv_istore (lv' := [(5, .int (0 : Int32)), (4, .int (1 : Int32)), (3, .int s0), (0, .ref (ao 25)), (2, .ref (ao 17))]) hx hb d_Trial_takeList_22 hl (by decide) rfl (fun ls hl => ?_)
  exact w_x_Trial_takeList_b24 X _ _ _ _ _ hf H locs ls hP hS (lv_sub hl [3, 4, 2, 1, 0] rfl)
set_option maxHeartbeats 4000000 in
set_option maxRecDepth 100000 in
theorem w_x_Trial_takeList_b96_1 {z : St} (X : Cx b_Trial_takeList 6 none R_Trial D [(cI, .int), (cZ, .boolean), (cJ, .long)] (xA ao aa) (xW cI cZ cJ ao aa) p s m args meth c) {k24 : St → Int32 → Int32 → Int32 → Option (St)} (hk24 : ∀ (S : St) (x3 : Int32) (x4 : Int32) (x5 : Int32), k24 S x3 x4 x5 = some z → WX rm_x_Trial_takeList D (xA ao aa) (xW cI cZ cJ ao aa) p l e s m args below meth c none z 24 [] 6 [(0, .ref (ao 25)), (2, .ref (ao 18)), (3, .int x3), (4, .int x4), (5, .int x5)] S) (S : St) (x3 : Int32) (x4 : Int32) (x5 : Int32) (hf : x_Trial_takeList_b96_1 k24 S x3 x4 x5 = some z) : WX rm_x_Trial_takeList D (xA ao aa) (xW cI cZ cJ ao aa) p l e s m args below meth c none z 96 [] 6 [(0, .ref (ao 25)), (2, .ref (ao 18)), (3, .int x3), (4, .int x4), (5, .int x5)] S := by
  intro H locs ls hP hS hl
  obtain ⟨hx, hb, hr0, hml, hown, htg, hlk, hK, hN, hI⟩ := id X
  unfold x_Trial_takeList_b96_1 at hf
  refine lv_iinc (v := (x5 + 1)) (lv' := [(5, .int (x5 + 1)), (0, .ref (ao 25)), (2, .ref (ao 18)), (3, .int x3), (4, .int x4)]) hx hb d_Trial_takeList_96 hl (k := 4) rfl rfl (by decide) rfl (fun ls hl => ?_)
  refine lv_goto (tgt := 24) hx hb d_Trial_takeList_99 (by decide) ?_
  exact hk24 _ _ _ _ hf H locs ls hP hS (lv_sub hl [1, 2, 3, 4, 0] rfl)
set_option maxHeartbeats 4000000 in
set_option maxRecDepth 100000 in
theorem w_x_Trial_takeList_b79_1 {z : St} (X : Cx b_Trial_takeList 6 none R_Trial D [(cI, .int), (cZ, .boolean), (cJ, .long)] (xA ao aa) (xW cI cZ cJ ao aa) p s m args meth c) {k24 : St → Int32 → Int32 → Int32 → Option (St)} (hk24 : ∀ (S : St) (x3 : Int32) (x4 : Int32) (x5 : Int32), k24 S x3 x4 x5 = some z → WX rm_x_Trial_takeList D (xA ao aa) (xW cI cZ cJ ao aa) p l e s m args below meth c none z 24 [] 6 [(0, .ref (ao 25)), (2, .ref (ao 18)), (3, .int x3), (4, .int x4), (5, .int x5)] S) (S : St) (x3 : Int32) (x5 : Int32) (s0 : Int32) (hf : x_Trial_takeList_b79_1 k24 S x3 x5 s0 = some z) : WX rm_x_Trial_takeList D (xA ao aa) (xW cI cZ cJ ao aa) p l e s m args below meth c none z 79 [.int s0] 6 [(0, .ref (ao 25)), (2, .ref (ao 18)), (3, .int x3), (5, .int x5)] S := by
  intro H locs ls hP hS hl
  obtain ⟨hx, hb, hr0, hml, hown, htg, hlk, hK, hN, hI⟩ := id X
  unfold x_Trial_takeList_b79_1 at hf
  refine lv_istore (lv' := [(4, .int s0), (0, .ref (ao 25)), (2, .ref (ao 18)), (3, .int x3), (5, .int x5)]) hx hb d_Trial_takeList_79 hl (by decide) rfl (fun ls hl => ?_)
  refine lv_iload hx hb d_Trial_takeList_81 (lv_at hl 0 rfl) ?_
  refine lv_if_eq (tgt := 96) hx hb d_Trial_takeList_83 (by decide) (fun c => ?_) (fun c => ?_)
  · have hf := if_t hf c
    exact w_x_Trial_takeList_b96_1 X hk24 _ _ _ _ hf H locs ls hP hS (lv_sub hl [1, 2, 3, 0, 4] rfl)
  · have hf := if_f hf c
    refine lv_aload_n hx hb d_Trial_takeList_86 rfl (lv_at hl 1 rfl) ?_
    refine lv_dup hx hb d_Trial_takeList_87 rfl ?_
    refine va_get (D := D) (v := .int (gI S 27)) hx hb htg in_Trial hown hK hP 25 xo_25 rfl 10 (by decide) (htg _ k_f_Trial_83) (fun _ h9 => h9) rfl d_Trial_takeList_88 ?_
    refine lv_iconst (v := 1) hx hb d_Trial_takeList_91 (by decide) ?_
    refine lv_iadd hx hb d_Trial_takeList_92 ?_
    refine va_put (D := D) (ty := .int) hx hb htg in_Trial t_Trial t_Trial_ok n_Trial hown hK hP (hI _) hS 25 xo_25 rfl 10 (by decide) (htg _ k_f_Trial_83) (fun _ h9 => h9) rfl (by decide +kernel) rfl rfl (Nat.le_of_ble_eq_true rfl) d_Trial_takeList_93 (fun H locs hP _ hS => ?_)
    replace hP : va_P D classes (xW cI cZ cJ ao aa (sI S 27 ((gI S 27) + (1 : Int32)))) H := pw xs_25_cursor hP
    exact w_x_Trial_takeList_b96_1 X hk24 _ _ _ _ hf H locs ls hP hS (lv_sub hl [1, 2, 3, 0, 4] rfl)
set_option maxHeartbeats 4000000 in
set_option maxRecDepth 100000 in
theorem w_x_Trial_takeList_b78_1 {z : St} (X : Cx b_Trial_takeList 6 none R_Trial D [(cI, .int), (cZ, .boolean), (cJ, .long)] (xA ao aa) (xW cI cZ cJ ao aa) p s m args meth c) {k24 : St → Int32 → Int32 → Int32 → Option (St)} (hk24 : ∀ (S : St) (x3 : Int32) (x4 : Int32) (x5 : Int32), k24 S x3 x4 x5 = some z → WX rm_x_Trial_takeList D (xA ao aa) (xW cI cZ cJ ao aa) p l e s m args below meth c none z 24 [] 6 [(0, .ref (ao 25)), (2, .ref (ao 18)), (3, .int x3), (4, .int x4), (5, .int x5)] S) (S : St) (x3 : Int32) (x5 : Int32) (hf : x_Trial_takeList_b78_1 k24 S x3 x5 = some z) : WX rm_x_Trial_takeList D (xA ao aa) (xW cI cZ cJ ao aa) p l e s m args below meth c none z 78 [] 6 [(0, .ref (ao 25)), (2, .ref (ao 18)), (3, .int x3), (5, .int x5)] S := by
  intro H locs ls hP hS hl
  obtain ⟨hx, hb, hr0, hml, hown, htg, hlk, hK, hN, hI⟩ := id X
  unfold x_Trial_takeList_b78_1 at hf
  refine lv_iconst (v := 0) hx hb d_Trial_takeList_78 (by decide) ?_
  exact w_x_Trial_takeList_b79_1 X hk24 _ _ _ _ hf H locs ls hP hS (lv_sub hl [0, 1, 2, 3] rfl)
set_option maxHeartbeats 4000000 in
set_option maxRecDepth 100000 in
theorem w_x_Trial_takeList_b24_1_f {z : St} (X : Cx b_Trial_takeList 6 none R_Trial D [(cI, .int), (cZ, .boolean), (cJ, .long)] (xA ao aa) (xW cI cZ cJ ao aa) p s m args meth c) {k24 : St → Int32 → Int32 → Int32 → Option (St)} (hk24 : ∀ (S : St) (x3 : Int32) (x4 : Int32) (x5 : Int32), k24 S x3 x4 x5 = some z → WX rm_x_Trial_takeList D (xA ao aa) (xW cI cZ cJ ao aa) p l e s m args below meth c none z 24 [] 6 [(0, .ref (ao 25)), (2, .ref (ao 18)), (3, .int x3), (4, .int x4), (5, .int x5)] S) (S : St) (x3 : Int32) (x4 : Int32) (x5 : Int32) (hf : x_Trial_takeList_b24_1_f k24 S x3 x4 x5 = some z) : WX rm_x_Trial_takeList D (xA ao aa) (xW cI cZ cJ ao aa) p l e s m args below meth c none z 24 [] 6 [(0, .ref (ao 25)), (2, .ref (ao 18)), (3, .int x3), (4, .int x4), (5, .int x5)] S := by
  intro H locs ls hP hS hl
  obtain ⟨hx, hb, hr0, hml, hown, htg, hlk, hK, hN, hI⟩ := id X
  unfold x_Trial_takeList_b24_1_f at hf
  refine lv_iload hx hb d_Trial_takeList_24 (lv_at hl 3 rfl) ?_
  refine lv_if_eq (tgt := 102) hx hb d_Trial_takeList_26 (by decide) (fun c => ?_) (fun c => ?_)
  · have hf := if_t hf c
    obtain rfl := Option.some.inj hf
    exact W.vret hx hb hr0 (fun t ht _ => ⟨⟨rfl, by rw [ht]; exact hP⟩, hS.F ht⟩) hS.2.2 d_Trial_takeList_102 hlk
  · have hf := if_f hf c
    refine lv_iload hx hb d_Trial_takeList_29 (lv_at hl 4 rfl) ?_
    refine lv_bipush (v := 60) hx hb d_Trial_takeList_31 (by decide) ?_
    refine lv_icmp_ge (tgt := 102) hx hb d_Trial_takeList_33 (by decide) (fun c => ?_) (fun c => ?_)
    · have hf := if_t hf c
      obtain rfl := Option.some.inj hf
      exact W.vret hx hb hr0 (fun t ht _ => ⟨⟨rfl, by rw [ht]; exact hP⟩, hS.F ht⟩) hS.2.2 d_Trial_takeList_102 hlk
    · have hf := if_f hf c
      refine lv_aload_n hx hb d_Trial_takeList_36 rfl (lv_at hl 1 rfl) ?_
      refine lv_dup hx hb d_Trial_takeList_37 rfl ?_
      refine va_getN (D := D) (v := .long (gL S 1)) hx hb htg in_Slot hown hK hP 18 xo_18 rfl 3 (by decide) (va_Nw.use rfl (hN _ k_fn_Trial_159)) (fun _ h9 => h9) rfl d_Trial_takeList_38 ?_
      refine lv_aload_n hx hb d_Trial_takeList_41 rfl (lv_at hl 0 rfl) ?_
      refine lv_iload_n hx hb d_Trial_takeList_42 rfl (lv_at hl 2 rfl) ?_
      obtain ⟨q5, he, hf⟩ := ob_some hf
      refine cl_Vl (As := [.int x3]) (rest := [.long (gL S 1), .ref (ao 18)]) X (c_x_Trial_findOne he) ok_x_Trial_findOne k_m_Trial_155 (va_recv hK hP rfl xo_25) rfl rfl hl.1 (Nat.le_of_ble_eq_true rfl) d_Trial_takeList_43 ⟨by decide, by decide⟩ hP hS (fun H locs hP hS => ?_)
      refine lv_lor hx hb d_Trial_takeList_46 ?_
      refine va_putN (D := D) (ty := .long) hx hb htg in_Slot t_Slot t_Slot_ok n_Slot hown hK hP (hI _) hS 18 xo_18 rfl 3 (by decide) (va_Nw.use rfl (hN _ k_fn_Trial_159)) (fun _ h9 => h9) rfl (by decide +kernel) rfl rfl (Nat.le_of_ble_eq_true rfl) d_Trial_takeList_47 (fun H locs hP _ hS => ?_)
      replace hP : va_P D classes (xW cI cZ cJ ao aa (sL q5.2 1 ((gL S 1) ||| q5.1))) H := pw xs_18_things hP
      refine lv_aload_n hx hb d_Trial_takeList_50 rfl (lv_at hl 0 rfl) ?_
      refine va_get (D := D) (v := .int (gI (sL q5.2 1 ((gL S 1) ||| q5.1)) 28)) hx hb htg in_Trial hown hK hP 25 xo_25 rfl 11 (by decide) (htg _ k_f_Trial_76) (fun _ h9 => h9) rfl d_Trial_takeList_51 ?_
      refine lv_if_ne (tgt := 78) hx hb d_Trial_takeList_54 (by decide) (fun c => ?_) (fun c => ?_)
      · have hf := if_f hf c
        exact w_x_Trial_takeList_b78_1 X hk24 _ _ _ hf H locs ls hP hS (lv_sub hl [0, 1, 2, 4] rfl)
      · have hf := if_t hf c
        refine lv_aload_n hx hb d_Trial_takeList_57 rfl (lv_at hl 0 rfl) ?_
        refine va_get (D := D) (v := .ref (ao 6)) hx hb htg in_Trial hown hK hP 25 xo_25 rfl 3 (by decide) (htg _ k_f_Trial_52) (fun _ h9 => h9) rfl d_Trial_takeList_58 ?_
        refine lv_aload_n hx hb d_Trial_takeList_61 rfl (lv_at hl 0 rfl) ?_
        refine va_get (D := D) (v := .int (gI (sL q5.2 1 ((gL S 1) ||| q5.1)) 27)) hx hb htg in_Trial hown hK hP 25 xo_25 rfl 10 (by decide) (htg _ k_f_Trial_83) (fun _ h9 => h9) rfl d_Trial_takeList_62 ?_
        obtain ⟨q6, he, hf⟩ := ob_some hf
        refine cl_Vi (As := [.int (gI (sL q5.2 1 ((gL S 1) ||| q5.1)) 27)]) (rest := []) X (c_x_Row_at (by decide : 6 < 17) he) ok_x_Row_at k_m_Trial_115 (va_recv hK hP rfl (xo_row (by decide : 6 < 17))) rfl rfl hl.1 (Nat.le_of_ble_eq_true rfl) d_Trial_takeList_65 ⟨by decide, by decide⟩ hP hS (fun H locs hP hS => ?_)
        obtain ⟨q7, he, hf⟩ := ob_some hf
        refine cl_Ti (As := [.int q6.1]) (rest := []) X (c_x_G_isJoin he) ok_x_G_isJoin k_mn_Trial_162 rfl rfl hl.1 (Nat.le_of_ble_eq_true rfl) d_Trial_takeList_68 ⟨by decide, by decide⟩ hP hS (fun H locs hP hS => ?_)
        refine lv_if_eq (tgt := 78) hx hb d_Trial_takeList_71 (by decide) (fun c => ?_) (fun c => ?_)
        · have hf := if_t hf c
          exact w_x_Trial_takeList_b78_1 X hk24 _ _ _ hf H locs ls hP hS (lv_sub hl [0, 1, 2, 4] rfl)
        · have hf := if_f hf c
          refine lv_iconst (v := 1) hx hb d_Trial_takeList_74 (by decide) ?_
          refine lv_goto (tgt := 79) hx hb d_Trial_takeList_75 (by decide) ?_
          exact w_x_Trial_takeList_b79_1 X hk24 _ _ _ _ hf H locs ls hP hS (lv_sub hl [0, 1, 2, 4] rfl)
theorem w_x_Trial_takeList_b24_1 {z : St} (X : Cx b_Trial_takeList 6 none R_Trial D [(cI, .int), (cZ, .boolean), (cJ, .long)] (xA ao aa) (xW cI cZ cJ ao aa) p s m args meth c) : ∀ (n : Nat) (S : St) (x3 : Int32) (x4 : Int32) (x5 : Int32), x_Trial_takeList_b24_1 n S x3 x4 x5 = some z → WX rm_x_Trial_takeList D (xA ao aa) (xW cI cZ cJ ao aa) p l e s m args below meth c none z 24 [] 6 [(0, .ref (ao 25)), (2, .ref (ao 18)), (3, .int x3), (4, .int x4), (5, .int x5)] S
  | 0, _, _, _, _, hf => ns hf
  | n + 1, _, _, _, _, hf => w_x_Trial_takeList_b24_1_f X (w_x_Trial_takeList_b24_1 X n) _ _ _ _ hf
set_option maxHeartbeats 4000000 in
set_option maxRecDepth 100000 in
theorem w_x_Trial_takeList_b17_1 {z : St} (X : Cx b_Trial_takeList 6 none R_Trial D [(cI, .int), (cZ, .boolean), (cJ, .long)] (xA ao aa) (xW cI cZ cJ ao aa) p s m args meth c) (S : St) (s0 : Int32) (hf : x_Trial_takeList_b17_1 S s0 = some z) : WX rm_x_Trial_takeList D (xA ao aa) (xW cI cZ cJ ao aa) p l e s m args below meth c none z 17 [.int s0] 6 [(0, .ref (ao 25)), (2, .ref (ao 18))] S := by
  intro H locs ls hP hS hl
  obtain ⟨hx, hb, hr0, hml, hown, htg, hlk, hK, hN, hI⟩ := id X
  unfold x_Trial_takeList_b17_1 at hf
  refine lv_istore_n (lv' := [(3, .int s0), (0, .ref (ao 25)), (2, .ref (ao 18))]) hx hb d_Trial_takeList_17 rfl hl (by decide) rfl (fun ls hl => ?_)
  refine lv_iconst (v := 1) hx hb d_Trial_takeList_18 (by decide) ?_
  refine lv_istore (lv' := [(4, .int (1 : Int32)), (3, .int s0), (0, .ref (ao 25)), (2, .ref (ao 18))]) hx hb d_Trial_takeList_19 hl (by decide) rfl (fun ls hl => ?_)
  refine lv_iconst (v := 0) hx hb d_Trial_takeList_21 (by decide) ?_
  refine lv_istore (lv' := [(5, .int (0 : Int32)), (4, .int (1 : Int32)), (3, .int s0), (0, .ref (ao 25)), (2, .ref (ao 18))]) hx hb d_Trial_takeList_22 hl (by decide) rfl (fun ls hl => ?_)
  exact w_x_Trial_takeList_b24_1 X _ _ _ _ _ hf H locs ls hP hS (lv_sub hl [3, 4, 2, 1, 0] rfl)
set_option maxHeartbeats 4000000 in
set_option maxRecDepth 100000 in
theorem w_x_Trial_takeList {z : St} (X : Cx b_Trial_takeList 6 none R_Trial D [(cI, .int), (cZ, .boolean), (cJ, .long)] (xA ao aa) (xW cI cZ cJ ao aa) p s m args meth c) (S : St) (x0 : Int32) (hf : x_Trial_takeList S x0 = some z) : WX rm_x_Trial_takeList D (xA ao aa) (xW cI cZ cJ ao aa) p l e s m args below meth c none z 0 [] 6 [(0, .ref (ao 25)), (1, .int x0)] S := by
  intro H locs ls hP hS hl
  obtain ⟨hx, hb, hr0, hml, hown, htg, hlk, hK, hN, hI⟩ := id X
  unfold x_Trial_takeList at hf
  refine lv_aload_n hx hb d_Trial_takeList_0 rfl (lv_at hl 0 rfl) ?_
  refine lv_iload_n hx hb d_Trial_takeList_1 rfl (lv_at hl 1 rfl) ?_
  obtain ⟨q1, he, hf⟩ := ob_some hf
  refine cl_Vr (As := [.int x0]) (rest := []) X (c_x_Trial_openSlot he) ok_x_Trial_openSlot k_m_Trial_140 (va_recv hK hP rfl xo_25) rfl rfl hl.1 (Nat.le_of_ble_eq_true rfl) d_Trial_takeList_2 ⟨by decide, by decide⟩ hP hS (fun H locs hP hS => ?_)
  by_cases c : q1.1 = 17
  · have hf := if_t hf c
    rw [c]
    refine lv_astore_n (lv' := [(2, .ref (ao 17)), (0, .ref (ao 25)), (1, .int x0)]) hx hb d_Trial_takeList_5 rfl hl (by decide) rfl (fun ls hl => ?_)
    refine lv_iload_n hx hb d_Trial_takeList_6 rfl (lv_at hl 2 rfl) ?_
    refine lv_bipush (v := 6) hx hb d_Trial_takeList_7 (by decide) ?_
    refine lv_icmp_ne (tgt := 16) hx hb d_Trial_takeList_9 (by decide) (fun c => ?_) (fun c => ?_)
    · have hf := if_f hf c
      refine lv_iconst (v := 3) hx hb d_Trial_takeList_16 (by decide) ?_
      exact w_x_Trial_takeList_b17 X _ _ hf H locs ls hP hS (lv_sub hl [1, 0] rfl)
    · have hf := if_t hf c
      refine lv_iconst (v := 2) hx hb d_Trial_takeList_12 (by decide) ?_
      refine lv_goto (tgt := 17) hx hb d_Trial_takeList_13 (by decide) ?_
      exact w_x_Trial_takeList_b17 X _ _ hf H locs ls hP hS (lv_sub hl [1, 0] rfl)
  have hf := if_f hf c
  by_cases c : q1.1 = 18
  · have hf := if_t hf c
    rw [c]
    refine lv_astore_n (lv' := [(2, .ref (ao 18)), (0, .ref (ao 25)), (1, .int x0)]) hx hb d_Trial_takeList_5 rfl hl (by decide) rfl (fun ls hl => ?_)
    refine lv_iload_n hx hb d_Trial_takeList_6 rfl (lv_at hl 2 rfl) ?_
    refine lv_bipush (v := 6) hx hb d_Trial_takeList_7 (by decide) ?_
    refine lv_icmp_ne (tgt := 16) hx hb d_Trial_takeList_9 (by decide) (fun c => ?_) (fun c => ?_)
    · have hf := if_f hf c
      refine lv_iconst (v := 3) hx hb d_Trial_takeList_16 (by decide) ?_
      exact w_x_Trial_takeList_b17_1 X _ _ hf H locs ls hP hS (lv_sub hl [1, 0] rfl)
    · have hf := if_t hf c
      refine lv_iconst (v := 2) hx hb d_Trial_takeList_12 (by decide) ?_
      refine lv_goto (tgt := 17) hx hb d_Trial_takeList_13 (by decide) ?_
      exact w_x_Trial_takeList_b17_1 X _ _ hf H locs ls hP hS (lv_sub hl [1, 0] rfl)
  have hf := if_f hf c
  exact ns hf
theorem c_x_Trial_takeList {l : Launch} {D : va_G} {cI cZ cJ : ClassId} {ao aa : Nat → Nat} {S : St} {x0 : Int32} {z : St} (hz : x_Trial_takeList S x0 = some z) : Ct l y_Trial_takeList (.code y_Trial_takeList b_Trial_takeList 6 none :: gw) rm_x_Trial_takeList D [(cI, .int), (cZ, .boolean), (cJ, .long)] (xA ao aa) (xW cI cZ cJ ao aa) [.ref (ao 25), .int x0] S none z :=
  Ct_of (by decide) (fun p e s m args below meth c X => w_x_Trial_takeList X _ _ hz) (Nat.le_of_ble_eq_true rfl)
end

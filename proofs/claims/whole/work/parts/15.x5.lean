section
variable {p : Program} {l : Launch} {e : Env} {s : State} {m : MethodId} {args : Array Value} {below : List Frame} {meth : Method} {c : Code} {D : va_G} {cI cZ cJ : ClassId} {ao aa : Nat → Nat}
def x_Trial_takeWord (S : St) (x0 : Int32) : Option (St) :=
  (x_Row_at 6 S (gI S 27)).bind fun q1 =>
  (x_Lines_takes q1.2 (gI S 26) x0 q1.1).bind fun q2 =>
  if q2.1 = 0 then
    (x_Trial_fail q2.2 (5 : Int32) (gI q2.2 27)).bind fun q3 =>
    some q3
  else
    some (sI q2.2 27 ((gI q2.2 27) + (1 : Int32)))
def rm_x_Trial_takeWord : Room := { frames := 3, cells := 0, slots := 0, locals := 68 }
theorem ok_x_Trial_takeWord : CalV y_Trial_takeWord b_Trial_takeWord 2 none 1 rm_x_Trial_takeWord := ⟨kc_Trial_takeWord, ki_Trial_takeWord, kl_Trial_takeWord, ji_Trial, ⟨by decide, by decide, by decide +kernel⟩, rfl, rfl⟩
set_option maxHeartbeats 4000000 in
set_option maxRecDepth 100000 in
theorem w_x_Trial_takeWord {z : St} (X : Cx b_Trial_takeWord 2 none R_Trial D [(cI, .int), (cZ, .boolean), (cJ, .long)] (xA ao aa) (xW cI cZ cJ ao aa) p s m args meth c) (S : St) (x0 : Int32) (hf : x_Trial_takeWord S x0 = some z) : WX rm_x_Trial_takeWord D (xA ao aa) (xW cI cZ cJ ao aa) p l e s m args below meth c none z 0 [] 2 [(0, .ref (ao 25)), (1, .int x0)] S := by
  intro H locs ls hP hS hl
  obtain ⟨hx, hb, hr0, hml, hown, htg, hlk, hK, hN, hI⟩ := id X
  unfold x_Trial_takeWord at hf
  refine lv_aload_n hx hb d_Trial_takeWord_0 rfl (lv_at hl 0 rfl) ?_
  refine va_get (D := D) (v := .ref (ao 23)) hx hb htg in_Trial hown hK hP 25 xo_25 rfl 1 (by decide) (htg _ k_f_Trial_44) (fun _ h9 => h9) rfl d_Trial_takeWord_1 ?_
  refine lv_aload_n hx hb d_Trial_takeWord_4 rfl (lv_at hl 0 rfl) ?_
  refine va_get (D := D) (v := .int (gI S 26)) hx hb htg in_Trial hown hK hP 25 xo_25 rfl 9 (by decide) (htg _ k_f_Trial_33) (fun _ h9 => h9) rfl d_Trial_takeWord_5 ?_
  refine lv_iload_n hx hb d_Trial_takeWord_8 rfl (lv_at hl 1 rfl) ?_
  refine lv_aload_n hx hb d_Trial_takeWord_9 rfl (lv_at hl 0 rfl) ?_
  refine va_get (D := D) (v := .ref (ao 6)) hx hb htg in_Trial hown hK hP 25 xo_25 rfl 3 (by decide) (htg _ k_f_Trial_52) (fun _ h9 => h9) rfl d_Trial_takeWord_10 ?_
  refine lv_aload_n hx hb d_Trial_takeWord_13 rfl (lv_at hl 0 rfl) ?_
  refine va_get (D := D) (v := .int (gI S 27)) hx hb htg in_Trial hown hK hP 25 xo_25 rfl 10 (by decide) (htg _ k_f_Trial_83) (fun _ h9 => h9) rfl d_Trial_takeWord_14 ?_
  obtain ⟨q1, he, hf⟩ := ob_some hf
  refine cl_Vi (As := [.int (gI S 27)]) (rest := [.int x0, .int (gI S 26), .ref (ao 23)]) X (c_x_Row_at (by decide : 6 < 17) he) ok_x_Row_at k_m_Trial_115 (va_recv hK hP rfl (xo_row (by decide : 6 < 17))) rfl rfl hl.1 (Nat.le_of_ble_eq_true rfl) d_Trial_takeWord_17 ⟨by decide, by decide⟩ hP hS (fun H locs hP hS => ?_)
  obtain ⟨q2, he, hf⟩ := ob_some hf
  refine cl_Vi (As := [.int (gI S 26), .int x0, .int q1.1]) (rest := []) X (c_x_Lines_takes he) ok_x_Lines_takes k_m_Trial_132 (va_recv hK hP rfl xo_23) rfl rfl hl.1 (Nat.le_of_ble_eq_true rfl) d_Trial_takeWord_20 ⟨by decide, by decide⟩ hP hS (fun H locs hP hS => ?_)
  refine lv_if_eq (tgt := 39) hx hb d_Trial_takeWord_23 (by decide) (fun c => ?_) (fun c => ?_)
  · have hf := if_t hf c
    refine lv_aload_n hx hb d_Trial_takeWord_39 rfl (lv_at hl 0 rfl) ?_
    refine lv_iconst (v := 5) hx hb d_Trial_takeWord_40 (by decide) ?_
    refine lv_aload_n hx hb d_Trial_takeWord_41 rfl (lv_at hl 0 rfl) ?_
    refine va_get (D := D) (v := .int (gI q2.2 27)) hx hb htg in_Trial hown hK hP 25 xo_25 rfl 10 (by decide) (htg _ k_f_Trial_83) (fun _ h9 => h9) rfl d_Trial_takeWord_42 ?_
    obtain ⟨q3, he, hf⟩ := ob_some hf
    refine cl_Vv (As := [.int (5 : Int32), .int (gI q2.2 27)]) (rest := []) X (c_x_Trial_fail he) ok_x_Trial_fail k_m_Trial_136 (va_recv hK hP rfl xo_25) rfl rfl hl.1 (Nat.le_of_ble_eq_true rfl) d_Trial_takeWord_45 ⟨by decide, by decide⟩ hP hS (fun H locs hP hS => ?_)
    obtain rfl := Option.some.inj hf
    exact W.vret hx hb hr0 (fun t ht _ => ⟨⟨rfl, by rw [ht]; exact hP⟩, hS.F ht⟩) hS.2.2 d_Trial_takeWord_48 hlk
  · have hf := if_f hf c
    refine lv_aload_n hx hb d_Trial_takeWord_26 rfl (lv_at hl 0 rfl) ?_
    refine lv_dup hx hb d_Trial_takeWord_27 rfl ?_
    refine va_get (D := D) (v := .int (gI q2.2 27)) hx hb htg in_Trial hown hK hP 25 xo_25 rfl 10 (by decide) (htg _ k_f_Trial_83) (fun _ h9 => h9) rfl d_Trial_takeWord_28 ?_
    refine lv_iconst (v := 1) hx hb d_Trial_takeWord_31 (by decide) ?_
    refine lv_iadd hx hb d_Trial_takeWord_32 ?_
    refine va_put (D := D) (ty := .int) hx hb htg in_Trial t_Trial t_Trial_ok n_Trial hown hK hP (hI _) hS 25 xo_25 rfl 10 (by decide) (htg _ k_f_Trial_83) (fun _ h9 => h9) rfl (by decide +kernel) rfl rfl (Nat.le_of_ble_eq_true rfl) d_Trial_takeWord_33 (fun H locs hP _ hS => ?_)
    replace hP : va_P D classes (xW cI cZ cJ ao aa (sI q2.2 27 ((gI q2.2 27) + (1 : Int32)))) H := pw xs_25_cursor hP
    refine lv_goto (tgt := 48) hx hb d_Trial_takeWord_36 (by decide) ?_
    obtain rfl := Option.some.inj hf
    exact W.vret hx hb hr0 (fun t ht _ => ⟨⟨rfl, by rw [ht]; exact hP⟩, hS.F ht⟩) hS.2.2 d_Trial_takeWord_48 hlk
theorem c_x_Trial_takeWord {l : Launch} {D : va_G} {cI cZ cJ : ClassId} {ao aa : Nat → Nat} {S : St} {x0 : Int32} {z : St} (hz : x_Trial_takeWord S x0 = some z) : Ct l y_Trial_takeWord (.code y_Trial_takeWord b_Trial_takeWord 2 none :: gw) rm_x_Trial_takeWord D [(cI, .int), (cZ, .boolean), (cJ, .long)] (xA ao aa) (xW cI cZ cJ ao aa) [.ref (ao 25), .int x0] S none z :=
  Ct_of (by decide) (fun p e s m args below meth c X => w_x_Trial_takeWord X _ _ hz) (Nat.le_of_ble_eq_true rfl)
def x_Lines_slotFrom_b2_f (k2 : St → Int32 → Int32 → Option (Int32 × St)) (S : St) (x1 : Int32) (x3 : Int32) : Option (Int32 × St) :=
  (x_Lines_kindsOf S x1).bind fun q1 =>
  if q1.1 ≤ x3 then
    some ((-1 : Int32), q1.2)
  else
    (x_Lines_kindAt q1.2 x1 x3).bind fun q2 =>
    (x_G_isSlot q2.2 q2.1).bind fun q3 =>
    if q3.1 = 0 then
      k2 q3.2 x1 (x3 + 1)
    else
      some (x3, q3.2)
def x_Lines_slotFrom_b2 : Nat → St → Int32 → Int32 → Option (Int32 × St)
  | 0, _, _, _ => none
  | n + 1, S, x1, x3 => x_Lines_slotFrom_b2_f (x_Lines_slotFrom_b2 n) S x1 x3
def x_Lines_slotFrom (S : St) (x0 : Int32) (x1 : Int32) : Option (Int32 × St) :=
  x_Lines_slotFrom_b2 fu S x0 x1
def rm_x_Lines_slotFrom : Room := { frames := 2, cells := 0, slots := 0, locals := 43 }
theorem ok_x_Lines_slotFrom : CalV y_Lines_slotFrom b_Lines_slotFrom 4 (some .int) 2 rm_x_Lines_slotFrom := ⟨kc_Lines_slotFrom, ki_Lines_slotFrom, kl_Lines_slotFrom, ji_Lines, ⟨by decide, by decide, by decide +kernel⟩, rfl, rfl⟩
set_option maxHeartbeats 4000000 in
set_option maxRecDepth 100000 in
theorem w_x_Lines_slotFrom_b2_f {z : Int32 × St} (X : Cx b_Lines_slotFrom 4 (some .int) R_Lines D [(cI, .int), (cZ, .boolean), (cJ, .long)] (xA ao aa) (xW cI cZ cJ ao aa) p s m args meth c) {k2 : St → Int32 → Int32 → Option (Int32 × St)} (hk2 : ∀ (S : St) (x1 : Int32) (x3 : Int32), k2 S x1 x3 = some z → WX rm_x_Lines_slotFrom D (xA ao aa) (xW cI cZ cJ ao aa) p l e s m args below meth c (some (.int z.1)) z.2 2 [] 4 [(0, .ref (ao 23)), (1, .int x1), (3, .int x3)] S) (S : St) (x1 : Int32) (x3 : Int32) (hf : x_Lines_slotFrom_b2_f k2 S x1 x3 = some z) : WX rm_x_Lines_slotFrom D (xA ao aa) (xW cI cZ cJ ao aa) p l e s m args below meth c (some (.int z.1)) z.2 2 [] 4 [(0, .ref (ao 23)), (1, .int x1), (3, .int x3)] S := by
  intro H locs ls hP hS hl
  obtain ⟨hx, hb, hr0, hml, hown, htg, hlk, hK, hN, hI⟩ := id X
  unfold x_Lines_slotFrom_b2_f at hf
  refine lv_iload_n hx hb d_Lines_slotFrom_2 rfl (lv_at hl 2 rfl) ?_
  refine lv_aload_n hx hb d_Lines_slotFrom_3 rfl (lv_at hl 0 rfl) ?_
  refine lv_iload_n hx hb d_Lines_slotFrom_4 rfl (lv_at hl 1 rfl) ?_
  obtain ⟨q1, he, hf⟩ := ob_some hf
  refine cl_Vi (As := [.int x1]) (rest := [.int x3]) X (c_x_Lines_kindsOf he) ok_x_Lines_kindsOf k_m_Lines_43 (va_recv hK hP rfl xo_23) rfl rfl hl.1 (Nat.le_of_ble_eq_true rfl) d_Lines_slotFrom_5 ⟨by decide, by decide⟩ hP hS (fun H locs hP hS => ?_)
  refine lv_icmp_ge (tgt := 31) hx hb d_Lines_slotFrom_8 (by decide) (fun c => ?_) (fun c => ?_)
  · have hf := if_t hf c
    refine lv_iconst (v := (-1)) hx hb d_Lines_slotFrom_31 (by decide) ?_
    obtain rfl := Option.some.inj hf
    exact W.iret hx hb hr0 (fun t ht _ => ⟨⟨rfl, by rw [ht]; exact hP⟩, hS.F ht⟩) hS.2.2 d_Lines_slotFrom_32 hlk
  · have hf := if_f hf c
    refine lv_aload_n hx hb d_Lines_slotFrom_11 rfl (lv_at hl 0 rfl) ?_
    refine lv_iload_n hx hb d_Lines_slotFrom_12 rfl (lv_at hl 1 rfl) ?_
    refine lv_iload_n hx hb d_Lines_slotFrom_13 rfl (lv_at hl 2 rfl) ?_
    obtain ⟨q2, he, hf⟩ := ob_some hf
    refine cl_Vi (As := [.int x1, .int x3]) (rest := []) X (c_x_Lines_kindAt he) ok_x_Lines_kindAt k_m_Lines_47 (va_recv hK hP rfl xo_23) rfl rfl hl.1 (Nat.le_of_ble_eq_true rfl) d_Lines_slotFrom_14 ⟨by decide, by decide⟩ hP hS (fun H locs hP hS => ?_)
    obtain ⟨q3, he, hf⟩ := ob_some hf
    refine cl_Ti (As := [.int q2.1]) (rest := []) X (c_x_G_isSlot he) ok_x_G_isSlot k_mn_Lines_51 rfl rfl hl.1 (Nat.le_of_ble_eq_true rfl) d_Lines_slotFrom_17 ⟨by decide, by decide⟩ hP hS (fun H locs hP hS => ?_)
    refine lv_if_eq (tgt := 25) hx hb d_Lines_slotFrom_20 (by decide) (fun c => ?_) (fun c => ?_)
    · have hf := if_t hf c
      refine lv_iinc (v := (x3 + 1)) (lv' := [(3, .int (x3 + 1)), (0, .ref (ao 23)), (1, .int x1)]) hx hb d_Lines_slotFrom_25 hl (k := 2) rfl rfl (by decide) rfl (fun ls hl => ?_)
      refine lv_goto (tgt := 2) hx hb d_Lines_slotFrom_28 (by decide) ?_
      exact hk2 _ _ _ hf H locs ls hP hS (lv_sub hl [1, 2, 0] rfl)
    · have hf := if_f hf c
      refine lv_iload_n hx hb d_Lines_slotFrom_23 rfl (lv_at hl 2 rfl) ?_
      obtain rfl := Option.some.inj hf
      exact W.iret hx hb hr0 (fun t ht _ => ⟨⟨rfl, by rw [ht]; exact hP⟩, hS.F ht⟩) hS.2.2 d_Lines_slotFrom_24 hlk
theorem w_x_Lines_slotFrom_b2 {z : Int32 × St} (X : Cx b_Lines_slotFrom 4 (some .int) R_Lines D [(cI, .int), (cZ, .boolean), (cJ, .long)] (xA ao aa) (xW cI cZ cJ ao aa) p s m args meth c) : ∀ (n : Nat) (S : St) (x1 : Int32) (x3 : Int32), x_Lines_slotFrom_b2 n S x1 x3 = some z → WX rm_x_Lines_slotFrom D (xA ao aa) (xW cI cZ cJ ao aa) p l e s m args below meth c (some (.int z.1)) z.2 2 [] 4 [(0, .ref (ao 23)), (1, .int x1), (3, .int x3)] S
  | 0, _, _, _, hf => ns hf
  | n + 1, _, _, _, hf => w_x_Lines_slotFrom_b2_f X (w_x_Lines_slotFrom_b2 X n) _ _ _ hf
set_option maxHeartbeats 4000000 in
set_option maxRecDepth 100000 in
theorem w_x_Lines_slotFrom {z : Int32 × St} (X : Cx b_Lines_slotFrom 4 (some .int) R_Lines D [(cI, .int), (cZ, .boolean), (cJ, .long)] (xA ao aa) (xW cI cZ cJ ao aa) p s m args meth c) (S : St) (x0 : Int32) (x1 : Int32) (hf : x_Lines_slotFrom S x0 x1 = some z) : WX rm_x_Lines_slotFrom D (xA ao aa) (xW cI cZ cJ ao aa) p l e s m args below meth c (some (.int z.1)) z.2 0 [] 4 [(0, .ref (ao 23)), (1, .int x0), (2, .int x1)] S := by
  intro H locs ls hP hS hl
  obtain ⟨hx, hb, hr0, hml, hown, htg, hlk, hK, hN, hI⟩ := id X
  unfold x_Lines_slotFrom at hf
  refine lv_iload_n hx hb d_Lines_slotFrom_0 rfl (lv_at hl 2 rfl) ?_
  refine lv_istore_n (lv' := [(3, .int x1), (0, .ref (ao 23)), (1, .int x0), (2, .int x1)]) hx hb d_Lines_slotFrom_1 rfl hl (by decide) rfl (fun ls hl => ?_)
  exact w_x_Lines_slotFrom_b2 X _ _ _ _ hf H locs ls hP hS (lv_sub hl [1, 2, 0] rfl)
theorem c_x_Lines_slotFrom {l : Launch} {D : va_G} {cI cZ cJ : ClassId} {ao aa : Nat → Nat} {S : St} {x0 : Int32} {x1 : Int32} {z : Int32 × St} (hz : x_Lines_slotFrom S x0 x1 = some z) : Ct l y_Lines_slotFrom (.code y_Lines_slotFrom b_Lines_slotFrom 4 (some .int) :: gw) rm_x_Lines_slotFrom D [(cI, .int), (cZ, .boolean), (cJ, .long)] (xA ao aa) (xW cI cZ cJ ao aa) [.ref (ao 23), .int x0, .int x1] S (some (.int z.1)) z.2 :=
  Ct_of (by decide) (fun p e s m args below meth c X => w_x_Lines_slotFrom X _ _ _ hz) (Nat.le_of_ble_eq_true rfl)
def x_Things_fillersFor (S : St) (x0 : Int32) : Option (Int64 × St) :=
  if x0.toInt < 2 ∨ 5 < x0.toInt then
    some ((0 : Int64), S)
  else
  if x0 = (2 : Int32) then
    some (((gL S 4) &&& ((gL S 7) ^^^ (-1 : Int64))), S)
  else
  if x0 = (3 : Int32) then
    some (((gL S 5) &&& ((gL S 7) ^^^ (-1 : Int64))), S)
  else
  if x0 = (4 : Int32) then
    some ((gL S 6), S)
  else
  if x0 = (5 : Int32) then
    some (((gL S 4) &&& (gL S 7)), S)
  else
  none
def rm_x_Things_fillersFor : Room := { frames := 0, cells := 0, slots := 0, locals := 0 }
theorem ok_x_Things_fillersFor : CalV y_Things_fillersFor b_Things_fillersFor 2 (some .long) 1 rm_x_Things_fillersFor := ⟨kc_Things_fillersFor, ki_Things_fillersFor, kl_Things_fillersFor, ji_Things, ⟨by decide, by decide, by decide +kernel⟩, rfl, rfl⟩
set_option maxHeartbeats 4000000 in
set_option maxRecDepth 100000 in
theorem w_x_Things_fillersFor {z : Int64 × St} (X : Cx b_Things_fillersFor 2 (some .long) R_Things D [(cI, .int), (cZ, .boolean), (cJ, .long)] (xA ao aa) (xW cI cZ cJ ao aa) p s m args meth c) (S : St) (x0 : Int32) (hf : x_Things_fillersFor S x0 = some z) : WX rm_x_Things_fillersFor D (xA ao aa) (xW cI cZ cJ ao aa) p l e s m args below meth c (some (.long z.1)) z.2 0 [] 2 [(0, .ref (ao 21)), (1, .int x0)] S := by
  intro H locs ls hP hS hl
  obtain ⟨hx, hb, hr0, hml, hown, htg, hlk, hK, hN, hI⟩ := id X
  unfold x_Things_fillersFor at hf
  refine lv_iload_n hx hb d_Things_fillersFor_0 rfl (lv_at hl 1 rfl) ?_
  by_cases c : x0.toInt < 2 ∨ 5 < x0.toInt
  · have hf := if_t hf c
    refine lv_tableOut (tgt := 75) hx hb d_Things_fillersFor_1 c (by decide) ?_
    refine lv_lconst (v := 0) hx hb d_Things_fillersFor_75 (by decide) ?_
    obtain rfl := Option.some.inj hf
    exact W.lret hx hb hr0 (fun t ht _ => ⟨⟨rfl, by rw [ht]; exact hP⟩, hS.F ht⟩) hS.2.2 d_Things_fillersFor_76 hlk
  have hf := if_f hf c
  by_cases c : x0 = (2 : Int32)
  · have hf := if_t hf c
    refine lv_tableIn (off := 31) (tgt := 32) hx hb d_Things_fillersFor_1 (by rw [c]; decide) (by rw [c]; decide) (by rw [c]; rfl) (by decide) ?_
    refine lv_aload_n hx hb d_Things_fillersFor_32 rfl (lv_at hl 0 rfl) ?_
    refine va_get (D := D) (v := .long (gL S 4)) hx hb htg in_Things hown hK hP 21 xo_21 rfl 4 (by decide) (htg _ k_f_Things_41) (fun _ h9 => h9) rfl d_Things_fillersFor_33 ?_
    refine lv_aload_n hx hb d_Things_fillersFor_36 rfl (lv_at hl 0 rfl) ?_
    refine va_get (D := D) (v := .long (gL S 7)) hx hb htg in_Things hown hK hP 21 xo_21 rfl 7 (by decide) (htg _ k_f_Things_51) (fun _ h9 => h9) rfl d_Things_fillersFor_37 ?_
    refine lv_ldc2 (v := (-1)) hx hb hown (htg _ k_cl_Things_62) d_Things_fillersFor_40 ?_
    refine lv_lxor hx hb d_Things_fillersFor_43 ?_
    refine lv_land hx hb d_Things_fillersFor_44 ?_
    obtain rfl := Option.some.inj hf
    exact W.lret hx hb hr0 (fun t ht _ => ⟨⟨rfl, by rw [ht]; exact hP⟩, hS.F ht⟩) hS.2.2 d_Things_fillersFor_45 hlk
  have hf := if_f hf c
  by_cases c : x0 = (3 : Int32)
  · have hf := if_t hf c
    refine lv_tableIn (off := 45) (tgt := 46) hx hb d_Things_fillersFor_1 (by rw [c]; decide) (by rw [c]; decide) (by rw [c]; rfl) (by decide) ?_
    refine lv_aload_n hx hb d_Things_fillersFor_46 rfl (lv_at hl 0 rfl) ?_
    refine va_get (D := D) (v := .long (gL S 5)) hx hb htg in_Things hown hK hP 21 xo_21 rfl 5 (by decide) (htg _ k_f_Things_45) (fun _ h9 => h9) rfl d_Things_fillersFor_47 ?_
    refine lv_aload_n hx hb d_Things_fillersFor_50 rfl (lv_at hl 0 rfl) ?_
    refine va_get (D := D) (v := .long (gL S 7)) hx hb htg in_Things hown hK hP 21 xo_21 rfl 7 (by decide) (htg _ k_f_Things_51) (fun _ h9 => h9) rfl d_Things_fillersFor_51 ?_
    refine lv_ldc2 (v := (-1)) hx hb hown (htg _ k_cl_Things_62) d_Things_fillersFor_54 ?_
    refine lv_lxor hx hb d_Things_fillersFor_57 ?_
    refine lv_land hx hb d_Things_fillersFor_58 ?_
    obtain rfl := Option.some.inj hf
    exact W.lret hx hb hr0 (fun t ht _ => ⟨⟨rfl, by rw [ht]; exact hP⟩, hS.F ht⟩) hS.2.2 d_Things_fillersFor_59 hlk
  have hf := if_f hf c
  by_cases c : x0 = (4 : Int32)
  · have hf := if_t hf c
    refine lv_tableIn (off := 59) (tgt := 60) hx hb d_Things_fillersFor_1 (by rw [c]; decide) (by rw [c]; decide) (by rw [c]; rfl) (by decide) ?_
    refine lv_aload_n hx hb d_Things_fillersFor_60 rfl (lv_at hl 0 rfl) ?_
    refine va_get (D := D) (v := .long (gL S 6)) hx hb htg in_Things hown hK hP 21 xo_21 rfl 6 (by decide) (htg _ k_f_Things_48) (fun _ h9 => h9) rfl d_Things_fillersFor_61 ?_
    obtain rfl := Option.some.inj hf
    exact W.lret hx hb hr0 (fun t ht _ => ⟨⟨rfl, by rw [ht]; exact hP⟩, hS.F ht⟩) hS.2.2 d_Things_fillersFor_64 hlk
  have hf := if_f hf c
  by_cases c : x0 = (5 : Int32)
  · have hf := if_t hf c
    refine lv_tableIn (off := 64) (tgt := 65) hx hb d_Things_fillersFor_1 (by rw [c]; decide) (by rw [c]; decide) (by rw [c]; rfl) (by decide) ?_
    refine lv_aload_n hx hb d_Things_fillersFor_65 rfl (lv_at hl 0 rfl) ?_
    refine va_get (D := D) (v := .long (gL S 4)) hx hb htg in_Things hown hK hP 21 xo_21 rfl 4 (by decide) (htg _ k_f_Things_41) (fun _ h9 => h9) rfl d_Things_fillersFor_66 ?_
    refine lv_aload_n hx hb d_Things_fillersFor_69 rfl (lv_at hl 0 rfl) ?_
    refine va_get (D := D) (v := .long (gL S 7)) hx hb htg in_Things hown hK hP 21 xo_21 rfl 7 (by decide) (htg _ k_f_Things_51) (fun _ h9 => h9) rfl d_Things_fillersFor_70 ?_
    refine lv_land hx hb d_Things_fillersFor_73 ?_
    obtain rfl := Option.some.inj hf
    exact W.lret hx hb hr0 (fun t ht _ => ⟨⟨rfl, by rw [ht]; exact hP⟩, hS.F ht⟩) hS.2.2 d_Things_fillersFor_74 hlk
  have hf := if_f hf c
  exact ns hf
theorem c_x_Things_fillersFor {l : Launch} {D : va_G} {cI cZ cJ : ClassId} {ao aa : Nat → Nat} {S : St} {x0 : Int32} {z : Int64 × St} (hz : x_Things_fillersFor S x0 = some z) : Ct l y_Things_fillersFor (.code y_Things_fillersFor b_Things_fillersFor 2 (some .long) :: gw) rm_x_Things_fillersFor D [(cI, .int), (cZ, .boolean), (cJ, .long)] (xA ao aa) (xW cI cZ cJ ao aa) [.ref (ao 21), .int x0] S (some (.long z.1)) z.2 :=
  Ct_of (by decide) (fun p e s m args below meth c X => w_x_Things_fillersFor X _ _ hz) (Nat.le_of_ble_eq_true rfl)
def x_Trial_fillFrom_b134 (k2 : St → Int32 → Option (Int32 × St)) (S : St) (x2 : Int32) : Option (Int32 × St) :=
  k2 S (x2 + 1)
def x_Trial_fillFrom_b2_f (k2 : St → Int32 → Option (Int32 × St)) (S : St) (x2 : Int32) : Option (Int32 × St) :=
  (x_Lines_kindsOf S (gI S 26)).bind fun q1 =>
  if q1.1 ≤ x2 then
    some ((1 : Int32), q1.2)
  else
    (x_Lines_kindAt q1.2 (gI q1.2 26) x2).bind fun q2 =>
    if q2.1 = 0 then
      (x_Lines_ofAt q2.2 (gI q2.2 26) x2).bind fun q11 =>
      (x_Row_add 11 q11.2 q11.1).bind fun q12 =>
      x_Trial_fillFrom_b134 k2 q12 x2
    else
      (x_G_isSlot q2.2 q2.1).bind fun q3 =>
      if q3.1 = 0 then
        x_Trial_fillFrom_b134 k2 q3.2 x2
      else
        (x_Things_fillersFor q3.2 q2.1).bind fun q4 =>
        (x_JLong_bitCount q4.2 (q4.1 &&& (((gL q4.2 0) ||| (gL q4.2 1)) ^^^ (-1 : Int64)))).bind fun q5 =>
        if q5.1 = (1 : Int32) then
          (x_Trial_openSlot q5.2 q2.1).bind fun q6 =>
          if q6.1 = 17 then
            (x_Things_firstOf (sL q6.2 0 (q4.1 &&& (((gL q4.2 0) ||| (gL q4.2 1)) ^^^ (-1 : Int64)))) (q4.1 &&& (((gL q4.2 0) ||| (gL q4.2 1)) ^^^ (-1 : Int64)))).bind fun q7 =>
            (x_Row_add 11 q7.2 ((20000 : Int32) + q7.1)).bind fun q8 =>
            x_Trial_fillFrom_b134 k2 q8 x2
          else
          if q6.1 = 18 then
            (x_Things_firstOf (sL q6.2 1 (q4.1 &&& (((gL q4.2 0) ||| (gL q4.2 1)) ^^^ (-1 : Int64)))) (q4.1 &&& (((gL q4.2 0) ||| (gL q4.2 1)) ^^^ (-1 : Int64)))).bind fun q9 =>
            (x_Row_add 11 q9.2 ((20000 : Int32) + q9.1)).bind fun q10 =>
            x_Trial_fillFrom_b134 k2 q10 x2
          else
          none
        else
          some ((0 : Int32), q5.2)
def x_Trial_fillFrom_b2 : Nat → St → Int32 → Option (Int32 × St)
  | 0, _, _ => none
  | n + 1, S, x2 => x_Trial_fillFrom_b2_f (x_Trial_fillFrom_b2 n) S x2
def x_Trial_fillFrom (S : St) (x0 : Int32) : Option (Int32 × St) :=
  x_Trial_fillFrom_b2 fu S x0
def rm_x_Trial_fillFrom : Room := { frames := 2, cells := 0, slots := 0, locals := 43 }
theorem ok_x_Trial_fillFrom : CalV y_Trial_fillFrom b_Trial_fillFrom 6 (some .boolean) 1 rm_x_Trial_fillFrom := ⟨kc_Trial_fillFrom, ki_Trial_fillFrom, kl_Trial_fillFrom, ji_Trial, ⟨by decide, by decide, by decide +kernel⟩, rfl, rfl⟩
set_option maxHeartbeats 4000000 in
set_option maxRecDepth 100000 in
theorem w_x_Trial_fillFrom_b134 {z : Int32 × St} (X : Cx b_Trial_fillFrom 6 (some .boolean) R_Trial D [(cI, .int), (cZ, .boolean), (cJ, .long)] (xA ao aa) (xW cI cZ cJ ao aa) p s m args meth c) {k2 : St → Int32 → Option (Int32 × St)} (hk2 : ∀ (S : St) (x2 : Int32), k2 S x2 = some z → WX rm_x_Trial_fillFrom D (xA ao aa) (xW cI cZ cJ ao aa) p l e s m args below meth c (some (.int z.1)) z.2 2 [] 6 [(0, .ref (ao 25)), (2, .int x2)] S) (S : St) (x2 : Int32) (hf : x_Trial_fillFrom_b134 k2 S x2 = some z) : WX rm_x_Trial_fillFrom D (xA ao aa) (xW cI cZ cJ ao aa) p l e s m args below meth c (some (.int z.1)) z.2 134 [] 6 [(0, .ref (ao 25)), (2, .int x2)] S := by
  intro H locs ls hP hS hl
  obtain ⟨hx, hb, hr0, hml, hown, htg, hlk, hK, hN, hI⟩ := id X
  unfold x_Trial_fillFrom_b134 at hf
  refine lv_iinc (v := (x2 + 1)) (lv' := [(2, .int (x2 + 1)), (0, .ref (ao 25))]) hx hb d_Trial_fillFrom_134 hl (k := 1) rfl rfl (by decide) rfl (fun ls hl => ?_)
  refine lv_goto (tgt := 2) hx hb d_Trial_fillFrom_137 (by decide) ?_
  exact hk2 _ _ hf H locs ls hP hS (lv_sub hl [1, 0] rfl)
set_option maxHeartbeats 4000000 in
set_option maxRecDepth 100000 in
theorem w_x_Trial_fillFrom_b2_f {z : Int32 × St} (X : Cx b_Trial_fillFrom 6 (some .boolean) R_Trial D [(cI, .int), (cZ, .boolean), (cJ, .long)] (xA ao aa) (xW cI cZ cJ ao aa) p s m args meth c) {k2 : St → Int32 → Option (Int32 × St)} (hk2 : ∀ (S : St) (x2 : Int32), k2 S x2 = some z → WX rm_x_Trial_fillFrom D (xA ao aa) (xW cI cZ cJ ao aa) p l e s m args below meth c (some (.int z.1)) z.2 2 [] 6 [(0, .ref (ao 25)), (2, .int x2)] S) (S : St) (x2 : Int32) (hf : x_Trial_fillFrom_b2_f k2 S x2 = some z) : WX rm_x_Trial_fillFrom D (xA ao aa) (xW cI cZ cJ ao aa) p l e s m args below meth c (some (.int z.1)) z.2 2 [] 6 [(0, .ref (ao 25)), (2, .int x2)] S := by
  intro H locs ls hP hS hl
  obtain ⟨hx, hb, hr0, hml, hown, htg, hlk, hK, hN, hI⟩ := id X
  unfold x_Trial_fillFrom_b2_f at hf
  refine lv_iload_n hx hb d_Trial_fillFrom_2 rfl (lv_at hl 1 rfl) ?_
  refine lv_aload_n hx hb d_Trial_fillFrom_3 rfl (lv_at hl 0 rfl) ?_
  refine va_get (D := D) (v := .ref (ao 23)) hx hb htg in_Trial hown hK hP 25 xo_25 rfl 1 (by decide) (htg _ k_f_Trial_44) (fun _ h9 => h9) rfl d_Trial_fillFrom_4 ?_
  refine lv_aload_n hx hb d_Trial_fillFrom_7 rfl (lv_at hl 0 rfl) ?_
  refine va_get (D := D) (v := .int (gI S 26)) hx hb htg in_Trial hown hK hP 25 xo_25 rfl 9 (by decide) (htg _ k_f_Trial_33) (fun _ h9 => h9) rfl d_Trial_fillFrom_8 ?_
  obtain ⟨q1, he, hf⟩ := ob_some hf
  refine cl_Vi (As := [.int (gI S 26)]) (rest := [.int x2]) X (c_x_Lines_kindsOf he) ok_x_Lines_kindsOf k_m_Trial_70 (va_recv hK hP rfl xo_23) rfl rfl hl.1 (Nat.le_of_ble_eq_true rfl) d_Trial_fillFrom_11 ⟨by decide, by decide⟩ hP hS (fun H locs hP hS => ?_)
  refine lv_icmp_ge (tgt := 140) hx hb d_Trial_fillFrom_14 (by decide) (fun c => ?_) (fun c => ?_)
  · have hf := if_t hf c
    refine lv_iconst (v := 1) hx hb d_Trial_fillFrom_140 (by decide) ?_
    obtain rfl := Option.some.inj hf
    exact W.zret (ty := .boolean) hx hb hr0 rfl (fun t ht _ => ⟨⟨rfl, by rw [ht]; exact hP⟩, hS.F ht⟩) hS.2.2 d_Trial_fillFrom_141 hlk
  · have hf := if_f hf c
    refine lv_aload_n hx hb d_Trial_fillFrom_17 rfl (lv_at hl 0 rfl) ?_
    refine va_get (D := D) (v := .ref (ao 23)) hx hb htg in_Trial hown hK hP 25 xo_25 rfl 1 (by decide) (htg _ k_f_Trial_44) (fun _ h9 => h9) rfl d_Trial_fillFrom_18 ?_
    refine lv_aload_n hx hb d_Trial_fillFrom_21 rfl (lv_at hl 0 rfl) ?_
    refine va_get (D := D) (v := .int (gI q1.2 26)) hx hb htg in_Trial hown hK hP 25 xo_25 rfl 9 (by decide) (htg _ k_f_Trial_33) (fun _ h9 => h9) rfl d_Trial_fillFrom_22 ?_
    refine lv_iload_n hx hb d_Trial_fillFrom_25 rfl (lv_at hl 1 rfl) ?_
    obtain ⟨q2, he, hf⟩ := ob_some hf
    refine cl_Vi (As := [.int (gI q1.2 26), .int x2]) (rest := []) X (c_x_Lines_kindAt he) ok_x_Lines_kindAt k_m_Trial_79 (va_recv hK hP rfl xo_23) rfl rfl hl.1 (Nat.le_of_ble_eq_true rfl) d_Trial_fillFrom_26 ⟨by decide, by decide⟩ hP hS (fun H locs hP hS => ?_)
    refine lv_istore_n (lv' := [(3, .int q2.1), (0, .ref (ao 25)), (2, .int x2)]) hx hb d_Trial_fillFrom_29 rfl hl (by decide) rfl (fun ls hl => ?_)
    refine lv_iload_n hx hb d_Trial_fillFrom_30 rfl (lv_at hl 0 rfl) ?_
    refine lv_if_ne (tgt := 56) hx hb d_Trial_fillFrom_31 (by decide) (fun c => ?_) (fun c => ?_)
    · have hf := if_f hf c
      refine lv_iload_n hx hb d_Trial_fillFrom_56 rfl (lv_at hl 0 rfl) ?_
      obtain ⟨q3, he, hf⟩ := ob_some hf
      refine cl_Ti (As := [.int q2.1]) (rest := []) X (c_x_G_isSlot he) ok_x_G_isSlot k_mn_Trial_200 rfl rfl hl.1 (Nat.le_of_ble_eq_true rfl) d_Trial_fillFrom_57 ⟨by decide, by decide⟩ hP hS (fun H locs hP hS => ?_)
      refine lv_if_eq (tgt := 134) hx hb d_Trial_fillFrom_60 (by decide) (fun c => ?_) (fun c => ?_)
      · have hf := if_t hf c
        exact w_x_Trial_fillFrom_b134 X hk2 _ _ hf H locs ls hP hS (lv_sub hl [1, 2] rfl)
      · have hf := if_f hf c
        refine lv_aload_n hx hb d_Trial_fillFrom_63 rfl (lv_at hl 1 rfl) ?_
        refine va_get (D := D) (v := .ref (ao 21)) hx hb htg in_Trial hown hK hP 25 xo_25 rfl 0 (by decide) (htg _ k_f_Trial_40) (fun _ h9 => h9) rfl d_Trial_fillFrom_64 ?_
        refine lv_iload_n hx hb d_Trial_fillFrom_67 rfl (lv_at hl 0 rfl) ?_
        obtain ⟨q4, he, hf⟩ := ob_some hf
        refine cl_Vl (As := [.int q2.1]) (rest := []) X (c_x_Things_fillersFor he) ok_x_Things_fillersFor k_m_Trial_203 (va_recv hK hP rfl xo_21) rfl rfl hl.1 (Nat.le_of_ble_eq_true rfl) d_Trial_fillFrom_68 ⟨by decide, by decide⟩ hP hS (fun H locs hP hS => ?_)
        refine lv_aload_n hx hb d_Trial_fillFrom_71 rfl (lv_at hl 1 rfl) ?_
        refine va_get (D := D) (v := .ref (ao 17)) hx hb htg in_Trial hown hK hP 25 xo_25 rfl 5 (by decide) (htg _ k_f_Trial_12) (fun _ h9 => h9) rfl d_Trial_fillFrom_72 ?_
        refine va_getN (D := D) (v := .long (gL q4.2 0)) hx hb htg in_Slot hown hK hP 17 xo_17 rfl 3 (by decide) (va_Nw.use rfl (hN _ k_fn_Trial_159)) (fun _ h9 => h9) rfl d_Trial_fillFrom_75 ?_
        refine lv_aload_n hx hb d_Trial_fillFrom_78 rfl (lv_at hl 1 rfl) ?_
        refine va_get (D := D) (v := .ref (ao 18)) hx hb htg in_Trial hown hK hP 25 xo_25 rfl 6 (by decide) (htg _ k_f_Trial_18) (fun _ h9 => h9) rfl d_Trial_fillFrom_79 ?_
        refine va_getN (D := D) (v := .long (gL q4.2 1)) hx hb htg in_Slot hown hK hP 18 xo_18 rfl 3 (by decide) (va_Nw.use rfl (hN _ k_fn_Trial_159)) (fun _ h9 => h9) rfl d_Trial_fillFrom_82 ?_
        refine lv_lor hx hb d_Trial_fillFrom_85 ?_
        refine lv_ldc2 (v := (-1)) hx hb hown (htg _ k_cl_Trial_192) d_Trial_fillFrom_86 ?_
        refine lv_lxor hx hb d_Trial_fillFrom_89 ?_
        refine lv_land hx hb d_Trial_fillFrom_90 ?_
        refine lv_lstore (lv' := [(4, .long (q4.1 &&& (((gL q4.2 0) ||| (gL q4.2 1)) ^^^ (-1 : Int64)))), (3, .int q2.1), (0, .ref (ao 25)), (2, .int x2)]) hx hb d_Trial_fillFrom_91 hl (by decide) rfl (fun ls hl => ?_)
        refine lv_lload hx hb d_Trial_fillFrom_93 (lv_at hl 0 rfl) ?_
        obtain ⟨q5, he, hf⟩ := ob_some hf
        refine cl_Si (As := [.long (q4.1 &&& (((gL q4.2 0) ||| (gL q4.2 1)) ^^^ (-1 : Int64)))]) (rest := []) X (c_x_JLong_bitCount he) ok_x_JLong_bitCount k_m_Trial_176 rfl rfl hl.1 (Nat.le_of_ble_eq_true rfl) d_Trial_fillFrom_95 ⟨by decide, by decide⟩ hP hS (fun H locs hP hS => ?_)
        refine lv_iconst (v := 1) hx hb d_Trial_fillFrom_98 (by decide) ?_
        refine lv_icmp_eq (tgt := 104) hx hb d_Trial_fillFrom_99 (by decide) (fun c => ?_) (fun c => ?_)
        · have hf := if_t hf c
          refine lv_aload_n hx hb d_Trial_fillFrom_104 rfl (lv_at hl 2 rfl) ?_
          refine lv_iload_n hx hb d_Trial_fillFrom_105 rfl (lv_at hl 1 rfl) ?_
          obtain ⟨q6, he, hf⟩ := ob_some hf
          refine cl_Vr (As := [.int q2.1]) (rest := []) X (c_x_Trial_openSlot he) ok_x_Trial_openSlot k_m_Trial_140 (va_recv hK hP rfl xo_25) rfl rfl hl.1 (Nat.le_of_ble_eq_true rfl) d_Trial_fillFrom_106 ⟨by decide, by decide⟩ hP hS (fun H locs hP hS => ?_)
          by_cases c : q6.1 = 17
          · have hf := if_t hf c
            rw [c]
            refine lv_lload hx hb d_Trial_fillFrom_109 (lv_at hl 0 rfl) ?_
            refine va_putN (D := D) (ty := .long) hx hb htg in_Slot t_Slot t_Slot_ok n_Slot hown hK hP (hI _) hS 17 xo_17 rfl 3 (by decide) (va_Nw.use rfl (hN _ k_fn_Trial_159)) (fun _ h9 => h9) rfl (by decide +kernel) rfl rfl (Nat.le_of_ble_eq_true rfl) d_Trial_fillFrom_111 (fun H locs hP _ hS => ?_)
            replace hP : va_P D classes (xW cI cZ cJ ao aa (sL q6.2 0 (q4.1 &&& (((gL q4.2 0) ||| (gL q4.2 1)) ^^^ (-1 : Int64))))) H := pw xs_17_things hP
            refine lv_aload_n hx hb d_Trial_fillFrom_114 rfl (lv_at hl 2 rfl) ?_
            refine va_get (D := D) (v := .ref (ao 11)) hx hb htg in_Trial hown hK hP 25 xo_25 rfl 7 (by decide) (htg _ k_f_Trial_26) (fun _ h9 => h9) rfl d_Trial_fillFrom_115 ?_
            refine lv_sipush (v := 20000) hx hb d_Trial_fillFrom_118 (by decide) ?_
            refine lv_aload_n hx hb d_Trial_fillFrom_121 rfl (lv_at hl 2 rfl) ?_
            refine va_get (D := D) (v := .ref (ao 21)) hx hb htg in_Trial hown hK hP 25 xo_25 rfl 0 (by decide) (htg _ k_f_Trial_40) (fun _ h9 => h9) rfl d_Trial_fillFrom_122 ?_
            refine lv_lload hx hb d_Trial_fillFrom_125 (lv_at hl 0 rfl) ?_
            obtain ⟨q7, he, hf⟩ := ob_some hf
            refine cl_Vi (As := [.long (q4.1 &&& (((gL q4.2 0) ||| (gL q4.2 1)) ^^^ (-1 : Int64)))]) (rest := [.int (20000 : Int32), .ref (ao 11)]) X (c_x_Things_firstOf he) ok_x_Things_firstOf k_m_Trial_206 (va_recv hK hP rfl xo_21) rfl rfl hl.1 (Nat.le_of_ble_eq_true rfl) d_Trial_fillFrom_127 ⟨by decide, by decide⟩ hP hS (fun H locs hP hS => ?_)
            refine lv_iadd hx hb d_Trial_fillFrom_130 ?_
            obtain ⟨q8, he, hf⟩ := ob_some hf
            refine cl_Vv (As := [.int ((20000 : Int32) + q7.1)]) (rest := []) X (c_x_Row_add (by decide : 11 < 17) he) ok_x_Row_add k_m_Trial_147 (va_recv hK hP rfl (xo_row (by decide : 11 < 17))) rfl rfl hl.1 (Nat.le_of_ble_eq_true rfl) d_Trial_fillFrom_131 ⟨by decide, by decide⟩ hP hS (fun H locs hP hS => ?_)
            exact w_x_Trial_fillFrom_b134 X hk2 _ _ hf H locs ls hP hS (lv_sub hl [2, 3] rfl)
          have hf := if_f hf c
          by_cases c : q6.1 = 18
          · have hf := if_t hf c
            rw [c]
            refine lv_lload hx hb d_Trial_fillFrom_109 (lv_at hl 0 rfl) ?_
            refine va_putN (D := D) (ty := .long) hx hb htg in_Slot t_Slot t_Slot_ok n_Slot hown hK hP (hI _) hS 18 xo_18 rfl 3 (by decide) (va_Nw.use rfl (hN _ k_fn_Trial_159)) (fun _ h9 => h9) rfl (by decide +kernel) rfl rfl (Nat.le_of_ble_eq_true rfl) d_Trial_fillFrom_111 (fun H locs hP _ hS => ?_)
            replace hP : va_P D classes (xW cI cZ cJ ao aa (sL q6.2 1 (q4.1 &&& (((gL q4.2 0) ||| (gL q4.2 1)) ^^^ (-1 : Int64))))) H := pw xs_18_things hP
            refine lv_aload_n hx hb d_Trial_fillFrom_114 rfl (lv_at hl 2 rfl) ?_
            refine va_get (D := D) (v := .ref (ao 11)) hx hb htg in_Trial hown hK hP 25 xo_25 rfl 7 (by decide) (htg _ k_f_Trial_26) (fun _ h9 => h9) rfl d_Trial_fillFrom_115 ?_
            refine lv_sipush (v := 20000) hx hb d_Trial_fillFrom_118 (by decide) ?_
            refine lv_aload_n hx hb d_Trial_fillFrom_121 rfl (lv_at hl 2 rfl) ?_
            refine va_get (D := D) (v := .ref (ao 21)) hx hb htg in_Trial hown hK hP 25 xo_25 rfl 0 (by decide) (htg _ k_f_Trial_40) (fun _ h9 => h9) rfl d_Trial_fillFrom_122 ?_
            refine lv_lload hx hb d_Trial_fillFrom_125 (lv_at hl 0 rfl) ?_
            obtain ⟨q9, he, hf⟩ := ob_some hf
            refine cl_Vi (As := [.long (q4.1 &&& (((gL q4.2 0) ||| (gL q4.2 1)) ^^^ (-1 : Int64)))]) (rest := [.int (20000 : Int32), .ref (ao 11)]) X (c_x_Things_firstOf he) ok_x_Things_firstOf k_m_Trial_206 (va_recv hK hP rfl xo_21) rfl rfl hl.1 (Nat.le_of_ble_eq_true rfl) d_Trial_fillFrom_127 ⟨by decide, by decide⟩ hP hS (fun H locs hP hS => ?_)
            refine lv_iadd hx hb d_Trial_fillFrom_130 ?_
            obtain ⟨q10, he, hf⟩ := ob_some hf
            refine cl_Vv (As := [.int ((20000 : Int32) + q9.1)]) (rest := []) X (c_x_Row_add (by decide : 11 < 17) he) ok_x_Row_add k_m_Trial_147 (va_recv hK hP rfl (xo_row (by decide : 11 < 17))) rfl rfl hl.1 (Nat.le_of_ble_eq_true rfl) d_Trial_fillFrom_131 ⟨by decide, by decide⟩ hP hS (fun H locs hP hS => ?_)
            exact w_x_Trial_fillFrom_b134 X hk2 _ _ hf H locs ls hP hS (lv_sub hl [2, 3] rfl)
          have hf := if_f hf c
          exact ns hf
        · have hf := if_f hf c
          refine lv_iconst (v := 0) hx hb d_Trial_fillFrom_102 (by decide) ?_
          obtain rfl := Option.some.inj hf
          exact W.zret (ty := .boolean) hx hb hr0 rfl (fun t ht _ => ⟨⟨rfl, by rw [ht]; exact hP⟩, hS.F ht⟩) hS.2.2 d_Trial_fillFrom_103 hlk
    · have hf := if_t hf c
      refine lv_aload_n hx hb d_Trial_fillFrom_34 rfl (lv_at hl 1 rfl) ?_
      refine va_get (D := D) (v := .ref (ao 11)) hx hb htg in_Trial hown hK hP 25 xo_25 rfl 7 (by decide) (htg _ k_f_Trial_26) (fun _ h9 => h9) rfl d_Trial_fillFrom_35 ?_
      refine lv_aload_n hx hb d_Trial_fillFrom_38 rfl (lv_at hl 1 rfl) ?_
      refine va_get (D := D) (v := .ref (ao 23)) hx hb htg in_Trial hown hK hP 25 xo_25 rfl 1 (by decide) (htg _ k_f_Trial_44) (fun _ h9 => h9) rfl d_Trial_fillFrom_39 ?_
      refine lv_aload_n hx hb d_Trial_fillFrom_42 rfl (lv_at hl 1 rfl) ?_
      refine va_get (D := D) (v := .int (gI q2.2 26)) hx hb htg in_Trial hown hK hP 25 xo_25 rfl 9 (by decide) (htg _ k_f_Trial_33) (fun _ h9 => h9) rfl d_Trial_fillFrom_43 ?_
      refine lv_iload_n hx hb d_Trial_fillFrom_46 rfl (lv_at hl 2 rfl) ?_
      obtain ⟨q11, he, hf⟩ := ob_some hf
      refine cl_Vi (As := [.int (gI q2.2 26), .int x2]) (rest := [.ref (ao 11)]) X (c_x_Lines_ofAt he) ok_x_Lines_ofAt k_m_Trial_102 (va_recv hK hP rfl xo_23) rfl rfl hl.1 (Nat.le_of_ble_eq_true rfl) d_Trial_fillFrom_47 ⟨by decide, by decide⟩ hP hS (fun H locs hP hS => ?_)
      obtain ⟨q12, he, hf⟩ := ob_some hf
      refine cl_Vv (As := [.int q11.1]) (rest := []) X (c_x_Row_add (by decide : 11 < 17) he) ok_x_Row_add k_m_Trial_147 (va_recv hK hP rfl (xo_row (by decide : 11 < 17))) rfl rfl hl.1 (Nat.le_of_ble_eq_true rfl) d_Trial_fillFrom_50 ⟨by decide, by decide⟩ hP hS (fun H locs hP hS => ?_)
      refine lv_goto (tgt := 134) hx hb d_Trial_fillFrom_53 (by decide) ?_
      exact w_x_Trial_fillFrom_b134 X hk2 _ _ hf H locs ls hP hS (lv_sub hl [1, 2] rfl)
theorem w_x_Trial_fillFrom_b2 {z : Int32 × St} (X : Cx b_Trial_fillFrom 6 (some .boolean) R_Trial D [(cI, .int), (cZ, .boolean), (cJ, .long)] (xA ao aa) (xW cI cZ cJ ao aa) p s m args meth c) : ∀ (n : Nat) (S : St) (x2 : Int32), x_Trial_fillFrom_b2 n S x2 = some z → WX rm_x_Trial_fillFrom D (xA ao aa) (xW cI cZ cJ ao aa) p l e s m args below meth c (some (.int z.1)) z.2 2 [] 6 [(0, .ref (ao 25)), (2, .int x2)] S
  | 0, _, _, hf => ns hf
  | n + 1, _, _, hf => w_x_Trial_fillFrom_b2_f X (w_x_Trial_fillFrom_b2 X n) _ _ hf
set_option maxHeartbeats 4000000 in
set_option maxRecDepth 100000 in
theorem w_x_Trial_fillFrom {z : Int32 × St} (X : Cx b_Trial_fillFrom 6 (some .boolean) R_Trial D [(cI, .int), (cZ, .boolean), (cJ, .long)] (xA ao aa) (xW cI cZ cJ ao aa) p s m args meth c) (S : St) (x0 : Int32) (hf : x_Trial_fillFrom S x0 = some z) : WX rm_x_Trial_fillFrom D (xA ao aa) (xW cI cZ cJ ao aa) p l e s m args below meth c (some (.int z.1)) z.2 0 [] 6 [(0, .ref (ao 25)), (1, .int x0)] S := by
  intro H locs ls hP hS hl
  obtain ⟨hx, hb, hr0, hml, hown, htg, hlk, hK, hN, hI⟩ := id X
  unfold x_Trial_fillFrom at hf
  refine lv_iload_n hx hb d_Trial_fillFrom_0 rfl (lv_at hl 1 rfl) ?_
  refine lv_istore_n (lv' := [(2, .int x0), (0, .ref (ao 25)), (1, .int x0)]) hx hb d_Trial_fillFrom_1 rfl hl (by decide) rfl (fun ls hl => ?_)
  exact w_x_Trial_fillFrom_b2 X _ _ _ hf H locs ls hP hS (lv_sub hl [1, 0] rfl)
theorem c_x_Trial_fillFrom {l : Launch} {D : va_G} {cI cZ cJ : ClassId} {ao aa : Nat → Nat} {S : St} {x0 : Int32} {z : Int32 × St} (hz : x_Trial_fillFrom S x0 = some z) : Ct l y_Trial_fillFrom (.code y_Trial_fillFrom b_Trial_fillFrom 6 (some .boolean) :: gw) rm_x_Trial_fillFrom D [(cI, .int), (cZ, .boolean), (cJ, .long)] (xA ao aa) (xW cI cZ cJ ao aa) [.ref (ao 25), .int x0] S (some (.int z.1)) z.2 :=
  Ct_of (by decide) (fun p e s m args below meth c X => w_x_Trial_fillFrom X _ _ hz) (Nat.le_of_ble_eq_true rfl)
def x_Trial_fillOrAsk_b98 (k59 : St → Int32 → Int32 → Option (St)) (S : St) (x2 : Int32) (x3 : Int32) : Option (St) :=
  k59 S x2 (x3 + 1)
def x_Trial_fillOrAsk_b59_f (k59 : St → Int32 → Int32 → Option (St)) (S : St) (x2 : Int32) (x3 : Int32) : Option (St) :=
  if x2 ≤ x3 then
    (x_Trial_fail S (16 : Int32) (gI S 27)).bind fun q5 =>
    some q5
  else
    (x_Lines_kindAt S (gI S 26) x3).bind fun q6 =>
    if q6.1 = 0 then
      (x_Lines_ofAt q6.2 (gI q6.2 26) x3).bind fun q7 =>
      (x_Row_add 12 q7.2 q7.1).bind fun q8 =>
      x_Trial_fillOrAsk_b98 k59 q8 x2 x3
    else
      x_Trial_fillOrAsk_b98 k59 q6.2 x2 x3
def x_Trial_fillOrAsk_b59 : Nat → St → Int32 → Int32 → Option (St)
  | 0, _, _, _ => none
  | n + 1, S, x2, x3 => x_Trial_fillOrAsk_b59_f (x_Trial_fillOrAsk_b59 n) S x2 x3
def x_Trial_fillOrAsk (S : St) (x0 : Int32) : Option (St) :=
  (x_Lines_slotFrom S (gI S 26) x0).bind fun q1 =>
  if q1.1 = (-1 : Int32) then
    (x_Trial_fail q1.2 (5 : Int32) (gI q1.2 27)).bind fun q9 =>
    some q9
  else
    (x_Trial_fillFrom q1.2 x0).bind fun q2 =>
    if q2.1 = 0 then
      (x_Lines_kindAt q2.2 (gI q2.2 26) q1.1).bind fun q3 =>
      (x_Row_add 12 q3.2 q3.1).bind fun q4 =>
      x_Trial_fillOrAsk_b59 fu q4 q1.1 x0
    else
      some q2.2
def rm_x_Trial_fillOrAsk : Room := { frames := 3, cells := 0, slots := 0, locals := 68 }
theorem ok_x_Trial_fillOrAsk : CalV y_Trial_fillOrAsk b_Trial_fillOrAsk 4 none 1 rm_x_Trial_fillOrAsk := ⟨kc_Trial_fillOrAsk, ki_Trial_fillOrAsk, kl_Trial_fillOrAsk, ji_Trial, ⟨by decide, by decide, by decide +kernel⟩, rfl, rfl⟩
set_option maxHeartbeats 4000000 in
set_option maxRecDepth 100000 in
theorem w_x_Trial_fillOrAsk_b98 {z : St} (X : Cx b_Trial_fillOrAsk 4 none R_Trial D [(cI, .int), (cZ, .boolean), (cJ, .long)] (xA ao aa) (xW cI cZ cJ ao aa) p s m args meth c) {k59 : St → Int32 → Int32 → Option (St)} (hk59 : ∀ (S : St) (x2 : Int32) (x3 : Int32), k59 S x2 x3 = some z → WX rm_x_Trial_fillOrAsk D (xA ao aa) (xW cI cZ cJ ao aa) p l e s m args below meth c none z 59 [] 4 [(0, .ref (ao 25)), (2, .int x2), (3, .int x3)] S) (S : St) (x2 : Int32) (x3 : Int32) (hf : x_Trial_fillOrAsk_b98 k59 S x2 x3 = some z) : WX rm_x_Trial_fillOrAsk D (xA ao aa) (xW cI cZ cJ ao aa) p l e s m args below meth c none z 98 [] 4 [(0, .ref (ao 25)), (2, .int x2), (3, .int x3)] S := by
  intro H locs ls hP hS hl
  obtain ⟨hx, hb, hr0, hml, hown, htg, hlk, hK, hN, hI⟩ := id X
  unfold x_Trial_fillOrAsk_b98 at hf
  refine lv_iinc (v := (x3 + 1)) (lv' := [(3, .int (x3 + 1)), (0, .ref (ao 25)), (2, .int x2)]) hx hb d_Trial_fillOrAsk_98 hl (k := 2) rfl rfl (by decide) rfl (fun ls hl => ?_)
  refine lv_goto (tgt := 59) hx hb d_Trial_fillOrAsk_101 (by decide) ?_
  exact hk59 _ _ _ hf H locs ls hP hS (lv_sub hl [1, 2, 0] rfl)
set_option maxHeartbeats 4000000 in
set_option maxRecDepth 100000 in
theorem w_x_Trial_fillOrAsk_b59_f {z : St} (X : Cx b_Trial_fillOrAsk 4 none R_Trial D [(cI, .int), (cZ, .boolean), (cJ, .long)] (xA ao aa) (xW cI cZ cJ ao aa) p s m args meth c) {k59 : St → Int32 → Int32 → Option (St)} (hk59 : ∀ (S : St) (x2 : Int32) (x3 : Int32), k59 S x2 x3 = some z → WX rm_x_Trial_fillOrAsk D (xA ao aa) (xW cI cZ cJ ao aa) p l e s m args below meth c none z 59 [] 4 [(0, .ref (ao 25)), (2, .int x2), (3, .int x3)] S) (S : St) (x2 : Int32) (x3 : Int32) (hf : x_Trial_fillOrAsk_b59_f k59 S x2 x3 = some z) : WX rm_x_Trial_fillOrAsk D (xA ao aa) (xW cI cZ cJ ao aa) p l e s m args below meth c none z 59 [] 4 [(0, .ref (ao 25)), (2, .int x2), (3, .int x3)] S := by
  intro H locs ls hP hS hl
  obtain ⟨hx, hb, hr0, hml, hown, htg, hlk, hK, hN, hI⟩ := id X
  unfold x_Trial_fillOrAsk_b59_f at hf
  refine lv_iload_n hx hb d_Trial_fillOrAsk_59 rfl (lv_at hl 2 rfl) ?_
  refine lv_iload_n hx hb d_Trial_fillOrAsk_60 rfl (lv_at hl 1 rfl) ?_
  refine lv_icmp_ge (tgt := 104) hx hb d_Trial_fillOrAsk_61 (by decide) (fun c => ?_) (fun c => ?_)
  · have hf := if_t hf c
    refine lv_aload_n hx hb d_Trial_fillOrAsk_104 rfl (lv_at hl 0 rfl) ?_
    refine lv_bipush (v := 16) hx hb d_Trial_fillOrAsk_105 (by decide) ?_
    refine lv_aload_n hx hb d_Trial_fillOrAsk_107 rfl (lv_at hl 0 rfl) ?_
    refine va_get (D := D) (v := .int (gI S 27)) hx hb htg in_Trial hown hK hP 25 xo_25 rfl 10 (by decide) (htg _ k_f_Trial_83) (fun _ h9 => h9) rfl d_Trial_fillOrAsk_108 ?_
    obtain ⟨q5, he, hf⟩ := ob_some hf
    refine cl_Vv (As := [.int (16 : Int32), .int (gI S 27)]) (rest := []) X (c_x_Trial_fail he) ok_x_Trial_fail k_m_Trial_136 (va_recv hK hP rfl xo_25) rfl rfl hl.1 (Nat.le_of_ble_eq_true rfl) d_Trial_fillOrAsk_111 ⟨by decide, by decide⟩ hP hS (fun H locs hP hS => ?_)
    obtain rfl := Option.some.inj hf
    exact W.vret hx hb hr0 (fun t ht _ => ⟨⟨rfl, by rw [ht]; exact hP⟩, hS.F ht⟩) hS.2.2 d_Trial_fillOrAsk_114 hlk
  · have hf := if_f hf c
    refine lv_aload_n hx hb d_Trial_fillOrAsk_64 rfl (lv_at hl 0 rfl) ?_
    refine va_get (D := D) (v := .ref (ao 23)) hx hb htg in_Trial hown hK hP 25 xo_25 rfl 1 (by decide) (htg _ k_f_Trial_44) (fun _ h9 => h9) rfl d_Trial_fillOrAsk_65 ?_
    refine lv_aload_n hx hb d_Trial_fillOrAsk_68 rfl (lv_at hl 0 rfl) ?_
    refine va_get (D := D) (v := .int (gI S 26)) hx hb htg in_Trial hown hK hP 25 xo_25 rfl 9 (by decide) (htg _ k_f_Trial_33) (fun _ h9 => h9) rfl d_Trial_fillOrAsk_69 ?_
    refine lv_iload_n hx hb d_Trial_fillOrAsk_72 rfl (lv_at hl 2 rfl) ?_
    obtain ⟨q6, he, hf⟩ := ob_some hf
    refine cl_Vi (As := [.int (gI S 26), .int x3]) (rest := []) X (c_x_Lines_kindAt he) ok_x_Lines_kindAt k_m_Trial_79 (va_recv hK hP rfl xo_23) rfl rfl hl.1 (Nat.le_of_ble_eq_true rfl) d_Trial_fillOrAsk_73 ⟨by decide, by decide⟩ hP hS (fun H locs hP hS => ?_)
    refine lv_if_ne (tgt := 98) hx hb d_Trial_fillOrAsk_76 (by decide) (fun c => ?_) (fun c => ?_)
    · have hf := if_f hf c
      exact w_x_Trial_fillOrAsk_b98 X hk59 _ _ _ hf H locs ls hP hS (lv_sub hl [0, 1, 2] rfl)
    · have hf := if_t hf c
      refine lv_aload_n hx hb d_Trial_fillOrAsk_79 rfl (lv_at hl 0 rfl) ?_
      refine va_get (D := D) (v := .ref (ao 12)) hx hb htg in_Trial hown hK hP 25 xo_25 rfl 8 (by decide) (htg _ k_f_Trial_30) (fun _ h9 => h9) rfl d_Trial_fillOrAsk_80 ?_
      refine lv_aload_n hx hb d_Trial_fillOrAsk_83 rfl (lv_at hl 0 rfl) ?_
      refine va_get (D := D) (v := .ref (ao 23)) hx hb htg in_Trial hown hK hP 25 xo_25 rfl 1 (by decide) (htg _ k_f_Trial_44) (fun _ h9 => h9) rfl d_Trial_fillOrAsk_84 ?_
      refine lv_aload_n hx hb d_Trial_fillOrAsk_87 rfl (lv_at hl 0 rfl) ?_
      refine va_get (D := D) (v := .int (gI q6.2 26)) hx hb htg in_Trial hown hK hP 25 xo_25 rfl 9 (by decide) (htg _ k_f_Trial_33) (fun _ h9 => h9) rfl d_Trial_fillOrAsk_88 ?_
      refine lv_iload_n hx hb d_Trial_fillOrAsk_91 rfl (lv_at hl 2 rfl) ?_
      obtain ⟨q7, he, hf⟩ := ob_some hf
      refine cl_Vi (As := [.int (gI q6.2 26), .int x3]) (rest := [.ref (ao 12)]) X (c_x_Lines_ofAt he) ok_x_Lines_ofAt k_m_Trial_102 (va_recv hK hP rfl xo_23) rfl rfl hl.1 (Nat.le_of_ble_eq_true rfl) d_Trial_fillOrAsk_92 ⟨by decide, by decide⟩ hP hS (fun H locs hP hS => ?_)
      obtain ⟨q8, he, hf⟩ := ob_some hf
      refine cl_Vv (As := [.int q7.1]) (rest := []) X (c_x_Row_add (by decide : 12 < 17) he) ok_x_Row_add k_m_Trial_147 (va_recv hK hP rfl (xo_row (by decide : 12 < 17))) rfl rfl hl.1 (Nat.le_of_ble_eq_true rfl) d_Trial_fillOrAsk_95 ⟨by decide, by decide⟩ hP hS (fun H locs hP hS => ?_)
      exact w_x_Trial_fillOrAsk_b98 X hk59 _ _ _ hf H locs ls hP hS (lv_sub hl [0, 1, 2] rfl)
theorem w_x_Trial_fillOrAsk_b59 {z : St} (X : Cx b_Trial_fillOrAsk 4 none R_Trial D [(cI, .int), (cZ, .boolean), (cJ, .long)] (xA ao aa) (xW cI cZ cJ ao aa) p s m args meth c) : ∀ (n : Nat) (S : St) (x2 : Int32) (x3 : Int32), x_Trial_fillOrAsk_b59 n S x2 x3 = some z → WX rm_x_Trial_fillOrAsk D (xA ao aa) (xW cI cZ cJ ao aa) p l e s m args below meth c none z 59 [] 4 [(0, .ref (ao 25)), (2, .int x2), (3, .int x3)] S
  | 0, _, _, _, hf => ns hf
  | n + 1, _, _, _, hf => w_x_Trial_fillOrAsk_b59_f X (w_x_Trial_fillOrAsk_b59 X n) _ _ _ hf
set_option maxHeartbeats 4000000 in
set_option maxRecDepth 100000 in
theorem w_x_Trial_fillOrAsk {z : St} (X : Cx b_Trial_fillOrAsk 4 none R_Trial D [(cI, .int), (cZ, .boolean), (cJ, .long)] (xA ao aa) (xW cI cZ cJ ao aa) p s m args meth c) (S : St) (x0 : Int32) (hf : x_Trial_fillOrAsk S x0 = some z) : WX rm_x_Trial_fillOrAsk D (xA ao aa) (xW cI cZ cJ ao aa) p l e s m args below meth c none z 0 [] 4 [(0, .ref (ao 25)), (1, .int x0)] S := by
  intro H locs ls hP hS hl
  obtain ⟨hx, hb, hr0, hml, hown, htg, hlk, hK, hN, hI⟩ := id X
  unfold x_Trial_fillOrAsk at hf
  refine lv_aload_n hx hb d_Trial_fillOrAsk_0 rfl (lv_at hl 0 rfl) ?_
  refine va_get (D := D) (v := .ref (ao 23)) hx hb htg in_Trial hown hK hP 25 xo_25 rfl 1 (by decide) (htg _ k_f_Trial_44) (fun _ h9 => h9) rfl d_Trial_fillOrAsk_1 ?_
  refine lv_aload_n hx hb d_Trial_fillOrAsk_4 rfl (lv_at hl 0 rfl) ?_
  refine va_get (D := D) (v := .int (gI S 26)) hx hb htg in_Trial hown hK hP 25 xo_25 rfl 9 (by decide) (htg _ k_f_Trial_33) (fun _ h9 => h9) rfl d_Trial_fillOrAsk_5 ?_
  refine lv_iload_n hx hb d_Trial_fillOrAsk_8 rfl (lv_at hl 1 rfl) ?_
  obtain ⟨q1, he, hf⟩ := ob_some hf
  refine cl_Vi (As := [.int (gI S 26), .int x0]) (rest := []) X (c_x_Lines_slotFrom he) ok_x_Lines_slotFrom k_m_Trial_194 (va_recv hK hP rfl xo_23) rfl rfl hl.1 (Nat.le_of_ble_eq_true rfl) d_Trial_fillOrAsk_9 ⟨by decide, by decide⟩ hP hS (fun H locs hP hS => ?_)
  refine lv_istore_n (lv' := [(2, .int q1.1), (0, .ref (ao 25)), (1, .int x0)]) hx hb d_Trial_fillOrAsk_12 rfl hl (by decide) rfl (fun ls hl => ?_)
  refine lv_iload_n hx hb d_Trial_fillOrAsk_13 rfl (lv_at hl 0 rfl) ?_
  refine lv_iconst (v := (-1)) hx hb d_Trial_fillOrAsk_14 (by decide) ?_
  refine lv_icmp_ne (tgt := 30) hx hb d_Trial_fillOrAsk_15 (by decide) (fun c => ?_) (fun c => ?_)
  · have hf := if_f hf c
    refine lv_aload_n hx hb d_Trial_fillOrAsk_30 rfl (lv_at hl 1 rfl) ?_
    refine lv_iload_n hx hb d_Trial_fillOrAsk_31 rfl (lv_at hl 2 rfl) ?_
    obtain ⟨q2, he, hf⟩ := ob_some hf
    refine cl_Vi (As := [.int x0]) (rest := []) X (c_x_Trial_fillFrom he) ok_x_Trial_fillFrom k_m_Trial_197 (va_recv hK hP rfl xo_25) rfl rfl hl.1 (Nat.le_of_ble_eq_true rfl) d_Trial_fillOrAsk_32 ⟨by decide, by decide⟩ hP hS (fun H locs hP hS => ?_)
    refine lv_if_ne (tgt := 114) hx hb d_Trial_fillOrAsk_35 (by decide) (fun c => ?_) (fun c => ?_)
    · have hf := if_f hf c
      obtain rfl := Option.some.inj hf
      exact W.vret hx hb hr0 (fun t ht _ => ⟨⟨rfl, by rw [ht]; exact hP⟩, hS.F ht⟩) hS.2.2 d_Trial_fillOrAsk_114 hlk
    · have hf := if_t hf c
      refine lv_aload_n hx hb d_Trial_fillOrAsk_38 rfl (lv_at hl 1 rfl) ?_
      refine va_get (D := D) (v := .ref (ao 12)) hx hb htg in_Trial hown hK hP 25 xo_25 rfl 8 (by decide) (htg _ k_f_Trial_30) (fun _ h9 => h9) rfl d_Trial_fillOrAsk_39 ?_
      refine lv_aload_n hx hb d_Trial_fillOrAsk_42 rfl (lv_at hl 1 rfl) ?_
      refine va_get (D := D) (v := .ref (ao 23)) hx hb htg in_Trial hown hK hP 25 xo_25 rfl 1 (by decide) (htg _ k_f_Trial_44) (fun _ h9 => h9) rfl d_Trial_fillOrAsk_43 ?_
      refine lv_aload_n hx hb d_Trial_fillOrAsk_46 rfl (lv_at hl 1 rfl) ?_
      refine va_get (D := D) (v := .int (gI q2.2 26)) hx hb htg in_Trial hown hK hP 25 xo_25 rfl 9 (by decide) (htg _ k_f_Trial_33) (fun _ h9 => h9) rfl d_Trial_fillOrAsk_47 ?_
      refine lv_iload_n hx hb d_Trial_fillOrAsk_50 rfl (lv_at hl 0 rfl) ?_
      obtain ⟨q3, he, hf⟩ := ob_some hf
      refine cl_Vi (As := [.int (gI q2.2 26), .int q1.1]) (rest := [.ref (ao 12)]) X (c_x_Lines_kindAt he) ok_x_Lines_kindAt k_m_Trial_79 (va_recv hK hP rfl xo_23) rfl rfl hl.1 (Nat.le_of_ble_eq_true rfl) d_Trial_fillOrAsk_51 ⟨by decide, by decide⟩ hP hS (fun H locs hP hS => ?_)
      obtain ⟨q4, he, hf⟩ := ob_some hf
      refine cl_Vv (As := [.int q3.1]) (rest := []) X (c_x_Row_add (by decide : 12 < 17) he) ok_x_Row_add k_m_Trial_147 (va_recv hK hP rfl (xo_row (by decide : 12 < 17))) rfl rfl hl.1 (Nat.le_of_ble_eq_true rfl) d_Trial_fillOrAsk_54 ⟨by decide, by decide⟩ hP hS (fun H locs hP hS => ?_)
      refine lv_iload_n hx hb d_Trial_fillOrAsk_57 rfl (lv_at hl 2 rfl) ?_
      refine lv_istore_n (lv' := [(3, .int x0), (2, .int q1.1), (0, .ref (ao 25)), (1, .int x0)]) hx hb d_Trial_fillOrAsk_58 rfl hl (by decide) rfl (fun ls hl => ?_)
      exact w_x_Trial_fillOrAsk_b59 X _ _ _ _ hf H locs ls hP hS (lv_sub hl [2, 1, 0] rfl)
  · have hf := if_t hf c
    refine lv_aload_n hx hb d_Trial_fillOrAsk_18 rfl (lv_at hl 1 rfl) ?_
    refine lv_iconst (v := 5) hx hb d_Trial_fillOrAsk_19 (by decide) ?_
    refine lv_aload_n hx hb d_Trial_fillOrAsk_20 rfl (lv_at hl 1 rfl) ?_
    refine va_get (D := D) (v := .int (gI q1.2 27)) hx hb htg in_Trial hown hK hP 25 xo_25 rfl 10 (by decide) (htg _ k_f_Trial_83) (fun _ h9 => h9) rfl d_Trial_fillOrAsk_21 ?_
    obtain ⟨q9, he, hf⟩ := ob_some hf
    refine cl_Vv (As := [.int (5 : Int32), .int (gI q1.2 27)]) (rest := []) X (c_x_Trial_fail he) ok_x_Trial_fail k_m_Trial_136 (va_recv hK hP rfl xo_25) rfl rfl hl.1 (Nat.le_of_ble_eq_true rfl) d_Trial_fillOrAsk_24 ⟨by decide, by decide⟩ hP hS (fun H locs hP hS => ?_)
    refine lv_goto (tgt := 114) hx hb d_Trial_fillOrAsk_27 (by decide) ?_
    obtain rfl := Option.some.inj hf
    exact W.vret hx hb hr0 (fun t ht _ => ⟨⟨rfl, by rw [ht]; exact hP⟩, hS.F ht⟩) hS.2.2 d_Trial_fillOrAsk_114 hlk
theorem c_x_Trial_fillOrAsk {l : Launch} {D : va_G} {cI cZ cJ : ClassId} {ao aa : Nat → Nat} {S : St} {x0 : Int32} {z : St} (hz : x_Trial_fillOrAsk S x0 = some z) : Ct l y_Trial_fillOrAsk (.code y_Trial_fillOrAsk b_Trial_fillOrAsk 4 none :: gw) rm_x_Trial_fillOrAsk D [(cI, .int), (cZ, .boolean), (cJ, .long)] (xA ao aa) (xW cI cZ cJ ao aa) [.ref (ao 25), .int x0] S none z :=
  Ct_of (by decide) (fun p e s m args below meth c X => w_x_Trial_fillOrAsk X _ _ hz) (Nat.le_of_ble_eq_true rfl)
def x_Trial_tryLine_b185 (S : St) : Option (St) :=
  if (gI S 28) = 0 then
    (x_Trial_finish S).bind fun q3 =>
    some q3
  else
    some S
def x_Trial_tryLine_b179 (k7 : St → Int32 → Option (St)) (S : St) (x2 : Int32) : Option (St) :=
  k7 S (x2 + 1)
def x_Trial_tryLine_b7_f (k7 : St → Int32 → Option (St)) (S : St) (x2 : Int32) : Option (St) :=
  (x_Lines_kindsOf S (gI S 26)).bind fun q2 =>
  if q2.1 ≤ x2 then
    x_Trial_tryLine_b185 q2.2
  else
    if (gI q2.2 28) = 0 then
      (x_Lines_kindAt q2.2 (gI q2.2 26) x2).bind fun q4 =>
      if q4.1 = (1 : Int32) then
        x_Trial_tryLine_b179 k7 q4.2 x2
      else
        (x_Row_size 6 q4.2).bind fun q5 =>
        if (gI q4.2 27) < q5.1 then
          if q4.1 = 0 then
            (x_Trial_takeWord q5.2 x2).bind fun q15 =>
            x_Trial_tryLine_b179 k7 q15 x2
          else
            if q4.1 = (9 : Int32) then
              (x_Trial_takeTopic q5.2 x2).bind fun q14 =>
              x_Trial_tryLine_b179 k7 q14 x2
            else
              if q4.1 = (10 : Int32) then
                (x_Trial_takeNumber q5.2).bind fun q13 =>
                x_Trial_tryLine_b179 k7 q13 x2
              else
                if q4.1 = (11 : Int32) then
                  (x_Lines_ofAt q5.2 (gI q5.2 26) x2).bind fun q11 =>
                  (x_Trial_takeCustom q11.2 q11.1).bind fun q12 =>
                  x_Trial_tryLine_b179 k7 q12 x2
                else
                  (x_G_isOfOneThing q5.2 q4.1).bind fun q6 =>
                  if q6.1 = 0 then
                    (x_Row_at 6 q6.2 (gI q6.2 27)).bind fun q7 =>
                    if q7.1 = (4 : Int32) then
                      (x_Trial_takeAll q7.2 q4.1).bind fun q9 =>
                      x_Trial_tryLine_b179 k7 q9 x2
                    else
                      (x_Trial_takeList q7.2 q4.1).bind fun q8 =>
                      x_Trial_tryLine_b179 k7 q8 x2
                  else
                    (x_Trial_takeOne q6.2 q4.1).bind fun q10 =>
                    x_Trial_tryLine_b179 k7 q10 x2
        else
          (x_Trial_fillOrAsk q5.2 x2).bind fun q16 =>
          x_Trial_tryLine_b185 q16
    else
      x_Trial_tryLine_b185 q2.2
def x_Trial_tryLine_b7 : Nat → St → Int32 → Option (St)
  | 0, _, _ => none
  | n + 1, S, x2 => x_Trial_tryLine_b7_f (x_Trial_tryLine_b7 n) S x2
def x_Trial_tryLine (S : St) (x0 : Int32) : Option (St) :=
  (x_Trial_begin S x0).bind fun q1 =>
  x_Trial_tryLine_b7 fu q1 (0 : Int32)
def rm_x_Trial_tryLine : Room := { frames := 4, cells := 0, slots := 0, locals := 101 }
theorem ok_x_Trial_tryLine : CalV y_Trial_tryLine b_Trial_tryLine 4 none 1 rm_x_Trial_tryLine := ⟨kc_Trial_tryLine, ki_Trial_tryLine, kl_Trial_tryLine, ji_Trial, ⟨by decide, by decide, by decide +kernel⟩, rfl, rfl⟩
set_option maxHeartbeats 4000000 in
set_option maxRecDepth 100000 in
theorem w_x_Trial_tryLine_b185 {z : St} (X : Cx b_Trial_tryLine 4 none R_Trial D [(cI, .int), (cZ, .boolean), (cJ, .long)] (xA ao aa) (xW cI cZ cJ ao aa) p s m args meth c) (S : St) (hf : x_Trial_tryLine_b185 S = some z) : WX rm_x_Trial_tryLine D (xA ao aa) (xW cI cZ cJ ao aa) p l e s m args below meth c none z 185 [] 4 [(0, .ref (ao 25))] S := by
  intro H locs ls hP hS hl
  obtain ⟨hx, hb, hr0, hml, hown, htg, hlk, hK, hN, hI⟩ := id X
  unfold x_Trial_tryLine_b185 at hf
  refine lv_aload_n hx hb d_Trial_tryLine_185 rfl (lv_at hl 0 rfl) ?_
  refine va_get (D := D) (v := .int (gI S 28)) hx hb htg in_Trial hown hK hP 25 xo_25 rfl 11 (by decide) (htg _ k_f_Trial_76) (fun _ h9 => h9) rfl d_Trial_tryLine_186 ?_
  refine lv_if_ne (tgt := 196) hx hb d_Trial_tryLine_189 (by decide) (fun c => ?_) (fun c => ?_)
  · have hf := if_f hf c
    obtain rfl := Option.some.inj hf
    exact W.vret hx hb hr0 (fun t ht _ => ⟨⟨rfl, by rw [ht]; exact hP⟩, hS.F ht⟩) hS.2.2 d_Trial_tryLine_196 hlk
  · have hf := if_t hf c
    refine lv_aload_n hx hb d_Trial_tryLine_192 rfl (lv_at hl 0 rfl) ?_
    obtain ⟨q3, he, hf⟩ := ob_some hf
    refine cl_Vv (As := []) (rest := []) X (c_x_Trial_finish he) ok_x_Trial_finish k_m_Trial_124 (va_recv hK hP rfl xo_25) rfl rfl hl.1 (Nat.le_of_ble_eq_true rfl) d_Trial_tryLine_193 ⟨by decide, by decide⟩ hP hS (fun H locs hP hS => ?_)
    obtain rfl := Option.some.inj hf
    exact W.vret hx hb hr0 (fun t ht _ => ⟨⟨rfl, by rw [ht]; exact hP⟩, hS.F ht⟩) hS.2.2 d_Trial_tryLine_196 hlk
set_option maxHeartbeats 4000000 in
set_option maxRecDepth 100000 in
theorem w_x_Trial_tryLine_b179 {z : St} (X : Cx b_Trial_tryLine 4 none R_Trial D [(cI, .int), (cZ, .boolean), (cJ, .long)] (xA ao aa) (xW cI cZ cJ ao aa) p s m args meth c) {k7 : St → Int32 → Option (St)} (hk7 : ∀ (S : St) (x2 : Int32), k7 S x2 = some z → WX rm_x_Trial_tryLine D (xA ao aa) (xW cI cZ cJ ao aa) p l e s m args below meth c none z 7 [] 4 [(0, .ref (ao 25)), (2, .int x2)] S) (S : St) (x2 : Int32) (hf : x_Trial_tryLine_b179 k7 S x2 = some z) : WX rm_x_Trial_tryLine D (xA ao aa) (xW cI cZ cJ ao aa) p l e s m args below meth c none z 179 [] 4 [(0, .ref (ao 25)), (2, .int x2)] S := by
  intro H locs ls hP hS hl
  obtain ⟨hx, hb, hr0, hml, hown, htg, hlk, hK, hN, hI⟩ := id X
  unfold x_Trial_tryLine_b179 at hf
  refine lv_iinc (v := (x2 + 1)) (lv' := [(2, .int (x2 + 1)), (0, .ref (ao 25))]) hx hb d_Trial_tryLine_179 hl (k := 1) rfl rfl (by decide) rfl (fun ls hl => ?_)
  refine lv_goto (tgt := 7) hx hb d_Trial_tryLine_182 (by decide) ?_
  exact hk7 _ _ hf H locs ls hP hS (lv_sub hl [1, 0] rfl)
set_option maxHeartbeats 4000000 in
set_option maxRecDepth 100000 in
theorem w_x_Trial_tryLine_b7_f {z : St} (X : Cx b_Trial_tryLine 4 none R_Trial D [(cI, .int), (cZ, .boolean), (cJ, .long)] (xA ao aa) (xW cI cZ cJ ao aa) p s m args meth c) {k7 : St → Int32 → Option (St)} (hk7 : ∀ (S : St) (x2 : Int32), k7 S x2 = some z → WX rm_x_Trial_tryLine D (xA ao aa) (xW cI cZ cJ ao aa) p l e s m args below meth c none z 7 [] 4 [(0, .ref (ao 25)), (2, .int x2)] S) (S : St) (x2 : Int32) (hf : x_Trial_tryLine_b7_f k7 S x2 = some z) : WX rm_x_Trial_tryLine D (xA ao aa) (xW cI cZ cJ ao aa) p l e s m args below meth c none z 7 [] 4 [(0, .ref (ao 25)), (2, .int x2)] S := by
  intro H locs ls hP hS hl
  obtain ⟨hx, hb, hr0, hml, hown, htg, hlk, hK, hN, hI⟩ := id X
  unfold x_Trial_tryLine_b7_f at hf
  refine lv_iload_n hx hb d_Trial_tryLine_7 rfl (lv_at hl 1 rfl) ?_
  refine lv_aload_n hx hb d_Trial_tryLine_8 rfl (lv_at hl 0 rfl) ?_
  refine va_get (D := D) (v := .ref (ao 23)) hx hb htg in_Trial hown hK hP 25 xo_25 rfl 1 (by decide) (htg _ k_f_Trial_44) (fun _ h9 => h9) rfl d_Trial_tryLine_9 ?_
  refine lv_aload_n hx hb d_Trial_tryLine_12 rfl (lv_at hl 0 rfl) ?_
  refine va_get (D := D) (v := .int (gI S 26)) hx hb htg in_Trial hown hK hP 25 xo_25 rfl 9 (by decide) (htg _ k_f_Trial_33) (fun _ h9 => h9) rfl d_Trial_tryLine_13 ?_
  obtain ⟨q2, he, hf⟩ := ob_some hf
  refine cl_Vi (As := [.int (gI S 26)]) (rest := [.int x2]) X (c_x_Lines_kindsOf he) ok_x_Lines_kindsOf k_m_Trial_70 (va_recv hK hP rfl xo_23) rfl rfl hl.1 (Nat.le_of_ble_eq_true rfl) d_Trial_tryLine_16 ⟨by decide, by decide⟩ hP hS (fun H locs hP hS => ?_)
  refine lv_icmp_ge (tgt := 185) hx hb d_Trial_tryLine_19 (by decide) (fun c => ?_) (fun c => ?_)
  · have hf := if_t hf c
    exact w_x_Trial_tryLine_b185 X _ hf H locs ls hP hS (lv_sub hl [0] rfl)
  · have hf := if_f hf c
    refine lv_aload_n hx hb d_Trial_tryLine_22 rfl (lv_at hl 0 rfl) ?_
    refine va_get (D := D) (v := .int (gI q2.2 28)) hx hb htg in_Trial hown hK hP 25 xo_25 rfl 11 (by decide) (htg _ k_f_Trial_76) (fun _ h9 => h9) rfl d_Trial_tryLine_23 ?_
    refine lv_if_ne (tgt := 185) hx hb d_Trial_tryLine_26 (by decide) (fun c => ?_) (fun c => ?_)
    · have hf := if_f hf c
      exact w_x_Trial_tryLine_b185 X _ hf H locs ls hP hS (lv_sub hl [0] rfl)
    · have hf := if_t hf c
      refine lv_aload_n hx hb d_Trial_tryLine_29 rfl (lv_at hl 0 rfl) ?_
      refine va_get (D := D) (v := .ref (ao 23)) hx hb htg in_Trial hown hK hP 25 xo_25 rfl 1 (by decide) (htg _ k_f_Trial_44) (fun _ h9 => h9) rfl d_Trial_tryLine_30 ?_
      refine lv_aload_n hx hb d_Trial_tryLine_33 rfl (lv_at hl 0 rfl) ?_
      refine va_get (D := D) (v := .int (gI q2.2 26)) hx hb htg in_Trial hown hK hP 25 xo_25 rfl 9 (by decide) (htg _ k_f_Trial_33) (fun _ h9 => h9) rfl d_Trial_tryLine_34 ?_
      refine lv_iload_n hx hb d_Trial_tryLine_37 rfl (lv_at hl 1 rfl) ?_
      obtain ⟨q4, he, hf⟩ := ob_some hf
      refine cl_Vi (As := [.int (gI q2.2 26), .int x2]) (rest := []) X (c_x_Lines_kindAt he) ok_x_Lines_kindAt k_m_Trial_79 (va_recv hK hP rfl xo_23) rfl rfl hl.1 (Nat.le_of_ble_eq_true rfl) d_Trial_tryLine_38 ⟨by decide, by decide⟩ hP hS (fun H locs hP hS => ?_)
      refine lv_istore_n (lv' := [(3, .int q4.1), (0, .ref (ao 25)), (2, .int x2)]) hx hb d_Trial_tryLine_41 rfl hl (by decide) rfl (fun ls hl => ?_)
      refine lv_iload_n hx hb d_Trial_tryLine_42 rfl (lv_at hl 0 rfl) ?_
      refine lv_iconst (v := 1) hx hb d_Trial_tryLine_43 (by decide) ?_
      refine lv_icmp_ne (tgt := 50) hx hb d_Trial_tryLine_44 (by decide) (fun c => ?_) (fun c => ?_)
      · have hf := if_f hf c
        refine lv_aload_n hx hb d_Trial_tryLine_50 rfl (lv_at hl 1 rfl) ?_
        refine va_get (D := D) (v := .int (gI q4.2 27)) hx hb htg in_Trial hown hK hP 25 xo_25 rfl 10 (by decide) (htg _ k_f_Trial_83) (fun _ h9 => h9) rfl d_Trial_tryLine_51 ?_
        refine lv_aload_n hx hb d_Trial_tryLine_54 rfl (lv_at hl 1 rfl) ?_
        refine va_get (D := D) (v := .ref (ao 6)) hx hb htg in_Trial hown hK hP 25 xo_25 rfl 3 (by decide) (htg _ k_f_Trial_52) (fun _ h9 => h9) rfl d_Trial_tryLine_55 ?_
        obtain ⟨q5, he, hf⟩ := ob_some hf
        refine cl_Vi (As := []) (rest := [.int (gI q4.2 27)]) X (c_x_Row_size (by decide : 6 < 17) he) ok_x_Row_size k_m_Trial_86 (va_recv hK hP rfl (xo_row (by decide : 6 < 17))) rfl rfl hl.1 (Nat.le_of_ble_eq_true rfl) d_Trial_tryLine_58 ⟨by decide, by decide⟩ hP hS (fun H locs hP hS => ?_)
        refine lv_icmp_lt (tgt := 72) hx hb d_Trial_tryLine_61 (by decide) (fun c => ?_) (fun c => ?_)
        · have hf := if_t hf c
          refine lv_iload_n hx hb d_Trial_tryLine_72 rfl (lv_at hl 0 rfl) ?_
          refine lv_if_ne (tgt := 84) hx hb d_Trial_tryLine_73 (by decide) (fun c => ?_) (fun c => ?_)
          · have hf := if_f hf c
            refine lv_iload_n hx hb d_Trial_tryLine_84 rfl (lv_at hl 0 rfl) ?_
            refine lv_bipush (v := 9) hx hb d_Trial_tryLine_85 (by decide) ?_
            refine lv_icmp_ne (tgt := 98) hx hb d_Trial_tryLine_87 (by decide) (fun c => ?_) (fun c => ?_)
            · have hf := if_f hf c
              refine lv_iload_n hx hb d_Trial_tryLine_98 rfl (lv_at hl 0 rfl) ?_
              refine lv_bipush (v := 10) hx hb d_Trial_tryLine_99 (by decide) ?_
              refine lv_icmp_ne (tgt := 111) hx hb d_Trial_tryLine_101 (by decide) (fun c => ?_) (fun c => ?_)
              · have hf := if_f hf c
                refine lv_iload_n hx hb d_Trial_tryLine_111 rfl (lv_at hl 0 rfl) ?_
                refine lv_bipush (v := 11) hx hb d_Trial_tryLine_112 (by decide) ?_
                refine lv_icmp_ne (tgt := 136) hx hb d_Trial_tryLine_114 (by decide) (fun c => ?_) (fun c => ?_)
                · have hf := if_f hf c
                  refine lv_iload_n hx hb d_Trial_tryLine_136 rfl (lv_at hl 0 rfl) ?_
                  obtain ⟨q6, he, hf⟩ := ob_some hf
                  refine cl_Ti (As := [.int q4.1]) (rest := []) X (c_x_G_isOfOneThing he) ok_x_G_isOfOneThing k_mn_Trial_108 rfl rfl hl.1 (Nat.le_of_ble_eq_true rfl) d_Trial_tryLine_137 ⟨by decide, by decide⟩ hP hS (fun H locs hP hS => ?_)
                  refine lv_if_eq (tgt := 151) hx hb d_Trial_tryLine_140 (by decide) (fun c => ?_) (fun c => ?_)
                  · have hf := if_t hf c
                    refine lv_aload_n hx hb d_Trial_tryLine_151 rfl (lv_at hl 1 rfl) ?_
                    refine va_get (D := D) (v := .ref (ao 6)) hx hb htg in_Trial hown hK hP 25 xo_25 rfl 3 (by decide) (htg _ k_f_Trial_52) (fun _ h9 => h9) rfl d_Trial_tryLine_152 ?_
                    refine lv_aload_n hx hb d_Trial_tryLine_155 rfl (lv_at hl 1 rfl) ?_
                    refine va_get (D := D) (v := .int (gI q6.2 27)) hx hb htg in_Trial hown hK hP 25 xo_25 rfl 10 (by decide) (htg _ k_f_Trial_83) (fun _ h9 => h9) rfl d_Trial_tryLine_156 ?_
                    obtain ⟨q7, he, hf⟩ := ob_some hf
                    refine cl_Vi (As := [.int (gI q6.2 27)]) (rest := []) X (c_x_Row_at (by decide : 6 < 17) he) ok_x_Row_at k_m_Trial_115 (va_recv hK hP rfl (xo_row (by decide : 6 < 17))) rfl rfl hl.1 (Nat.le_of_ble_eq_true rfl) d_Trial_tryLine_159 ⟨by decide, by decide⟩ hP hS (fun H locs hP hS => ?_)
                    refine lv_iconst (v := 4) hx hb d_Trial_tryLine_162 (by decide) ?_
                    refine lv_icmp_ne (tgt := 174) hx hb d_Trial_tryLine_163 (by decide) (fun c => ?_) (fun c => ?_)
                    · have hf := if_f hf c
                      refine lv_aload_n hx hb d_Trial_tryLine_174 rfl (lv_at hl 1 rfl) ?_
                      refine lv_iload_n hx hb d_Trial_tryLine_175 rfl (lv_at hl 0 rfl) ?_
                      obtain ⟨q8, he, hf⟩ := ob_some hf
                      refine cl_Vv (As := [.int q4.1]) (rest := []) X (c_x_Trial_takeList he) ok_x_Trial_takeList k_m_Trial_121 (va_recv hK hP rfl xo_25) rfl rfl hl.1 (Nat.le_of_ble_eq_true rfl) d_Trial_tryLine_176 ⟨by decide, by decide⟩ hP hS (fun H locs hP hS => ?_)
                      exact w_x_Trial_tryLine_b179 X hk7 _ _ hf H locs ls hP hS (lv_sub hl [1, 2] rfl)
                    · have hf := if_t hf c
                      refine lv_aload_n hx hb d_Trial_tryLine_166 rfl (lv_at hl 1 rfl) ?_
                      refine lv_iload_n hx hb d_Trial_tryLine_167 rfl (lv_at hl 0 rfl) ?_
                      obtain ⟨q9, he, hf⟩ := ob_some hf
                      refine cl_Vv (As := [.int q4.1]) (rest := []) X (c_x_Trial_takeAll he) ok_x_Trial_takeAll k_m_Trial_118 (va_recv hK hP rfl xo_25) rfl rfl hl.1 (Nat.le_of_ble_eq_true rfl) d_Trial_tryLine_168 ⟨by decide, by decide⟩ hP hS (fun H locs hP hS => ?_)
                      refine lv_goto (tgt := 179) hx hb d_Trial_tryLine_171 (by decide) ?_
                      exact w_x_Trial_tryLine_b179 X hk7 _ _ hf H locs ls hP hS (lv_sub hl [1, 2] rfl)
                  · have hf := if_f hf c
                    refine lv_aload_n hx hb d_Trial_tryLine_143 rfl (lv_at hl 1 rfl) ?_
                    refine lv_iload_n hx hb d_Trial_tryLine_144 rfl (lv_at hl 0 rfl) ?_
                    obtain ⟨q10, he, hf⟩ := ob_some hf
                    refine cl_Vv (As := [.int q4.1]) (rest := []) X (c_x_Trial_takeOne he) ok_x_Trial_takeOne k_m_Trial_112 (va_recv hK hP rfl xo_25) rfl rfl hl.1 (Nat.le_of_ble_eq_true rfl) d_Trial_tryLine_145 ⟨by decide, by decide⟩ hP hS (fun H locs hP hS => ?_)
                    refine lv_goto (tgt := 179) hx hb d_Trial_tryLine_148 (by decide) ?_
                    exact w_x_Trial_tryLine_b179 X hk7 _ _ hf H locs ls hP hS (lv_sub hl [1, 2] rfl)
                · have hf := if_t hf c
                  refine lv_aload_n hx hb d_Trial_tryLine_117 rfl (lv_at hl 1 rfl) ?_
                  refine lv_aload_n hx hb d_Trial_tryLine_118 rfl (lv_at hl 1 rfl) ?_
                  refine va_get (D := D) (v := .ref (ao 23)) hx hb htg in_Trial hown hK hP 25 xo_25 rfl 1 (by decide) (htg _ k_f_Trial_44) (fun _ h9 => h9) rfl d_Trial_tryLine_119 ?_
                  refine lv_aload_n hx hb d_Trial_tryLine_122 rfl (lv_at hl 1 rfl) ?_
                  refine va_get (D := D) (v := .int (gI q5.2 26)) hx hb htg in_Trial hown hK hP 25 xo_25 rfl 9 (by decide) (htg _ k_f_Trial_33) (fun _ h9 => h9) rfl d_Trial_tryLine_123 ?_
                  refine lv_iload_n hx hb d_Trial_tryLine_126 rfl (lv_at hl 2 rfl) ?_
                  obtain ⟨q11, he, hf⟩ := ob_some hf
                  refine cl_Vi (As := [.int (gI q5.2 26), .int x2]) (rest := [.ref (ao 25)]) X (c_x_Lines_ofAt he) ok_x_Lines_ofAt k_m_Trial_102 (va_recv hK hP rfl xo_23) rfl rfl hl.1 (Nat.le_of_ble_eq_true rfl) d_Trial_tryLine_127 ⟨by decide, by decide⟩ hP hS (fun H locs hP hS => ?_)
                  obtain ⟨q12, he, hf⟩ := ob_some hf
                  refine cl_Vv (As := [.int q11.1]) (rest := []) X (c_x_Trial_takeCustom he) ok_x_Trial_takeCustom k_m_Trial_105 (va_recv hK hP rfl xo_25) rfl rfl hl.1 (Nat.le_of_ble_eq_true rfl) d_Trial_tryLine_130 ⟨by decide, by decide⟩ hP hS (fun H locs hP hS => ?_)
                  refine lv_goto (tgt := 179) hx hb d_Trial_tryLine_133 (by decide) ?_
                  exact w_x_Trial_tryLine_b179 X hk7 _ _ hf H locs ls hP hS (lv_sub hl [1, 2] rfl)
              · have hf := if_t hf c
                refine lv_aload_n hx hb d_Trial_tryLine_104 rfl (lv_at hl 1 rfl) ?_
                obtain ⟨q13, he, hf⟩ := ob_some hf
                refine cl_Vv (As := []) (rest := []) X (c_x_Trial_takeNumber he) ok_x_Trial_takeNumber k_m_Trial_99 (va_recv hK hP rfl xo_25) rfl rfl hl.1 (Nat.le_of_ble_eq_true rfl) d_Trial_tryLine_105 ⟨by decide, by decide⟩ hP hS (fun H locs hP hS => ?_)
                refine lv_goto (tgt := 179) hx hb d_Trial_tryLine_108 (by decide) ?_
                exact w_x_Trial_tryLine_b179 X hk7 _ _ hf H locs ls hP hS (lv_sub hl [1, 2] rfl)
            · have hf := if_t hf c
              refine lv_aload_n hx hb d_Trial_tryLine_90 rfl (lv_at hl 1 rfl) ?_
              refine lv_iload_n hx hb d_Trial_tryLine_91 rfl (lv_at hl 2 rfl) ?_
              obtain ⟨q14, he, hf⟩ := ob_some hf
              refine cl_Vv (As := [.int x2]) (rest := []) X (c_x_Trial_takeTopic he) ok_x_Trial_takeTopic k_m_Trial_96 (va_recv hK hP rfl xo_25) rfl rfl hl.1 (Nat.le_of_ble_eq_true rfl) d_Trial_tryLine_92 ⟨by decide, by decide⟩ hP hS (fun H locs hP hS => ?_)
              refine lv_goto (tgt := 179) hx hb d_Trial_tryLine_95 (by decide) ?_
              exact w_x_Trial_tryLine_b179 X hk7 _ _ hf H locs ls hP hS (lv_sub hl [1, 2] rfl)
          · have hf := if_t hf c
            refine lv_aload_n hx hb d_Trial_tryLine_76 rfl (lv_at hl 1 rfl) ?_
            refine lv_iload_n hx hb d_Trial_tryLine_77 rfl (lv_at hl 2 rfl) ?_
            obtain ⟨q15, he, hf⟩ := ob_some hf
            refine cl_Vv (As := [.int x2]) (rest := []) X (c_x_Trial_takeWord he) ok_x_Trial_takeWord k_m_Trial_93 (va_recv hK hP rfl xo_25) rfl rfl hl.1 (Nat.le_of_ble_eq_true rfl) d_Trial_tryLine_78 ⟨by decide, by decide⟩ hP hS (fun H locs hP hS => ?_)
            refine lv_goto (tgt := 179) hx hb d_Trial_tryLine_81 (by decide) ?_
            exact w_x_Trial_tryLine_b179 X hk7 _ _ hf H locs ls hP hS (lv_sub hl [1, 2] rfl)
        · have hf := if_f hf c
          refine lv_aload_n hx hb d_Trial_tryLine_64 rfl (lv_at hl 1 rfl) ?_
          refine lv_iload_n hx hb d_Trial_tryLine_65 rfl (lv_at hl 2 rfl) ?_
          obtain ⟨q16, he, hf⟩ := ob_some hf
          refine cl_Vv (As := [.int x2]) (rest := []) X (c_x_Trial_fillOrAsk he) ok_x_Trial_fillOrAsk k_m_Trial_90 (va_recv hK hP rfl xo_25) rfl rfl hl.1 (Nat.le_of_ble_eq_true rfl) d_Trial_tryLine_66 ⟨by decide, by decide⟩ hP hS (fun H locs hP hS => ?_)
          refine lv_goto (tgt := 185) hx hb d_Trial_tryLine_69 (by decide) ?_
          exact w_x_Trial_tryLine_b185 X _ hf H locs ls hP hS (lv_sub hl [1] rfl)
      · have hf := if_t hf c
        refine lv_goto (tgt := 179) hx hb d_Trial_tryLine_47 (by decide) ?_
        exact w_x_Trial_tryLine_b179 X hk7 _ _ hf H locs ls hP hS (lv_sub hl [1, 2] rfl)
theorem w_x_Trial_tryLine_b7 {z : St} (X : Cx b_Trial_tryLine 4 none R_Trial D [(cI, .int), (cZ, .boolean), (cJ, .long)] (xA ao aa) (xW cI cZ cJ ao aa) p s m args meth c) : ∀ (n : Nat) (S : St) (x2 : Int32), x_Trial_tryLine_b7 n S x2 = some z → WX rm_x_Trial_tryLine D (xA ao aa) (xW cI cZ cJ ao aa) p l e s m args below meth c none z 7 [] 4 [(0, .ref (ao 25)), (2, .int x2)] S
  | 0, _, _, hf => ns hf
  | n + 1, _, _, hf => w_x_Trial_tryLine_b7_f X (w_x_Trial_tryLine_b7 X n) _ _ hf
set_option maxHeartbeats 4000000 in
set_option maxRecDepth 100000 in
theorem w_x_Trial_tryLine {z : St} (X : Cx b_Trial_tryLine 4 none R_Trial D [(cI, .int), (cZ, .boolean), (cJ, .long)] (xA ao aa) (xW cI cZ cJ ao aa) p s m args meth c) (S : St) (x0 : Int32) (hf : x_Trial_tryLine S x0 = some z) : WX rm_x_Trial_tryLine D (xA ao aa) (xW cI cZ cJ ao aa) p l e s m args below meth c none z 0 [] 4 [(0, .ref (ao 25)), (1, .int x0)] S := by
  intro H locs ls hP hS hl
  obtain ⟨hx, hb, hr0, hml, hown, htg, hlk, hK, hN, hI⟩ := id X
  unfold x_Trial_tryLine at hf
  refine lv_aload_n hx hb d_Trial_tryLine_0 rfl (lv_at hl 0 rfl) ?_
  refine lv_iload_n hx hb d_Trial_tryLine_1 rfl (lv_at hl 1 rfl) ?_
  obtain ⟨q1, he, hf⟩ := ob_some hf
  refine cl_Vv (As := [.int x0]) (rest := []) X (c_x_Trial_begin he) ok_x_Trial_begin k_m_Trial_67 (va_recv hK hP rfl xo_25) rfl rfl hl.1 (Nat.le_of_ble_eq_true rfl) d_Trial_tryLine_2 ⟨by decide, by decide⟩ hP hS (fun H locs hP hS => ?_)
  refine lv_iconst (v := 0) hx hb d_Trial_tryLine_5 (by decide) ?_
  refine lv_istore_n (lv' := [(2, .int (0 : Int32)), (0, .ref (ao 25)), (1, .int x0)]) hx hb d_Trial_tryLine_6 rfl hl (by decide) rfl (fun ls hl => ?_)
  exact w_x_Trial_tryLine_b7 X _ _ _ hf H locs ls hP hS (lv_sub hl [1, 0] rfl)
theorem c_x_Trial_tryLine {l : Launch} {D : va_G} {cI cZ cJ : ClassId} {ao aa : Nat → Nat} {S : St} {x0 : Int32} {z : St} (hz : x_Trial_tryLine S x0 = some z) : Ct l y_Trial_tryLine (.code y_Trial_tryLine b_Trial_tryLine 4 none :: gw) rm_x_Trial_tryLine D [(cI, .int), (cZ, .boolean), (cJ, .long)] (xA ao aa) (xW cI cZ cJ ao aa) [.ref (ao 25), .int x0] S none z :=
  Ct_of (by decide) (fun p e s m args below meth c X => w_x_Trial_tryLine X _ _ hz) (Nat.le_of_ble_eq_true rfl)
def x_Lines_actionOf (S : St) (x0 : Int32) : Option (Int32 × St) :=
  (x_Lines_has S x0).bind fun q1 =>
  if q1.1 = 0 then
    some ((-1 : Int32), q1.2)
  else
    gd (vin x0 60) <|
    some ((gA q1.2 21 x0.toNatClampNeg), q1.2)
def rm_x_Lines_actionOf : Room := { frames := 1, cells := 0, slots := 0, locals := 21 }
theorem ok_x_Lines_actionOf : CalV y_Lines_actionOf b_Lines_actionOf 2 (some .int) 1 rm_x_Lines_actionOf := ⟨kc_Lines_actionOf, ki_Lines_actionOf, kl_Lines_actionOf, ji_Lines, ⟨by decide, by decide, by decide +kernel⟩, rfl, rfl⟩
set_option maxHeartbeats 4000000 in
set_option maxRecDepth 100000 in
theorem w_x_Lines_actionOf {z : Int32 × St} (X : Cx b_Lines_actionOf 2 (some .int) R_Lines D [(cI, .int), (cZ, .boolean), (cJ, .long)] (xA ao aa) (xW cI cZ cJ ao aa) p s m args meth c) (S : St) (x0 : Int32) (hf : x_Lines_actionOf S x0 = some z) : WX rm_x_Lines_actionOf D (xA ao aa) (xW cI cZ cJ ao aa) p l e s m args below meth c (some (.int z.1)) z.2 0 [] 2 [(0, .ref (ao 23)), (1, .int x0)] S := by
  intro H locs ls hP hS hl
  obtain ⟨hx, hb, hr0, hml, hown, htg, hlk, hK, hN, hI⟩ := id X
  unfold x_Lines_actionOf at hf
  refine lv_aload_n hx hb d_Lines_actionOf_0 rfl (lv_at hl 0 rfl) ?_
  refine lv_iload_n hx hb d_Lines_actionOf_1 rfl (lv_at hl 1 rfl) ?_
  obtain ⟨q1, he, hf⟩ := ob_some hf
  refine cl_Vi (As := [.int x0]) (rest := []) X (c_x_Lines_has he) ok_x_Lines_has k_m_Lines_39 (va_recv hK hP rfl xo_23) rfl rfl hl.1 (Nat.le_of_ble_eq_true rfl) d_Lines_actionOf_2 ⟨by decide, by decide⟩ hP hS (fun H locs hP hS => ?_)
  refine lv_if_eq (tgt := 17) hx hb d_Lines_actionOf_5 (by decide) (fun c => ?_) (fun c => ?_)
  · have hf := if_t hf c
    refine lv_iconst (v := (-1)) hx hb d_Lines_actionOf_17 (by decide) ?_
    obtain rfl := Option.some.inj hf
    exact W.iret hx hb hr0 (fun t ht _ => ⟨⟨rfl, by rw [ht]; exact hP⟩, hS.F ht⟩) hS.2.2 d_Lines_actionOf_18 hlk
  · have hf := if_f hf c
    refine lv_aload_n hx hb d_Lines_actionOf_8 rfl (lv_at hl 0 rfl) ?_
    refine va_get (D := D) (v := .ref (aa 21)) hx hb htg in_Lines hown hK hP 23 xo_23 rfl 1 (by decide) (htg _ k_f_Lines_15) (fun _ h9 => h9) rfl d_Lines_actionOf_9 ?_
    refine lv_iload_n hx hb d_Lines_actionOf_12 rfl (lv_at hl 1 rfl) ?_
    obtain ⟨hg, hf⟩ := gd_some hf
    refine va_iald hx hb hK hP 49 0 xa_21 rfl (vin_in hg) d_Lines_actionOf_13 ?_
    refine lv_goto (tgt := 18) hx hb d_Lines_actionOf_14 (by decide) ?_
    obtain rfl := Option.some.inj hf
    exact W.iret hx hb hr0 (fun t ht _ => ⟨⟨rfl, by rw [ht]; exact hP⟩, hS.F ht⟩) hS.2.2 d_Lines_actionOf_18 hlk
theorem c_x_Lines_actionOf {l : Launch} {D : va_G} {cI cZ cJ : ClassId} {ao aa : Nat → Nat} {S : St} {x0 : Int32} {z : Int32 × St} (hz : x_Lines_actionOf S x0 = some z) : Ct l y_Lines_actionOf (.code y_Lines_actionOf b_Lines_actionOf 2 (some .int) :: gw) rm_x_Lines_actionOf D [(cI, .int), (cZ, .boolean), (cJ, .long)] (xA ao aa) (xW cI cZ cJ ao aa) [.ref (ao 23), .int x0] S (some (.int z.1)) z.2 :=
  Ct_of (by decide) (fun p e s m args below meth c X => w_x_Lines_actionOf X _ _ hz) (Nat.le_of_ble_eq_true rfl)
def x_Report_note (S : St) (x0 : Int32) : Option (St) :=
  (x_Row_add 13 S (gI S 26)).bind fun q1 =>
  (x_Row_add 14 q1 (gI q1 28)).bind fun q2 =>
  (x_Row_add 15 q2 (gI q2 29)).bind fun q3 =>
  if (gI q3 28) = 0 then
    (x_Report_fail (sI q3 30 x0) (0 : Int32) (-1 : Int32) (gI (sI q3 30 x0) 26)).bind fun q6 =>
    some q6
  else
    if (gI q3 28) ≤ (gI q3 31) then
      some q3
    else
      (x_Report_fail q3 (gI q3 28) (gI q3 29) (gI q3 26)).bind fun q4 =>
      (x_Row_become 16 12 q4).bind fun q5 =>
      some (sI q5 34 (gI q5 22))
def rm_x_Report_note : Room := { frames := 2, cells := 0, slots := 0, locals := 43 }
theorem ok_x_Report_note : CalV y_Report_note b_Report_note 3 none 2 rm_x_Report_note := ⟨kc_Report_note, ki_Report_note, kl_Report_note, ji_Report, ⟨by decide, by decide, by decide +kernel⟩, rfl, rfl⟩
set_option maxHeartbeats 4000000 in
set_option maxRecDepth 100000 in
theorem w_x_Report_note {z : St} (X : Cx b_Report_note 3 none R_Report D [(cI, .int), (cZ, .boolean), (cJ, .long)] (xA ao aa) (xW cI cZ cJ ao aa) p s m args meth c) (S : St) (x0 : Int32) (hf : x_Report_note S x0 = some z) : WX rm_x_Report_note D (xA ao aa) (xW cI cZ cJ ao aa) p l e s m args below meth c none z 0 [] 3 [(0, .ref (ao 26)), (1, .ref (ao 25)), (2, .int x0)] S := by
  intro H locs ls hP hS hl
  obtain ⟨hx, hb, hr0, hml, hown, htg, hlk, hK, hN, hI⟩ := id X
  unfold x_Report_note at hf
  refine lv_aload_n hx hb d_Report_note_0 rfl (lv_at hl 0 rfl) ?_
  refine va_get (D := D) (v := .ref (ao 13)) hx hb htg in_Report hown hK hP 26 xo_26 rfl 0 (by decide) (htg _ k_f_Report_14) (fun _ h9 => h9) rfl d_Report_note_1 ?_
  refine lv_aload_n hx hb d_Report_note_4 rfl (lv_at hl 1 rfl) ?_
  refine va_getN (D := D) (v := .int (gI S 26)) hx hb htg in_Trial hown hK hP 25 xo_25 rfl 9 (by decide) (va_Nw.use rfl (hN _ k_fn_Report_45)) (fun _ h9 => h9) rfl d_Report_note_5 ?_
  obtain ⟨q1, he, hf⟩ := ob_some hf
  refine cl_Vv (As := [.int (gI S 26)]) (rest := []) X (c_x_Row_add (by decide : 13 < 17) he) ok_x_Row_add k_m_Report_48 (va_recv hK hP rfl (xo_row (by decide : 13 < 17))) rfl rfl hl.1 (Nat.le_of_ble_eq_true rfl) d_Report_note_8 ⟨by decide, by decide⟩ hP hS (fun H locs hP hS => ?_)
  refine lv_aload_n hx hb d_Report_note_11 rfl (lv_at hl 0 rfl) ?_
  refine va_get (D := D) (v := .ref (ao 14)) hx hb htg in_Report hown hK hP 26 xo_26 rfl 1 (by decide) (htg _ k_f_Report_20) (fun _ h9 => h9) rfl d_Report_note_12 ?_
  refine lv_aload_n hx hb d_Report_note_15 rfl (lv_at hl 1 rfl) ?_
  refine va_getN (D := D) (v := .int (gI q1 28)) hx hb htg in_Trial hown hK hP 25 xo_25 rfl 11 (by decide) (va_Nw.use rfl (hN _ k_fn_Report_51)) (fun _ h9 => h9) rfl d_Report_note_16 ?_
  obtain ⟨q2, he, hf⟩ := ob_some hf
  refine cl_Vv (As := [.int (gI q1 28)]) (rest := []) X (c_x_Row_add (by decide : 14 < 17) he) ok_x_Row_add k_m_Report_48 (va_recv hK hP rfl (xo_row (by decide : 14 < 17))) rfl rfl hl.1 (Nat.le_of_ble_eq_true rfl) d_Report_note_19 ⟨by decide, by decide⟩ hP hS (fun H locs hP hS => ?_)
  refine lv_aload_n hx hb d_Report_note_22 rfl (lv_at hl 0 rfl) ?_
  refine va_get (D := D) (v := .ref (ao 15)) hx hb htg in_Report hown hK hP 26 xo_26 rfl 2 (by decide) (htg _ k_f_Report_23) (fun _ h9 => h9) rfl d_Report_note_23 ?_
  refine lv_aload_n hx hb d_Report_note_26 rfl (lv_at hl 1 rfl) ?_
  refine va_getN (D := D) (v := .int (gI q2 29)) hx hb htg in_Trial hown hK hP 25 xo_25 rfl 12 (by decide) (va_Nw.use rfl (hN _ k_fn_Report_52)) (fun _ h9 => h9) rfl d_Report_note_27 ?_
  obtain ⟨q3, he, hf⟩ := ob_some hf
  refine cl_Vv (As := [.int (gI q2 29)]) (rest := []) X (c_x_Row_add (by decide : 15 < 17) he) ok_x_Row_add k_m_Report_48 (va_recv hK hP rfl (xo_row (by decide : 15 < 17))) rfl rfl hl.1 (Nat.le_of_ble_eq_true rfl) d_Report_note_30 ⟨by decide, by decide⟩ hP hS (fun H locs hP hS => ?_)
  refine lv_aload_n hx hb d_Report_note_33 rfl (lv_at hl 1 rfl) ?_
  refine va_getN (D := D) (v := .int (gI q3 28)) hx hb htg in_Trial hown hK hP 25 xo_25 rfl 11 (by decide) (va_Nw.use rfl (hN _ k_fn_Report_51)) (fun _ h9 => h9) rfl d_Report_note_34 ?_
  refine lv_if_ne (tgt := 58) hx hb d_Report_note_37 (by decide) (fun c => ?_) (fun c => ?_)
  · have hf := if_f hf c
    refine lv_aload_n hx hb d_Report_note_58 rfl (lv_at hl 1 rfl) ?_
    refine va_getN (D := D) (v := .int (gI q3 28)) hx hb htg in_Trial hown hK hP 25 xo_25 rfl 11 (by decide) (va_Nw.use rfl (hN _ k_fn_Report_51)) (fun _ h9 => h9) rfl d_Report_note_59 ?_
    refine lv_aload_n hx hb d_Report_note_62 rfl (lv_at hl 0 rfl) ?_
    refine va_get (D := D) (v := .int (gI q3 31)) hx hb htg in_Report hown hK hP 26 xo_26 rfl 5 (by decide) (htg _ k_f_Report_42) (fun _ h9 => h9) rfl d_Report_note_63 ?_
    refine lv_icmp_le (tgt := 107) hx hb d_Report_note_66 (by decide) (fun c => ?_) (fun c => ?_)
    · have hf := if_t hf c
      obtain rfl := Option.some.inj hf
      exact W.vret hx hb hr0 (fun t ht _ => ⟨⟨rfl, by rw [ht]; exact hP⟩, hS.F ht⟩) hS.2.2 d_Report_note_107 hlk
    · have hf := if_f hf c
      refine lv_aload_n hx hb d_Report_note_69 rfl (lv_at hl 0 rfl) ?_
      refine lv_aload_n hx hb d_Report_note_70 rfl (lv_at hl 1 rfl) ?_
      refine va_getN (D := D) (v := .int (gI q3 28)) hx hb htg in_Trial hown hK hP 25 xo_25 rfl 11 (by decide) (va_Nw.use rfl (hN _ k_fn_Report_51)) (fun _ h9 => h9) rfl d_Report_note_71 ?_
      refine lv_aload_n hx hb d_Report_note_74 rfl (lv_at hl 1 rfl) ?_
      refine va_getN (D := D) (v := .int (gI q3 29)) hx hb htg in_Trial hown hK hP 25 xo_25 rfl 12 (by decide) (va_Nw.use rfl (hN _ k_fn_Report_52)) (fun _ h9 => h9) rfl d_Report_note_75 ?_
      refine lv_aload_n hx hb d_Report_note_78 rfl (lv_at hl 1 rfl) ?_
      refine va_getN (D := D) (v := .int (gI q3 26)) hx hb htg in_Trial hown hK hP 25 xo_25 rfl 9 (by decide) (va_Nw.use rfl (hN _ k_fn_Report_45)) (fun _ h9 => h9) rfl d_Report_note_79 ?_
      obtain ⟨q4, he, hf⟩ := ob_some hf
      refine cl_Vv (As := [.int (gI q3 28), .int (gI q3 29), .int (gI q3 26)]) (rest := []) X (c_x_Report_fail he) ok_x_Report_fail k_m_Report_53 (va_recv hK hP rfl xo_26) rfl rfl hl.1 (Nat.le_of_ble_eq_true rfl) d_Report_note_82 ⟨by decide, by decide⟩ hP hS (fun H locs hP hS => ?_)
      refine lv_aload_n hx hb d_Report_note_85 rfl (lv_at hl 0 rfl) ?_
      refine va_get (D := D) (v := .ref (ao 16)) hx hb htg in_Report hown hK hP 26 xo_26 rfl 3 (by decide) (htg _ k_f_Report_26) (fun _ h9 => h9) rfl d_Report_note_86 ?_
      refine lv_aload_n hx hb d_Report_note_89 rfl (lv_at hl 1 rfl) ?_
      refine va_getN (D := D) (v := .ref (ao 12)) hx hb htg in_Trial hown hK hP 25 xo_25 rfl 8 (by decide) (va_Nw.use rfl (hN _ k_fn_Report_57)) (fun _ h9 => h9) rfl d_Report_note_90 ?_
      obtain ⟨q5, he, hf⟩ := ob_some hf
      refine cl_Vv (As := [.ref (ao 12)]) (rest := []) X (c_x_Row_become (by decide : 16 < 17) (by decide : 12 < 17) he) ok_x_Row_become k_m_Report_58 (va_recv hK hP rfl (xo_row (by decide : 16 < 17))) rfl rfl hl.1 (Nat.le_of_ble_eq_true rfl) d_Report_note_93 ⟨by decide, by decide⟩ hP hS (fun H locs hP hS => ?_)
      refine lv_aload_n hx hb d_Report_note_96 rfl (lv_at hl 0 rfl) ?_
      refine lv_aload_n hx hb d_Report_note_97 rfl (lv_at hl 1 rfl) ?_
      refine va_getN (D := D) (v := .ref (ao 20)) hx hb htg in_Trial hown hK hP 25 xo_25 rfl 4 (by decide) (va_Nw.use rfl (hN _ k_fn_Report_62)) (fun _ h9 => h9) rfl d_Report_note_98 ?_
      refine va_getN (D := D) (v := .int (gI q5 22)) hx hb htg in_Phrase hown hK hP 20 xo_20 rfl 2 (by decide) (va_Nw.use rfl (hN _ k_fn_Report_66)) (fun _ h9 => h9) rfl d_Report_note_101 ?_
      refine va_put (D := D) (ty := .int) hx hb htg in_Report t_Report t_Report_ok n_Report hown hK hP (hI _) hS 26 xo_26 rfl 8 (by decide) (htg _ k_f_Report_71) (fun _ h9 => h9) rfl (by decide +kernel) rfl rfl (Nat.le_of_ble_eq_true rfl) d_Report_note_104 (fun H locs hP _ hS => ?_)
      replace hP : va_P D classes (xW cI cZ cJ ao aa (sI q5 34 (gI q5 22))) H := pw xs_26_phraseEnd hP
      obtain rfl := Option.some.inj hf
      exact W.vret hx hb hr0 (fun t ht _ => ⟨⟨rfl, by rw [ht]; exact hP⟩, hS.F ht⟩) hS.2.2 d_Report_note_107 hlk
  · have hf := if_t hf c
    refine lv_aload_n hx hb d_Report_note_40 rfl (lv_at hl 0 rfl) ?_
    refine lv_iload_n hx hb d_Report_note_41 rfl (lv_at hl 2 rfl) ?_
    refine va_put (D := D) (ty := .int) hx hb htg in_Report t_Report t_Report_ok n_Report hown hK hP (hI _) hS 26 xo_26 rfl 4 (by decide) (htg _ k_f_Report_29) (fun _ h9 => h9) rfl (by decide +kernel) rfl rfl (Nat.le_of_ble_eq_true rfl) d_Report_note_42 (fun H locs hP _ hS => ?_)
    replace hP : va_P D classes (xW cI cZ cJ ao aa (sI q3 30 x0)) H := pw xs_26_action hP
    refine lv_aload_n hx hb d_Report_note_45 rfl (lv_at hl 0 rfl) ?_
    refine lv_iconst (v := 0) hx hb d_Report_note_46 (by decide) ?_
    refine lv_iconst (v := (-1)) hx hb d_Report_note_47 (by decide) ?_
    refine lv_aload_n hx hb d_Report_note_48 rfl (lv_at hl 1 rfl) ?_
    refine va_getN (D := D) (v := .int (gI (sI q3 30 x0) 26)) hx hb htg in_Trial hown hK hP 25 xo_25 rfl 9 (by decide) (va_Nw.use rfl (hN _ k_fn_Report_45)) (fun _ h9 => h9) rfl d_Report_note_49 ?_
    obtain ⟨q6, he, hf⟩ := ob_some hf
    refine cl_Vv (As := [.int (0 : Int32), .int (-1 : Int32), .int (gI (sI q3 30 x0) 26)]) (rest := []) X (c_x_Report_fail he) ok_x_Report_fail k_m_Report_53 (va_recv hK hP rfl xo_26) rfl rfl hl.1 (Nat.le_of_ble_eq_true rfl) d_Report_note_52 ⟨by decide, by decide⟩ hP hS (fun H locs hP hS => ?_)
    refine lv_goto (tgt := 107) hx hb d_Report_note_55 (by decide) ?_
    obtain rfl := Option.some.inj hf
    exact W.vret hx hb hr0 (fun t ht _ => ⟨⟨rfl, by rw [ht]; exact hP⟩, hS.F ht⟩) hS.2.2 d_Report_note_107 hlk
theorem c_x_Report_note {l : Launch} {D : va_G} {cI cZ cJ : ClassId} {ao aa : Nat → Nat} {S : St} {x0 : Int32} {z : St} (hz : x_Report_note S x0 = some z) : Ct l y_Report_note (.code y_Report_note b_Report_note 3 none :: gw) rm_x_Report_note D [(cI, .int), (cZ, .boolean), (cJ, .long)] (xA ao aa) (xW cI cZ cJ ao aa) [.ref (ao 26), .ref (ao 25), .int x0] S none z :=
  Ct_of (by decide) (fun p e s m args below meth c X => w_x_Report_note X _ _ hz) (Nat.le_of_ble_eq_true rfl)
def x_G_tryCommand_b120 (S : St) : Option (Int32 × St) :=
  if (gI S 30) = (-1 : Int32) then
    (x_Report_isAsked S).bind fun q6 =>
    if q6.1 = 0 then
      (x_Row_empty 5 q6.2).bind fun q7 =>
      some ((-(gI q7 31)), q7)
    else
      some ((0 : Int32), q6.2)
  else
    (x_Row_become 8 6 S).bind fun q8 =>
    some ((gI (sI q8 36 (gI q8 35)) 30), (sI q8 36 (gI q8 35)))
def x_G_tryCommand_b97 (S : St) : Option (Int32 × St) :=
  (x_Row_size 13 S).bind fun q5 =>
  if q5.1 = 0 then
    (x_Report_fail q5.2 (2 : Int32) (0 : Int32) (-1 : Int32)).bind fun q9 =>
    x_G_tryCommand_b120 q9
  else
    x_G_tryCommand_b120 q5.2
def x_G_tryCommand_b91 (k25 : St → Int32 → Int32 → Option (Int32 × St)) (S : St) (x1 : Int32) (x2 : Int32) : Option (Int32 × St) :=
  k25 S x1 (x2 + 1)
def x_G_tryCommand_b25_f (k25 : St → Int32 → Int32 → Option (Int32 × St)) (S : St) (x1 : Int32) (x2 : Int32) : Option (Int32 × St) :=
  (x_Lines_count S).bind fun q4 =>
  if q4.1 ≤ x2 then
    x_G_tryCommand_b97 q4.2
  else
    if (gI q4.2 30) = (-1 : Int32) then
      if x1 = (-1 : Int32) then
        x_G_tryCommand_b91 k25 q4.2 x1 x2
      else
        (x_Lines_verbOf q4.2 x2).bind fun q10 =>
        if q10.1 = x1 then
          (x_Trial_tryLine q10.2 x2).bind fun q11 =>
          (x_Lines_actionOf q11 x2).bind fun q12 =>
          (x_Report_note q12.2 q12.1).bind fun q13 =>
          x_G_tryCommand_b91 k25 q13 x1 x2
        else
          x_G_tryCommand_b91 k25 q10.2 x1 x2
    else
      x_G_tryCommand_b97 q4.2
def x_G_tryCommand_b25 : Nat → St → Int32 → Int32 → Option (Int32 × St)
  | 0, _, _, _ => none
  | n + 1, S, x1, x2 => x_G_tryCommand_b25_f (x_G_tryCommand_b25 n) S x1 x2
def x_G_tryCommand (S : St) : Option (Int32 × St) :=
  (x_Report_begin S).bind fun q1 =>
  (x_Row_at 6 q1 (0 : Int32)).bind fun q2 =>
  (x_Verbs_find q2.2 q2.1).bind fun q3 =>
  x_G_tryCommand_b25 fu q3.2 q3.1 (0 : Int32)
def rm_x_G_tryCommand : Room := { frames := 5, cells := 0, slots := 0, locals := 124 }
theorem ok_x_G_tryCommand : CalV y_G_tryCommand b_G_tryCommand 3 (some .int) 0 rm_x_G_tryCommand := ⟨kc_G_tryCommand, ki_G_tryCommand, kl_G_tryCommand, ji_G, ⟨by decide, by decide, by decide +kernel⟩, rfl, rfl⟩
set_option maxHeartbeats 4000000 in
set_option maxRecDepth 100000 in
theorem w_x_G_tryCommand_b120 {z : Int32 × St} (X : Cx b_G_tryCommand 3 (some .int) R_G D [(cI, .int), (cZ, .boolean), (cJ, .long)] (xA ao aa) (xW cI cZ cJ ao aa) p s m args meth c) (S : St) (hf : x_G_tryCommand_b120 S = some z) : WX rm_x_G_tryCommand D (xA ao aa) (xW cI cZ cJ ao aa) p l e s m args below meth c (some (.int z.1)) z.2 120 [] 3 [(0, .ref (ao 27))] S := by
  intro H locs ls hP hS hl
  obtain ⟨hx, hb, hr0, hml, hown, htg, hlk, hK, hN, hI⟩ := id X
  unfold x_G_tryCommand_b120 at hf
  refine lv_aload_n hx hb d_G_tryCommand_120 rfl (lv_at hl 0 rfl) ?_
  refine va_get (D := D) (v := .ref (ao 26)) hx hb htg in_G hown hK hP 27 xo_27 rfl 10 (by decide) (htg _ k_f_G_76) (fun _ h9 => h9) rfl d_G_tryCommand_121 ?_
  refine va_getN (D := D) (v := .int (gI S 30)) hx hb htg in_Report hown hK hP 26 xo_26 rfl 4 (by decide) (va_Nw.use rfl (hN _ k_fn_G_207)) (fun _ h9 => h9) rfl d_G_tryCommand_124 ?_
  refine lv_iconst (v := (-1)) hx hb d_G_tryCommand_127 (by decide) ?_
  refine lv_icmp_eq (tgt := 158) hx hb d_G_tryCommand_128 (by decide) (fun c => ?_) (fun c => ?_)
  · have hf := if_t hf c
    refine lv_aload_n hx hb d_G_tryCommand_158 rfl (lv_at hl 0 rfl) ?_
    refine va_get (D := D) (v := .ref (ao 26)) hx hb htg in_G hown hK hP 27 xo_27 rfl 10 (by decide) (htg _ k_f_G_76) (fun _ h9 => h9) rfl d_G_tryCommand_159 ?_
    obtain ⟨q6, he, hf⟩ := ob_some hf
    refine cl_Vi (As := []) (rest := []) X (c_x_Report_isAsked he) ok_x_Report_isAsked k_m_G_189 (va_recv hK hP rfl xo_26) rfl rfl hl.1 (Nat.le_of_ble_eq_true rfl) d_G_tryCommand_162 ⟨by decide, by decide⟩ hP hS (fun H locs hP hS => ?_)
    refine lv_if_eq (tgt := 170) hx hb d_G_tryCommand_165 (by decide) (fun c => ?_) (fun c => ?_)
    · have hf := if_t hf c
      refine lv_aload_n hx hb d_G_tryCommand_170 rfl (lv_at hl 0 rfl) ?_
      refine va_get (D := D) (v := .ref (ao 5)) hx hb htg in_G hown hK hP 27 xo_27 rfl 4 (by decide) (htg _ k_f_G_42) (fun _ h9 => h9) rfl d_G_tryCommand_171 ?_
      obtain ⟨q7, he, hf⟩ := ob_some hf
      refine cl_Vv (As := []) (rest := []) X (c_x_Row_empty (by decide : 5 < 17) he) ok_x_Row_empty k_m_G_167 (va_recv hK hP rfl (xo_row (by decide : 5 < 17))) rfl rfl hl.1 (Nat.le_of_ble_eq_true rfl) d_G_tryCommand_174 ⟨by decide, by decide⟩ hP hS (fun H locs hP hS => ?_)
      refine lv_aload_n hx hb d_G_tryCommand_177 rfl (lv_at hl 0 rfl) ?_
      refine va_get (D := D) (v := .ref (ao 26)) hx hb htg in_G hown hK hP 27 xo_27 rfl 10 (by decide) (htg _ k_f_G_76) (fun _ h9 => h9) rfl d_G_tryCommand_178 ?_
      refine va_getN (D := D) (v := .int (gI q7 31)) hx hb htg in_Report hown hK hP 26 xo_26 rfl 5 (by decide) (va_Nw.use rfl (hN _ k_fn_G_197)) (fun _ h9 => h9) rfl d_G_tryCommand_181 ?_
      refine lv_ineg hx hb d_G_tryCommand_184 ?_
      obtain rfl := Option.some.inj hf
      exact W.iret hx hb hr0 (fun t ht _ => ⟨⟨rfl, by rw [ht]; exact hP⟩, hS.F ht⟩) hS.2.2 d_G_tryCommand_185 hlk
    · have hf := if_f hf c
      refine lv_iconst (v := 0) hx hb d_G_tryCommand_168 (by decide) ?_
      obtain rfl := Option.some.inj hf
      exact W.iret hx hb hr0 (fun t ht _ => ⟨⟨rfl, by rw [ht]; exact hP⟩, hS.F ht⟩) hS.2.2 d_G_tryCommand_169 hlk
  · have hf := if_f hf c
    refine lv_aload_n hx hb d_G_tryCommand_131 rfl (lv_at hl 0 rfl) ?_
    refine va_get (D := D) (v := .ref (ao 8)) hx hb htg in_G hown hK hP 27 xo_27 rfl 7 (by decide) (htg _ k_f_G_52) (fun _ h9 => h9) rfl d_G_tryCommand_132 ?_
    refine lv_aload_n hx hb d_G_tryCommand_135 rfl (lv_at hl 0 rfl) ?_
    refine va_get (D := D) (v := .ref (ao 6)) hx hb htg in_G hown hK hP 27 xo_27 rfl 5 (by decide) (htg _ k_f_G_46) (fun _ h9 => h9) rfl d_G_tryCommand_136 ?_
    obtain ⟨q8, he, hf⟩ := ob_some hf
    refine cl_Vv (As := [.ref (ao 6)]) (rest := []) X (c_x_Row_become (by decide : 8 < 17) (by decide : 6 < 17) he) ok_x_Row_become k_m_G_288 (va_recv hK hP rfl (xo_row (by decide : 8 < 17))) rfl rfl hl.1 (Nat.le_of_ble_eq_true rfl) d_G_tryCommand_139 ⟨by decide, by decide⟩ hP hS (fun H locs hP hS => ?_)
    refine lv_aload_n hx hb d_G_tryCommand_142 rfl (lv_at hl 0 rfl) ?_
    refine lv_aload_n hx hb d_G_tryCommand_143 rfl (lv_at hl 0 rfl) ?_
    refine va_get (D := D) (v := .int (gI q8 35)) hx hb htg in_G hown hK hP 27 xo_27 rfl 11 (by decide) (htg _ k_f_G_80) (fun _ h9 => h9) rfl d_G_tryCommand_144 ?_
    refine va_put (D := D) (ty := .int) hx hb htg in_G t_G t_G_ok n_G hown hK hP (hI _) hS 27 xo_27 rfl 12 (by decide) (htg _ k_f_G_84) (fun _ h9 => h9) rfl (by decide +kernel) rfl rfl (Nat.le_of_ble_eq_true rfl) d_G_tryCommand_147 (fun H locs hP _ hS => ?_)
    replace hP : va_P D classes (xW cI cZ cJ ao aa (sI q8 36 (gI q8 35))) H := pw xs_27_doneTo hP
    refine lv_aload_n hx hb d_G_tryCommand_150 rfl (lv_at hl 0 rfl) ?_
    refine va_get (D := D) (v := .ref (ao 26)) hx hb htg in_G hown hK hP 27 xo_27 rfl 10 (by decide) (htg _ k_f_G_76) (fun _ h9 => h9) rfl d_G_tryCommand_151 ?_
    refine va_getN (D := D) (v := .int (gI (sI q8 36 (gI q8 35)) 30)) hx hb htg in_Report hown hK hP 26 xo_26 rfl 4 (by decide) (va_Nw.use rfl (hN _ k_fn_G_207)) (fun _ h9 => h9) rfl d_G_tryCommand_154 ?_
    obtain rfl := Option.some.inj hf
    exact W.iret hx hb hr0 (fun t ht _ => ⟨⟨rfl, by rw [ht]; exact hP⟩, hS.F ht⟩) hS.2.2 d_G_tryCommand_157 hlk
set_option maxHeartbeats 4000000 in
set_option maxRecDepth 100000 in
theorem w_x_G_tryCommand_b97 {z : Int32 × St} (X : Cx b_G_tryCommand 3 (some .int) R_G D [(cI, .int), (cZ, .boolean), (cJ, .long)] (xA ao aa) (xW cI cZ cJ ao aa) p s m args meth c) (S : St) (hf : x_G_tryCommand_b97 S = some z) : WX rm_x_G_tryCommand D (xA ao aa) (xW cI cZ cJ ao aa) p l e s m args below meth c (some (.int z.1)) z.2 97 [] 3 [(0, .ref (ao 27))] S := by
  intro H locs ls hP hS hl
  obtain ⟨hx, hb, hr0, hml, hown, htg, hlk, hK, hN, hI⟩ := id X
  unfold x_G_tryCommand_b97 at hf
  refine lv_aload_n hx hb d_G_tryCommand_97 rfl (lv_at hl 0 rfl) ?_
  refine va_get (D := D) (v := .ref (ao 26)) hx hb htg in_G hown hK hP 27 xo_27 rfl 10 (by decide) (htg _ k_f_G_76) (fun _ h9 => h9) rfl d_G_tryCommand_98 ?_
  refine va_getN (D := D) (v := .ref (ao 13)) hx hb htg in_Report hown hK hP 26 xo_26 rfl 0 (by decide) (va_Nw.use rfl (hN _ k_fn_G_243)) (fun _ h9 => h9) rfl d_G_tryCommand_101 ?_
  obtain ⟨q5, he, hf⟩ := ob_some hf
  refine cl_Vi (As := []) (rest := []) X (c_x_Row_size (by decide : 13 < 17) he) ok_x_Row_size k_m_G_162 (va_recv hK hP rfl (xo_row (by decide : 13 < 17))) rfl rfl hl.1 (Nat.le_of_ble_eq_true rfl) d_G_tryCommand_104 ⟨by decide, by decide⟩ hP hS (fun H locs hP hS => ?_)
  refine lv_if_ne (tgt := 120) hx hb d_G_tryCommand_107 (by decide) (fun c => ?_) (fun c => ?_)
  · have hf := if_f hf c
    exact w_x_G_tryCommand_b120 X _ hf H locs ls hP hS (lv_sub hl [0] rfl)
  · have hf := if_t hf c
    refine lv_aload_n hx hb d_G_tryCommand_110 rfl (lv_at hl 0 rfl) ?_
    refine va_get (D := D) (v := .ref (ao 26)) hx hb htg in_G hown hK hP 27 xo_27 rfl 10 (by decide) (htg _ k_f_G_76) (fun _ h9 => h9) rfl d_G_tryCommand_111 ?_
    refine lv_iconst (v := 2) hx hb d_G_tryCommand_114 (by decide) ?_
    refine lv_iconst (v := 0) hx hb d_G_tryCommand_115 (by decide) ?_
    refine lv_iconst (v := (-1)) hx hb d_G_tryCommand_116 (by decide) ?_
    obtain ⟨q9, he, hf⟩ := ob_some hf
    refine cl_Vv (As := [.int (2 : Int32), .int (0 : Int32), .int (-1 : Int32)]) (rest := []) X (c_x_Report_fail he) ok_x_Report_fail k_m_G_185 (va_recv hK hP rfl xo_26) rfl rfl hl.1 (Nat.le_of_ble_eq_true rfl) d_G_tryCommand_117 ⟨by decide, by decide⟩ hP hS (fun H locs hP hS => ?_)
    exact w_x_G_tryCommand_b120 X _ hf H locs ls hP hS (lv_sub hl [0] rfl)
set_option maxHeartbeats 4000000 in
set_option maxRecDepth 100000 in
theorem w_x_G_tryCommand_b91 {z : Int32 × St} (X : Cx b_G_tryCommand 3 (some .int) R_G D [(cI, .int), (cZ, .boolean), (cJ, .long)] (xA ao aa) (xW cI cZ cJ ao aa) p s m args meth c) {k25 : St → Int32 → Int32 → Option (Int32 × St)} (hk25 : ∀ (S : St) (x1 : Int32) (x2 : Int32), k25 S x1 x2 = some z → WX rm_x_G_tryCommand D (xA ao aa) (xW cI cZ cJ ao aa) p l e s m args below meth c (some (.int z.1)) z.2 25 [] 3 [(0, .ref (ao 27)), (1, .int x1), (2, .int x2)] S) (S : St) (x1 : Int32) (x2 : Int32) (hf : x_G_tryCommand_b91 k25 S x1 x2 = some z) : WX rm_x_G_tryCommand D (xA ao aa) (xW cI cZ cJ ao aa) p l e s m args below meth c (some (.int z.1)) z.2 91 [] 3 [(0, .ref (ao 27)), (1, .int x1), (2, .int x2)] S := by
  intro H locs ls hP hS hl
  obtain ⟨hx, hb, hr0, hml, hown, htg, hlk, hK, hN, hI⟩ := id X
  unfold x_G_tryCommand_b91 at hf
  refine lv_iinc (v := (x2 + 1)) (lv' := [(2, .int (x2 + 1)), (0, .ref (ao 27)), (1, .int x1)]) hx hb d_G_tryCommand_91 hl (k := 2) rfl rfl (by decide) rfl (fun ls hl => ?_)
  refine lv_goto (tgt := 25) hx hb d_G_tryCommand_94 (by decide) ?_
  exact hk25 _ _ _ hf H locs ls hP hS (lv_sub hl [1, 2, 0] rfl)
set_option maxHeartbeats 4000000 in
set_option maxRecDepth 100000 in
theorem w_x_G_tryCommand_b25_f {z : Int32 × St} (X : Cx b_G_tryCommand 3 (some .int) R_G D [(cI, .int), (cZ, .boolean), (cJ, .long)] (xA ao aa) (xW cI cZ cJ ao aa) p s m args meth c) {k25 : St → Int32 → Int32 → Option (Int32 × St)} (hk25 : ∀ (S : St) (x1 : Int32) (x2 : Int32), k25 S x1 x2 = some z → WX rm_x_G_tryCommand D (xA ao aa) (xW cI cZ cJ ao aa) p l e s m args below meth c (some (.int z.1)) z.2 25 [] 3 [(0, .ref (ao 27)), (1, .int x1), (2, .int x2)] S) (S : St) (x1 : Int32) (x2 : Int32) (hf : x_G_tryCommand_b25_f k25 S x1 x2 = some z) : WX rm_x_G_tryCommand D (xA ao aa) (xW cI cZ cJ ao aa) p l e s m args below meth c (some (.int z.1)) z.2 25 [] 3 [(0, .ref (ao 27)), (1, .int x1), (2, .int x2)] S := by
  intro H locs ls hP hS hl
  obtain ⟨hx, hb, hr0, hml, hown, htg, hlk, hK, hN, hI⟩ := id X
  unfold x_G_tryCommand_b25_f at hf
  refine lv_iload_n hx hb d_G_tryCommand_25 rfl (lv_at hl 2 rfl) ?_
  refine lv_aload_n hx hb d_G_tryCommand_26 rfl (lv_at hl 0 rfl) ?_
  refine va_get (D := D) (v := .ref (ao 23)) hx hb htg in_G hown hK hP 27 xo_27 rfl 2 (by decide) (htg _ k_f_G_26) (fun _ h9 => h9) rfl d_G_tryCommand_27 ?_
  obtain ⟨q4, he, hf⟩ := ob_some hf
  refine cl_Vi (As := []) (rest := [.int x2]) X (c_x_Lines_count he) ok_x_Lines_count k_m_G_247 (va_recv hK hP rfl xo_23) rfl rfl hl.1 (Nat.le_of_ble_eq_true rfl) d_G_tryCommand_30 ⟨by decide, by decide⟩ hP hS (fun H locs hP hS => ?_)
  refine lv_icmp_ge (tgt := 97) hx hb d_G_tryCommand_33 (by decide) (fun c => ?_) (fun c => ?_)
  · have hf := if_t hf c
    exact w_x_G_tryCommand_b97 X _ hf H locs ls hP hS (lv_sub hl [0] rfl)
  · have hf := if_f hf c
    refine lv_aload_n hx hb d_G_tryCommand_36 rfl (lv_at hl 0 rfl) ?_
    refine va_get (D := D) (v := .ref (ao 26)) hx hb htg in_G hown hK hP 27 xo_27 rfl 10 (by decide) (htg _ k_f_G_76) (fun _ h9 => h9) rfl d_G_tryCommand_37 ?_
    refine va_getN (D := D) (v := .int (gI q4.2 30)) hx hb htg in_Report hown hK hP 26 xo_26 rfl 4 (by decide) (va_Nw.use rfl (hN _ k_fn_G_207)) (fun _ h9 => h9) rfl d_G_tryCommand_40 ?_
    refine lv_iconst (v := (-1)) hx hb d_G_tryCommand_43 (by decide) ?_
    refine lv_icmp_ne (tgt := 97) hx hb d_G_tryCommand_44 (by decide) (fun c => ?_) (fun c => ?_)
    · have hf := if_f hf c
      exact w_x_G_tryCommand_b97 X _ hf H locs ls hP hS (lv_sub hl [0] rfl)
    · have hf := if_t hf c
      refine lv_iload_n hx hb d_G_tryCommand_47 rfl (lv_at hl 1 rfl) ?_
      refine lv_iconst (v := (-1)) hx hb d_G_tryCommand_48 (by decide) ?_
      refine lv_icmp_eq (tgt := 91) hx hb d_G_tryCommand_49 (by decide) (fun c => ?_) (fun c => ?_)
      · have hf := if_t hf c
        exact w_x_G_tryCommand_b91 X hk25 _ _ _ hf H locs ls hP hS (lv_sub hl [0, 1, 2] rfl)
      · have hf := if_f hf c
        refine lv_aload_n hx hb d_G_tryCommand_52 rfl (lv_at hl 0 rfl) ?_
        refine va_get (D := D) (v := .ref (ao 23)) hx hb htg in_G hown hK hP 27 xo_27 rfl 2 (by decide) (htg _ k_f_G_26) (fun _ h9 => h9) rfl d_G_tryCommand_53 ?_
        refine lv_iload_n hx hb d_G_tryCommand_56 rfl (lv_at hl 2 rfl) ?_
        obtain ⟨q10, he, hf⟩ := ob_some hf
        refine cl_Vi (As := [.int x2]) (rest := []) X (c_x_Lines_verbOf he) ok_x_Lines_verbOf k_m_G_298 (va_recv hK hP rfl xo_23) rfl rfl hl.1 (Nat.le_of_ble_eq_true rfl) d_G_tryCommand_57 ⟨by decide, by decide⟩ hP hS (fun H locs hP hS => ?_)
        refine lv_iload_n hx hb d_G_tryCommand_60 rfl (lv_at hl 1 rfl) ?_
        refine lv_icmp_ne (tgt := 91) hx hb d_G_tryCommand_61 (by decide) (fun c => ?_) (fun c => ?_)
        · have hf := if_f hf c
          exact w_x_G_tryCommand_b91 X hk25 _ _ _ hf H locs ls hP hS (lv_sub hl [0, 1, 2] rfl)
        · have hf := if_t hf c
          refine lv_aload_n hx hb d_G_tryCommand_64 rfl (lv_at hl 0 rfl) ?_
          refine va_get (D := D) (v := .ref (ao 25)) hx hb htg in_G hown hK hP 27 xo_27 rfl 9 (by decide) (htg _ k_f_G_69) (fun _ h9 => h9) rfl d_G_tryCommand_65 ?_
          refine lv_iload_n hx hb d_G_tryCommand_68 rfl (lv_at hl 2 rfl) ?_
          obtain ⟨q11, he, hf⟩ := ob_some hf
          refine cl_Vv (As := [.int x2]) (rest := []) X (c_x_Trial_tryLine he) ok_x_Trial_tryLine k_m_G_301 (va_recv hK hP rfl xo_25) rfl rfl hl.1 (Nat.le_of_ble_eq_true rfl) d_G_tryCommand_69 ⟨by decide, by decide⟩ hP hS (fun H locs hP hS => ?_)
          refine lv_aload_n hx hb d_G_tryCommand_72 rfl (lv_at hl 0 rfl) ?_
          refine va_get (D := D) (v := .ref (ao 26)) hx hb htg in_G hown hK hP 27 xo_27 rfl 10 (by decide) (htg _ k_f_G_76) (fun _ h9 => h9) rfl d_G_tryCommand_73 ?_
          refine lv_aload_n hx hb d_G_tryCommand_76 rfl (lv_at hl 0 rfl) ?_
          refine va_get (D := D) (v := .ref (ao 25)) hx hb htg in_G hown hK hP 27 xo_27 rfl 9 (by decide) (htg _ k_f_G_69) (fun _ h9 => h9) rfl d_G_tryCommand_77 ?_
          refine lv_aload_n hx hb d_G_tryCommand_80 rfl (lv_at hl 0 rfl) ?_
          refine va_get (D := D) (v := .ref (ao 23)) hx hb htg in_G hown hK hP 27 xo_27 rfl 2 (by decide) (htg _ k_f_G_26) (fun _ h9 => h9) rfl d_G_tryCommand_81 ?_
          refine lv_iload_n hx hb d_G_tryCommand_84 rfl (lv_at hl 2 rfl) ?_
          obtain ⟨q12, he, hf⟩ := ob_some hf
          refine cl_Vi (As := [.int x2]) (rest := [.ref (ao 25), .ref (ao 26)]) X (c_x_Lines_actionOf he) ok_x_Lines_actionOf k_m_G_304 (va_recv hK hP rfl xo_23) rfl rfl hl.1 (Nat.le_of_ble_eq_true rfl) d_G_tryCommand_85 ⟨by decide, by decide⟩ hP hS (fun H locs hP hS => ?_)
          obtain ⟨q13, he, hf⟩ := ob_some hf
          refine cl_Vv (As := [.ref (ao 25), .int q12.1]) (rest := []) X (c_x_Report_note he) ok_x_Report_note k_m_G_307 (va_recv hK hP rfl xo_26) rfl rfl hl.1 (Nat.le_of_ble_eq_true rfl) d_G_tryCommand_88 ⟨by decide, by decide⟩ hP hS (fun H locs hP hS => ?_)
          exact w_x_G_tryCommand_b91 X hk25 _ _ _ hf H locs ls hP hS (lv_sub hl [0, 1, 2] rfl)
theorem w_x_G_tryCommand_b25 {z : Int32 × St} (X : Cx b_G_tryCommand 3 (some .int) R_G D [(cI, .int), (cZ, .boolean), (cJ, .long)] (xA ao aa) (xW cI cZ cJ ao aa) p s m args meth c) : ∀ (n : Nat) (S : St) (x1 : Int32) (x2 : Int32), x_G_tryCommand_b25 n S x1 x2 = some z → WX rm_x_G_tryCommand D (xA ao aa) (xW cI cZ cJ ao aa) p l e s m args below meth c (some (.int z.1)) z.2 25 [] 3 [(0, .ref (ao 27)), (1, .int x1), (2, .int x2)] S
  | 0, _, _, _, hf => ns hf
  | n + 1, _, _, _, hf => w_x_G_tryCommand_b25_f X (w_x_G_tryCommand_b25 X n) _ _ _ hf
set_option maxHeartbeats 4000000 in
set_option maxRecDepth 100000 in
theorem w_x_G_tryCommand {z : Int32 × St} (X : Cx b_G_tryCommand 3 (some .int) R_G D [(cI, .int), (cZ, .boolean), (cJ, .long)] (xA ao aa) (xW cI cZ cJ ao aa) p s m args meth c) (S : St) (hf : x_G_tryCommand S = some z) : WX rm_x_G_tryCommand D (xA ao aa) (xW cI cZ cJ ao aa) p l e s m args below meth c (some (.int z.1)) z.2 0 [] 3 [(0, .ref (ao 27))] S := by
  intro H locs ls hP hS hl
  obtain ⟨hx, hb, hr0, hml, hown, htg, hlk, hK, hN, hI⟩ := id X
  unfold x_G_tryCommand at hf
  refine lv_aload_n hx hb d_G_tryCommand_0 rfl (lv_at hl 0 rfl) ?_
  refine va_get (D := D) (v := .ref (ao 26)) hx hb htg in_G hown hK hP 27 xo_27 rfl 10 (by decide) (htg _ k_f_G_76) (fun _ h9 => h9) rfl d_G_tryCommand_1 ?_
  obtain ⟨q1, he, hf⟩ := ob_some hf
  refine cl_Vv (As := []) (rest := []) X (c_x_Report_begin he) ok_x_Report_begin k_m_G_182 (va_recv hK hP rfl xo_26) rfl rfl hl.1 (Nat.le_of_ble_eq_true rfl) d_G_tryCommand_4 ⟨by decide, by decide⟩ hP hS (fun H locs hP hS => ?_)
  refine lv_aload_n hx hb d_G_tryCommand_7 rfl (lv_at hl 0 rfl) ?_
  refine va_get (D := D) (v := .ref (ao 22)) hx hb htg in_G hown hK hP 27 xo_27 rfl 1 (by decide) (htg _ k_f_G_19) (fun _ h9 => h9) rfl d_G_tryCommand_8 ?_
  refine lv_aload_n hx hb d_G_tryCommand_11 rfl (lv_at hl 0 rfl) ?_
  refine va_get (D := D) (v := .ref (ao 6)) hx hb htg in_G hown hK hP 27 xo_27 rfl 5 (by decide) (htg _ k_f_G_46) (fun _ h9 => h9) rfl d_G_tryCommand_12 ?_
  refine lv_iconst (v := 0) hx hb d_G_tryCommand_15 (by decide) ?_
  obtain ⟨q2, he, hf⟩ := ob_some hf
  refine cl_Vi (As := [.int (0 : Int32)]) (rest := [.ref (ao 22)]) X (c_x_Row_at (by decide : 6 < 17) he) ok_x_Row_at k_m_G_234 (va_recv hK hP rfl (xo_row (by decide : 6 < 17))) rfl rfl hl.1 (Nat.le_of_ble_eq_true rfl) d_G_tryCommand_16 ⟨by decide, by decide⟩ hP hS (fun H locs hP hS => ?_)
  obtain ⟨q3, he, hf⟩ := ob_some hf
  refine cl_Vi (As := [.int q2.1]) (rest := []) X (c_x_Verbs_find he) ok_x_Verbs_find k_m_G_192 (va_recv hK hP rfl xo_22) rfl rfl hl.1 (Nat.le_of_ble_eq_true rfl) d_G_tryCommand_19 ⟨by decide, by decide⟩ hP hS (fun H locs hP hS => ?_)
  refine lv_istore_n (lv' := [(1, .int q3.1), (0, .ref (ao 27))]) hx hb d_G_tryCommand_22 rfl hl (by decide) rfl (fun ls hl => ?_)
  refine lv_iconst (v := 0) hx hb d_G_tryCommand_23 (by decide) ?_
  refine lv_istore_n (lv' := [(2, .int (0 : Int32)), (1, .int q3.1), (0, .ref (ao 27))]) hx hb d_G_tryCommand_24 rfl hl (by decide) rfl (fun ls hl => ?_)
  exact w_x_G_tryCommand_b25 X _ _ _ _ hf H locs ls hP hS (lv_sub hl [2, 1, 0] rfl)
theorem c_x_G_tryCommand {l : Launch} {D : va_G} {cI cZ cJ : ClassId} {ao aa : Nat → Nat} {S : St} {z : Int32 × St} (hz : x_G_tryCommand S = some z) : Ct l y_G_tryCommand (.code y_G_tryCommand b_G_tryCommand 3 (some .int) :: gw) rm_x_G_tryCommand D [(cI, .int), (cZ, .boolean), (cJ, .long)] (xA ao aa) (xW cI cZ cJ ao aa) [.ref (ao 27)] S (some (.int z.1)) z.2 :=
  Ct_of (by decide) (fun p e s m args below meth c X => w_x_G_tryCommand X _ hz) (Nat.le_of_ble_eq_true rfl)
def x_G_parse (S : St) : Option (Int32 × St) :=
  (x_G_takeOrder S).bind fun q1 =>
  (x_G_takeCommand q1.2).bind fun q2 =>
  (x_G_chooseCommand q2 q1.1).bind fun q3 =>
  if q3.1 = 0 then
    (x_G_tryCommand q3.2).bind fun q7 =>
    some (q7.1, q7.2)
  else
    (x_Report_begin q3.2).bind fun q4 =>
    (x_Report_fail q4 q3.1 (-1 : Int32) (-1 : Int32)).bind fun q5 =>
    (x_Row_empty 5 q5).bind fun q6 =>
    some ((-q3.1), q6)
def rm_x_G_parse : Room := { frames := 6, cells := 0, slots := 0, locals := 146 }
theorem ok_x_G_parse : CalV y_G_parse b_G_parse 3 (some .int) 0 rm_x_G_parse := ⟨kc_G_parse, ki_G_parse, kl_G_parse, ji_G, ⟨by decide, by decide, by decide +kernel⟩, rfl, rfl⟩
set_option maxHeartbeats 4000000 in
set_option maxRecDepth 100000 in
theorem w_x_G_parse {z : Int32 × St} (X : Cx b_G_parse 3 (some .int) R_G D [(cI, .int), (cZ, .boolean), (cJ, .long)] (xA ao aa) (xW cI cZ cJ ao aa) p s m args meth c) (S : St) (hf : x_G_parse S = some z) : WX rm_x_G_parse D (xA ao aa) (xW cI cZ cJ ao aa) p l e s m args below meth c (some (.int z.1)) z.2 0 [] 3 [(0, .ref (ao 27))] S := by
  intro H locs ls hP hS hl
  obtain ⟨hx, hb, hr0, hml, hown, htg, hlk, hK, hN, hI⟩ := id X
  unfold x_G_parse at hf
  refine lv_aload_n hx hb d_G_parse_0 rfl (lv_at hl 0 rfl) ?_
  obtain ⟨q1, he, hf⟩ := ob_some hf
  refine cl_Vi (As := []) (rest := []) X (c_x_G_takeOrder he) ok_x_G_takeOrder k_m_G_170 (va_recv hK hP rfl xo_27) rfl rfl hl.1 (Nat.le_of_ble_eq_true rfl) d_G_parse_1 ⟨by decide, by decide⟩ hP hS (fun H locs hP hS => ?_)
  refine lv_istore_n (lv' := [(1, .int q1.1), (0, .ref (ao 27))]) hx hb d_G_parse_4 rfl hl (by decide) rfl (fun ls hl => ?_)
  refine lv_aload_n hx hb d_G_parse_5 rfl (lv_at hl 1 rfl) ?_
  obtain ⟨q2, he, hf⟩ := ob_some hf
  refine cl_Vv (As := []) (rest := []) X (c_x_G_takeCommand he) ok_x_G_takeCommand k_m_G_173 (va_recv hK hP rfl xo_27) rfl rfl hl.1 (Nat.le_of_ble_eq_true rfl) d_G_parse_6 ⟨by decide, by decide⟩ hP hS (fun H locs hP hS => ?_)
  refine lv_aload_n hx hb d_G_parse_9 rfl (lv_at hl 1 rfl) ?_
  refine lv_iload_n hx hb d_G_parse_10 rfl (lv_at hl 0 rfl) ?_
  obtain ⟨q3, he, hf⟩ := ob_some hf
  refine cl_Vi (As := [.int q1.1]) (rest := []) X (c_x_G_chooseCommand he) ok_x_G_chooseCommand k_m_G_176 (va_recv hK hP rfl xo_27) rfl rfl hl.1 (Nat.le_of_ble_eq_true rfl) d_G_parse_11 ⟨by decide, by decide⟩ hP hS (fun H locs hP hS => ?_)
  refine lv_istore_n (lv' := [(2, .int q3.1), (1, .int q1.1), (0, .ref (ao 27))]) hx hb d_G_parse_14 rfl hl (by decide) rfl (fun ls hl => ?_)
  refine lv_iload_n hx hb d_G_parse_15 rfl (lv_at hl 0 rfl) ?_
  refine lv_if_ne (tgt := 24) hx hb d_G_parse_16 (by decide) (fun c => ?_) (fun c => ?_)
  · have hf := if_f hf c
    refine lv_aload_n hx hb d_G_parse_24 rfl (lv_at hl 2 rfl) ?_
    refine va_get (D := D) (v := .ref (ao 26)) hx hb htg in_G hown hK hP 27 xo_27 rfl 10 (by decide) (htg _ k_f_G_76) (fun _ h9 => h9) rfl d_G_parse_25 ?_
    obtain ⟨q4, he, hf⟩ := ob_some hf
    refine cl_Vv (As := []) (rest := []) X (c_x_Report_begin he) ok_x_Report_begin k_m_G_182 (va_recv hK hP rfl xo_26) rfl rfl hl.1 (Nat.le_of_ble_eq_true rfl) d_G_parse_28 ⟨by decide, by decide⟩ hP hS (fun H locs hP hS => ?_)
    refine lv_aload_n hx hb d_G_parse_31 rfl (lv_at hl 2 rfl) ?_
    refine va_get (D := D) (v := .ref (ao 26)) hx hb htg in_G hown hK hP 27 xo_27 rfl 10 (by decide) (htg _ k_f_G_76) (fun _ h9 => h9) rfl d_G_parse_32 ?_
    refine lv_iload_n hx hb d_G_parse_35 rfl (lv_at hl 0 rfl) ?_
    refine lv_iconst (v := (-1)) hx hb d_G_parse_36 (by decide) ?_
    refine lv_iconst (v := (-1)) hx hb d_G_parse_37 (by decide) ?_
    obtain ⟨q5, he, hf⟩ := ob_some hf
    refine cl_Vv (As := [.int q3.1, .int (-1 : Int32), .int (-1 : Int32)]) (rest := []) X (c_x_Report_fail he) ok_x_Report_fail k_m_G_185 (va_recv hK hP rfl xo_26) rfl rfl hl.1 (Nat.le_of_ble_eq_true rfl) d_G_parse_38 ⟨by decide, by decide⟩ hP hS (fun H locs hP hS => ?_)
    refine lv_aload_n hx hb d_G_parse_41 rfl (lv_at hl 2 rfl) ?_
    refine va_get (D := D) (v := .ref (ao 5)) hx hb htg in_G hown hK hP 27 xo_27 rfl 4 (by decide) (htg _ k_f_G_42) (fun _ h9 => h9) rfl d_G_parse_42 ?_
    obtain ⟨q6, he, hf⟩ := ob_some hf
    refine cl_Vv (As := []) (rest := []) X (c_x_Row_empty (by decide : 5 < 17) he) ok_x_Row_empty k_m_G_167 (va_recv hK hP rfl (xo_row (by decide : 5 < 17))) rfl rfl hl.1 (Nat.le_of_ble_eq_true rfl) d_G_parse_45 ⟨by decide, by decide⟩ hP hS (fun H locs hP hS => ?_)
    refine lv_iload_n hx hb d_G_parse_48 rfl (lv_at hl 0 rfl) ?_
    refine lv_ineg hx hb d_G_parse_49 ?_
    obtain rfl := Option.some.inj hf
    exact W.iret hx hb hr0 (fun t ht _ => ⟨⟨rfl, by rw [ht]; exact hP⟩, hS.F ht⟩) hS.2.2 d_G_parse_50 hlk
  · have hf := if_t hf c
    refine lv_aload_n hx hb d_G_parse_19 rfl (lv_at hl 2 rfl) ?_
    obtain ⟨q7, he, hf⟩ := ob_some hf
    refine cl_Vi (As := []) (rest := []) X (c_x_G_tryCommand he) ok_x_G_tryCommand k_m_G_179 (va_recv hK hP rfl xo_27) rfl rfl hl.1 (Nat.le_of_ble_eq_true rfl) d_G_parse_20 ⟨by decide, by decide⟩ hP hS (fun H locs hP hS => ?_)
    obtain rfl := Option.some.inj hf
    exact W.iret hx hb hr0 (fun t ht _ => ⟨⟨rfl, by rw [ht]; exact hP⟩, hS.F ht⟩) hS.2.2 d_G_parse_23 hlk
theorem c_x_G_parse {l : Launch} {D : va_G} {cI cZ cJ : ClassId} {ao aa : Nat → Nat} {S : St} {z : Int32 × St} (hz : x_G_parse S = some z) : Ct l y_G_parse (.code y_G_parse b_G_parse 3 (some .int) :: gw) rm_x_G_parse D [(cI, .int), (cZ, .boolean), (cJ, .long)] (xA ao aa) (xW cI cZ cJ ao aa) [.ref (ao 27)] S (some (.int z.1)) z.2 :=
  Ct_of (by decide) (fun p e s m args below meth c X => w_x_G_parse X _ hz) (Nat.le_of_ble_eq_true rfl)
def x_Row_insert_b30_f (r : Nat) (k30 : St → Int32 → Int32 → Int32 → Option (St)) (S : St) (x1 : Int32) (x2 : Int32) (x3 : Int32) : Option (St) :=
  if x3 ≤ x1 then
    gd (vin x1 (xcap r)) <|
    some (sI (sA S r x1.toNatClampNeg x2) r ((gI (sA S r x1.toNatClampNeg x2) r) + (1 : Int32)))
  else
    gd (vin (x3 - (1 : Int32)) (xcap r)) <|
    gd (vin x3 (xcap r)) <|
    k30 (sA S r x3.toNatClampNeg (gA S r (x3 - (1 : Int32)).toNatClampNeg)) x1 x2 (x3 + (-1))
def x_Row_insert_b30 (r : Nat) : Nat → St → Int32 → Int32 → Int32 → Option (St)
  | 0, _, _, _, _ => none
  | n + 1, S, x1, x2, x3 => x_Row_insert_b30_f r (x_Row_insert_b30 r n) S x1 x2 x3
def x_Row_insert (r : Nat) (S : St) (x0 : Int32) (x1 : Int32) : Option (St) :=
  if x0 < 0 then
    some S
  else
    if (gI S r) < x0 then
      some S
    else
      if (gI S r) < (Int32.ofNat (xcap r)) then
        x_Row_insert_b30 r fu S x0 x1 (gI S r)
      else
        some S
def rm_x_Row_insert : Room := { frames := 0, cells := 0, slots := 0, locals := 0 }
theorem ok_x_Row_insert : CalV y_Row_insert b_Row_insert 4 none 2 rm_x_Row_insert := ⟨kc_Row_insert, ki_Row_insert, kl_Row_insert, ji_Row, ⟨by decide, by decide, by decide +kernel⟩, rfl, rfl⟩
set_option maxHeartbeats 4000000 in
set_option maxRecDepth 100000 in
theorem w_x_Row_insert_b30_f {r : Nat} (hr : r < 17) {z : St} (X : Cx b_Row_insert 4 none R_Row D [(cI, .int), (cZ, .boolean), (cJ, .long)] (xA ao aa) (xW cI cZ cJ ao aa) p s m args meth c) {k30 : St → Int32 → Int32 → Int32 → Option (St)} (hk30 : ∀ (S : St) (x1 : Int32) (x2 : Int32) (x3 : Int32), k30 S x1 x2 x3 = some z → WX rm_x_Row_insert D (xA ao aa) (xW cI cZ cJ ao aa) p l e s m args below meth c none z 30 [] 4 [(0, .ref (ao r)), (1, .int x1), (2, .int x2), (3, .int x3)] S) (S : St) (x1 : Int32) (x2 : Int32) (x3 : Int32) (hf : x_Row_insert_b30_f r k30 S x1 x2 x3 = some z) : WX rm_x_Row_insert D (xA ao aa) (xW cI cZ cJ ao aa) p l e s m args below meth c none z 30 [] 4 [(0, .ref (ao r)), (1, .int x1), (2, .int x2), (3, .int x3)] S := by
  intro H locs ls hP hS hl
  obtain ⟨hx, hb, hr0, hml, hown, htg, hlk, hK, hN, hI⟩ := id X
  unfold x_Row_insert_b30_f at hf
  refine lv_iload_n hx hb d_Row_insert_30 rfl (lv_at hl 3 rfl) ?_
  refine lv_iload_n hx hb d_Row_insert_31 rfl (lv_at hl 1 rfl) ?_
  refine lv_icmp_le (tgt := 55) hx hb d_Row_insert_32 (by decide) (fun c => ?_) (fun c => ?_)
  · have hf := if_t hf c
    refine lv_aload_n hx hb d_Row_insert_55 rfl (lv_at hl 0 rfl) ?_
    refine va_get (D := D) (v := .ref (aa r)) hx hb htg in_Row hown hK hP r (xo_row hr) rfl 0 (by decide) (htg _ k_f_Row_15) (fun _ h9 => h9) rfl d_Row_insert_56 ?_
    refine lv_iload_n hx hb d_Row_insert_59 rfl (lv_at hl 1 rfl) ?_
    refine lv_iload_n hx hb d_Row_insert_60 rfl (lv_at hl 2 rfl) ?_
    obtain ⟨hg, hf⟩ := gd_some hf
    refine va_iast hx hb hK hP (hI _) hS (28 + r) 0 (xa_row hr) rfl (vin_in hg) d_Row_insert_61 (fun H locs hP _ hS => ?_)
    replace hP : va_P D classes (xW cI cZ cJ ao aa (sA S r x1.toNatClampNeg x2)) H := pw (xt_row hr) hP
    refine lv_aload_n hx hb d_Row_insert_62 rfl (lv_at hl 0 rfl) ?_
    refine lv_dup hx hb d_Row_insert_63 rfl ?_
    refine va_get (D := D) (v := .int (gI (sA S r x1.toNatClampNeg x2) r)) hx hb htg in_Row hown hK hP r (xo_row hr) rfl 1 (by decide) (htg _ k_f_Row_21) (fun _ h9 => h9) rfl d_Row_insert_64 ?_
    refine lv_iconst (v := 1) hx hb d_Row_insert_67 (by decide) ?_
    refine lv_iadd hx hb d_Row_insert_68 ?_
    refine va_put (D := D) (ty := .int) hx hb htg in_Row t_Row t_Row_ok n_Row hown hK hP (hI _) hS r (xo_row hr) rfl 1 (by decide) (htg _ k_f_Row_21) (fun _ h9 => h9) rfl (by decide +kernel) rfl rfl (Nat.le_of_ble_eq_true rfl) d_Row_insert_69 (fun H locs hP _ hS => ?_)
    replace hP : va_P D classes (xW cI cZ cJ ao aa (sI (sA S r x1.toNatClampNeg x2) r ((gI (sA S r x1.toNatClampNeg x2) r) + (1 : Int32)))) H := pw (xs_row hr) hP
    obtain rfl := Option.some.inj hf
    exact W.vret hx hb hr0 (fun t ht _ => ⟨⟨rfl, by rw [ht]; exact hP⟩, hS.F ht⟩) hS.2.2 d_Row_insert_72 hlk
  · have hf := if_f hf c
    refine lv_aload_n hx hb d_Row_insert_35 rfl (lv_at hl 0 rfl) ?_
    refine va_get (D := D) (v := .ref (aa r)) hx hb htg in_Row hown hK hP r (xo_row hr) rfl 0 (by decide) (htg _ k_f_Row_15) (fun _ h9 => h9) rfl d_Row_insert_36 ?_
    refine lv_iload_n hx hb d_Row_insert_39 rfl (lv_at hl 3 rfl) ?_
    refine lv_aload_n hx hb d_Row_insert_40 rfl (lv_at hl 0 rfl) ?_
    refine va_get (D := D) (v := .ref (aa r)) hx hb htg in_Row hown hK hP r (xo_row hr) rfl 0 (by decide) (htg _ k_f_Row_15) (fun _ h9 => h9) rfl d_Row_insert_41 ?_
    refine lv_iload_n hx hb d_Row_insert_44 rfl (lv_at hl 3 rfl) ?_
    refine lv_iconst (v := 1) hx hb d_Row_insert_45 (by decide) ?_
    refine lv_isub hx hb d_Row_insert_46 ?_
    obtain ⟨hg, hf⟩ := gd_some hf
    refine va_iald hx hb hK hP (28 + r) 0 (xa_row hr) rfl (vin_in hg) d_Row_insert_47 ?_
    obtain ⟨hg, hf⟩ := gd_some hf
    refine va_iast hx hb hK hP (hI _) hS (28 + r) 0 (xa_row hr) rfl (vin_in hg) d_Row_insert_48 (fun H locs hP _ hS => ?_)
    replace hP : va_P D classes (xW cI cZ cJ ao aa (sA S r x3.toNatClampNeg (gA S r (x3 - (1 : Int32)).toNatClampNeg))) H := pw (xt_row hr) hP
    refine lv_iinc (v := (x3 + (-1))) (lv' := [(3, .int (x3 + (-1))), (0, .ref (ao r)), (1, .int x1), (2, .int x2)]) hx hb d_Row_insert_49 hl (k := 3) rfl rfl (by decide) rfl (fun ls hl => ?_)
    refine lv_goto (tgt := 30) hx hb d_Row_insert_52 (by decide) ?_
    exact hk30 _ _ _ _ hf H locs ls hP hS (lv_sub hl [1, 2, 3, 0] rfl)
theorem w_x_Row_insert_b30 {r : Nat} (hr : r < 17) {z : St} (X : Cx b_Row_insert 4 none R_Row D [(cI, .int), (cZ, .boolean), (cJ, .long)] (xA ao aa) (xW cI cZ cJ ao aa) p s m args meth c) : ∀ (n : Nat) (S : St) (x1 : Int32) (x2 : Int32) (x3 : Int32), x_Row_insert_b30 r n S x1 x2 x3 = some z → WX rm_x_Row_insert D (xA ao aa) (xW cI cZ cJ ao aa) p l e s m args below meth c none z 30 [] 4 [(0, .ref (ao r)), (1, .int x1), (2, .int x2), (3, .int x3)] S
  | 0, _, _, _, _, hf => ns hf
  | n + 1, _, _, _, _, hf => w_x_Row_insert_b30_f hr X (w_x_Row_insert_b30 hr X n) _ _ _ _ hf
set_option maxHeartbeats 4000000 in
set_option maxRecDepth 100000 in
theorem w_x_Row_insert {r : Nat} (hr : r < 17) {z : St} (X : Cx b_Row_insert 4 none R_Row D [(cI, .int), (cZ, .boolean), (cJ, .long)] (xA ao aa) (xW cI cZ cJ ao aa) p s m args meth c) (S : St) (x0 : Int32) (x1 : Int32) (hf : x_Row_insert r S x0 x1 = some z) : WX rm_x_Row_insert D (xA ao aa) (xW cI cZ cJ ao aa) p l e s m args below meth c none z 0 [] 4 [(0, .ref (ao r)), (1, .int x0), (2, .int x1)] S := by
  intro H locs ls hP hS hl
  obtain ⟨hx, hb, hr0, hml, hown, htg, hlk, hK, hN, hI⟩ := id X
  unfold x_Row_insert at hf
  refine lv_iload_n hx hb d_Row_insert_0 rfl (lv_at hl 1 rfl) ?_
  refine lv_if_lt (tgt := 24) hx hb d_Row_insert_1 (by decide) (fun c => ?_) (fun c => ?_)
  · have hf := if_t hf c
    obtain rfl := Option.some.inj hf
    exact W.vret hx hb hr0 (fun t ht _ => ⟨⟨rfl, by rw [ht]; exact hP⟩, hS.F ht⟩) hS.2.2 d_Row_insert_24 hlk
  · have hf := if_f hf c
    refine lv_iload_n hx hb d_Row_insert_4 rfl (lv_at hl 1 rfl) ?_
    refine lv_aload_n hx hb d_Row_insert_5 rfl (lv_at hl 0 rfl) ?_
    refine va_get (D := D) (v := .int (gI S r)) hx hb htg in_Row hown hK hP r (xo_row hr) rfl 1 (by decide) (htg _ k_f_Row_21) (fun _ h9 => h9) rfl d_Row_insert_6 ?_
    refine lv_icmp_gt (tgt := 24) hx hb d_Row_insert_9 (by decide) (fun c => ?_) (fun c => ?_)
    · have hf := if_t hf c
      obtain rfl := Option.some.inj hf
      exact W.vret hx hb hr0 (fun t ht _ => ⟨⟨rfl, by rw [ht]; exact hP⟩, hS.F ht⟩) hS.2.2 d_Row_insert_24 hlk
    · have hf := if_f hf c
      refine lv_aload_n hx hb d_Row_insert_12 rfl (lv_at hl 0 rfl) ?_
      refine va_get (D := D) (v := .int (gI S r)) hx hb htg in_Row hown hK hP r (xo_row hr) rfl 1 (by decide) (htg _ k_f_Row_21) (fun _ h9 => h9) rfl d_Row_insert_13 ?_
      refine lv_aload_n hx hb d_Row_insert_16 rfl (lv_at hl 0 rfl) ?_
      refine va_get (D := D) (v := .ref (aa r)) hx hb htg in_Row hown hK hP r (xo_row hr) rfl 0 (by decide) (htg _ k_f_Row_15) (fun _ h9 => h9) rfl d_Row_insert_17 ?_
      refine va_alen (v := Int32.ofNat (xcap r)) hx hb hK hP (28 + r) 0 (xa_row hr) rfl rfl d_Row_insert_20 ?_
      refine lv_icmp_lt (tgt := 25) hx hb d_Row_insert_21 (by decide) (fun c => ?_) (fun c => ?_)
      · have hf := if_t hf c
        refine lv_aload_n hx hb d_Row_insert_25 rfl (lv_at hl 0 rfl) ?_
        refine va_get (D := D) (v := .int (gI S r)) hx hb htg in_Row hown hK hP r (xo_row hr) rfl 1 (by decide) (htg _ k_f_Row_21) (fun _ h9 => h9) rfl d_Row_insert_26 ?_
        refine lv_istore_n (lv' := [(3, .int (gI S r)), (0, .ref (ao r)), (1, .int x0), (2, .int x1)]) hx hb d_Row_insert_29 rfl hl (by decide) rfl (fun ls hl => ?_)
        exact w_x_Row_insert_b30 hr X _ _ _ _ _ hf H locs ls hP hS (lv_sub hl [1, 2, 3, 0] rfl)
      · have hf := if_f hf c
        obtain rfl := Option.some.inj hf
        exact W.vret hx hb hr0 (fun t ht _ => ⟨⟨rfl, by rw [ht]; exact hP⟩, hS.F ht⟩) hS.2.2 d_Row_insert_24 hlk
theorem c_x_Row_insert {l : Launch} {D : va_G} {cI cZ cJ : ClassId} {ao aa : Nat → Nat} {r : Nat} (hr : r < 17) {S : St} {x0 : Int32} {x1 : Int32} {z : St} (hz : x_Row_insert r S x0 x1 = some z) : Ct l y_Row_insert (.code y_Row_insert b_Row_insert 4 none :: gw) rm_x_Row_insert D [(cI, .int), (cZ, .boolean), (cJ, .long)] (xA ao aa) (xW cI cZ cJ ao aa) [.ref (ao r), .int x0, .int x1] S none z :=
  Ct_of (by decide) (fun p e s m args below meth c X => w_x_Row_insert hr X _ _ _ hz) (Nat.le_of_ble_eq_true rfl)
end

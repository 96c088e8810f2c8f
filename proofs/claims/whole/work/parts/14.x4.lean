section
variable {p : Program} {l : Launch} {e : Env} {s : State} {m : MethodId} {args : Array Value} {below : List Frame} {meth : Method} {c : Code} {D : va_G} {cI cZ cJ : ClassId} {ao aa : Nat → Nat}
def x_Things_allFor_b35 (S : St) (s0 : Int64) : Option (Int64 × St) :=
  some ((s0 &&& ((gL S 7) ^^^ (-1 : Int64))), S)
def x_Things_allFor (S : St) (x0 : Int32) : Option (Int64 × St) :=
  if x0 = (6 : Int32) then
    x_Things_allFor_b35 S ((gL S 4) &&& ((gL S 5) ^^^ (-1 : Int64)))
  else
    x_Things_allFor_b35 S ((gL S 5) &&& ((gL S 6) ^^^ (-1 : Int64)))
def rm_x_Things_allFor : Room := { frames := 0, cells := 0, slots := 0, locals := 0 }
theorem ok_x_Things_allFor : CalV y_Things_allFor b_Things_allFor 4 (some .long) 1 rm_x_Things_allFor := ⟨kc_Things_allFor, ki_Things_allFor, kl_Things_allFor, ji_Things, ⟨by decide, by decide, by decide +kernel⟩, rfl, rfl⟩
set_option maxHeartbeats 4000000 in
set_option maxRecDepth 100000 in
theorem w_x_Things_allFor_b35 {z : Int64 × St} (X : Cx b_Things_allFor 4 (some .long) R_Things D [(cI, .int), (cZ, .boolean), (cJ, .long)] (xA ao aa) (xW cI cZ cJ ao aa) p s m args meth c) (S : St) (s0 : Int64) (hf : x_Things_allFor_b35 S s0 = some z) : WX rm_x_Things_allFor D (xA ao aa) (xW cI cZ cJ ao aa) p l e s m args below meth c (some (.long z.1)) z.2 35 [.long s0] 4 [(0, .ref (ao 21))] S := by
  intro H locs ls hP hS hl
  obtain ⟨hx, hb, hr0, hml, hown, htg, hlk, hK, hN, hI⟩ := id X
  unfold x_Things_allFor_b35 at hf
  refine lv_lstore_n (lv' := [(2, .long s0), (0, .ref (ao 21))]) hx hb d_Things_allFor_35 rfl hl (by decide) rfl (fun ls hl => ?_)
  refine lv_lload_n hx hb d_Things_allFor_36 rfl (lv_at hl 0 rfl) ?_
  refine lv_aload_n hx hb d_Things_allFor_37 rfl (lv_at hl 1 rfl) ?_
  refine va_get (D := D) (v := .long (gL S 7)) hx hb htg in_Things hown hK hP 21 xo_21 rfl 7 (by decide) (htg _ k_f_Things_51) (fun _ h9 => h9) rfl d_Things_allFor_38 ?_
  refine lv_ldc2 (v := (-1)) hx hb hown (htg _ k_cl_Things_62) d_Things_allFor_41 ?_
  refine lv_lxor hx hb d_Things_allFor_44 ?_
  refine lv_land hx hb d_Things_allFor_45 ?_
  obtain rfl := Option.some.inj hf
  exact W.lret hx hb hr0 (fun t ht _ => ⟨⟨rfl, by rw [ht]; exact hP⟩, hS.F ht⟩) hS.2.2 d_Things_allFor_46 hlk
set_option maxHeartbeats 4000000 in
set_option maxRecDepth 100000 in
theorem w_x_Things_allFor {z : Int64 × St} (X : Cx b_Things_allFor 4 (some .long) R_Things D [(cI, .int), (cZ, .boolean), (cJ, .long)] (xA ao aa) (xW cI cZ cJ ao aa) p s m args meth c) (S : St) (x0 : Int32) (hf : x_Things_allFor S x0 = some z) : WX rm_x_Things_allFor D (xA ao aa) (xW cI cZ cJ ao aa) p l e s m args below meth c (some (.long z.1)) z.2 0 [] 4 [(0, .ref (ao 21)), (1, .int x0)] S := by
  intro H locs ls hP hS hl
  obtain ⟨hx, hb, hr0, hml, hown, htg, hlk, hK, hN, hI⟩ := id X
  unfold x_Things_allFor at hf
  refine lv_iload_n hx hb d_Things_allFor_0 rfl (lv_at hl 1 rfl) ?_
  refine lv_bipush (v := 6) hx hb d_Things_allFor_1 (by decide) ?_
  refine lv_icmp_ne (tgt := 22) hx hb d_Things_allFor_3 (by decide) (fun c => ?_) (fun c => ?_)
  · have hf := if_f hf c
    refine lv_aload_n hx hb d_Things_allFor_22 rfl (lv_at hl 0 rfl) ?_
    refine va_get (D := D) (v := .long (gL S 5)) hx hb htg in_Things hown hK hP 21 xo_21 rfl 5 (by decide) (htg _ k_f_Things_45) (fun _ h9 => h9) rfl d_Things_allFor_23 ?_
    refine lv_aload_n hx hb d_Things_allFor_26 rfl (lv_at hl 0 rfl) ?_
    refine va_get (D := D) (v := .long (gL S 6)) hx hb htg in_Things hown hK hP 21 xo_21 rfl 6 (by decide) (htg _ k_f_Things_48) (fun _ h9 => h9) rfl d_Things_allFor_27 ?_
    refine lv_ldc2 (v := (-1)) hx hb hown (htg _ k_cl_Things_62) d_Things_allFor_30 ?_
    refine lv_lxor hx hb d_Things_allFor_33 ?_
    refine lv_land hx hb d_Things_allFor_34 ?_
    exact w_x_Things_allFor_b35 X _ _ hf H locs ls hP hS (lv_sub hl [0] rfl)
  · have hf := if_t hf c
    refine lv_aload_n hx hb d_Things_allFor_6 rfl (lv_at hl 0 rfl) ?_
    refine va_get (D := D) (v := .long (gL S 4)) hx hb htg in_Things hown hK hP 21 xo_21 rfl 4 (by decide) (htg _ k_f_Things_41) (fun _ h9 => h9) rfl d_Things_allFor_7 ?_
    refine lv_aload_n hx hb d_Things_allFor_10 rfl (lv_at hl 0 rfl) ?_
    refine va_get (D := D) (v := .long (gL S 5)) hx hb htg in_Things hown hK hP 21 xo_21 rfl 5 (by decide) (htg _ k_f_Things_45) (fun _ h9 => h9) rfl d_Things_allFor_11 ?_
    refine lv_ldc2 (v := (-1)) hx hb hown (htg _ k_cl_Things_62) d_Things_allFor_14 ?_
    refine lv_lxor hx hb d_Things_allFor_17 ?_
    refine lv_land hx hb d_Things_allFor_18 ?_
    refine lv_goto (tgt := 35) hx hb d_Things_allFor_19 (by decide) ?_
    exact w_x_Things_allFor_b35 X _ _ hf H locs ls hP hS (lv_sub hl [0] rfl)
theorem c_x_Things_allFor {l : Launch} {D : va_G} {cI cZ cJ : ClassId} {ao aa : Nat → Nat} {S : St} {x0 : Int32} {z : Int64 × St} (hz : x_Things_allFor S x0 = some z) : Ct l y_Things_allFor (.code y_Things_allFor b_Things_allFor 4 (some .long) :: gw) rm_x_Things_allFor D [(cI, .int), (cZ, .boolean), (cJ, .long)] (xA ao aa) (xW cI cZ cJ ao aa) [.ref (ao 21), .int x0] S (some (.long z.1)) z.2 :=
  Ct_of (by decide) (fun p e s m args below meth c X => w_x_Things_allFor X _ _ hz) (Nat.le_of_ble_eq_true rfl)
def x_Trial_takeAll_b154 (S : St) : Option (St) :=
  if (lg_cmp (gL S 0) (0 : Int64)) = 0 then
    (x_Trial_fail S (14 : Int32) (gI S 18)).bind fun q4 =>
    some q4
  else
    some S
def x_Trial_takeAll_b52_f (k52 : St → Int32 → Int32 → Option (St)) (S : St) (x3 : Int32) (x4 : Int32) : Option (St) :=
  if x3 = 0 then
    x_Trial_takeAll_b154 S
  else
    if (60 : Int32) ≤ x4 then
      x_Trial_takeAll_b154 S
    else
      (x_Phrase_find_20 6 (sI S 27 ((gI S 27) + (1 : Int32))) (gI (sI S 27 ((gI S 27) + (1 : Int32))) 27)).bind fun q5 =>
      if q5.1 = 0 then
        (x_Trial_fail q5.2 (7 : Int32) (gI q5.2 27)).bind fun q8 =>
        some q8
      else
        (x_Row_at 6 (sI (sL q5.2 0 ((gL q5.2 0) &&& ((gL q5.2 3) ^^^ (-1 : Int64)))) 27 (gI (sL q5.2 0 ((gL q5.2 0) &&& ((gL q5.2 3) ^^^ (-1 : Int64)))) 22)) (gI (sI (sL q5.2 0 ((gL q5.2 0) &&& ((gL q5.2 3) ^^^ (-1 : Int64)))) 27 (gI (sL q5.2 0 ((gL q5.2 0) &&& ((gL q5.2 3) ^^^ (-1 : Int64)))) 22)) 27)).bind fun q6 =>
        (x_G_isJoin q6.2 q6.1).bind fun q7 =>
        k52 q7.2 q7.1 (x4 + 1)
def x_Trial_takeAll_b52 : Nat → St → Int32 → Int32 → Option (St)
  | 0, _, _, _ => none
  | n + 1, S, x3, x4 => x_Trial_takeAll_b52_f (x_Trial_takeAll_b52 n) S x3 x4
def x_Trial_takeAll_b48 (S : St) (s0 : Int32) : Option (St) :=
  x_Trial_takeAll_b52 fu S s0 (0 : Int32)
def x_Trial_takeAll_b154_1 (S : St) : Option (St) :=
  if (lg_cmp (gL S 1) (0 : Int64)) = 0 then
    (x_Trial_fail S (14 : Int32) (gI S 20)).bind fun q11 =>
    some q11
  else
    some S
def x_Trial_takeAll_b52_1_f (k52 : St → Int32 → Int32 → Option (St)) (S : St) (x3 : Int32) (x4 : Int32) : Option (St) :=
  if x3 = 0 then
    x_Trial_takeAll_b154_1 S
  else
    if (60 : Int32) ≤ x4 then
      x_Trial_takeAll_b154_1 S
    else
      (x_Phrase_find_20 6 (sI S 27 ((gI S 27) + (1 : Int32))) (gI (sI S 27 ((gI S 27) + (1 : Int32))) 27)).bind fun q12 =>
      if q12.1 = 0 then
        (x_Trial_fail q12.2 (7 : Int32) (gI q12.2 27)).bind fun q15 =>
        some q15
      else
        (x_Row_at 6 (sI (sL q12.2 1 ((gL q12.2 1) &&& ((gL q12.2 3) ^^^ (-1 : Int64)))) 27 (gI (sL q12.2 1 ((gL q12.2 1) &&& ((gL q12.2 3) ^^^ (-1 : Int64)))) 22)) (gI (sI (sL q12.2 1 ((gL q12.2 1) &&& ((gL q12.2 3) ^^^ (-1 : Int64)))) 27 (gI (sL q12.2 1 ((gL q12.2 1) &&& ((gL q12.2 3) ^^^ (-1 : Int64)))) 22)) 27)).bind fun q13 =>
        (x_G_isJoin q13.2 q13.1).bind fun q14 =>
        k52 q14.2 q14.1 (x4 + 1)
def x_Trial_takeAll_b52_1 : Nat → St → Int32 → Int32 → Option (St)
  | 0, _, _, _ => none
  | n + 1, S, x3, x4 => x_Trial_takeAll_b52_1_f (x_Trial_takeAll_b52_1 n) S x3 x4
def x_Trial_takeAll_b48_1 (S : St) (s0 : Int32) : Option (St) :=
  x_Trial_takeAll_b52_1 fu S s0 (0 : Int32)
def x_Trial_takeAll (S : St) (x0 : Int32) : Option (St) :=
  (x_Trial_openSlot S x0).bind fun q1 =>
  if q1.1 = 17 then
    (x_Things_allFor q1.2 x0).bind fun q2 =>
    (x_Row_at 6 (sI (sL q2.2 0 q2.1) 27 ((gI (sL q2.2 0 q2.1) 27) + (1 : Int32))) (gI (sI (sL q2.2 0 q2.1) 27 ((gI (sL q2.2 0 q2.1) 27) + (1 : Int32))) 27)).bind fun q3 =>
    if q3.1 = (3 : Int32) then
      x_Trial_takeAll_b48 q3.2 (1 : Int32)
    else
      x_Trial_takeAll_b48 q3.2 (0 : Int32)
  else
  if q1.1 = 18 then
    (x_Things_allFor q1.2 x0).bind fun q9 =>
    (x_Row_at 6 (sI (sL q9.2 1 q9.1) 27 ((gI (sL q9.2 1 q9.1) 27) + (1 : Int32))) (gI (sI (sL q9.2 1 q9.1) 27 ((gI (sL q9.2 1 q9.1) 27) + (1 : Int32))) 27)).bind fun q10 =>
    if q10.1 = (3 : Int32) then
      x_Trial_takeAll_b48_1 q10.2 (1 : Int32)
    else
      x_Trial_takeAll_b48_1 q10.2 (0 : Int32)
  else
  none
def rm_x_Trial_takeAll : Room := { frames := 2, cells := 0, slots := 0, locals := 53 }
theorem ok_x_Trial_takeAll : CalV y_Trial_takeAll b_Trial_takeAll 5 none 1 rm_x_Trial_takeAll := ⟨kc_Trial_takeAll, ki_Trial_takeAll, kl_Trial_takeAll, ji_Trial, ⟨by decide, by decide, by decide +kernel⟩, rfl, rfl⟩
set_option maxHeartbeats 4000000 in
set_option maxRecDepth 100000 in
theorem w_x_Trial_takeAll_b154 {z : St} (X : Cx b_Trial_takeAll 5 none R_Trial D [(cI, .int), (cZ, .boolean), (cJ, .long)] (xA ao aa) (xW cI cZ cJ ao aa) p s m args meth c) (S : St) (hf : x_Trial_takeAll_b154 S = some z) : WX rm_x_Trial_takeAll D (xA ao aa) (xW cI cZ cJ ao aa) p l e s m args below meth c none z 154 [] 5 [(0, .ref (ao 25)), (2, .ref (ao 17))] S := by
  intro H locs ls hP hS hl
  obtain ⟨hx, hb, hr0, hml, hown, htg, hlk, hK, hN, hI⟩ := id X
  unfold x_Trial_takeAll_b154 at hf
  refine lv_aload_n hx hb d_Trial_takeAll_154 rfl (lv_at hl 1 rfl) ?_
  refine va_getN (D := D) (v := .long (gL S 0)) hx hb htg in_Slot hown hK hP 17 xo_17 rfl 3 (by decide) (va_Nw.use rfl (hN _ k_fn_Trial_159)) (fun _ h9 => h9) rfl d_Trial_takeAll_155 ?_
  refine lv_lconst (v := 0) hx hb d_Trial_takeAll_158 (by decide) ?_
  refine W.lcmp hx hb d_Trial_takeAll_159 ?_
  refine lv_if_ne (tgt := 173) hx hb d_Trial_takeAll_160 (by decide) (fun c => ?_) (fun c => ?_)
  · have hf := if_f hf c
    obtain rfl := Option.some.inj hf
    exact W.vret hx hb hr0 (fun t ht _ => ⟨⟨rfl, by rw [ht]; exact hP⟩, hS.F ht⟩) hS.2.2 d_Trial_takeAll_173 hlk
  · have hf := if_t hf c
    refine lv_aload_n hx hb d_Trial_takeAll_163 rfl (lv_at hl 0 rfl) ?_
    refine lv_bipush (v := 14) hx hb d_Trial_takeAll_164 (by decide) ?_
    refine lv_aload_n hx hb d_Trial_takeAll_166 rfl (lv_at hl 1 rfl) ?_
    refine va_getN (D := D) (v := .int (gI S 18)) hx hb htg in_Slot hown hK hP 17 xo_17 rfl 2 (by decide) (va_Nw.use rfl (hN _ k_fn_Trial_131)) (fun _ h9 => h9) rfl d_Trial_takeAll_167 ?_
    obtain ⟨q4, he, hf⟩ := ob_some hf
    refine cl_Vv (As := [.int (14 : Int32), .int (gI S 18)]) (rest := []) X (c_x_Trial_fail he) ok_x_Trial_fail k_m_Trial_136 (va_recv hK hP rfl xo_25) rfl rfl hl.1 (Nat.le_of_ble_eq_true rfl) d_Trial_takeAll_170 ⟨by decide, by decide⟩ hP hS (fun H locs hP hS => ?_)
    obtain rfl := Option.some.inj hf
    exact W.vret hx hb hr0 (fun t ht _ => ⟨⟨rfl, by rw [ht]; exact hP⟩, hS.F ht⟩) hS.2.2 d_Trial_takeAll_173 hlk
set_option maxHeartbeats 4000000 in
set_option maxRecDepth 100000 in
theorem w_x_Trial_takeAll_b52_f {z : St} (X : Cx b_Trial_takeAll 5 none R_Trial D [(cI, .int), (cZ, .boolean), (cJ, .long)] (xA ao aa) (xW cI cZ cJ ao aa) p s m args meth c) {k52 : St → Int32 → Int32 → Option (St)} (hk52 : ∀ (S : St) (x3 : Int32) (x4 : Int32), k52 S x3 x4 = some z → WX rm_x_Trial_takeAll D (xA ao aa) (xW cI cZ cJ ao aa) p l e s m args below meth c none z 52 [] 5 [(0, .ref (ao 25)), (2, .ref (ao 17)), (3, .int x3), (4, .int x4)] S) (S : St) (x3 : Int32) (x4 : Int32) (hf : x_Trial_takeAll_b52_f k52 S x3 x4 = some z) : WX rm_x_Trial_takeAll D (xA ao aa) (xW cI cZ cJ ao aa) p l e s m args below meth c none z 52 [] 5 [(0, .ref (ao 25)), (2, .ref (ao 17)), (3, .int x3), (4, .int x4)] S := by
  intro H locs ls hP hS hl
  obtain ⟨hx, hb, hr0, hml, hown, htg, hlk, hK, hN, hI⟩ := id X
  unfold x_Trial_takeAll_b52_f at hf
  refine lv_iload_n hx hb d_Trial_takeAll_52 rfl (lv_at hl 2 rfl) ?_
  refine lv_if_eq (tgt := 154) hx hb d_Trial_takeAll_53 (by decide) (fun c => ?_) (fun c => ?_)
  · have hf := if_t hf c
    exact w_x_Trial_takeAll_b154 X _ hf H locs ls hP hS (lv_sub hl [0, 1] rfl)
  · have hf := if_f hf c
    refine lv_iload hx hb d_Trial_takeAll_56 (lv_at hl 3 rfl) ?_
    refine lv_bipush (v := 60) hx hb d_Trial_takeAll_58 (by decide) ?_
    refine lv_icmp_ge (tgt := 154) hx hb d_Trial_takeAll_60 (by decide) (fun c => ?_) (fun c => ?_)
    · have hf := if_t hf c
      exact w_x_Trial_takeAll_b154 X _ hf H locs ls hP hS (lv_sub hl [0, 1] rfl)
    · have hf := if_f hf c
      refine lv_aload_n hx hb d_Trial_takeAll_63 rfl (lv_at hl 0 rfl) ?_
      refine lv_dup hx hb d_Trial_takeAll_64 rfl ?_
      refine va_get (D := D) (v := .int (gI S 27)) hx hb htg in_Trial hown hK hP 25 xo_25 rfl 10 (by decide) (htg _ k_f_Trial_83) (fun _ h9 => h9) rfl d_Trial_takeAll_65 ?_
      refine lv_iconst (v := 1) hx hb d_Trial_takeAll_68 (by decide) ?_
      refine lv_iadd hx hb d_Trial_takeAll_69 ?_
      refine va_put (D := D) (ty := .int) hx hb htg in_Trial t_Trial t_Trial_ok n_Trial hown hK hP (hI _) hS 25 xo_25 rfl 10 (by decide) (htg _ k_f_Trial_83) (fun _ h9 => h9) rfl (by decide +kernel) rfl rfl (Nat.le_of_ble_eq_true rfl) d_Trial_takeAll_70 (fun H locs hP _ hS => ?_)
      replace hP : va_P D classes (xW cI cZ cJ ao aa (sI S 27 ((gI S 27) + (1 : Int32)))) H := pw xs_25_cursor hP
      refine lv_aload_n hx hb d_Trial_takeAll_73 rfl (lv_at hl 0 rfl) ?_
      refine va_get (D := D) (v := .ref (ao 20)) hx hb htg in_Trial hown hK hP 25 xo_25 rfl 4 (by decide) (htg _ k_f_Trial_60) (fun _ h9 => h9) rfl d_Trial_takeAll_74 ?_
      refine lv_aload_n hx hb d_Trial_takeAll_77 rfl (lv_at hl 0 rfl) ?_
      refine va_get (D := D) (v := .ref (ao 6)) hx hb htg in_Trial hown hK hP 25 xo_25 rfl 3 (by decide) (htg _ k_f_Trial_52) (fun _ h9 => h9) rfl d_Trial_takeAll_78 ?_
      refine lv_aload_n hx hb d_Trial_takeAll_81 rfl (lv_at hl 0 rfl) ?_
      refine va_get (D := D) (v := .int (gI (sI S 27 ((gI S 27) + (1 : Int32))) 27)) hx hb htg in_Trial hown hK hP 25 xo_25 rfl 10 (by decide) (htg _ k_f_Trial_83) (fun _ h9 => h9) rfl d_Trial_takeAll_82 ?_
      obtain ⟨q5, he, hf⟩ := ob_some hf
      refine cl_Vi (As := [.ref (ao 6), .int (gI (sI S 27 ((gI S 27) + (1 : Int32))) 27)]) (rest := []) X (c_x_Phrase_find_20 (by decide : 6 < 17) he) ok_x_Phrase_find_20 k_m_Trial_165 (va_recv hK hP rfl xo_20) rfl rfl hl.1 (Nat.le_of_ble_eq_true rfl) d_Trial_takeAll_85 ⟨by decide, by decide⟩ hP hS (fun H locs hP hS => ?_)
      refine lv_if_ne (tgt := 102) hx hb d_Trial_takeAll_88 (by decide) (fun c => ?_) (fun c => ?_)
      · have hf := if_f hf c
        refine lv_aload_n hx hb d_Trial_takeAll_102 rfl (lv_at hl 1 rfl) ?_
        refine lv_dup hx hb d_Trial_takeAll_103 rfl ?_
        refine va_getN (D := D) (v := .long (gL q5.2 0)) hx hb htg in_Slot hown hK hP 17 xo_17 rfl 3 (by decide) (va_Nw.use rfl (hN _ k_fn_Trial_159)) (fun _ h9 => h9) rfl d_Trial_takeAll_104 ?_
        refine lv_aload_n hx hb d_Trial_takeAll_107 rfl (lv_at hl 0 rfl) ?_
        refine va_get (D := D) (v := .ref (ao 20)) hx hb htg in_Trial hown hK hP 25 xo_25 rfl 4 (by decide) (htg _ k_f_Trial_60) (fun _ h9 => h9) rfl d_Trial_takeAll_108 ?_
        refine va_getN (D := D) (v := .long (gL q5.2 3)) hx hb htg in_Phrase hown hK hP 20 xo_20 rfl 1 (by decide) (va_Nw.use rfl (hN _ k_fn_Trial_168)) (fun _ h9 => h9) rfl d_Trial_takeAll_111 ?_
        refine lv_ldc2 (v := (-1)) hx hb hown (htg _ k_cl_Trial_192) d_Trial_takeAll_114 ?_
        refine lv_lxor hx hb d_Trial_takeAll_117 ?_
        refine lv_land hx hb d_Trial_takeAll_118 ?_
        refine va_putN (D := D) (ty := .long) hx hb htg in_Slot t_Slot t_Slot_ok n_Slot hown hK hP (hI _) hS 17 xo_17 rfl 3 (by decide) (va_Nw.use rfl (hN _ k_fn_Trial_159)) (fun _ h9 => h9) rfl (by decide +kernel) rfl rfl (Nat.le_of_ble_eq_true rfl) d_Trial_takeAll_119 (fun H locs hP _ hS => ?_)
        replace hP : va_P D classes (xW cI cZ cJ ao aa (sL q5.2 0 ((gL q5.2 0) &&& ((gL q5.2 3) ^^^ (-1 : Int64))))) H := pw xs_17_things hP
        refine lv_aload_n hx hb d_Trial_takeAll_122 rfl (lv_at hl 0 rfl) ?_
        refine lv_aload_n hx hb d_Trial_takeAll_123 rfl (lv_at hl 0 rfl) ?_
        refine va_get (D := D) (v := .ref (ao 20)) hx hb htg in_Trial hown hK hP 25 xo_25 rfl 4 (by decide) (htg _ k_f_Trial_60) (fun _ h9 => h9) rfl d_Trial_takeAll_124 ?_
        refine va_getN (D := D) (v := .int (gI (sL q5.2 0 ((gL q5.2 0) &&& ((gL q5.2 3) ^^^ (-1 : Int64)))) 22)) hx hb htg in_Phrase hown hK hP 20 xo_20 rfl 2 (by decide) (va_Nw.use rfl (hN _ k_fn_Trial_186)) (fun _ h9 => h9) rfl d_Trial_takeAll_127 ?_
        refine va_put (D := D) (ty := .int) hx hb htg in_Trial t_Trial t_Trial_ok n_Trial hown hK hP (hI _) hS 25 xo_25 rfl 10 (by decide) (htg _ k_f_Trial_83) (fun _ h9 => h9) rfl (by decide +kernel) rfl rfl (Nat.le_of_ble_eq_true rfl) d_Trial_takeAll_130 (fun H locs hP _ hS => ?_)
        replace hP : va_P D classes (xW cI cZ cJ ao aa (sI (sL q5.2 0 ((gL q5.2 0) &&& ((gL q5.2 3) ^^^ (-1 : Int64)))) 27 (gI (sL q5.2 0 ((gL q5.2 0) &&& ((gL q5.2 3) ^^^ (-1 : Int64)))) 22))) H := pw xs_25_cursor hP
        refine lv_aload_n hx hb d_Trial_takeAll_133 rfl (lv_at hl 0 rfl) ?_
        refine va_get (D := D) (v := .ref (ao 6)) hx hb htg in_Trial hown hK hP 25 xo_25 rfl 3 (by decide) (htg _ k_f_Trial_52) (fun _ h9 => h9) rfl d_Trial_takeAll_134 ?_
        refine lv_aload_n hx hb d_Trial_takeAll_137 rfl (lv_at hl 0 rfl) ?_
        refine va_get (D := D) (v := .int (gI (sI (sL q5.2 0 ((gL q5.2 0) &&& ((gL q5.2 3) ^^^ (-1 : Int64)))) 27 (gI (sL q5.2 0 ((gL q5.2 0) &&& ((gL q5.2 3) ^^^ (-1 : Int64)))) 22)) 27)) hx hb htg in_Trial hown hK hP 25 xo_25 rfl 10 (by decide) (htg _ k_f_Trial_83) (fun _ h9 => h9) rfl d_Trial_takeAll_138 ?_
        obtain ⟨q6, he, hf⟩ := ob_some hf
        refine cl_Vi (As := [.int (gI (sI (sL q5.2 0 ((gL q5.2 0) &&& ((gL q5.2 3) ^^^ (-1 : Int64)))) 27 (gI (sL q5.2 0 ((gL q5.2 0) &&& ((gL q5.2 3) ^^^ (-1 : Int64)))) 22)) 27)]) (rest := []) X (c_x_Row_at (by decide : 6 < 17) he) ok_x_Row_at k_m_Trial_115 (va_recv hK hP rfl (xo_row (by decide : 6 < 17))) rfl rfl hl.1 (Nat.le_of_ble_eq_true rfl) d_Trial_takeAll_141 ⟨by decide, by decide⟩ hP hS (fun H locs hP hS => ?_)
        obtain ⟨q7, he, hf⟩ := ob_some hf
        refine cl_Ti (As := [.int q6.1]) (rest := []) X (c_x_G_isJoin he) ok_x_G_isJoin k_mn_Trial_162 rfl rfl hl.1 (Nat.le_of_ble_eq_true rfl) d_Trial_takeAll_144 ⟨by decide, by decide⟩ hP hS (fun H locs hP hS => ?_)
        refine lv_istore_n (lv' := [(3, .int q7.1), (0, .ref (ao 25)), (2, .ref (ao 17)), (4, .int x4)]) hx hb d_Trial_takeAll_147 rfl hl (by decide) rfl (fun ls hl => ?_)
        refine lv_iinc (v := (x4 + 1)) (lv' := [(4, .int (x4 + 1)), (3, .int q7.1), (0, .ref (ao 25)), (2, .ref (ao 17))]) hx hb d_Trial_takeAll_148 hl (k := 3) rfl rfl (by decide) rfl (fun ls hl => ?_)
        refine lv_goto (tgt := 52) hx hb d_Trial_takeAll_151 (by decide) ?_
        exact hk52 _ _ _ hf H locs ls hP hS (lv_sub hl [2, 3, 1, 0] rfl)
      · have hf := if_t hf c
        refine lv_aload_n hx hb d_Trial_takeAll_91 rfl (lv_at hl 0 rfl) ?_
        refine lv_bipush (v := 7) hx hb d_Trial_takeAll_92 (by decide) ?_
        refine lv_aload_n hx hb d_Trial_takeAll_94 rfl (lv_at hl 0 rfl) ?_
        refine va_get (D := D) (v := .int (gI q5.2 27)) hx hb htg in_Trial hown hK hP 25 xo_25 rfl 10 (by decide) (htg _ k_f_Trial_83) (fun _ h9 => h9) rfl d_Trial_takeAll_95 ?_
        obtain ⟨q8, he, hf⟩ := ob_some hf
        refine cl_Vv (As := [.int (7 : Int32), .int (gI q5.2 27)]) (rest := []) X (c_x_Trial_fail he) ok_x_Trial_fail k_m_Trial_136 (va_recv hK hP rfl xo_25) rfl rfl hl.1 (Nat.le_of_ble_eq_true rfl) d_Trial_takeAll_98 ⟨by decide, by decide⟩ hP hS (fun H locs hP hS => ?_)
        obtain rfl := Option.some.inj hf
        exact W.vret hx hb hr0 (fun t ht _ => ⟨⟨rfl, by rw [ht]; exact hP⟩, hS.F ht⟩) hS.2.2 d_Trial_takeAll_101 hlk
theorem w_x_Trial_takeAll_b52 {z : St} (X : Cx b_Trial_takeAll 5 none R_Trial D [(cI, .int), (cZ, .boolean), (cJ, .long)] (xA ao aa) (xW cI cZ cJ ao aa) p s m args meth c) : ∀ (n : Nat) (S : St) (x3 : Int32) (x4 : Int32), x_Trial_takeAll_b52 n S x3 x4 = some z → WX rm_x_Trial_takeAll D (xA ao aa) (xW cI cZ cJ ao aa) p l e s m args below meth c none z 52 [] 5 [(0, .ref (ao 25)), (2, .ref (ao 17)), (3, .int x3), (4, .int x4)] S
  | 0, _, _, _, hf => ns hf
  | n + 1, _, _, _, hf => w_x_Trial_takeAll_b52_f X (w_x_Trial_takeAll_b52 X n) _ _ _ hf
set_option maxHeartbeats 4000000 in
set_option maxRecDepth 100000 in
theorem w_x_Trial_takeAll_b48 {z : St} (X : Cx b_Trial_takeAll 5 none R_Trial D [(cI, .int), (cZ, .boolean), (cJ, .long)] (xA ao aa) (xW cI cZ cJ ao aa) p s m args meth c) (S : St) (s0 : Int32) (hf : x_Trial_takeAll_b48 S s0 = some z) : WX rm_x_Trial_takeAll D (xA ao aa) (xW cI cZ cJ ao aa) p l e s m args below meth c none z 48 [.int s0] 5 [(0, .ref (ao 25)), (2, .ref (ao 17))] S := by
  intro H locs ls hP hS hl
  obtain ⟨hx, hb, hr0, hml, hown, htg, hlk, hK, hN, hI⟩ := id X
  unfold x_Trial_takeAll_b48 at hf
  refine lv_istore_n (lv' := [(3, .int s0), (0, .ref (ao 25)), (2, .ref (ao 17))]) hx hb d_Trial_takeAll_48 rfl hl (by decide) rfl (fun ls hl => ?_)
  refine lv_iconst (v := 0) hx hb d_Trial_takeAll_49 (by decide) ?_
  refine lv_istore (lv' := [(4, .int (0 : Int32)), (3, .int s0), (0, .ref (ao 25)), (2, .ref (ao 17))]) hx hb d_Trial_takeAll_50 hl (by decide) rfl (fun ls hl => ?_)
  exact w_x_Trial_takeAll_b52 X _ _ _ _ hf H locs ls hP hS (lv_sub hl [2, 3, 1, 0] rfl)
set_option maxHeartbeats 4000000 in
set_option maxRecDepth 100000 in
theorem w_x_Trial_takeAll_b154_1 {z : St} (X : Cx b_Trial_takeAll 5 none R_Trial D [(cI, .int), (cZ, .boolean), (cJ, .long)] (xA ao aa) (xW cI cZ cJ ao aa) p s m args meth c) (S : St) (hf : x_Trial_takeAll_b154_1 S = some z) : WX rm_x_Trial_takeAll D (xA ao aa) (xW cI cZ cJ ao aa) p l e s m args below meth c none z 154 [] 5 [(0, .ref (ao 25)), (2, .ref (ao 18))] S := by
  intro H locs ls hP hS hl
  obtain ⟨hx, hb, hr0, hml, hown, htg, hlk, hK, hN, hI⟩ := id X
  unfold x_Trial_takeAll_b154_1 at hf
  refine lv_aload_n hx hb d_Trial_takeAll_154 rfl (lv_at hl 1 rfl) ?_
  refine va_getN (D := D) (v := .long (gL S 1)) hx hb htg in_Slot hown hK hP 18 xo_18 rfl 3 (by decide) (va_Nw.use rfl (hN _ k_fn_Trial_159)) (fun _ h9 => h9) rfl d_Trial_takeAll_155 ?_
  refine lv_lconst (v := 0) hx hb d_Trial_takeAll_158 (by decide) ?_
  refine W.lcmp hx hb d_Trial_takeAll_159 ?_
  refine lv_if_ne (tgt := 173) hx hb d_Trial_takeAll_160 (by decide) (fun c => ?_) (fun c => ?_)
  · have hf := if_f hf c
    obtain rfl := Option.some.inj hf
    exact W.vret hx hb hr0 (fun t ht _ => ⟨⟨rfl, by rw [ht]; exact hP⟩, hS.F ht⟩) hS.2.2 d_Trial_takeAll_173 hlk
  · have hf := if_t hf c
    refine lv_aload_n hx hb d_Trial_takeAll_163 rfl (lv_at hl 0 rfl) ?_
    refine lv_bipush (v := 14) hx hb d_Trial_takeAll_164 (by decide) ?_
    refine lv_aload_n hx hb d_Trial_takeAll_166 rfl (lv_at hl 1 rfl) ?_
    refine va_getN (D := D) (v := .int (gI S 20)) hx hb htg in_Slot hown hK hP 18 xo_18 rfl 2 (by decide) (va_Nw.use rfl (hN _ k_fn_Trial_131)) (fun _ h9 => h9) rfl d_Trial_takeAll_167 ?_
    obtain ⟨q11, he, hf⟩ := ob_some hf
    refine cl_Vv (As := [.int (14 : Int32), .int (gI S 20)]) (rest := []) X (c_x_Trial_fail he) ok_x_Trial_fail k_m_Trial_136 (va_recv hK hP rfl xo_25) rfl rfl hl.1 (Nat.le_of_ble_eq_true rfl) d_Trial_takeAll_170 ⟨by decide, by decide⟩ hP hS (fun H locs hP hS => ?_)
    obtain rfl := Option.some.inj hf
    exact W.vret hx hb hr0 (fun t ht _ => ⟨⟨rfl, by rw [ht]; exact hP⟩, hS.F ht⟩) hS.2.2 d_Trial_takeAll_173 hlk
set_option maxHeartbeats 4000000 in
set_option maxRecDepth 100000 in
theorem w_x_Trial_takeAll_b52_1_f {z : St} (X : Cx b_Trial_takeAll 5 none R_Trial D [(cI, .int), (cZ, .boolean), (cJ, .long)] (xA ao aa) (xW cI cZ cJ ao aa) p s m args meth c) {k52 : St → Int32 → Int32 → Option (St)} (hk52 : ∀ (S : St) (x3 : Int32) (x4 : Int32), k52 S x3 x4 = some z → WX rm_x_Trial_takeAll D (xA ao aa) (xW cI cZ cJ ao aa) p l e s m args below meth c none z 52 [] 5 [(0, .ref (ao 25)), (2, .ref (ao 18)), (3, .int x3), (4, .int x4)] S) (S : St) (x3 : Int32) (x4 : Int32) (hf : x_Trial_takeAll_b52_1_f k52 S x3 x4 = some z) : WX rm_x_Trial_takeAll D (xA ao aa) (xW cI cZ cJ ao aa) p l e s m args below meth c none z 52 [] 5 [(0, .ref (ao 25)), (2, .ref (ao 18)), (3, .int x3), (4, .int x4)] S := by
  intro H locs ls hP hS hl
  obtain ⟨hx, hb, hr0, hml, hown, htg, hlk, hK, hN, hI⟩ := id X
  unfold x_Trial_takeAll_b52_1_f at hf
  refine lv_iload_n hx hb d_Trial_takeAll_52 rfl (lv_at hl 2 rfl) ?_
  refine lv_if_eq (tgt := 154) hx hb d_Trial_takeAll_53 (by decide) (fun c => ?_) (fun c => ?_)
  · have hf := if_t hf c
    exact w_x_Trial_takeAll_b154_1 X _ hf H locs ls hP hS (lv_sub hl [0, 1] rfl)
  · have hf := if_f hf c
    refine lv_iload hx hb d_Trial_takeAll_56 (lv_at hl 3 rfl) ?_
    refine lv_bipush (v := 60) hx hb d_Trial_takeAll_58 (by decide) ?_
    refine lv_icmp_ge (tgt := 154) hx hb d_Trial_takeAll_60 (by decide) (fun c => ?_) (fun c => ?_)
    · have hf := if_t hf c
      exact w_x_Trial_takeAll_b154_1 X _ hf H locs ls hP hS (lv_sub hl [0, 1] rfl)
    · have hf := if_f hf c
      refine lv_aload_n hx hb d_Trial_takeAll_63 rfl (lv_at hl 0 rfl) ?_
      refine lv_dup hx hb d_Trial_takeAll_64 rfl ?_
      refine va_get (D := D) (v := .int (gI S 27)) hx hb htg in_Trial hown hK hP 25 xo_25 rfl 10 (by decide) (htg _ k_f_Trial_83) (fun _ h9 => h9) rfl d_Trial_takeAll_65 ?_
      refine lv_iconst (v := 1) hx hb d_Trial_takeAll_68 (by decide) ?_
      refine lv_iadd hx hb d_Trial_takeAll_69 ?_
      refine va_put (D := D) (ty := .int) hx hb htg in_Trial t_Trial t_Trial_ok n_Trial hown hK hP (hI _) hS 25 xo_25 rfl 10 (by decide) (htg _ k_f_Trial_83) (fun _ h9 => h9) rfl (by decide +kernel) rfl rfl (Nat.le_of_ble_eq_true rfl) d_Trial_takeAll_70 (fun H locs hP _ hS => ?_)
      replace hP : va_P D classes (xW cI cZ cJ ao aa (sI S 27 ((gI S 27) + (1 : Int32)))) H := pw xs_25_cursor hP
      refine lv_aload_n hx hb d_Trial_takeAll_73 rfl (lv_at hl 0 rfl) ?_
      refine va_get (D := D) (v := .ref (ao 20)) hx hb htg in_Trial hown hK hP 25 xo_25 rfl 4 (by decide) (htg _ k_f_Trial_60) (fun _ h9 => h9) rfl d_Trial_takeAll_74 ?_
      refine lv_aload_n hx hb d_Trial_takeAll_77 rfl (lv_at hl 0 rfl) ?_
      refine va_get (D := D) (v := .ref (ao 6)) hx hb htg in_Trial hown hK hP 25 xo_25 rfl 3 (by decide) (htg _ k_f_Trial_52) (fun _ h9 => h9) rfl d_Trial_takeAll_78 ?_
      refine lv_aload_n hx hb d_Trial_takeAll_81 rfl (lv_at hl 0 rfl) ?_
      refine va_get (D := D) (v := .int (gI (sI S 27 ((gI S 27) + (1 : Int32))) 27)) hx hb htg in_Trial hown hK hP 25 xo_25 rfl 10 (by decide) (htg _ k_f_Trial_83) (fun _ h9 => h9) rfl d_Trial_takeAll_82 ?_
      obtain ⟨q12, he, hf⟩ := ob_some hf
      refine cl_Vi (As := [.ref (ao 6), .int (gI (sI S 27 ((gI S 27) + (1 : Int32))) 27)]) (rest := []) X (c_x_Phrase_find_20 (by decide : 6 < 17) he) ok_x_Phrase_find_20 k_m_Trial_165 (va_recv hK hP rfl xo_20) rfl rfl hl.1 (Nat.le_of_ble_eq_true rfl) d_Trial_takeAll_85 ⟨by decide, by decide⟩ hP hS (fun H locs hP hS => ?_)
      refine lv_if_ne (tgt := 102) hx hb d_Trial_takeAll_88 (by decide) (fun c => ?_) (fun c => ?_)
      · have hf := if_f hf c
        refine lv_aload_n hx hb d_Trial_takeAll_102 rfl (lv_at hl 1 rfl) ?_
        refine lv_dup hx hb d_Trial_takeAll_103 rfl ?_
        refine va_getN (D := D) (v := .long (gL q12.2 1)) hx hb htg in_Slot hown hK hP 18 xo_18 rfl 3 (by decide) (va_Nw.use rfl (hN _ k_fn_Trial_159)) (fun _ h9 => h9) rfl d_Trial_takeAll_104 ?_
        refine lv_aload_n hx hb d_Trial_takeAll_107 rfl (lv_at hl 0 rfl) ?_
        refine va_get (D := D) (v := .ref (ao 20)) hx hb htg in_Trial hown hK hP 25 xo_25 rfl 4 (by decide) (htg _ k_f_Trial_60) (fun _ h9 => h9) rfl d_Trial_takeAll_108 ?_
        refine va_getN (D := D) (v := .long (gL q12.2 3)) hx hb htg in_Phrase hown hK hP 20 xo_20 rfl 1 (by decide) (va_Nw.use rfl (hN _ k_fn_Trial_168)) (fun _ h9 => h9) rfl d_Trial_takeAll_111 ?_
        refine lv_ldc2 (v := (-1)) hx hb hown (htg _ k_cl_Trial_192) d_Trial_takeAll_114 ?_
        refine lv_lxor hx hb d_Trial_takeAll_117 ?_
        refine lv_land hx hb d_Trial_takeAll_118 ?_
        refine va_putN (D := D) (ty := .long) hx hb htg in_Slot t_Slot t_Slot_ok n_Slot hown hK hP (hI _) hS 18 xo_18 rfl 3 (by decide) (va_Nw.use rfl (hN _ k_fn_Trial_159)) (fun _ h9 => h9) rfl (by decide +kernel) rfl rfl (Nat.le_of_ble_eq_true rfl) d_Trial_takeAll_119 (fun H locs hP _ hS => ?_)
        replace hP : va_P D classes (xW cI cZ cJ ao aa (sL q12.2 1 ((gL q12.2 1) &&& ((gL q12.2 3) ^^^ (-1 : Int64))))) H := pw xs_18_things hP
        refine lv_aload_n hx hb d_Trial_takeAll_122 rfl (lv_at hl 0 rfl) ?_
        refine lv_aload_n hx hb d_Trial_takeAll_123 rfl (lv_at hl 0 rfl) ?_
        refine va_get (D := D) (v := .ref (ao 20)) hx hb htg in_Trial hown hK hP 25 xo_25 rfl 4 (by decide) (htg _ k_f_Trial_60) (fun _ h9 => h9) rfl d_Trial_takeAll_124 ?_
        refine va_getN (D := D) (v := .int (gI (sL q12.2 1 ((gL q12.2 1) &&& ((gL q12.2 3) ^^^ (-1 : Int64)))) 22)) hx hb htg in_Phrase hown hK hP 20 xo_20 rfl 2 (by decide) (va_Nw.use rfl (hN _ k_fn_Trial_186)) (fun _ h9 => h9) rfl d_Trial_takeAll_127 ?_
        refine va_put (D := D) (ty := .int) hx hb htg in_Trial t_Trial t_Trial_ok n_Trial hown hK hP (hI _) hS 25 xo_25 rfl 10 (by decide) (htg _ k_f_Trial_83) (fun _ h9 => h9) rfl (by decide +kernel) rfl rfl (Nat.le_of_ble_eq_true rfl) d_Trial_takeAll_130 (fun H locs hP _ hS => ?_)
        replace hP : va_P D classes (xW cI cZ cJ ao aa (sI (sL q12.2 1 ((gL q12.2 1) &&& ((gL q12.2 3) ^^^ (-1 : Int64)))) 27 (gI (sL q12.2 1 ((gL q12.2 1) &&& ((gL q12.2 3) ^^^ (-1 : Int64)))) 22))) H := pw xs_25_cursor hP
        refine lv_aload_n hx hb d_Trial_takeAll_133 rfl (lv_at hl 0 rfl) ?_
        refine va_get (D := D) (v := .ref (ao 6)) hx hb htg in_Trial hown hK hP 25 xo_25 rfl 3 (by decide) (htg _ k_f_Trial_52) (fun _ h9 => h9) rfl d_Trial_takeAll_134 ?_
        refine lv_aload_n hx hb d_Trial_takeAll_137 rfl (lv_at hl 0 rfl) ?_
        refine va_get (D := D) (v := .int (gI (sI (sL q12.2 1 ((gL q12.2 1) &&& ((gL q12.2 3) ^^^ (-1 : Int64)))) 27 (gI (sL q12.2 1 ((gL q12.2 1) &&& ((gL q12.2 3) ^^^ (-1 : Int64)))) 22)) 27)) hx hb htg in_Trial hown hK hP 25 xo_25 rfl 10 (by decide) (htg _ k_f_Trial_83) (fun _ h9 => h9) rfl d_Trial_takeAll_138 ?_
        obtain ⟨q13, he, hf⟩ := ob_some hf
        refine cl_Vi (As := [.int (gI (sI (sL q12.2 1 ((gL q12.2 1) &&& ((gL q12.2 3) ^^^ (-1 : Int64)))) 27 (gI (sL q12.2 1 ((gL q12.2 1) &&& ((gL q12.2 3) ^^^ (-1 : Int64)))) 22)) 27)]) (rest := []) X (c_x_Row_at (by decide : 6 < 17) he) ok_x_Row_at k_m_Trial_115 (va_recv hK hP rfl (xo_row (by decide : 6 < 17))) rfl rfl hl.1 (Nat.le_of_ble_eq_true rfl) d_Trial_takeAll_141 ⟨by decide, by decide⟩ hP hS (fun H locs hP hS => ?_)
        obtain ⟨q14, he, hf⟩ := ob_some hf
        refine cl_Ti (As := [.int q13.1]) (rest := []) X (c_x_G_isJoin he) ok_x_G_isJoin k_mn_Trial_162 rfl rfl hl.1 (Nat.le_of_ble_eq_true rfl) d_Trial_takeAll_144 ⟨by decide, by decide⟩ hP hS (fun H locs hP hS => ?_)
        refine lv_istore_n (lv' := [(3, .int q14.1), (0, .ref (ao 25)), (2, .ref (ao 18)), (4, .int x4)]) hx hb d_Trial_takeAll_147 rfl hl (by decide) rfl (fun ls hl => ?_)
        refine lv_iinc (v := (x4 + 1)) (lv' := [(4, .int (x4 + 1)), (3, .int q14.1), (0, .ref (ao 25)), (2, .ref (ao 18))]) hx hb d_Trial_takeAll_148 hl (k := 3) rfl rfl (by decide) rfl (fun ls hl => ?_)
        refine lv_goto (tgt := 52) hx hb d_Trial_takeAll_151 (by decide) ?_
        exact hk52 _ _ _ hf H locs ls hP hS (lv_sub hl [2, 3, 1, 0] rfl)
      · have hf := if_t hf c
        refine lv_aload_n hx hb d_Trial_takeAll_91 rfl (lv_at hl 0 rfl) ?_
        refine lv_bipush (v := 7) hx hb d_Trial_takeAll_92 (by decide) ?_
        refine lv_aload_n hx hb d_Trial_takeAll_94 rfl (lv_at hl 0 rfl) ?_
        refine va_get (D := D) (v := .int (gI q12.2 27)) hx hb htg in_Trial hown hK hP 25 xo_25 rfl 10 (by decide) (htg _ k_f_Trial_83) (fun _ h9 => h9) rfl d_Trial_takeAll_95 ?_
        obtain ⟨q15, he, hf⟩ := ob_some hf
        refine cl_Vv (As := [.int (7 : Int32), .int (gI q12.2 27)]) (rest := []) X (c_x_Trial_fail he) ok_x_Trial_fail k_m_Trial_136 (va_recv hK hP rfl xo_25) rfl rfl hl.1 (Nat.le_of_ble_eq_true rfl) d_Trial_takeAll_98 ⟨by decide, by decide⟩ hP hS (fun H locs hP hS => ?_)
        obtain rfl := Option.some.inj hf
        exact W.vret hx hb hr0 (fun t ht _ => ⟨⟨rfl, by rw [ht]; exact hP⟩, hS.F ht⟩) hS.2.2 d_Trial_takeAll_101 hlk
theorem w_x_Trial_takeAll_b52_1 {z : St} (X : Cx b_Trial_takeAll 5 none R_Trial D [(cI, .int), (cZ, .boolean), (cJ, .long)] (xA ao aa) (xW cI cZ cJ ao aa) p s m args meth c) : ∀ (n : Nat) (S : St) (x3 : Int32) (x4 : Int32), x_Trial_takeAll_b52_1 n S x3 x4 = some z → WX rm_x_Trial_takeAll D (xA ao aa) (xW cI cZ cJ ao aa) p l e s m args below meth c none z 52 [] 5 [(0, .ref (ao 25)), (2, .ref (ao 18)), (3, .int x3), (4, .int x4)] S
  | 0, _, _, _, hf => ns hf
  | n + 1, _, _, _, hf => w_x_Trial_takeAll_b52_1_f X (w_x_Trial_takeAll_b52_1 X n) _ _ _ hf
set_option maxHeartbeats 4000000 in
set_option maxRecDepth 100000 in
theorem w_x_Trial_takeAll_b48_1 {z : St} (X : Cx b_Trial_takeAll 5 none R_Trial D [(cI, .int), (cZ, .boolean), (cJ, .long)] (xA ao aa) (xW cI cZ cJ ao aa) p s m args meth c) (S : St) (s0 : Int32) (hf : x_Trial_takeAll_b48_1 S s0 = some z) : WX rm_x_Trial_takeAll D (xA ao aa) (xW cI cZ cJ ao aa) p l e s m args below meth c none z 48 [.int s0] 5 [(0, .ref (ao 25)), (2, .ref (ao 18))] S := by
  intro H locs ls hP hS hl
  obtain ⟨hx, hb, hr0, hml, hown, htg, hlk, hK, hN, hI⟩ := id X
  unfold x_Trial_takeAll_b48_1 at hf
  refine lv_istore_n (lv' := [(3, .int s0), (0, .ref (ao 25)), (2, .ref (ao 18))]) hx hb d_Trial_takeAll_48 rfl hl (by decide) rfl (fun ls hl => ?_)
  refine lv_iconst (v := 0) hx hb d_Trial_takeAll_49 (by decide) ?_
  refine lv_istore (lv' := [(4, .int (0 : Int32)), (3, .int s0), (0, .ref (ao 25)), (2, .ref (ao 18))]) hx hb d_Trial_takeAll_50 hl (by decide) rfl (fun ls hl => ?_)
  exact w_x_Trial_takeAll_b52_1 X _ _ _ _ hf H locs ls hP hS (lv_sub hl [2, 3, 1, 0] rfl)
set_option maxHeartbeats 4000000 in
set_option maxRecDepth 100000 in
theorem w_x_Trial_takeAll {z : St} (X : Cx b_Trial_takeAll 5 none R_Trial D [(cI, .int), (cZ, .boolean), (cJ, .long)] (xA ao aa) (xW cI cZ cJ ao aa) p s m args meth c) (S : St) (x0 : Int32) (hf : x_Trial_takeAll S x0 = some z) : WX rm_x_Trial_takeAll D (xA ao aa) (xW cI cZ cJ ao aa) p l e s m args below meth c none z 0 [] 5 [(0, .ref (ao 25)), (1, .int x0)] S := by
  intro H locs ls hP hS hl
  obtain ⟨hx, hb, hr0, hml, hown, htg, hlk, hK, hN, hI⟩ := id X
  unfold x_Trial_takeAll at hf
  refine lv_aload_n hx hb d_Trial_takeAll_0 rfl (lv_at hl 0 rfl) ?_
  refine lv_iload_n hx hb d_Trial_takeAll_1 rfl (lv_at hl 1 rfl) ?_
  obtain ⟨q1, he, hf⟩ := ob_some hf
  refine cl_Vr (As := [.int x0]) (rest := []) X (c_x_Trial_openSlot he) ok_x_Trial_openSlot k_m_Trial_140 (va_recv hK hP rfl xo_25) rfl rfl hl.1 (Nat.le_of_ble_eq_true rfl) d_Trial_takeAll_2 ⟨by decide, by decide⟩ hP hS (fun H locs hP hS => ?_)
  by_cases c : q1.1 = 17
  · have hf := if_t hf c
    rw [c]
    refine lv_astore_n (lv' := [(2, .ref (ao 17)), (0, .ref (ao 25)), (1, .int x0)]) hx hb d_Trial_takeAll_5 rfl hl (by decide) rfl (fun ls hl => ?_)
    refine lv_aload_n hx hb d_Trial_takeAll_6 rfl (lv_at hl 0 rfl) ?_
    refine lv_aload_n hx hb d_Trial_takeAll_7 rfl (lv_at hl 1 rfl) ?_
    refine va_get (D := D) (v := .ref (ao 21)) hx hb htg in_Trial hown hK hP 25 xo_25 rfl 0 (by decide) (htg _ k_f_Trial_40) (fun _ h9 => h9) rfl d_Trial_takeAll_8 ?_
    refine lv_iload_n hx hb d_Trial_takeAll_11 rfl (lv_at hl 2 rfl) ?_
    obtain ⟨q2, he, hf⟩ := ob_some hf
    refine cl_Vl (As := [.int x0]) (rest := [.ref (ao 17)]) X (c_x_Things_allFor he) ok_x_Things_allFor k_m_Trial_189 (va_recv hK hP rfl xo_21) rfl rfl hl.1 (Nat.le_of_ble_eq_true rfl) d_Trial_takeAll_12 ⟨by decide, by decide⟩ hP hS (fun H locs hP hS => ?_)
    refine va_putN (D := D) (ty := .long) hx hb htg in_Slot t_Slot t_Slot_ok n_Slot hown hK hP (hI _) hS 17 xo_17 rfl 3 (by decide) (va_Nw.use rfl (hN _ k_fn_Trial_159)) (fun _ h9 => h9) rfl (by decide +kernel) rfl rfl (Nat.le_of_ble_eq_true rfl) d_Trial_takeAll_15 (fun H locs hP _ hS => ?_)
    replace hP : va_P D classes (xW cI cZ cJ ao aa (sL q2.2 0 q2.1)) H := pw xs_17_things hP
    refine lv_aload_n hx hb d_Trial_takeAll_18 rfl (lv_at hl 1 rfl) ?_
    refine lv_dup hx hb d_Trial_takeAll_19 rfl ?_
    refine va_get (D := D) (v := .int (gI (sL q2.2 0 q2.1) 27)) hx hb htg in_Trial hown hK hP 25 xo_25 rfl 10 (by decide) (htg _ k_f_Trial_83) (fun _ h9 => h9) rfl d_Trial_takeAll_20 ?_
    refine lv_iconst (v := 1) hx hb d_Trial_takeAll_23 (by decide) ?_
    refine lv_iadd hx hb d_Trial_takeAll_24 ?_
    refine va_put (D := D) (ty := .int) hx hb htg in_Trial t_Trial t_Trial_ok n_Trial hown hK hP (hI _) hS 25 xo_25 rfl 10 (by decide) (htg _ k_f_Trial_83) (fun _ h9 => h9) rfl (by decide +kernel) rfl rfl (Nat.le_of_ble_eq_true rfl) d_Trial_takeAll_25 (fun H locs hP _ hS => ?_)
    replace hP : va_P D classes (xW cI cZ cJ ao aa (sI (sL q2.2 0 q2.1) 27 ((gI (sL q2.2 0 q2.1) 27) + (1 : Int32)))) H := pw xs_25_cursor hP
    refine lv_aload_n hx hb d_Trial_takeAll_28 rfl (lv_at hl 1 rfl) ?_
    refine va_get (D := D) (v := .ref (ao 6)) hx hb htg in_Trial hown hK hP 25 xo_25 rfl 3 (by decide) (htg _ k_f_Trial_52) (fun _ h9 => h9) rfl d_Trial_takeAll_29 ?_
    refine lv_aload_n hx hb d_Trial_takeAll_32 rfl (lv_at hl 1 rfl) ?_
    refine va_get (D := D) (v := .int (gI (sI (sL q2.2 0 q2.1) 27 ((gI (sL q2.2 0 q2.1) 27) + (1 : Int32))) 27)) hx hb htg in_Trial hown hK hP 25 xo_25 rfl 10 (by decide) (htg _ k_f_Trial_83) (fun _ h9 => h9) rfl d_Trial_takeAll_33 ?_
    obtain ⟨q3, he, hf⟩ := ob_some hf
    refine cl_Vi (As := [.int (gI (sI (sL q2.2 0 q2.1) 27 ((gI (sL q2.2 0 q2.1) 27) + (1 : Int32))) 27)]) (rest := []) X (c_x_Row_at (by decide : 6 < 17) he) ok_x_Row_at k_m_Trial_115 (va_recv hK hP rfl (xo_row (by decide : 6 < 17))) rfl rfl hl.1 (Nat.le_of_ble_eq_true rfl) d_Trial_takeAll_36 ⟨by decide, by decide⟩ hP hS (fun H locs hP hS => ?_)
    refine lv_iconst (v := 3) hx hb d_Trial_takeAll_39 (by decide) ?_
    refine lv_icmp_ne (tgt := 47) hx hb d_Trial_takeAll_40 (by decide) (fun c => ?_) (fun c => ?_)
    · have hf := if_f hf c
      refine lv_iconst (v := 0) hx hb d_Trial_takeAll_47 (by decide) ?_
      exact w_x_Trial_takeAll_b48 X _ _ hf H locs ls hP hS (lv_sub hl [1, 0] rfl)
    · have hf := if_t hf c
      refine lv_iconst (v := 1) hx hb d_Trial_takeAll_43 (by decide) ?_
      refine lv_goto (tgt := 48) hx hb d_Trial_takeAll_44 (by decide) ?_
      exact w_x_Trial_takeAll_b48 X _ _ hf H locs ls hP hS (lv_sub hl [1, 0] rfl)
  have hf := if_f hf c
  by_cases c : q1.1 = 18
  · have hf := if_t hf c
    rw [c]
    refine lv_astore_n (lv' := [(2, .ref (ao 18)), (0, .ref (ao 25)), (1, .int x0)]) hx hb d_Trial_takeAll_5 rfl hl (by decide) rfl (fun ls hl => ?_)
    refine lv_aload_n hx hb d_Trial_takeAll_6 rfl (lv_at hl 0 rfl) ?_
    refine lv_aload_n hx hb d_Trial_takeAll_7 rfl (lv_at hl 1 rfl) ?_
    refine va_get (D := D) (v := .ref (ao 21)) hx hb htg in_Trial hown hK hP 25 xo_25 rfl 0 (by decide) (htg _ k_f_Trial_40) (fun _ h9 => h9) rfl d_Trial_takeAll_8 ?_
    refine lv_iload_n hx hb d_Trial_takeAll_11 rfl (lv_at hl 2 rfl) ?_
    obtain ⟨q9, he, hf⟩ := ob_some hf
    refine cl_Vl (As := [.int x0]) (rest := [.ref (ao 18)]) X (c_x_Things_allFor he) ok_x_Things_allFor k_m_Trial_189 (va_recv hK hP rfl xo_21) rfl rfl hl.1 (Nat.le_of_ble_eq_true rfl) d_Trial_takeAll_12 ⟨by decide, by decide⟩ hP hS (fun H locs hP hS => ?_)
    refine va_putN (D := D) (ty := .long) hx hb htg in_Slot t_Slot t_Slot_ok n_Slot hown hK hP (hI _) hS 18 xo_18 rfl 3 (by decide) (va_Nw.use rfl (hN _ k_fn_Trial_159)) (fun _ h9 => h9) rfl (by decide +kernel) rfl rfl (Nat.le_of_ble_eq_true rfl) d_Trial_takeAll_15 (fun H locs hP _ hS => ?_)
    replace hP : va_P D classes (xW cI cZ cJ ao aa (sL q9.2 1 q9.1)) H := pw xs_18_things hP
    refine lv_aload_n hx hb d_Trial_takeAll_18 rfl (lv_at hl 1 rfl) ?_
    refine lv_dup hx hb d_Trial_takeAll_19 rfl ?_
    refine va_get (D := D) (v := .int (gI (sL q9.2 1 q9.1) 27)) hx hb htg in_Trial hown hK hP 25 xo_25 rfl 10 (by decide) (htg _ k_f_Trial_83) (fun _ h9 => h9) rfl d_Trial_takeAll_20 ?_
    refine lv_iconst (v := 1) hx hb d_Trial_takeAll_23 (by decide) ?_
    refine lv_iadd hx hb d_Trial_takeAll_24 ?_
    refine va_put (D := D) (ty := .int) hx hb htg in_Trial t_Trial t_Trial_ok n_Trial hown hK hP (hI _) hS 25 xo_25 rfl 10 (by decide) (htg _ k_f_Trial_83) (fun _ h9 => h9) rfl (by decide +kernel) rfl rfl (Nat.le_of_ble_eq_true rfl) d_Trial_takeAll_25 (fun H locs hP _ hS => ?_)
    replace hP : va_P D classes (xW cI cZ cJ ao aa (sI (sL q9.2 1 q9.1) 27 ((gI (sL q9.2 1 q9.1) 27) + (1 : Int32)))) H := pw xs_25_cursor hP
    refine lv_aload_n hx hb d_Trial_takeAll_28 rfl (lv_at hl 1 rfl) ?_
    refine va_get (D := D) (v := .ref (ao 6)) hx hb htg in_Trial hown hK hP 25 xo_25 rfl 3 (by decide) (htg _ k_f_Trial_52) (fun _ h9 => h9) rfl d_Trial_takeAll_29 ?_
    refine lv_aload_n hx hb d_Trial_takeAll_32 rfl (lv_at hl 1 rfl) ?_
    refine va_get (D := D) (v := .int (gI (sI (sL q9.2 1 q9.1) 27 ((gI (sL q9.2 1 q9.1) 27) + (1 : Int32))) 27)) hx hb htg in_Trial hown hK hP 25 xo_25 rfl 10 (by decide) (htg _ k_f_Trial_83) (fun _ h9 => h9) rfl d_Trial_takeAll_33 ?_
    obtain ⟨q10, he, hf⟩ := ob_some hf
    refine cl_Vi (As := [.int (gI (sI (sL q9.2 1 q9.1) 27 ((gI (sL q9.2 1 q9.1) 27) + (1 : Int32))) 27)]) (rest := []) X (c_x_Row_at (by decide : 6 < 17) he) ok_x_Row_at k_m_Trial_115 (va_recv hK hP rfl (xo_row (by decide : 6 < 17))) rfl rfl hl.1 (Nat.le_of_ble_eq_true rfl) d_Trial_takeAll_36 ⟨by decide, by decide⟩ hP hS (fun H locs hP hS => ?_)
    refine lv_iconst (v := 3) hx hb d_Trial_takeAll_39 (by decide) ?_
    refine lv_icmp_ne (tgt := 47) hx hb d_Trial_takeAll_40 (by decide) (fun c => ?_) (fun c => ?_)
    · have hf := if_f hf c
      refine lv_iconst (v := 0) hx hb d_Trial_takeAll_47 (by decide) ?_
      exact w_x_Trial_takeAll_b48_1 X _ _ hf H locs ls hP hS (lv_sub hl [1, 0] rfl)
    · have hf := if_t hf c
      refine lv_iconst (v := 1) hx hb d_Trial_takeAll_43 (by decide) ?_
      refine lv_goto (tgt := 48) hx hb d_Trial_takeAll_44 (by decide) ?_
      exact w_x_Trial_takeAll_b48_1 X _ _ hf H locs ls hP hS (lv_sub hl [1, 0] rfl)
  have hf := if_f hf c
  exact ns hf
theorem c_x_Trial_takeAll {l : Launch} {D : va_G} {cI cZ cJ : ClassId} {ao aa : Nat → Nat} {S : St} {x0 : Int32} {z : St} (hz : x_Trial_takeAll S x0 = some z) : Ct l y_Trial_takeAll (.code y_Trial_takeAll b_Trial_takeAll 5 none :: gw) rm_x_Trial_takeAll D [(cI, .int), (cZ, .boolean), (cJ, .long)] (xA ao aa) (xW cI cZ cJ ao aa) [.ref (ao 25), .int x0] S none z :=
  Ct_of (by decide) (fun p e s m args below meth c X => w_x_Trial_takeAll X _ _ hz) (Nat.le_of_ble_eq_true rfl)
def x_Trial_takeOne (S : St) (x0 : Int32) : Option (St) :=
  (x_Trial_openSlot S x0).bind fun q1 =>
  if q1.1 = 17 then
    (x_Trial_findOne q1.2 x0).bind fun q2 =>
    if (gI (sL q2.2 0 q2.1) 28) = 0 then
      (x_Row_at 6 (sL q2.2 0 q2.1) (gI (sL q2.2 0 q2.1) 27)).bind fun q3 =>
      (x_G_isJoin q3.2 q3.1).bind fun q4 =>
      if q4.1 = 0 then
        some q4.2
      else
        (x_Trial_fail q4.2 (13 : Int32) (gI q4.2 27)).bind fun q5 =>
        some q5
    else
      some (sL q2.2 0 q2.1)
  else
  if q1.1 = 18 then
    (x_Trial_findOne q1.2 x0).bind fun q6 =>
    if (gI (sL q6.2 1 q6.1) 28) = 0 then
      (x_Row_at 6 (sL q6.2 1 q6.1) (gI (sL q6.2 1 q6.1) 27)).bind fun q7 =>
      (x_G_isJoin q7.2 q7.1).bind fun q8 =>
      if q8.1 = 0 then
        some q8.2
      else
        (x_Trial_fail q8.2 (13 : Int32) (gI q8.2 27)).bind fun q9 =>
        some q9
    else
      some (sL q6.2 1 q6.1)
  else
  none
def rm_x_Trial_takeOne : Room := { frames := 3, cells := 0, slots := 0, locals := 76 }
theorem ok_x_Trial_takeOne : CalV y_Trial_takeOne b_Trial_takeOne 3 none 1 rm_x_Trial_takeOne := ⟨kc_Trial_takeOne, ki_Trial_takeOne, kl_Trial_takeOne, ji_Trial, ⟨by decide, by decide, by decide +kernel⟩, rfl, rfl⟩
set_option maxHeartbeats 4000000 in
set_option maxRecDepth 100000 in
theorem w_x_Trial_takeOne {z : St} (X : Cx b_Trial_takeOne 3 none R_Trial D [(cI, .int), (cZ, .boolean), (cJ, .long)] (xA ao aa) (xW cI cZ cJ ao aa) p s m args meth c) (S : St) (x0 : Int32) (hf : x_Trial_takeOne S x0 = some z) : WX rm_x_Trial_takeOne D (xA ao aa) (xW cI cZ cJ ao aa) p l e s m args below meth c none z 0 [] 3 [(0, .ref (ao 25)), (1, .int x0)] S := by
  intro H locs ls hP hS hl
  obtain ⟨hx, hb, hr0, hml, hown, htg, hlk, hK, hN, hI⟩ := id X
  unfold x_Trial_takeOne at hf
  refine lv_aload_n hx hb d_Trial_takeOne_0 rfl (lv_at hl 0 rfl) ?_
  refine lv_iload_n hx hb d_Trial_takeOne_1 rfl (lv_at hl 1 rfl) ?_
  obtain ⟨q1, he, hf⟩ := ob_some hf
  refine cl_Vr (As := [.int x0]) (rest := []) X (c_x_Trial_openSlot he) ok_x_Trial_openSlot k_m_Trial_140 (va_recv hK hP rfl xo_25) rfl rfl hl.1 (Nat.le_of_ble_eq_true rfl) d_Trial_takeOne_2 ⟨by decide, by decide⟩ hP hS (fun H locs hP hS => ?_)
  by_cases c : q1.1 = 17
  · have hf := if_t hf c
    rw [c]
    refine lv_astore_n (lv' := [(2, .ref (ao 17)), (0, .ref (ao 25)), (1, .int x0)]) hx hb d_Trial_takeOne_5 rfl hl (by decide) rfl (fun ls hl => ?_)
    refine lv_aload_n hx hb d_Trial_takeOne_6 rfl (lv_at hl 0 rfl) ?_
    refine lv_aload_n hx hb d_Trial_takeOne_7 rfl (lv_at hl 1 rfl) ?_
    refine lv_iload_n hx hb d_Trial_takeOne_8 rfl (lv_at hl 2 rfl) ?_
    obtain ⟨q2, he, hf⟩ := ob_some hf
    refine cl_Vl (As := [.int x0]) (rest := [.ref (ao 17)]) X (c_x_Trial_findOne he) ok_x_Trial_findOne k_m_Trial_155 (va_recv hK hP rfl xo_25) rfl rfl hl.1 (Nat.le_of_ble_eq_true rfl) d_Trial_takeOne_9 ⟨by decide, by decide⟩ hP hS (fun H locs hP hS => ?_)
    refine va_putN (D := D) (ty := .long) hx hb htg in_Slot t_Slot t_Slot_ok n_Slot hown hK hP (hI _) hS 17 xo_17 rfl 3 (by decide) (va_Nw.use rfl (hN _ k_fn_Trial_159)) (fun _ h9 => h9) rfl (by decide +kernel) rfl rfl (Nat.le_of_ble_eq_true rfl) d_Trial_takeOne_12 (fun H locs hP _ hS => ?_)
    replace hP : va_P D classes (xW cI cZ cJ ao aa (sL q2.2 0 q2.1)) H := pw xs_17_things hP
    refine lv_aload_n hx hb d_Trial_takeOne_15 rfl (lv_at hl 1 rfl) ?_
    refine va_get (D := D) (v := .int (gI (sL q2.2 0 q2.1) 28)) hx hb htg in_Trial hown hK hP 25 xo_25 rfl 11 (by decide) (htg _ k_f_Trial_76) (fun _ h9 => h9) rfl d_Trial_takeOne_16 ?_
    refine lv_if_ne (tgt := 49) hx hb d_Trial_takeOne_19 (by decide) (fun c => ?_) (fun c => ?_)
    · have hf := if_f hf c
      obtain rfl := Option.some.inj hf
      exact W.vret hx hb hr0 (fun t ht _ => ⟨⟨rfl, by rw [ht]; exact hP⟩, hS.F ht⟩) hS.2.2 d_Trial_takeOne_49 hlk
    · have hf := if_t hf c
      refine lv_aload_n hx hb d_Trial_takeOne_22 rfl (lv_at hl 1 rfl) ?_
      refine va_get (D := D) (v := .ref (ao 6)) hx hb htg in_Trial hown hK hP 25 xo_25 rfl 3 (by decide) (htg _ k_f_Trial_52) (fun _ h9 => h9) rfl d_Trial_takeOne_23 ?_
      refine lv_aload_n hx hb d_Trial_takeOne_26 rfl (lv_at hl 1 rfl) ?_
      refine va_get (D := D) (v := .int (gI (sL q2.2 0 q2.1) 27)) hx hb htg in_Trial hown hK hP 25 xo_25 rfl 10 (by decide) (htg _ k_f_Trial_83) (fun _ h9 => h9) rfl d_Trial_takeOne_27 ?_
      obtain ⟨q3, he, hf⟩ := ob_some hf
      refine cl_Vi (As := [.int (gI (sL q2.2 0 q2.1) 27)]) (rest := []) X (c_x_Row_at (by decide : 6 < 17) he) ok_x_Row_at k_m_Trial_115 (va_recv hK hP rfl (xo_row (by decide : 6 < 17))) rfl rfl hl.1 (Nat.le_of_ble_eq_true rfl) d_Trial_takeOne_30 ⟨by decide, by decide⟩ hP hS (fun H locs hP hS => ?_)
      obtain ⟨q4, he, hf⟩ := ob_some hf
      refine cl_Ti (As := [.int q3.1]) (rest := []) X (c_x_G_isJoin he) ok_x_G_isJoin k_mn_Trial_162 rfl rfl hl.1 (Nat.le_of_ble_eq_true rfl) d_Trial_takeOne_33 ⟨by decide, by decide⟩ hP hS (fun H locs hP hS => ?_)
      refine lv_if_eq (tgt := 49) hx hb d_Trial_takeOne_36 (by decide) (fun c => ?_) (fun c => ?_)
      · have hf := if_t hf c
        obtain rfl := Option.some.inj hf
        exact W.vret hx hb hr0 (fun t ht _ => ⟨⟨rfl, by rw [ht]; exact hP⟩, hS.F ht⟩) hS.2.2 d_Trial_takeOne_49 hlk
      · have hf := if_f hf c
        refine lv_aload_n hx hb d_Trial_takeOne_39 rfl (lv_at hl 1 rfl) ?_
        refine lv_bipush (v := 13) hx hb d_Trial_takeOne_40 (by decide) ?_
        refine lv_aload_n hx hb d_Trial_takeOne_42 rfl (lv_at hl 1 rfl) ?_
        refine va_get (D := D) (v := .int (gI q4.2 27)) hx hb htg in_Trial hown hK hP 25 xo_25 rfl 10 (by decide) (htg _ k_f_Trial_83) (fun _ h9 => h9) rfl d_Trial_takeOne_43 ?_
        obtain ⟨q5, he, hf⟩ := ob_some hf
        refine cl_Vv (As := [.int (13 : Int32), .int (gI q4.2 27)]) (rest := []) X (c_x_Trial_fail he) ok_x_Trial_fail k_m_Trial_136 (va_recv hK hP rfl xo_25) rfl rfl hl.1 (Nat.le_of_ble_eq_true rfl) d_Trial_takeOne_46 ⟨by decide, by decide⟩ hP hS (fun H locs hP hS => ?_)
        obtain rfl := Option.some.inj hf
        exact W.vret hx hb hr0 (fun t ht _ => ⟨⟨rfl, by rw [ht]; exact hP⟩, hS.F ht⟩) hS.2.2 d_Trial_takeOne_49 hlk
  have hf := if_f hf c
  by_cases c : q1.1 = 18
  · have hf := if_t hf c
    rw [c]
    refine lv_astore_n (lv' := [(2, .ref (ao 18)), (0, .ref (ao 25)), (1, .int x0)]) hx hb d_Trial_takeOne_5 rfl hl (by decide) rfl (fun ls hl => ?_)
    refine lv_aload_n hx hb d_Trial_takeOne_6 rfl (lv_at hl 0 rfl) ?_
    refine lv_aload_n hx hb d_Trial_takeOne_7 rfl (lv_at hl 1 rfl) ?_
    refine lv_iload_n hx hb d_Trial_takeOne_8 rfl (lv_at hl 2 rfl) ?_
    obtain ⟨q6, he, hf⟩ := ob_some hf
    refine cl_Vl (As := [.int x0]) (rest := [.ref (ao 18)]) X (c_x_Trial_findOne he) ok_x_Trial_findOne k_m_Trial_155 (va_recv hK hP rfl xo_25) rfl rfl hl.1 (Nat.le_of_ble_eq_true rfl) d_Trial_takeOne_9 ⟨by decide, by decide⟩ hP hS (fun H locs hP hS => ?_)
    refine va_putN (D := D) (ty := .long) hx hb htg in_Slot t_Slot t_Slot_ok n_Slot hown hK hP (hI _) hS 18 xo_18 rfl 3 (by decide) (va_Nw.use rfl (hN _ k_fn_Trial_159)) (fun _ h9 => h9) rfl (by decide +kernel) rfl rfl (Nat.le_of_ble_eq_true rfl) d_Trial_takeOne_12 (fun H locs hP _ hS => ?_)
    replace hP : va_P D classes (xW cI cZ cJ ao aa (sL q6.2 1 q6.1)) H := pw xs_18_things hP
    refine lv_aload_n hx hb d_Trial_takeOne_15 rfl (lv_at hl 1 rfl) ?_
    refine va_get (D := D) (v := .int (gI (sL q6.2 1 q6.1) 28)) hx hb htg in_Trial hown hK hP 25 xo_25 rfl 11 (by decide) (htg _ k_f_Trial_76) (fun _ h9 => h9) rfl d_Trial_takeOne_16 ?_
    refine lv_if_ne (tgt := 49) hx hb d_Trial_takeOne_19 (by decide) (fun c => ?_) (fun c => ?_)
    · have hf := if_f hf c
      obtain rfl := Option.some.inj hf
      exact W.vret hx hb hr0 (fun t ht _ => ⟨⟨rfl, by rw [ht]; exact hP⟩, hS.F ht⟩) hS.2.2 d_Trial_takeOne_49 hlk
    · have hf := if_t hf c
      refine lv_aload_n hx hb d_Trial_takeOne_22 rfl (lv_at hl 1 rfl) ?_
      refine va_get (D := D) (v := .ref (ao 6)) hx hb htg in_Trial hown hK hP 25 xo_25 rfl 3 (by decide) (htg _ k_f_Trial_52) (fun _ h9 => h9) rfl d_Trial_takeOne_23 ?_
      refine lv_aload_n hx hb d_Trial_takeOne_26 rfl (lv_at hl 1 rfl) ?_
      refine va_get (D := D) (v := .int (gI (sL q6.2 1 q6.1) 27)) hx hb htg in_Trial hown hK hP 25 xo_25 rfl 10 (by decide) (htg _ k_f_Trial_83) (fun _ h9 => h9) rfl d_Trial_takeOne_27 ?_
      obtain ⟨q7, he, hf⟩ := ob_some hf
      refine cl_Vi (As := [.int (gI (sL q6.2 1 q6.1) 27)]) (rest := []) X (c_x_Row_at (by decide : 6 < 17) he) ok_x_Row_at k_m_Trial_115 (va_recv hK hP rfl (xo_row (by decide : 6 < 17))) rfl rfl hl.1 (Nat.le_of_ble_eq_true rfl) d_Trial_takeOne_30 ⟨by decide, by decide⟩ hP hS (fun H locs hP hS => ?_)
      obtain ⟨q8, he, hf⟩ := ob_some hf
      refine cl_Ti (As := [.int q7.1]) (rest := []) X (c_x_G_isJoin he) ok_x_G_isJoin k_mn_Trial_162 rfl rfl hl.1 (Nat.le_of_ble_eq_true rfl) d_Trial_takeOne_33 ⟨by decide, by decide⟩ hP hS (fun H locs hP hS => ?_)
      refine lv_if_eq (tgt := 49) hx hb d_Trial_takeOne_36 (by decide) (fun c => ?_) (fun c => ?_)
      · have hf := if_t hf c
        obtain rfl := Option.some.inj hf
        exact W.vret hx hb hr0 (fun t ht _ => ⟨⟨rfl, by rw [ht]; exact hP⟩, hS.F ht⟩) hS.2.2 d_Trial_takeOne_49 hlk
      · have hf := if_f hf c
        refine lv_aload_n hx hb d_Trial_takeOne_39 rfl (lv_at hl 1 rfl) ?_
        refine lv_bipush (v := 13) hx hb d_Trial_takeOne_40 (by decide) ?_
        refine lv_aload_n hx hb d_Trial_takeOne_42 rfl (lv_at hl 1 rfl) ?_
        refine va_get (D := D) (v := .int (gI q8.2 27)) hx hb htg in_Trial hown hK hP 25 xo_25 rfl 10 (by decide) (htg _ k_f_Trial_83) (fun _ h9 => h9) rfl d_Trial_takeOne_43 ?_
        obtain ⟨q9, he, hf⟩ := ob_some hf
        refine cl_Vv (As := [.int (13 : Int32), .int (gI q8.2 27)]) (rest := []) X (c_x_Trial_fail he) ok_x_Trial_fail k_m_Trial_136 (va_recv hK hP rfl xo_25) rfl rfl hl.1 (Nat.le_of_ble_eq_true rfl) d_Trial_takeOne_46 ⟨by decide, by decide⟩ hP hS (fun H locs hP hS => ?_)
        obtain rfl := Option.some.inj hf
        exact W.vret hx hb hr0 (fun t ht _ => ⟨⟨rfl, by rw [ht]; exact hP⟩, hS.F ht⟩) hS.2.2 d_Trial_takeOne_49 hlk
  have hf := if_f hf c
  exact ns hf
theorem c_x_Trial_takeOne {l : Launch} {D : va_G} {cI cZ cJ : ClassId} {ao aa : Nat → Nat} {S : St} {x0 : Int32} {z : St} (hz : x_Trial_takeOne S x0 = some z) : Ct l y_Trial_takeOne (.code y_Trial_takeOne b_Trial_takeOne 3 none :: gw) rm_x_Trial_takeOne D [(cI, .int), (cZ, .boolean), (cJ, .long)] (xA ao aa) (xW cI cZ cJ ao aa) [.ref (ao 25), .int x0] S none z :=
  Ct_of (by decide) (fun p e s m args below meth c X => w_x_Trial_takeOne X _ _ hz) (Nat.le_of_ble_eq_true rfl)
def x_Lines_ofAt (S : St) (x0 : Int32) (x1 : Int32) : Option (Int32 × St) :=
  (x_Lines_has S x0).bind fun q1 =>
  if q1.1 = 0 then
    some ((-1 : Int32), q1.2)
  else
    if x1 < 0 then
      some ((-1 : Int32), q1.2)
    else
      gd (vin x0 60) <|
      if (gA q1.2 23 x0.toNatClampNeg) ≤ x1 then
        some ((-1 : Int32), q1.2)
      else
        gd (vin ((x0 * (8 : Int32)) + x1) 480) <|
        some ((gA q1.2 25 ((x0 * (8 : Int32)) + x1).toNatClampNeg), q1.2)
def rm_x_Lines_ofAt : Room := { frames := 1, cells := 0, slots := 0, locals := 21 }
theorem ok_x_Lines_ofAt : CalV y_Lines_ofAt b_Lines_ofAt 3 (some .int) 2 rm_x_Lines_ofAt := ⟨kc_Lines_ofAt, ki_Lines_ofAt, kl_Lines_ofAt, ji_Lines, ⟨by decide, by decide, by decide +kernel⟩, rfl, rfl⟩
set_option maxHeartbeats 4000000 in
set_option maxRecDepth 100000 in
theorem w_x_Lines_ofAt {z : Int32 × St} (X : Cx b_Lines_ofAt 3 (some .int) R_Lines D [(cI, .int), (cZ, .boolean), (cJ, .long)] (xA ao aa) (xW cI cZ cJ ao aa) p s m args meth c) (S : St) (x0 : Int32) (x1 : Int32) (hf : x_Lines_ofAt S x0 x1 = some z) : WX rm_x_Lines_ofAt D (xA ao aa) (xW cI cZ cJ ao aa) p l e s m args below meth c (some (.int z.1)) z.2 0 [] 3 [(0, .ref (ao 23)), (1, .int x0), (2, .int x1)] S := by
  intro H locs ls hP hS hl
  obtain ⟨hx, hb, hr0, hml, hown, htg, hlk, hK, hN, hI⟩ := id X
  unfold x_Lines_ofAt at hf
  refine lv_aload_n hx hb d_Lines_ofAt_0 rfl (lv_at hl 0 rfl) ?_
  refine lv_iload_n hx hb d_Lines_ofAt_1 rfl (lv_at hl 1 rfl) ?_
  obtain ⟨q1, he, hf⟩ := ob_some hf
  refine cl_Vi (As := [.int x0]) (rest := []) X (c_x_Lines_has he) ok_x_Lines_has k_m_Lines_39 (va_recv hK hP rfl xo_23) rfl rfl hl.1 (Nat.le_of_ble_eq_true rfl) d_Lines_ofAt_2 ⟨by decide, by decide⟩ hP hS (fun H locs hP hS => ?_)
  refine lv_if_eq (tgt := 36) hx hb d_Lines_ofAt_5 (by decide) (fun c => ?_) (fun c => ?_)
  · have hf := if_t hf c
    refine lv_iconst (v := (-1)) hx hb d_Lines_ofAt_36 (by decide) ?_
    obtain rfl := Option.some.inj hf
    exact W.iret hx hb hr0 (fun t ht _ => ⟨⟨rfl, by rw [ht]; exact hP⟩, hS.F ht⟩) hS.2.2 d_Lines_ofAt_37 hlk
  · have hf := if_f hf c
    refine lv_iload_n hx hb d_Lines_ofAt_8 rfl (lv_at hl 2 rfl) ?_
    refine lv_if_lt (tgt := 36) hx hb d_Lines_ofAt_9 (by decide) (fun c => ?_) (fun c => ?_)
    · have hf := if_t hf c
      refine lv_iconst (v := (-1)) hx hb d_Lines_ofAt_36 (by decide) ?_
      obtain rfl := Option.some.inj hf
      exact W.iret hx hb hr0 (fun t ht _ => ⟨⟨rfl, by rw [ht]; exact hP⟩, hS.F ht⟩) hS.2.2 d_Lines_ofAt_37 hlk
    · have hf := if_f hf c
      refine lv_iload_n hx hb d_Lines_ofAt_12 rfl (lv_at hl 2 rfl) ?_
      refine lv_aload_n hx hb d_Lines_ofAt_13 rfl (lv_at hl 0 rfl) ?_
      refine va_get (D := D) (v := .ref (aa 23)) hx hb htg in_Lines hown hK hP 23 xo_23 rfl 3 (by decide) (htg _ k_f_Lines_22) (fun _ h9 => h9) rfl d_Lines_ofAt_14 ?_
      refine lv_iload_n hx hb d_Lines_ofAt_17 rfl (lv_at hl 1 rfl) ?_
      obtain ⟨hg, hf⟩ := gd_some hf
      refine va_iald hx hb hK hP 51 0 xa_23 rfl (vin_in hg) d_Lines_ofAt_18 ?_
      refine lv_icmp_ge (tgt := 36) hx hb d_Lines_ofAt_19 (by decide) (fun c => ?_) (fun c => ?_)
      · have hf := if_t hf c
        refine lv_iconst (v := (-1)) hx hb d_Lines_ofAt_36 (by decide) ?_
        obtain rfl := Option.some.inj hf
        exact W.iret hx hb hr0 (fun t ht _ => ⟨⟨rfl, by rw [ht]; exact hP⟩, hS.F ht⟩) hS.2.2 d_Lines_ofAt_37 hlk
      · have hf := if_f hf c
        refine lv_aload_n hx hb d_Lines_ofAt_22 rfl (lv_at hl 0 rfl) ?_
        refine va_get (D := D) (v := .ref (aa 25)) hx hb htg in_Lines hown hK hP 23 xo_23 rfl 5 (by decide) (htg _ k_f_Lines_28) (fun _ h9 => h9) rfl d_Lines_ofAt_23 ?_
        refine lv_iload_n hx hb d_Lines_ofAt_26 rfl (lv_at hl 1 rfl) ?_
        refine lv_bipush (v := 8) hx hb d_Lines_ofAt_27 (by decide) ?_
        refine lv_imul hx hb d_Lines_ofAt_29 ?_
        refine lv_iload_n hx hb d_Lines_ofAt_30 rfl (lv_at hl 2 rfl) ?_
        refine lv_iadd hx hb d_Lines_ofAt_31 ?_
        obtain ⟨hg, hf⟩ := gd_some hf
        refine va_iald hx hb hK hP 53 0 xa_25 rfl (vin_in hg) d_Lines_ofAt_32 ?_
        refine lv_goto (tgt := 37) hx hb d_Lines_ofAt_33 (by decide) ?_
        obtain rfl := Option.some.inj hf
        exact W.iret hx hb hr0 (fun t ht _ => ⟨⟨rfl, by rw [ht]; exact hP⟩, hS.F ht⟩) hS.2.2 d_Lines_ofAt_37 hlk
theorem c_x_Lines_ofAt {l : Launch} {D : va_G} {cI cZ cJ : ClassId} {ao aa : Nat → Nat} {S : St} {x0 : Int32} {x1 : Int32} {z : Int32 × St} (hz : x_Lines_ofAt S x0 x1 = some z) : Ct l y_Lines_ofAt (.code y_Lines_ofAt b_Lines_ofAt 3 (some .int) :: gw) rm_x_Lines_ofAt D [(cI, .int), (cZ, .boolean), (cJ, .long)] (xA ao aa) (xW cI cZ cJ ao aa) [.ref (ao 23), .int x0, .int x1] S (some (.int z.1)) z.2 :=
  Ct_of (by decide) (fun p e s m args below meth c X => w_x_Lines_ofAt X _ _ _ hz) (Nat.le_of_ble_eq_true rfl)
def x_Trial_takeCustom (S : St) (x0 : Int32) : Option (St) :=
  (x_Row_at 6 S (gI S 27)).bind fun q1 =>
  (x_Values_find q1.2 x0 q1.1).bind fun q2 =>
  if q2.1 = (-1 : Int32) then
    (x_Trial_fail q2.2 (9 : Int32) (gI q2.2 27)).bind fun q6 =>
    some q6
  else
    (x_Trial_openSlot q2.2 (11 : Int32)).bind fun q3 =>
    if q3.1 = 17 then
      (x_Row_add 9 q3.2 q2.1).bind fun q4 =>
      some (sI q4 27 ((gI q4 27) + (1 : Int32)))
    else
    if q3.1 = 18 then
      (x_Row_add 10 q3.2 q2.1).bind fun q5 =>
      some (sI q5 27 ((gI q5 27) + (1 : Int32)))
    else
    none
def rm_x_Trial_takeCustom : Room := { frames := 3, cells := 0, slots := 0, locals := 66 }
theorem ok_x_Trial_takeCustom : CalV y_Trial_takeCustom b_Trial_takeCustom 3 none 1 rm_x_Trial_takeCustom := ⟨kc_Trial_takeCustom, ki_Trial_takeCustom, kl_Trial_takeCustom, ji_Trial, ⟨by decide, by decide, by decide +kernel⟩, rfl, rfl⟩
set_option maxHeartbeats 4000000 in
set_option maxRecDepth 100000 in
theorem w_x_Trial_takeCustom {z : St} (X : Cx b_Trial_takeCustom 3 none R_Trial D [(cI, .int), (cZ, .boolean), (cJ, .long)] (xA ao aa) (xW cI cZ cJ ao aa) p s m args meth c) (S : St) (x0 : Int32) (hf : x_Trial_takeCustom S x0 = some z) : WX rm_x_Trial_takeCustom D (xA ao aa) (xW cI cZ cJ ao aa) p l e s m args below meth c none z 0 [] 3 [(0, .ref (ao 25)), (1, .int x0)] S := by
  intro H locs ls hP hS hl
  obtain ⟨hx, hb, hr0, hml, hown, htg, hlk, hK, hN, hI⟩ := id X
  unfold x_Trial_takeCustom at hf
  refine lv_aload_n hx hb d_Trial_takeCustom_0 rfl (lv_at hl 0 rfl) ?_
  refine va_get (D := D) (v := .ref (ao 24)) hx hb htg in_Trial hown hK hP 25 xo_25 rfl 2 (by decide) (htg _ k_f_Trial_48) (fun _ h9 => h9) rfl d_Trial_takeCustom_1 ?_
  refine lv_iload_n hx hb d_Trial_takeCustom_4 rfl (lv_at hl 1 rfl) ?_
  refine lv_aload_n hx hb d_Trial_takeCustom_5 rfl (lv_at hl 0 rfl) ?_
  refine va_get (D := D) (v := .ref (ao 6)) hx hb htg in_Trial hown hK hP 25 xo_25 rfl 3 (by decide) (htg _ k_f_Trial_52) (fun _ h9 => h9) rfl d_Trial_takeCustom_6 ?_
  refine lv_aload_n hx hb d_Trial_takeCustom_9 rfl (lv_at hl 0 rfl) ?_
  refine va_get (D := D) (v := .int (gI S 27)) hx hb htg in_Trial hown hK hP 25 xo_25 rfl 10 (by decide) (htg _ k_f_Trial_83) (fun _ h9 => h9) rfl d_Trial_takeCustom_10 ?_
  obtain ⟨q1, he, hf⟩ := ob_some hf
  refine cl_Vi (As := [.int (gI S 27)]) (rest := [.int x0, .ref (ao 24)]) X (c_x_Row_at (by decide : 6 < 17) he) ok_x_Row_at k_m_Trial_115 (va_recv hK hP rfl (xo_row (by decide : 6 < 17))) rfl rfl hl.1 (Nat.le_of_ble_eq_true rfl) d_Trial_takeCustom_13 ⟨by decide, by decide⟩ hP hS (fun H locs hP hS => ?_)
  obtain ⟨q2, he, hf⟩ := ob_some hf
  refine cl_Vi (As := [.int x0, .int q1.1]) (rest := []) X (c_x_Values_find he) ok_x_Values_find k_m_Trial_150 (va_recv hK hP rfl xo_24) rfl rfl hl.1 (Nat.le_of_ble_eq_true rfl) d_Trial_takeCustom_16 ⟨by decide, by decide⟩ hP hS (fun H locs hP hS => ?_)
  refine lv_istore_n (lv' := [(2, .int q2.1), (0, .ref (ao 25)), (1, .int x0)]) hx hb d_Trial_takeCustom_19 rfl hl (by decide) rfl (fun ls hl => ?_)
  refine lv_iload_n hx hb d_Trial_takeCustom_20 rfl (lv_at hl 0 rfl) ?_
  refine lv_iconst (v := (-1)) hx hb d_Trial_takeCustom_21 (by decide) ?_
  refine lv_icmp_ne (tgt := 36) hx hb d_Trial_takeCustom_22 (by decide) (fun c => ?_) (fun c => ?_)
  · have hf := if_f hf c
    refine lv_aload_n hx hb d_Trial_takeCustom_36 rfl (lv_at hl 1 rfl) ?_
    refine lv_bipush (v := 11) hx hb d_Trial_takeCustom_37 (by decide) ?_
    obtain ⟨q3, he, hf⟩ := ob_some hf
    refine cl_Vr (As := [.int (11 : Int32)]) (rest := []) X (c_x_Trial_openSlot he) ok_x_Trial_openSlot k_m_Trial_140 (va_recv hK hP rfl xo_25) rfl rfl hl.1 (Nat.le_of_ble_eq_true rfl) d_Trial_takeCustom_39 ⟨by decide, by decide⟩ hP hS (fun H locs hP hS => ?_)
    by_cases c : q3.1 = 17
    · have hf := if_t hf c
      rw [c]
      refine va_getN (D := D) (v := .ref (ao 9)) hx hb htg in_Slot hown hK hP 17 xo_17 rfl 0 (by decide) (va_Nw.use rfl (hN _ k_fn_Trial_144)) (fun _ h9 => h9) rfl d_Trial_takeCustom_42 ?_
      refine lv_iload_n hx hb d_Trial_takeCustom_45 rfl (lv_at hl 0 rfl) ?_
      obtain ⟨q4, he, hf⟩ := ob_some hf
      refine cl_Vv (As := [.int q2.1]) (rest := []) X (c_x_Row_add (by decide : 9 < 17) he) ok_x_Row_add k_m_Trial_147 (va_recv hK hP rfl (xo_row (by decide : 9 < 17))) rfl rfl hl.1 (Nat.le_of_ble_eq_true rfl) d_Trial_takeCustom_46 ⟨by decide, by decide⟩ hP hS (fun H locs hP hS => ?_)
      refine lv_aload_n hx hb d_Trial_takeCustom_49 rfl (lv_at hl 1 rfl) ?_
      refine lv_dup hx hb d_Trial_takeCustom_50 rfl ?_
      refine va_get (D := D) (v := .int (gI q4 27)) hx hb htg in_Trial hown hK hP 25 xo_25 rfl 10 (by decide) (htg _ k_f_Trial_83) (fun _ h9 => h9) rfl d_Trial_takeCustom_51 ?_
      refine lv_iconst (v := 1) hx hb d_Trial_takeCustom_54 (by decide) ?_
      refine lv_iadd hx hb d_Trial_takeCustom_55 ?_
      refine va_put (D := D) (ty := .int) hx hb htg in_Trial t_Trial t_Trial_ok n_Trial hown hK hP (hI _) hS 25 xo_25 rfl 10 (by decide) (htg _ k_f_Trial_83) (fun _ h9 => h9) rfl (by decide +kernel) rfl rfl (Nat.le_of_ble_eq_true rfl) d_Trial_takeCustom_56 (fun H locs hP _ hS => ?_)
      replace hP : va_P D classes (xW cI cZ cJ ao aa (sI q4 27 ((gI q4 27) + (1 : Int32)))) H := pw xs_25_cursor hP
      obtain rfl := Option.some.inj hf
      exact W.vret hx hb hr0 (fun t ht _ => ⟨⟨rfl, by rw [ht]; exact hP⟩, hS.F ht⟩) hS.2.2 d_Trial_takeCustom_59 hlk
    have hf := if_f hf c
    by_cases c : q3.1 = 18
    · have hf := if_t hf c
      rw [c]
      refine va_getN (D := D) (v := .ref (ao 10)) hx hb htg in_Slot hown hK hP 18 xo_18 rfl 0 (by decide) (va_Nw.use rfl (hN _ k_fn_Trial_144)) (fun _ h9 => h9) rfl d_Trial_takeCustom_42 ?_
      refine lv_iload_n hx hb d_Trial_takeCustom_45 rfl (lv_at hl 0 rfl) ?_
      obtain ⟨q5, he, hf⟩ := ob_some hf
      refine cl_Vv (As := [.int q2.1]) (rest := []) X (c_x_Row_add (by decide : 10 < 17) he) ok_x_Row_add k_m_Trial_147 (va_recv hK hP rfl (xo_row (by decide : 10 < 17))) rfl rfl hl.1 (Nat.le_of_ble_eq_true rfl) d_Trial_takeCustom_46 ⟨by decide, by decide⟩ hP hS (fun H locs hP hS => ?_)
      refine lv_aload_n hx hb d_Trial_takeCustom_49 rfl (lv_at hl 1 rfl) ?_
      refine lv_dup hx hb d_Trial_takeCustom_50 rfl ?_
      refine va_get (D := D) (v := .int (gI q5 27)) hx hb htg in_Trial hown hK hP 25 xo_25 rfl 10 (by decide) (htg _ k_f_Trial_83) (fun _ h9 => h9) rfl d_Trial_takeCustom_51 ?_
      refine lv_iconst (v := 1) hx hb d_Trial_takeCustom_54 (by decide) ?_
      refine lv_iadd hx hb d_Trial_takeCustom_55 ?_
      refine va_put (D := D) (ty := .int) hx hb htg in_Trial t_Trial t_Trial_ok n_Trial hown hK hP (hI _) hS 25 xo_25 rfl 10 (by decide) (htg _ k_f_Trial_83) (fun _ h9 => h9) rfl (by decide +kernel) rfl rfl (Nat.le_of_ble_eq_true rfl) d_Trial_takeCustom_56 (fun H locs hP _ hS => ?_)
      replace hP : va_P D classes (xW cI cZ cJ ao aa (sI q5 27 ((gI q5 27) + (1 : Int32)))) H := pw xs_25_cursor hP
      obtain rfl := Option.some.inj hf
      exact W.vret hx hb hr0 (fun t ht _ => ⟨⟨rfl, by rw [ht]; exact hP⟩, hS.F ht⟩) hS.2.2 d_Trial_takeCustom_59 hlk
    have hf := if_f hf c
    exact ns hf
  · have hf := if_t hf c
    refine lv_aload_n hx hb d_Trial_takeCustom_25 rfl (lv_at hl 1 rfl) ?_
    refine lv_bipush (v := 9) hx hb d_Trial_takeCustom_26 (by decide) ?_
    refine lv_aload_n hx hb d_Trial_takeCustom_28 rfl (lv_at hl 1 rfl) ?_
    refine va_get (D := D) (v := .int (gI q2.2 27)) hx hb htg in_Trial hown hK hP 25 xo_25 rfl 10 (by decide) (htg _ k_f_Trial_83) (fun _ h9 => h9) rfl d_Trial_takeCustom_29 ?_
    obtain ⟨q6, he, hf⟩ := ob_some hf
    refine cl_Vv (As := [.int (9 : Int32), .int (gI q2.2 27)]) (rest := []) X (c_x_Trial_fail he) ok_x_Trial_fail k_m_Trial_136 (va_recv hK hP rfl xo_25) rfl rfl hl.1 (Nat.le_of_ble_eq_true rfl) d_Trial_takeCustom_32 ⟨by decide, by decide⟩ hP hS (fun H locs hP hS => ?_)
    obtain rfl := Option.some.inj hf
    exact W.vret hx hb hr0 (fun t ht _ => ⟨⟨rfl, by rw [ht]; exact hP⟩, hS.F ht⟩) hS.2.2 d_Trial_takeCustom_35 hlk
theorem c_x_Trial_takeCustom {l : Launch} {D : va_G} {cI cZ cJ : ClassId} {ao aa : Nat → Nat} {S : St} {x0 : Int32} {z : St} (hz : x_Trial_takeCustom S x0 = some z) : Ct l y_Trial_takeCustom (.code y_Trial_takeCustom b_Trial_takeCustom 3 none :: gw) rm_x_Trial_takeCustom D [(cI, .int), (cZ, .boolean), (cJ, .long)] (xA ao aa) (xW cI cZ cJ ao aa) [.ref (ao 25), .int x0] S none z :=
  Ct_of (by decide) (fun p e s m args below meth c X => w_x_Trial_takeCustom X _ _ hz) (Nat.le_of_ble_eq_true rfl)
def x_Trial_takeNumber_b26 (S : St) : Option (St) :=
  (x_Trial_fail S (8 : Int32) (gI S 27)).bind fun q2 =>
  some q2
def x_Trial_takeNumber (S : St) : Option (St) :=
  (x_Row_at 6 S (gI S 27)).bind fun q1 =>
  if q1.1 < (10000 : Int32) then
    x_Trial_takeNumber_b26 q1.2
  else
    if q1.1 ≤ (19999 : Int32) then
      (x_Trial_openSlot q1.2 (10 : Int32)).bind fun q3 =>
      if q3.1 = 17 then
        (x_Row_add 9 q3.2 (q1.1 - (10000 : Int32))).bind fun q4 =>
        some (sI q4 27 ((gI q4 27) + (1 : Int32)))
      else
      if q3.1 = 18 then
        (x_Row_add 10 q3.2 (q1.1 - (10000 : Int32))).bind fun q5 =>
        some (sI q5 27 ((gI q5 27) + (1 : Int32)))
      else
      none
    else
      x_Trial_takeNumber_b26 q1.2
def rm_x_Trial_takeNumber : Room := { frames := 1, cells := 0, slots := 0, locals := 22 }
theorem ok_x_Trial_takeNumber : CalV y_Trial_takeNumber b_Trial_takeNumber 2 none 0 rm_x_Trial_takeNumber := ⟨kc_Trial_takeNumber, ki_Trial_takeNumber, kl_Trial_takeNumber, ji_Trial, ⟨by decide, by decide, by decide +kernel⟩, rfl, rfl⟩
set_option maxHeartbeats 4000000 in
set_option maxRecDepth 100000 in
theorem w_x_Trial_takeNumber_b26 {z : St} (X : Cx b_Trial_takeNumber 2 none R_Trial D [(cI, .int), (cZ, .boolean), (cJ, .long)] (xA ao aa) (xW cI cZ cJ ao aa) p s m args meth c) (S : St) (hf : x_Trial_takeNumber_b26 S = some z) : WX rm_x_Trial_takeNumber D (xA ao aa) (xW cI cZ cJ ao aa) p l e s m args below meth c none z 26 [] 2 [(0, .ref (ao 25))] S := by
  intro H locs ls hP hS hl
  obtain ⟨hx, hb, hr0, hml, hown, htg, hlk, hK, hN, hI⟩ := id X
  unfold x_Trial_takeNumber_b26 at hf
  refine lv_aload_n hx hb d_Trial_takeNumber_26 rfl (lv_at hl 0 rfl) ?_
  refine lv_bipush (v := 8) hx hb d_Trial_takeNumber_27 (by decide) ?_
  refine lv_aload_n hx hb d_Trial_takeNumber_29 rfl (lv_at hl 0 rfl) ?_
  refine va_get (D := D) (v := .int (gI S 27)) hx hb htg in_Trial hown hK hP 25 xo_25 rfl 10 (by decide) (htg _ k_f_Trial_83) (fun _ h9 => h9) rfl d_Trial_takeNumber_30 ?_
  obtain ⟨q2, he, hf⟩ := ob_some hf
  refine cl_Vv (As := [.int (8 : Int32), .int (gI S 27)]) (rest := []) X (c_x_Trial_fail he) ok_x_Trial_fail k_m_Trial_136 (va_recv hK hP rfl xo_25) rfl rfl hl.1 (Nat.le_of_ble_eq_true rfl) d_Trial_takeNumber_33 ⟨by decide, by decide⟩ hP hS (fun H locs hP hS => ?_)
  obtain rfl := Option.some.inj hf
  exact W.vret hx hb hr0 (fun t ht _ => ⟨⟨rfl, by rw [ht]; exact hP⟩, hS.F ht⟩) hS.2.2 d_Trial_takeNumber_36 hlk
set_option maxHeartbeats 4000000 in
set_option maxRecDepth 100000 in
theorem w_x_Trial_takeNumber {z : St} (X : Cx b_Trial_takeNumber 2 none R_Trial D [(cI, .int), (cZ, .boolean), (cJ, .long)] (xA ao aa) (xW cI cZ cJ ao aa) p s m args meth c) (S : St) (hf : x_Trial_takeNumber S = some z) : WX rm_x_Trial_takeNumber D (xA ao aa) (xW cI cZ cJ ao aa) p l e s m args below meth c none z 0 [] 2 [(0, .ref (ao 25))] S := by
  intro H locs ls hP hS hl
  obtain ⟨hx, hb, hr0, hml, hown, htg, hlk, hK, hN, hI⟩ := id X
  unfold x_Trial_takeNumber at hf
  refine lv_aload_n hx hb d_Trial_takeNumber_0 rfl (lv_at hl 0 rfl) ?_
  refine va_get (D := D) (v := .ref (ao 6)) hx hb htg in_Trial hown hK hP 25 xo_25 rfl 3 (by decide) (htg _ k_f_Trial_52) (fun _ h9 => h9) rfl d_Trial_takeNumber_1 ?_
  refine lv_aload_n hx hb d_Trial_takeNumber_4 rfl (lv_at hl 0 rfl) ?_
  refine va_get (D := D) (v := .int (gI S 27)) hx hb htg in_Trial hown hK hP 25 xo_25 rfl 10 (by decide) (htg _ k_f_Trial_83) (fun _ h9 => h9) rfl d_Trial_takeNumber_5 ?_
  obtain ⟨q1, he, hf⟩ := ob_some hf
  refine cl_Vi (As := [.int (gI S 27)]) (rest := []) X (c_x_Row_at (by decide : 6 < 17) he) ok_x_Row_at k_m_Trial_115 (va_recv hK hP rfl (xo_row (by decide : 6 < 17))) rfl rfl hl.1 (Nat.le_of_ble_eq_true rfl) d_Trial_takeNumber_8 ⟨by decide, by decide⟩ hP hS (fun H locs hP hS => ?_)
  refine lv_istore_n (lv' := [(1, .int q1.1), (0, .ref (ao 25))]) hx hb d_Trial_takeNumber_11 rfl hl (by decide) rfl (fun ls hl => ?_)
  refine lv_iload_n hx hb d_Trial_takeNumber_12 rfl (lv_at hl 0 rfl) ?_
  refine lv_sipush (v := 10000) hx hb d_Trial_takeNumber_13 (by decide) ?_
  refine lv_icmp_lt (tgt := 26) hx hb d_Trial_takeNumber_16 (by decide) (fun c => ?_) (fun c => ?_)
  · have hf := if_t hf c
    exact w_x_Trial_takeNumber_b26 X _ hf H locs ls hP hS (lv_sub hl [1] rfl)
  · have hf := if_f hf c
    refine lv_iload_n hx hb d_Trial_takeNumber_19 rfl (lv_at hl 0 rfl) ?_
    refine lv_sipush (v := 19999) hx hb d_Trial_takeNumber_20 (by decide) ?_
    refine lv_icmp_le (tgt := 37) hx hb d_Trial_takeNumber_23 (by decide) (fun c => ?_) (fun c => ?_)
    · have hf := if_t hf c
      refine lv_aload_n hx hb d_Trial_takeNumber_37 rfl (lv_at hl 1 rfl) ?_
      refine lv_bipush (v := 10) hx hb d_Trial_takeNumber_38 (by decide) ?_
      obtain ⟨q3, he, hf⟩ := ob_some hf
      refine cl_Vr (As := [.int (10 : Int32)]) (rest := []) X (c_x_Trial_openSlot he) ok_x_Trial_openSlot k_m_Trial_140 (va_recv hK hP rfl xo_25) rfl rfl hl.1 (Nat.le_of_ble_eq_true rfl) d_Trial_takeNumber_40 ⟨by decide, by decide⟩ hP hS (fun H locs hP hS => ?_)
      by_cases c : q3.1 = 17
      · have hf := if_t hf c
        rw [c]
        refine va_getN (D := D) (v := .ref (ao 9)) hx hb htg in_Slot hown hK hP 17 xo_17 rfl 0 (by decide) (va_Nw.use rfl (hN _ k_fn_Trial_144)) (fun _ h9 => h9) rfl d_Trial_takeNumber_43 ?_
        refine lv_iload_n hx hb d_Trial_takeNumber_46 rfl (lv_at hl 0 rfl) ?_
        refine lv_sipush (v := 10000) hx hb d_Trial_takeNumber_47 (by decide) ?_
        refine lv_isub hx hb d_Trial_takeNumber_50 ?_
        obtain ⟨q4, he, hf⟩ := ob_some hf
        refine cl_Vv (As := [.int (q1.1 - (10000 : Int32))]) (rest := []) X (c_x_Row_add (by decide : 9 < 17) he) ok_x_Row_add k_m_Trial_147 (va_recv hK hP rfl (xo_row (by decide : 9 < 17))) rfl rfl hl.1 (Nat.le_of_ble_eq_true rfl) d_Trial_takeNumber_51 ⟨by decide, by decide⟩ hP hS (fun H locs hP hS => ?_)
        refine lv_aload_n hx hb d_Trial_takeNumber_54 rfl (lv_at hl 1 rfl) ?_
        refine lv_dup hx hb d_Trial_takeNumber_55 rfl ?_
        refine va_get (D := D) (v := .int (gI q4 27)) hx hb htg in_Trial hown hK hP 25 xo_25 rfl 10 (by decide) (htg _ k_f_Trial_83) (fun _ h9 => h9) rfl d_Trial_takeNumber_56 ?_
        refine lv_iconst (v := 1) hx hb d_Trial_takeNumber_59 (by decide) ?_
        refine lv_iadd hx hb d_Trial_takeNumber_60 ?_
        refine va_put (D := D) (ty := .int) hx hb htg in_Trial t_Trial t_Trial_ok n_Trial hown hK hP (hI _) hS 25 xo_25 rfl 10 (by decide) (htg _ k_f_Trial_83) (fun _ h9 => h9) rfl (by decide +kernel) rfl rfl (Nat.le_of_ble_eq_true rfl) d_Trial_takeNumber_61 (fun H locs hP _ hS => ?_)
        replace hP : va_P D classes (xW cI cZ cJ ao aa (sI q4 27 ((gI q4 27) + (1 : Int32)))) H := pw xs_25_cursor hP
        obtain rfl := Option.some.inj hf
        exact W.vret hx hb hr0 (fun t ht _ => ⟨⟨rfl, by rw [ht]; exact hP⟩, hS.F ht⟩) hS.2.2 d_Trial_takeNumber_64 hlk
      have hf := if_f hf c
      by_cases c : q3.1 = 18
      · have hf := if_t hf c
        rw [c]
        refine va_getN (D := D) (v := .ref (ao 10)) hx hb htg in_Slot hown hK hP 18 xo_18 rfl 0 (by decide) (va_Nw.use rfl (hN _ k_fn_Trial_144)) (fun _ h9 => h9) rfl d_Trial_takeNumber_43 ?_
        refine lv_iload_n hx hb d_Trial_takeNumber_46 rfl (lv_at hl 0 rfl) ?_
        refine lv_sipush (v := 10000) hx hb d_Trial_takeNumber_47 (by decide) ?_
        refine lv_isub hx hb d_Trial_takeNumber_50 ?_
        obtain ⟨q5, he, hf⟩ := ob_some hf
        refine cl_Vv (As := [.int (q1.1 - (10000 : Int32))]) (rest := []) X (c_x_Row_add (by decide : 10 < 17) he) ok_x_Row_add k_m_Trial_147 (va_recv hK hP rfl (xo_row (by decide : 10 < 17))) rfl rfl hl.1 (Nat.le_of_ble_eq_true rfl) d_Trial_takeNumber_51 ⟨by decide, by decide⟩ hP hS (fun H locs hP hS => ?_)
        refine lv_aload_n hx hb d_Trial_takeNumber_54 rfl (lv_at hl 1 rfl) ?_
        refine lv_dup hx hb d_Trial_takeNumber_55 rfl ?_
        refine va_get (D := D) (v := .int (gI q5 27)) hx hb htg in_Trial hown hK hP 25 xo_25 rfl 10 (by decide) (htg _ k_f_Trial_83) (fun _ h9 => h9) rfl d_Trial_takeNumber_56 ?_
        refine lv_iconst (v := 1) hx hb d_Trial_takeNumber_59 (by decide) ?_
        refine lv_iadd hx hb d_Trial_takeNumber_60 ?_
        refine va_put (D := D) (ty := .int) hx hb htg in_Trial t_Trial t_Trial_ok n_Trial hown hK hP (hI _) hS 25 xo_25 rfl 10 (by decide) (htg _ k_f_Trial_83) (fun _ h9 => h9) rfl (by decide +kernel) rfl rfl (Nat.le_of_ble_eq_true rfl) d_Trial_takeNumber_61 (fun H locs hP _ hS => ?_)
        replace hP : va_P D classes (xW cI cZ cJ ao aa (sI q5 27 ((gI q5 27) + (1 : Int32)))) H := pw xs_25_cursor hP
        obtain rfl := Option.some.inj hf
        exact W.vret hx hb hr0 (fun t ht _ => ⟨⟨rfl, by rw [ht]; exact hP⟩, hS.F ht⟩) hS.2.2 d_Trial_takeNumber_64 hlk
      have hf := if_f hf c
      exact ns hf
    · have hf := if_f hf c
      exact w_x_Trial_takeNumber_b26 X _ hf H locs ls hP hS (lv_sub hl [1] rfl)
theorem c_x_Trial_takeNumber {l : Launch} {D : va_G} {cI cZ cJ : ClassId} {ao aa : Nat → Nat} {S : St} {z : St} (hz : x_Trial_takeNumber S = some z) : Ct l y_Trial_takeNumber (.code y_Trial_takeNumber b_Trial_takeNumber 2 none :: gw) rm_x_Trial_takeNumber D [(cI, .int), (cZ, .boolean), (cJ, .long)] (xA ao aa) (xW cI cZ cJ ao aa) [.ref (ao 25)] S none z :=
  Ct_of (by decide) (fun p e s m args below meth c X => w_x_Trial_takeNumber X _ hz) (Nat.le_of_ble_eq_true rfl)
def x_Lines_takes_b63 (k17 : St → Int32 → Int32 → Int32 → Int32 → Option (Int32 × St)) (S : St) (x1 : Int32) (x3 : Int32) (x5 : Int32) (s0 : Int32) : Option (Int32 × St) :=
  k17 S x1 x3 s0 (x5 + 1)
def x_Lines_takes_b17_f (k17 : St → Int32 → Int32 → Int32 → Int32 → Option (Int32 × St)) (S : St) (x1 : Int32) (x3 : Int32) (x4 : Int32) (x5 : Int32) : Option (Int32 × St) :=
  if x4 = 0 then
    some ((0 : Int32), S)
  else
    (x_Lines_kindsOf S x1).bind fun q2 =>
    if q2.1 ≤ x5 then
      some ((0 : Int32), q2.2)
    else
      (x_Lines_ofAt q2.2 x1 x5).bind fun q3 =>
      if q3.1 = x3 then
        some ((1 : Int32), q3.2)
      else
        (x_Lines_kindAt q3.2 x1 (x5 + (1 : Int32))).bind fun q4 =>
        if q4.1 = (1 : Int32) then
          x_Lines_takes_b63 k17 q4.2 x1 x3 x5 (1 : Int32)
        else
          x_Lines_takes_b63 k17 q4.2 x1 x3 x5 (0 : Int32)
def x_Lines_takes_b17 : Nat → St → Int32 → Int32 → Int32 → Int32 → Option (Int32 × St)
  | 0, _, _, _, _, _ => none
  | n + 1, S, x1, x3, x4, x5 => x_Lines_takes_b17_f (x_Lines_takes_b17 n) S x1 x3 x4 x5
def x_Lines_takes (S : St) (x0 : Int32) (x1 : Int32) (x2 : Int32) : Option (Int32 × St) :=
  (x_Lines_kindAt S x0 x1).bind fun q1 =>
  if q1.1 = 0 then
    x_Lines_takes_b17 fu q1.2 x0 x2 (1 : Int32) x1
  else
    some ((0 : Int32), q1.2)
def rm_x_Lines_takes : Room := { frames := 2, cells := 0, slots := 0, locals := 43 }
theorem ok_x_Lines_takes : CalV y_Lines_takes b_Lines_takes 6 (some .boolean) 3 rm_x_Lines_takes := ⟨kc_Lines_takes, ki_Lines_takes, kl_Lines_takes, ji_Lines, ⟨by decide, by decide, by decide +kernel⟩, rfl, rfl⟩
set_option maxHeartbeats 4000000 in
set_option maxRecDepth 100000 in
theorem w_x_Lines_takes_b63 {z : Int32 × St} (X : Cx b_Lines_takes 6 (some .boolean) R_Lines D [(cI, .int), (cZ, .boolean), (cJ, .long)] (xA ao aa) (xW cI cZ cJ ao aa) p s m args meth c) {k17 : St → Int32 → Int32 → Int32 → Int32 → Option (Int32 × St)} (hk17 : ∀ (S : St) (x1 : Int32) (x3 : Int32) (x4 : Int32) (x5 : Int32), k17 S x1 x3 x4 x5 = some z → WX rm_x_Lines_takes D (xA ao aa) (xW cI cZ cJ ao aa) p l e s m args below meth c (some (.int z.1)) z.2 17 [] 6 [(0, .ref (ao 23)), (1, .int x1), (3, .int x3), (4, .int x4), (5, .int x5)] S) (S : St) (x1 : Int32) (x3 : Int32) (x5 : Int32) (s0 : Int32) (hf : x_Lines_takes_b63 k17 S x1 x3 x5 s0 = some z) : WX rm_x_Lines_takes D (xA ao aa) (xW cI cZ cJ ao aa) p l e s m args below meth c (some (.int z.1)) z.2 63 [.int s0] 6 [(0, .ref (ao 23)), (1, .int x1), (3, .int x3), (5, .int x5)] S := by
  intro H locs ls hP hS hl
  obtain ⟨hx, hb, hr0, hml, hown, htg, hlk, hK, hN, hI⟩ := id X
  unfold x_Lines_takes_b63 at hf
  refine lv_istore (lv' := [(4, .int s0), (0, .ref (ao 23)), (1, .int x1), (3, .int x3), (5, .int x5)]) hx hb d_Lines_takes_63 hl (by decide) rfl (fun ls hl => ?_)
  refine lv_iinc (v := (x5 + 1)) (lv' := [(5, .int (x5 + 1)), (4, .int s0), (0, .ref (ao 23)), (1, .int x1), (3, .int x3)]) hx hb d_Lines_takes_65 hl (k := 4) rfl rfl (by decide) rfl (fun ls hl => ?_)
  refine lv_goto (tgt := 17) hx hb d_Lines_takes_68 (by decide) ?_
  exact hk17 _ _ _ _ _ hf H locs ls hP hS (lv_sub hl [2, 3, 4, 1, 0] rfl)
set_option maxHeartbeats 4000000 in
set_option maxRecDepth 100000 in
theorem w_x_Lines_takes_b17_f {z : Int32 × St} (X : Cx b_Lines_takes 6 (some .boolean) R_Lines D [(cI, .int), (cZ, .boolean), (cJ, .long)] (xA ao aa) (xW cI cZ cJ ao aa) p s m args meth c) {k17 : St → Int32 → Int32 → Int32 → Int32 → Option (Int32 × St)} (hk17 : ∀ (S : St) (x1 : Int32) (x3 : Int32) (x4 : Int32) (x5 : Int32), k17 S x1 x3 x4 x5 = some z → WX rm_x_Lines_takes D (xA ao aa) (xW cI cZ cJ ao aa) p l e s m args below meth c (some (.int z.1)) z.2 17 [] 6 [(0, .ref (ao 23)), (1, .int x1), (3, .int x3), (4, .int x4), (5, .int x5)] S) (S : St) (x1 : Int32) (x3 : Int32) (x4 : Int32) (x5 : Int32) (hf : x_Lines_takes_b17_f k17 S x1 x3 x4 x5 = some z) : WX rm_x_Lines_takes D (xA ao aa) (xW cI cZ cJ ao aa) p l e s m args below meth c (some (.int z.1)) z.2 17 [] 6 [(0, .ref (ao 23)), (1, .int x1), (3, .int x3), (4, .int x4), (5, .int x5)] S := by
  intro H locs ls hP hS hl
  obtain ⟨hx, hb, hr0, hml, hown, htg, hlk, hK, hN, hI⟩ := id X
  unfold x_Lines_takes_b17_f at hf
  refine lv_iload hx hb d_Lines_takes_17 (lv_at hl 3 rfl) ?_
  refine lv_if_eq (tgt := 71) hx hb d_Lines_takes_19 (by decide) (fun c => ?_) (fun c => ?_)
  · have hf := if_t hf c
    refine lv_iconst (v := 0) hx hb d_Lines_takes_71 (by decide) ?_
    obtain rfl := Option.some.inj hf
    exact W.zret (ty := .boolean) hx hb hr0 rfl (fun t ht _ => ⟨⟨rfl, by rw [ht]; exact hP⟩, hS.F ht⟩) hS.2.2 d_Lines_takes_72 hlk
  · have hf := if_f hf c
    refine lv_iload hx hb d_Lines_takes_22 (lv_at hl 4 rfl) ?_
    refine lv_aload_n hx hb d_Lines_takes_24 rfl (lv_at hl 0 rfl) ?_
    refine lv_iload_n hx hb d_Lines_takes_25 rfl (lv_at hl 1 rfl) ?_
    obtain ⟨q2, he, hf⟩ := ob_some hf
    refine cl_Vi (As := [.int x1]) (rest := [.int x5]) X (c_x_Lines_kindsOf he) ok_x_Lines_kindsOf k_m_Lines_43 (va_recv hK hP rfl xo_23) rfl rfl hl.1 (Nat.le_of_ble_eq_true rfl) d_Lines_takes_26 ⟨by decide, by decide⟩ hP hS (fun H locs hP hS => ?_)
    refine lv_icmp_ge (tgt := 71) hx hb d_Lines_takes_29 (by decide) (fun c => ?_) (fun c => ?_)
    · have hf := if_t hf c
      refine lv_iconst (v := 0) hx hb d_Lines_takes_71 (by decide) ?_
      obtain rfl := Option.some.inj hf
      exact W.zret (ty := .boolean) hx hb hr0 rfl (fun t ht _ => ⟨⟨rfl, by rw [ht]; exact hP⟩, hS.F ht⟩) hS.2.2 d_Lines_takes_72 hlk
    · have hf := if_f hf c
      refine lv_aload_n hx hb d_Lines_takes_32 rfl (lv_at hl 0 rfl) ?_
      refine lv_iload_n hx hb d_Lines_takes_33 rfl (lv_at hl 1 rfl) ?_
      refine lv_iload hx hb d_Lines_takes_34 (lv_at hl 4 rfl) ?_
      obtain ⟨q3, he, hf⟩ := ob_some hf
      refine cl_Vi (As := [.int x1, .int x5]) (rest := []) X (c_x_Lines_ofAt he) ok_x_Lines_ofAt k_m_Lines_57 (va_recv hK hP rfl xo_23) rfl rfl hl.1 (Nat.le_of_ble_eq_true rfl) d_Lines_takes_36 ⟨by decide, by decide⟩ hP hS (fun H locs hP hS => ?_)
      refine lv_iload_n hx hb d_Lines_takes_39 rfl (lv_at hl 2 rfl) ?_
      refine lv_icmp_ne (tgt := 45) hx hb d_Lines_takes_40 (by decide) (fun c => ?_) (fun c => ?_)
      · have hf := if_f hf c
        refine lv_aload_n hx hb d_Lines_takes_45 rfl (lv_at hl 0 rfl) ?_
        refine lv_iload_n hx hb d_Lines_takes_46 rfl (lv_at hl 1 rfl) ?_
        refine lv_iload hx hb d_Lines_takes_47 (lv_at hl 4 rfl) ?_
        refine lv_iconst (v := 1) hx hb d_Lines_takes_49 (by decide) ?_
        refine lv_iadd hx hb d_Lines_takes_50 ?_
        obtain ⟨q4, he, hf⟩ := ob_some hf
        refine cl_Vi (As := [.int x1, .int (x5 + (1 : Int32))]) (rest := []) X (c_x_Lines_kindAt he) ok_x_Lines_kindAt k_m_Lines_47 (va_recv hK hP rfl xo_23) rfl rfl hl.1 (Nat.le_of_ble_eq_true rfl) d_Lines_takes_51 ⟨by decide, by decide⟩ hP hS (fun H locs hP hS => ?_)
        refine lv_iconst (v := 1) hx hb d_Lines_takes_54 (by decide) ?_
        refine lv_icmp_ne (tgt := 62) hx hb d_Lines_takes_55 (by decide) (fun c => ?_) (fun c => ?_)
        · have hf := if_f hf c
          refine lv_iconst (v := 0) hx hb d_Lines_takes_62 (by decide) ?_
          exact w_x_Lines_takes_b63 X hk17 _ _ _ _ _ hf H locs ls hP hS (lv_sub hl [0, 1, 2, 4] rfl)
        · have hf := if_t hf c
          refine lv_iconst (v := 1) hx hb d_Lines_takes_58 (by decide) ?_
          refine lv_goto (tgt := 63) hx hb d_Lines_takes_59 (by decide) ?_
          exact w_x_Lines_takes_b63 X hk17 _ _ _ _ _ hf H locs ls hP hS (lv_sub hl [0, 1, 2, 4] rfl)
      · have hf := if_t hf c
        refine lv_iconst (v := 1) hx hb d_Lines_takes_43 (by decide) ?_
        obtain rfl := Option.some.inj hf
        exact W.zret (ty := .boolean) hx hb hr0 rfl (fun t ht _ => ⟨⟨rfl, by rw [ht]; exact hP⟩, hS.F ht⟩) hS.2.2 d_Lines_takes_44 hlk
theorem w_x_Lines_takes_b17 {z : Int32 × St} (X : Cx b_Lines_takes 6 (some .boolean) R_Lines D [(cI, .int), (cZ, .boolean), (cJ, .long)] (xA ao aa) (xW cI cZ cJ ao aa) p s m args meth c) : ∀ (n : Nat) (S : St) (x1 : Int32) (x3 : Int32) (x4 : Int32) (x5 : Int32), x_Lines_takes_b17 n S x1 x3 x4 x5 = some z → WX rm_x_Lines_takes D (xA ao aa) (xW cI cZ cJ ao aa) p l e s m args below meth c (some (.int z.1)) z.2 17 [] 6 [(0, .ref (ao 23)), (1, .int x1), (3, .int x3), (4, .int x4), (5, .int x5)] S
  | 0, _, _, _, _, _, hf => ns hf
  | n + 1, _, _, _, _, _, hf => w_x_Lines_takes_b17_f X (w_x_Lines_takes_b17 X n) _ _ _ _ _ hf
set_option maxHeartbeats 4000000 in
set_option maxRecDepth 100000 in
theorem w_x_Lines_takes {z : Int32 × St} (X : Cx b_Lines_takes 6 (some .boolean) R_Lines D [(cI, .int), (cZ, .boolean), (cJ, .long)] (xA ao aa) (xW cI cZ cJ ao aa) p s m args meth c) (S : St) (x0 : Int32) (x1 : Int32) (x2 : Int32) (hf : x_Lines_takes S x0 x1 x2 = some z) : WX rm_x_Lines_takes D (xA ao aa) (xW cI cZ cJ ao aa) p l e s m args below meth c (some (.int z.1)) z.2 0 [] 6 [(0, .ref (ao 23)), (1, .int x0), (2, .int x1), (3, .int x2)] S := by
  intro H locs ls hP hS hl
  obtain ⟨hx, hb, hr0, hml, hown, htg, hlk, hK, hN, hI⟩ := id X
  unfold x_Lines_takes at hf
  refine lv_aload_n hx hb d_Lines_takes_0 rfl (lv_at hl 0 rfl) ?_
  refine lv_iload_n hx hb d_Lines_takes_1 rfl (lv_at hl 1 rfl) ?_
  refine lv_iload_n hx hb d_Lines_takes_2 rfl (lv_at hl 2 rfl) ?_
  obtain ⟨q1, he, hf⟩ := ob_some hf
  refine cl_Vi (As := [.int x0, .int x1]) (rest := []) X (c_x_Lines_kindAt he) ok_x_Lines_kindAt k_m_Lines_47 (va_recv hK hP rfl xo_23) rfl rfl hl.1 (Nat.le_of_ble_eq_true rfl) d_Lines_takes_3 ⟨by decide, by decide⟩ hP hS (fun H locs hP hS => ?_)
  refine lv_if_eq (tgt := 11) hx hb d_Lines_takes_6 (by decide) (fun c => ?_) (fun c => ?_)
  · have hf := if_t hf c
    refine lv_iconst (v := 1) hx hb d_Lines_takes_11 (by decide) ?_
    refine lv_istore (lv' := [(4, .int (1 : Int32)), (0, .ref (ao 23)), (1, .int x0), (2, .int x1), (3, .int x2)]) hx hb d_Lines_takes_12 hl (by decide) rfl (fun ls hl => ?_)
    refine lv_iload_n hx hb d_Lines_takes_14 rfl (lv_at hl 3 rfl) ?_
    refine lv_istore (lv' := [(5, .int x1), (4, .int (1 : Int32)), (0, .ref (ao 23)), (1, .int x0), (2, .int x1), (3, .int x2)]) hx hb d_Lines_takes_15 hl (by decide) rfl (fun ls hl => ?_)
    exact w_x_Lines_takes_b17 X _ _ _ _ _ _ hf H locs ls hP hS (lv_sub hl [2, 3, 5, 1, 0] rfl)
  · have hf := if_f hf c
    refine lv_iconst (v := 0) hx hb d_Lines_takes_9 (by decide) ?_
    obtain rfl := Option.some.inj hf
    exact W.zret (ty := .boolean) hx hb hr0 rfl (fun t ht _ => ⟨⟨rfl, by rw [ht]; exact hP⟩, hS.F ht⟩) hS.2.2 d_Lines_takes_10 hlk
theorem c_x_Lines_takes {l : Launch} {D : va_G} {cI cZ cJ : ClassId} {ao aa : Nat → Nat} {S : St} {x0 : Int32} {x1 : Int32} {x2 : Int32} {z : Int32 × St} (hz : x_Lines_takes S x0 x1 x2 = some z) : Ct l y_Lines_takes (.code y_Lines_takes b_Lines_takes 6 (some .boolean) :: gw) rm_x_Lines_takes D [(cI, .int), (cZ, .boolean), (cJ, .long)] (xA ao aa) (xW cI cZ cJ ao aa) [.ref (ao 23), .int x0, .int x1, .int x2] S (some (.int z.1)) z.2 :=
  Ct_of (by decide) (fun p e s m args below meth c X => w_x_Lines_takes X _ _ _ _ hz) (Nat.le_of_ble_eq_true rfl)
def x_Trial_takeTopic_b62 (k12 : St → Int32 → Int32 → Option (St)) (S : St) (x1 : Int32) (x3 : Int32) : Option (St) :=
  (x_Row_at 6 S (gI S 27)).bind fun q3 =>
  (x_Row_add 9 q3.2 q3.1).bind fun q4 =>
  k12 (sI q4 27 ((gI q4 27) + (1 : Int32))) x1 x3
def x_Trial_takeTopic_b12_f (k12 : St → Int32 → Int32 → Option (St)) (S : St) (x1 : Int32) (x3 : Int32) : Option (St) :=
  (x_Row_size 6 S).bind fun q2 =>
  if q2.1 ≤ (gI S 27) then
    some q2.2
  else
    if (gI q2.2 27) = x3 then
      x_Trial_takeTopic_b62 k12 q2.2 x1 x3
    else
      (x_Row_at 6 q2.2 (gI q2.2 27)).bind fun q5 =>
      (x_Lines_takes q5.2 (gI q2.2 26) (x1 + (1 : Int32)) q5.1).bind fun q6 =>
      if q6.1 = 0 then
        x_Trial_takeTopic_b62 k12 q6.2 x1 x3
      else
        some q6.2
def x_Trial_takeTopic_b12 : Nat → St → Int32 → Int32 → Option (St)
  | 0, _, _, _ => none
  | n + 1, S, x1, x3 => x_Trial_takeTopic_b12_f (x_Trial_takeTopic_b12 n) S x1 x3
def x_Trial_takeTopic_b62_1 (k12 : St → Int32 → Int32 → Option (St)) (S : St) (x1 : Int32) (x3 : Int32) : Option (St) :=
  (x_Row_at 6 S (gI S 27)).bind fun q8 =>
  (x_Row_add 10 q8.2 q8.1).bind fun q9 =>
  k12 (sI q9 27 ((gI q9 27) + (1 : Int32))) x1 x3
def x_Trial_takeTopic_b12_1_f (k12 : St → Int32 → Int32 → Option (St)) (S : St) (x1 : Int32) (x3 : Int32) : Option (St) :=
  (x_Row_size 6 S).bind fun q7 =>
  if q7.1 ≤ (gI S 27) then
    some q7.2
  else
    if (gI q7.2 27) = x3 then
      x_Trial_takeTopic_b62_1 k12 q7.2 x1 x3
    else
      (x_Row_at 6 q7.2 (gI q7.2 27)).bind fun q10 =>
      (x_Lines_takes q10.2 (gI q7.2 26) (x1 + (1 : Int32)) q10.1).bind fun q11 =>
      if q11.1 = 0 then
        x_Trial_takeTopic_b62_1 k12 q11.2 x1 x3
      else
        some q11.2
def x_Trial_takeTopic_b12_1 : Nat → St → Int32 → Int32 → Option (St)
  | 0, _, _, _ => none
  | n + 1, S, x1, x3 => x_Trial_takeTopic_b12_1_f (x_Trial_takeTopic_b12_1 n) S x1 x3
def x_Trial_takeTopic (S : St) (x0 : Int32) : Option (St) :=
  (x_Trial_openSlot S (9 : Int32)).bind fun q1 =>
  if q1.1 = 17 then
    x_Trial_takeTopic_b12 fu q1.2 x0 (gI q1.2 27)
  else
  if q1.1 = 18 then
    x_Trial_takeTopic_b12_1 fu q1.2 x0 (gI q1.2 27)
  else
  none
def rm_x_Trial_takeTopic : Room := { frames := 3, cells := 0, slots := 0, locals := 68 }
theorem ok_x_Trial_takeTopic : CalV y_Trial_takeTopic b_Trial_takeTopic 4 none 1 rm_x_Trial_takeTopic := ⟨kc_Trial_takeTopic, ki_Trial_takeTopic, kl_Trial_takeTopic, ji_Trial, ⟨by decide, by decide, by decide +kernel⟩, rfl, rfl⟩
set_option maxHeartbeats 4000000 in
set_option maxRecDepth 100000 in
theorem w_x_Trial_takeTopic_b62 {z : St} (X : Cx b_Trial_takeTopic 4 none R_Trial D [(cI, .int), (cZ, .boolean), (cJ, .long)] (xA ao aa) (xW cI cZ cJ ao aa) p s m args meth c) {k12 : St → Int32 → Int32 → Option (St)} (hk12 : ∀ (S : St) (x1 : Int32) (x3 : Int32), k12 S x1 x3 = some z → WX rm_x_Trial_takeTopic D (xA ao aa) (xW cI cZ cJ ao aa) p l e s m args below meth c none z 12 [] 4 [(0, .ref (ao 25)), (1, .int x1), (2, .ref (ao 17)), (3, .int x3)] S) (S : St) (x1 : Int32) (x3 : Int32) (hf : x_Trial_takeTopic_b62 k12 S x1 x3 = some z) : WX rm_x_Trial_takeTopic D (xA ao aa) (xW cI cZ cJ ao aa) p l e s m args below meth c none z 62 [] 4 [(0, .ref (ao 25)), (1, .int x1), (2, .ref (ao 17)), (3, .int x3)] S := by
  intro H locs ls hP hS hl
  obtain ⟨hx, hb, hr0, hml, hown, htg, hlk, hK, hN, hI⟩ := id X
  unfold x_Trial_takeTopic_b62 at hf
  refine lv_aload_n hx hb d_Trial_takeTopic_62 rfl (lv_at hl 2 rfl) ?_
  refine va_getN (D := D) (v := .ref (ao 9)) hx hb htg in_Slot hown hK hP 17 xo_17 rfl 0 (by decide) (va_Nw.use rfl (hN _ k_fn_Trial_144)) (fun _ h9 => h9) rfl d_Trial_takeTopic_63 ?_
  refine lv_aload_n hx hb d_Trial_takeTopic_66 rfl (lv_at hl 0 rfl) ?_
  refine va_get (D := D) (v := .ref (ao 6)) hx hb htg in_Trial hown hK hP 25 xo_25 rfl 3 (by decide) (htg _ k_f_Trial_52) (fun _ h9 => h9) rfl d_Trial_takeTopic_67 ?_
  refine lv_aload_n hx hb d_Trial_takeTopic_70 rfl (lv_at hl 0 rfl) ?_
  refine va_get (D := D) (v := .int (gI S 27)) hx hb htg in_Trial hown hK hP 25 xo_25 rfl 10 (by decide) (htg _ k_f_Trial_83) (fun _ h9 => h9) rfl d_Trial_takeTopic_71 ?_
  obtain ⟨q3, he, hf⟩ := ob_some hf
  refine cl_Vi (As := [.int (gI S 27)]) (rest := [.ref (ao 9)]) X (c_x_Row_at (by decide : 6 < 17) he) ok_x_Row_at k_m_Trial_115 (va_recv hK hP rfl (xo_row (by decide : 6 < 17))) rfl rfl hl.1 (Nat.le_of_ble_eq_true rfl) d_Trial_takeTopic_74 ⟨by decide, by decide⟩ hP hS (fun H locs hP hS => ?_)
  obtain ⟨q4, he, hf⟩ := ob_some hf
  refine cl_Vv (As := [.int q3.1]) (rest := []) X (c_x_Row_add (by decide : 9 < 17) he) ok_x_Row_add k_m_Trial_147 (va_recv hK hP rfl (xo_row (by decide : 9 < 17))) rfl rfl hl.1 (Nat.le_of_ble_eq_true rfl) d_Trial_takeTopic_77 ⟨by decide, by decide⟩ hP hS (fun H locs hP hS => ?_)
  refine lv_aload_n hx hb d_Trial_takeTopic_80 rfl (lv_at hl 0 rfl) ?_
  refine lv_dup hx hb d_Trial_takeTopic_81 rfl ?_
  refine va_get (D := D) (v := .int (gI q4 27)) hx hb htg in_Trial hown hK hP 25 xo_25 rfl 10 (by decide) (htg _ k_f_Trial_83) (fun _ h9 => h9) rfl d_Trial_takeTopic_82 ?_
  refine lv_iconst (v := 1) hx hb d_Trial_takeTopic_85 (by decide) ?_
  refine lv_iadd hx hb d_Trial_takeTopic_86 ?_
  refine va_put (D := D) (ty := .int) hx hb htg in_Trial t_Trial t_Trial_ok n_Trial hown hK hP (hI _) hS 25 xo_25 rfl 10 (by decide) (htg _ k_f_Trial_83) (fun _ h9 => h9) rfl (by decide +kernel) rfl rfl (Nat.le_of_ble_eq_true rfl) d_Trial_takeTopic_87 (fun H locs hP _ hS => ?_)
  replace hP : va_P D classes (xW cI cZ cJ ao aa (sI q4 27 ((gI q4 27) + (1 : Int32)))) H := pw xs_25_cursor hP
  refine lv_goto (tgt := 12) hx hb d_Trial_takeTopic_90 (by decide) ?_
  exact hk12 _ _ _ hf H locs ls hP hS (lv_sub hl [0, 1, 2, 3] rfl)
set_option maxHeartbeats 4000000 in
set_option maxRecDepth 100000 in
theorem w_x_Trial_takeTopic_b12_f {z : St} (X : Cx b_Trial_takeTopic 4 none R_Trial D [(cI, .int), (cZ, .boolean), (cJ, .long)] (xA ao aa) (xW cI cZ cJ ao aa) p s m args meth c) {k12 : St → Int32 → Int32 → Option (St)} (hk12 : ∀ (S : St) (x1 : Int32) (x3 : Int32), k12 S x1 x3 = some z → WX rm_x_Trial_takeTopic D (xA ao aa) (xW cI cZ cJ ao aa) p l e s m args below meth c none z 12 [] 4 [(0, .ref (ao 25)), (1, .int x1), (2, .ref (ao 17)), (3, .int x3)] S) (S : St) (x1 : Int32) (x3 : Int32) (hf : x_Trial_takeTopic_b12_f k12 S x1 x3 = some z) : WX rm_x_Trial_takeTopic D (xA ao aa) (xW cI cZ cJ ao aa) p l e s m args below meth c none z 12 [] 4 [(0, .ref (ao 25)), (1, .int x1), (2, .ref (ao 17)), (3, .int x3)] S := by
  intro H locs ls hP hS hl
  obtain ⟨hx, hb, hr0, hml, hown, htg, hlk, hK, hN, hI⟩ := id X
  unfold x_Trial_takeTopic_b12_f at hf
  refine lv_aload_n hx hb d_Trial_takeTopic_12 rfl (lv_at hl 0 rfl) ?_
  refine va_get (D := D) (v := .int (gI S 27)) hx hb htg in_Trial hown hK hP 25 xo_25 rfl 10 (by decide) (htg _ k_f_Trial_83) (fun _ h9 => h9) rfl d_Trial_takeTopic_13 ?_
  refine lv_aload_n hx hb d_Trial_takeTopic_16 rfl (lv_at hl 0 rfl) ?_
  refine va_get (D := D) (v := .ref (ao 6)) hx hb htg in_Trial hown hK hP 25 xo_25 rfl 3 (by decide) (htg _ k_f_Trial_52) (fun _ h9 => h9) rfl d_Trial_takeTopic_17 ?_
  obtain ⟨q2, he, hf⟩ := ob_some hf
  refine cl_Vi (As := []) (rest := [.int (gI S 27)]) X (c_x_Row_size (by decide : 6 < 17) he) ok_x_Row_size k_m_Trial_86 (va_recv hK hP rfl (xo_row (by decide : 6 < 17))) rfl rfl hl.1 (Nat.le_of_ble_eq_true rfl) d_Trial_takeTopic_20 ⟨by decide, by decide⟩ hP hS (fun H locs hP hS => ?_)
  refine lv_icmp_ge (tgt := 93) hx hb d_Trial_takeTopic_23 (by decide) (fun c => ?_) (fun c => ?_)
  · have hf := if_t hf c
    obtain rfl := Option.some.inj hf
    exact W.vret hx hb hr0 (fun t ht _ => ⟨⟨rfl, by rw [ht]; exact hP⟩, hS.F ht⟩) hS.2.2 d_Trial_takeTopic_93 hlk
  · have hf := if_f hf c
    refine lv_aload_n hx hb d_Trial_takeTopic_26 rfl (lv_at hl 0 rfl) ?_
    refine va_get (D := D) (v := .int (gI q2.2 27)) hx hb htg in_Trial hown hK hP 25 xo_25 rfl 10 (by decide) (htg _ k_f_Trial_83) (fun _ h9 => h9) rfl d_Trial_takeTopic_27 ?_
    refine lv_iload_n hx hb d_Trial_takeTopic_30 rfl (lv_at hl 3 rfl) ?_
    refine lv_icmp_eq (tgt := 62) hx hb d_Trial_takeTopic_31 (by decide) (fun c => ?_) (fun c => ?_)
    · have hf := if_t hf c
      exact w_x_Trial_takeTopic_b62 X hk12 _ _ _ hf H locs ls hP hS (lv_sub hl [0, 1, 2, 3] rfl)
    · have hf := if_f hf c
      refine lv_aload_n hx hb d_Trial_takeTopic_34 rfl (lv_at hl 0 rfl) ?_
      refine va_get (D := D) (v := .ref (ao 23)) hx hb htg in_Trial hown hK hP 25 xo_25 rfl 1 (by decide) (htg _ k_f_Trial_44) (fun _ h9 => h9) rfl d_Trial_takeTopic_35 ?_
      refine lv_aload_n hx hb d_Trial_takeTopic_38 rfl (lv_at hl 0 rfl) ?_
      refine va_get (D := D) (v := .int (gI q2.2 26)) hx hb htg in_Trial hown hK hP 25 xo_25 rfl 9 (by decide) (htg _ k_f_Trial_33) (fun _ h9 => h9) rfl d_Trial_takeTopic_39 ?_
      refine lv_iload_n hx hb d_Trial_takeTopic_42 rfl (lv_at hl 1 rfl) ?_
      refine lv_iconst (v := 1) hx hb d_Trial_takeTopic_43 (by decide) ?_
      refine lv_iadd hx hb d_Trial_takeTopic_44 ?_
      refine lv_aload_n hx hb d_Trial_takeTopic_45 rfl (lv_at hl 0 rfl) ?_
      refine va_get (D := D) (v := .ref (ao 6)) hx hb htg in_Trial hown hK hP 25 xo_25 rfl 3 (by decide) (htg _ k_f_Trial_52) (fun _ h9 => h9) rfl d_Trial_takeTopic_46 ?_
      refine lv_aload_n hx hb d_Trial_takeTopic_49 rfl (lv_at hl 0 rfl) ?_
      refine va_get (D := D) (v := .int (gI q2.2 27)) hx hb htg in_Trial hown hK hP 25 xo_25 rfl 10 (by decide) (htg _ k_f_Trial_83) (fun _ h9 => h9) rfl d_Trial_takeTopic_50 ?_
      obtain ⟨q5, he, hf⟩ := ob_some hf
      refine cl_Vi (As := [.int (gI q2.2 27)]) (rest := [.int (x1 + (1 : Int32)), .int (gI q2.2 26), .ref (ao 23)]) X (c_x_Row_at (by decide : 6 < 17) he) ok_x_Row_at k_m_Trial_115 (va_recv hK hP rfl (xo_row (by decide : 6 < 17))) rfl rfl hl.1 (Nat.le_of_ble_eq_true rfl) d_Trial_takeTopic_53 ⟨by decide, by decide⟩ hP hS (fun H locs hP hS => ?_)
      obtain ⟨q6, he, hf⟩ := ob_some hf
      refine cl_Vi (As := [.int (gI q2.2 26), .int (x1 + (1 : Int32)), .int q5.1]) (rest := []) X (c_x_Lines_takes he) ok_x_Lines_takes k_m_Trial_132 (va_recv hK hP rfl xo_23) rfl rfl hl.1 (Nat.le_of_ble_eq_true rfl) d_Trial_takeTopic_56 ⟨by decide, by decide⟩ hP hS (fun H locs hP hS => ?_)
      refine lv_if_ne (tgt := 93) hx hb d_Trial_takeTopic_59 (by decide) (fun c => ?_) (fun c => ?_)
      · have hf := if_f hf c
        obtain rfl := Option.some.inj hf
        exact W.vret hx hb hr0 (fun t ht _ => ⟨⟨rfl, by rw [ht]; exact hP⟩, hS.F ht⟩) hS.2.2 d_Trial_takeTopic_93 hlk
      · have hf := if_t hf c
        exact w_x_Trial_takeTopic_b62 X hk12 _ _ _ hf H locs ls hP hS (lv_sub hl [0, 1, 2, 3] rfl)
theorem w_x_Trial_takeTopic_b12 {z : St} (X : Cx b_Trial_takeTopic 4 none R_Trial D [(cI, .int), (cZ, .boolean), (cJ, .long)] (xA ao aa) (xW cI cZ cJ ao aa) p s m args meth c) : ∀ (n : Nat) (S : St) (x1 : Int32) (x3 : Int32), x_Trial_takeTopic_b12 n S x1 x3 = some z → WX rm_x_Trial_takeTopic D (xA ao aa) (xW cI cZ cJ ao aa) p l e s m args below meth c none z 12 [] 4 [(0, .ref (ao 25)), (1, .int x1), (2, .ref (ao 17)), (3, .int x3)] S
  | 0, _, _, _, hf => ns hf
  | n + 1, _, _, _, hf => w_x_Trial_takeTopic_b12_f X (w_x_Trial_takeTopic_b12 X n) _ _ _ hf
set_option maxHeartbeats 4000000 in
set_option maxRecDepth 100000 in
theorem w_x_Trial_takeTopic_b62_1 {z : St} (X : Cx b_Trial_takeTopic 4 none R_Trial D [(cI, .int), (cZ, .boolean), (cJ, .long)] (xA ao aa) (xW cI cZ cJ ao aa) p s m args meth c) {k12 : St → Int32 → Int32 → Option (St)} (hk12 : ∀ (S : St) (x1 : Int32) (x3 : Int32), k12 S x1 x3 = some z → WX rm_x_Trial_takeTopic D (xA ao aa) (xW cI cZ cJ ao aa) p l e s m args below meth c none z 12 [] 4 [(0, .ref (ao 25)), (1, .int x1), (2, .ref (ao 18)), (3, .int x3)] S) (S : St) (x1 : Int32) (x3 : Int32) (hf : x_Trial_takeTopic_b62_1 k12 S x1 x3 = some z) : WX rm_x_Trial_takeTopic D (xA ao aa) (xW cI cZ cJ ao aa) p l e s m args below meth c none z 62 [] 4 [(0, .ref (ao 25)), (1, .int x1), (2, .ref (ao 18)), (3, .int x3)] S := by
  intro H locs ls hP hS hl
  obtain ⟨hx, hb, hr0, hml, hown, htg, hlk, hK, hN, hI⟩ := id X
  unfold x_Trial_takeTopic_b62_1 at hf
  refine lv_aload_n hx hb d_Trial_takeTopic_62 rfl (lv_at hl 2 rfl) ?_
  refine va_getN (D := D) (v := .ref (ao 10)) hx hb htg in_Slot hown hK hP 18 xo_18 rfl 0 (by decide) (va_Nw.use rfl (hN _ k_fn_Trial_144)) (fun _ h9 => h9) rfl d_Trial_takeTopic_63 ?_
  refine lv_aload_n hx hb d_Trial_takeTopic_66 rfl (lv_at hl 0 rfl) ?_
  refine va_get (D := D) (v := .ref (ao 6)) hx hb htg in_Trial hown hK hP 25 xo_25 rfl 3 (by decide) (htg _ k_f_Trial_52) (fun _ h9 => h9) rfl d_Trial_takeTopic_67 ?_
  refine lv_aload_n hx hb d_Trial_takeTopic_70 rfl (lv_at hl 0 rfl) ?_
  refine va_get (D := D) (v := .int (gI S 27)) hx hb htg in_Trial hown hK hP 25 xo_25 rfl 10 (by decide) (htg _ k_f_Trial_83) (fun _ h9 => h9) rfl d_Trial_takeTopic_71 ?_
  obtain ⟨q8, he, hf⟩ := ob_some hf
  refine cl_Vi (As := [.int (gI S 27)]) (rest := [.ref (ao 10)]) X (c_x_Row_at (by decide : 6 < 17) he) ok_x_Row_at k_m_Trial_115 (va_recv hK hP rfl (xo_row (by decide : 6 < 17))) rfl rfl hl.1 (Nat.le_of_ble_eq_true rfl) d_Trial_takeTopic_74 ⟨by decide, by decide⟩ hP hS (fun H locs hP hS => ?_)
  obtain ⟨q9, he, hf⟩ := ob_some hf
  refine cl_Vv (As := [.int q8.1]) (rest := []) X (c_x_Row_add (by decide : 10 < 17) he) ok_x_Row_add k_m_Trial_147 (va_recv hK hP rfl (xo_row (by decide : 10 < 17))) rfl rfl hl.1 (Nat.le_of_ble_eq_true rfl) d_Trial_takeTopic_77 ⟨by decide, by decide⟩ hP hS (fun H locs hP hS => ?_)
  refine lv_aload_n hx hb d_Trial_takeTopic_80 rfl (lv_at hl 0 rfl) ?_
  refine lv_dup hx hb d_Trial_takeTopic_81 rfl ?_
  refine va_get (D := D) (v := .int (gI q9 27)) hx hb htg in_Trial hown hK hP 25 xo_25 rfl 10 (by decide) (htg _ k_f_Trial_83) (fun _ h9 => h9) rfl d_Trial_takeTopic_82 ?_
  refine lv_iconst (v := 1) hx hb d_Trial_takeTopic_85 (by decide) ?_
  refine lv_iadd hx hb d_Trial_takeTopic_86 ?_
  refine va_put (D := D) (ty := .int) hx hb htg in_Trial t_Trial t_Trial_ok n_Trial hown hK hP (hI _) hS 25 xo_25 rfl 10 (by decide) (htg _ k_f_Trial_83) (fun _ h9 => h9) rfl (by decide +kernel) rfl rfl (Nat.le_of_ble_eq_true rfl) d_Trial_takeTopic_87 (fun H locs hP _ hS => ?_)
  replace hP : va_P D classes (xW cI cZ cJ ao aa (sI q9 27 ((gI q9 27) + (1 : Int32)))) H := pw xs_25_cursor hP
  refine lv_goto (tgt := 12) hx hb d_Trial_takeTopic_90 (by decide) ?_
  exact hk12 _ _ _ hf H locs ls hP hS (lv_sub hl [0, 1, 2, 3] rfl)
set_option maxHeartbeats 4000000 in
set_option maxRecDepth 100000 in
theorem w_x_Trial_takeTopic_b12_1_f {z : St} (X : Cx b_Trial_takeTopic 4 none R_Trial D [(cI, .int), (cZ, .boolean), (cJ, .long)] (xA ao aa) (xW cI cZ cJ ao aa) p s m args meth c) {k12 : St → Int32 → Int32 → Option (St)} (hk12 : ∀ (S : St) (x1 : Int32) (x3 : Int32), k12 S x1 x3 = some z → WX rm_x_Trial_takeTopic D (xA ao aa) (xW cI cZ cJ ao aa) p l e s m args below meth c none z 12 [] 4 [(0, .ref (ao 25)), (1, .int x1), (2, .ref (ao 18)), (3, .int x3)] S) (S : St) (x1 : Int32) (x3 : Int32) (hf : x_Trial_takeTopic_b12_1_f k12 S x1 x3 = some z) : WX rm_x_Trial_takeTopic D (xA ao aa) (xW cI cZ cJ ao aa) p l e s m args below meth c none z 12 [] 4 [(0, .ref (ao 25)), (1, .int x1), (2, .ref (ao 18)), (3, .int x3)] S := by
  intro H locs ls hP hS hl
  obtain ⟨hx, hb, hr0, hml, hown, htg, hlk, hK, hN, hI⟩ := id X
  unfold x_Trial_takeTopic_b12_1_f at hf
  refine lv_aload_n hx hb d_Trial_takeTopic_12 rfl (lv_at hl 0 rfl) ?_
  refine va_get (D := D) (v := .int (gI S 27)) hx hb htg in_Trial hown hK hP 25 xo_25 rfl 10 (by decide) (htg _ k_f_Trial_83) (fun _ h9 => h9) rfl d_Trial_takeTopic_13 ?_
  refine lv_aload_n hx hb d_Trial_takeTopic_16 rfl (lv_at hl 0 rfl) ?_
  refine va_get (D := D) (v := .ref (ao 6)) hx hb htg in_Trial hown hK hP 25 xo_25 rfl 3 (by decide) (htg _ k_f_Trial_52) (fun _ h9 => h9) rfl d_Trial_takeTopic_17 ?_
  obtain ⟨q7, he, hf⟩ := ob_some hf
  refine cl_Vi (As := []) (rest := [.int (gI S 27)]) X (c_x_Row_size (by decide : 6 < 17) he) ok_x_Row_size k_m_Trial_86 (va_recv hK hP rfl (xo_row (by decide : 6 < 17))) rfl rfl hl.1 (Nat.le_of_ble_eq_true rfl) d_Trial_takeTopic_20 ⟨by decide, by decide⟩ hP hS (fun H locs hP hS => ?_)
  refine lv_icmp_ge (tgt := 93) hx hb d_Trial_takeTopic_23 (by decide) (fun c => ?_) (fun c => ?_)
  · have hf := if_t hf c
    obtain rfl := Option.some.inj hf
    exact W.vret hx hb hr0 (fun t ht _ => ⟨⟨rfl, by rw [ht]; exact hP⟩, hS.F ht⟩) hS.2.2 d_Trial_takeTopic_93 hlk
  · have hf := if_f hf c
    refine lv_aload_n hx hb d_Trial_takeTopic_26 rfl (lv_at hl 0 rfl) ?_
    refine va_get (D := D) (v := .int (gI q7.2 27)) hx hb htg in_Trial hown hK hP 25 xo_25 rfl 10 (by decide) (htg _ k_f_Trial_83) (fun _ h9 => h9) rfl d_Trial_takeTopic_27 ?_
    refine lv_iload_n hx hb d_Trial_takeTopic_30 rfl (lv_at hl 3 rfl) ?_
    refine lv_icmp_eq (tgt := 62) hx hb d_Trial_takeTopic_31 (by decide) (fun c => ?_) (fun c => ?_)
    · have hf := if_t hf c
      exact w_x_Trial_takeTopic_b62_1 X hk12 _ _ _ hf H locs ls hP hS (lv_sub hl [0, 1, 2, 3] rfl)
    · have hf := if_f hf c
      refine lv_aload_n hx hb d_Trial_takeTopic_34 rfl (lv_at hl 0 rfl) ?_
      refine va_get (D := D) (v := .ref (ao 23)) hx hb htg in_Trial hown hK hP 25 xo_25 rfl 1 (by decide) (htg _ k_f_Trial_44) (fun _ h9 => h9) rfl d_Trial_takeTopic_35 ?_
      refine lv_aload_n hx hb d_Trial_takeTopic_38 rfl (lv_at hl 0 rfl) ?_
      refine va_get (D := D) (v := .int (gI q7.2 26)) hx hb htg in_Trial hown hK hP 25 xo_25 rfl 9 (by decide) (htg _ k_f_Trial_33) (fun _ h9 => h9) rfl d_Trial_takeTopic_39 ?_
      refine lv_iload_n hx hb d_Trial_takeTopic_42 rfl (lv_at hl 1 rfl) ?_
      refine lv_iconst (v := 1) hx hb d_Trial_takeTopic_43 (by decide) ?_
      refine lv_iadd hx hb d_Trial_takeTopic_44 ?_
      refine lv_aload_n hx hb d_Trial_takeTopic_45 rfl (lv_at hl 0 rfl) ?_
      refine va_get (D := D) (v := .ref (ao 6)) hx hb htg in_Trial hown hK hP 25 xo_25 rfl 3 (by decide) (htg _ k_f_Trial_52) (fun _ h9 => h9) rfl d_Trial_takeTopic_46 ?_
      refine lv_aload_n hx hb d_Trial_takeTopic_49 rfl (lv_at hl 0 rfl) ?_
      refine va_get (D := D) (v := .int (gI q7.2 27)) hx hb htg in_Trial hown hK hP 25 xo_25 rfl 10 (by decide) (htg _ k_f_Trial_83) (fun _ h9 => h9) rfl d_Trial_takeTopic_50 ?_
      obtain ⟨q10, he, hf⟩ := ob_some hf
      refine cl_Vi (As := [.int (gI q7.2 27)]) (rest := [.int (x1 + (1 : Int32)), .int (gI q7.2 26), .ref (ao 23)]) X (c_x_Row_at (by decide : 6 < 17) he) ok_x_Row_at k_m_Trial_115 (va_recv hK hP rfl (xo_row (by decide : 6 < 17))) rfl rfl hl.1 (Nat.le_of_ble_eq_true rfl) d_Trial_takeTopic_53 ⟨by decide, by decide⟩ hP hS (fun H locs hP hS => ?_)
      obtain ⟨q11, he, hf⟩ := ob_some hf
      refine cl_Vi (As := [.int (gI q7.2 26), .int (x1 + (1 : Int32)), .int q10.1]) (rest := []) X (c_x_Lines_takes he) ok_x_Lines_takes k_m_Trial_132 (va_recv hK hP rfl xo_23) rfl rfl hl.1 (Nat.le_of_ble_eq_true rfl) d_Trial_takeTopic_56 ⟨by decide, by decide⟩ hP hS (fun H locs hP hS => ?_)
      refine lv_if_ne (tgt := 93) hx hb d_Trial_takeTopic_59 (by decide) (fun c => ?_) (fun c => ?_)
      · have hf := if_f hf c
        obtain rfl := Option.some.inj hf
        exact W.vret hx hb hr0 (fun t ht _ => ⟨⟨rfl, by rw [ht]; exact hP⟩, hS.F ht⟩) hS.2.2 d_Trial_takeTopic_93 hlk
      · have hf := if_t hf c
        exact w_x_Trial_takeTopic_b62_1 X hk12 _ _ _ hf H locs ls hP hS (lv_sub hl [0, 1, 2, 3] rfl)
theorem w_x_Trial_takeTopic_b12_1 {z : St} (X : Cx b_Trial_takeTopic 4 none R_Trial D [(cI, .int), (cZ, .boolean), (cJ, .long)] (xA ao aa) (xW cI cZ cJ ao aa) p s m args meth c) : ∀ (n : Nat) (S : St) (x1 : Int32) (x3 : Int32), x_Trial_takeTopic_b12_1 n S x1 x3 = some z → WX rm_x_Trial_takeTopic D (xA ao aa) (xW cI cZ cJ ao aa) p l e s m args below meth c none z 12 [] 4 [(0, .ref (ao 25)), (1, .int x1), (2, .ref (ao 18)), (3, .int x3)] S
  | 0, _, _, _, hf => ns hf
  | n + 1, _, _, _, hf => w_x_Trial_takeTopic_b12_1_f X (w_x_Trial_takeTopic_b12_1 X n) _ _ _ hf
set_option maxHeartbeats 4000000 in
set_option maxRecDepth 100000 in
theorem w_x_Trial_takeTopic {z : St} (X : Cx b_Trial_takeTopic 4 none R_Trial D [(cI, .int), (cZ, .boolean), (cJ, .long)] (xA ao aa) (xW cI cZ cJ ao aa) p s m args meth c) (S : St) (x0 : Int32) (hf : x_Trial_takeTopic S x0 = some z) : WX rm_x_Trial_takeTopic D (xA ao aa) (xW cI cZ cJ ao aa) p l e s m args below meth c none z 0 [] 4 [(0, .ref (ao 25)), (1, .int x0)] S := by
  intro H locs ls hP hS hl
  obtain ⟨hx, hb, hr0, hml, hown, htg, hlk, hK, hN, hI⟩ := id X
  unfold x_Trial_takeTopic at hf
  refine lv_aload_n hx hb d_Trial_takeTopic_0 rfl (lv_at hl 0 rfl) ?_
  refine lv_bipush (v := 9) hx hb d_Trial_takeTopic_1 (by decide) ?_
  obtain ⟨q1, he, hf⟩ := ob_some hf
  refine cl_Vr (As := [.int (9 : Int32)]) (rest := []) X (c_x_Trial_openSlot he) ok_x_Trial_openSlot k_m_Trial_140 (va_recv hK hP rfl xo_25) rfl rfl hl.1 (Nat.le_of_ble_eq_true rfl) d_Trial_takeTopic_3 ⟨by decide, by decide⟩ hP hS (fun H locs hP hS => ?_)
  by_cases c : q1.1 = 17
  · have hf := if_t hf c
    rw [c]
    refine lv_astore_n (lv' := [(2, .ref (ao 17)), (0, .ref (ao 25)), (1, .int x0)]) hx hb d_Trial_takeTopic_6 rfl hl (by decide) rfl (fun ls hl => ?_)
    refine lv_aload_n hx hb d_Trial_takeTopic_7 rfl (lv_at hl 1 rfl) ?_
    refine va_get (D := D) (v := .int (gI q1.2 27)) hx hb htg in_Trial hown hK hP 25 xo_25 rfl 10 (by decide) (htg _ k_f_Trial_83) (fun _ h9 => h9) rfl d_Trial_takeTopic_8 ?_
    refine lv_istore_n (lv' := [(3, .int (gI q1.2 27)), (2, .ref (ao 17)), (0, .ref (ao 25)), (1, .int x0)]) hx hb d_Trial_takeTopic_11 rfl hl (by decide) rfl (fun ls hl => ?_)
    exact w_x_Trial_takeTopic_b12 X _ _ _ _ hf H locs ls hP hS (lv_sub hl [2, 3, 1, 0] rfl)
  have hf := if_f hf c
  by_cases c : q1.1 = 18
  · have hf := if_t hf c
    rw [c]
    refine lv_astore_n (lv' := [(2, .ref (ao 18)), (0, .ref (ao 25)), (1, .int x0)]) hx hb d_Trial_takeTopic_6 rfl hl (by decide) rfl (fun ls hl => ?_)
    refine lv_aload_n hx hb d_Trial_takeTopic_7 rfl (lv_at hl 1 rfl) ?_
    refine va_get (D := D) (v := .int (gI q1.2 27)) hx hb htg in_Trial hown hK hP 25 xo_25 rfl 10 (by decide) (htg _ k_f_Trial_83) (fun _ h9 => h9) rfl d_Trial_takeTopic_8 ?_
    refine lv_istore_n (lv' := [(3, .int (gI q1.2 27)), (2, .ref (ao 18)), (0, .ref (ao 25)), (1, .int x0)]) hx hb d_Trial_takeTopic_11 rfl hl (by decide) rfl (fun ls hl => ?_)
    exact w_x_Trial_takeTopic_b12_1 X _ _ _ _ hf H locs ls hP hS (lv_sub hl [2, 3, 1, 0] rfl)
  have hf := if_f hf c
  exact ns hf
theorem c_x_Trial_takeTopic {l : Launch} {D : va_G} {cI cZ cJ : ClassId} {ao aa : Nat → Nat} {S : St} {x0 : Int32} {z : St} (hz : x_Trial_takeTopic S x0 = some z) : Ct l y_Trial_takeTopic (.code y_Trial_takeTopic b_Trial_takeTopic 4 none :: gw) rm_x_Trial_takeTopic D [(cI, .int), (cZ, .boolean), (cJ, .long)] (xA ao aa) (xW cI cZ cJ ao aa) [.ref (ao 25), .int x0] S none z :=
  Ct_of (by decide) (fun p e s m args below meth c X => w_x_Trial_takeTopic X _ _ hz) (Nat.le_of_ble_eq_true rfl)
end

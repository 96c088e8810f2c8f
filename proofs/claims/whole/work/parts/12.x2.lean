section
variable {p : Program} {l : Launch} {e : Env} {s : State} {m : MethodId} {args : Array Value} {below : List Frame} {meth : Method} {c : Code} {D : va_G} {cI cZ cJ : ClassId} {ao aa : Nat → Nat}
def x_G_isWord_b11 (S : St) (x0 : Int32) : Option (Int32 × St) :=
  if x0 < (10 : Int32) then
    some ((0 : Int32), S)
  else
    if (19999 : Int32) < x0 then
      some ((0 : Int32), S)
    else
      some ((1 : Int32), S)
def x_G_isWord (S : St) (x0 : Int32) : Option (Int32 × St) :=
  if x0 < (1 : Int32) then
    x_G_isWord_b11 S x0
  else
    if x0 ≤ (7 : Int32) then
      some ((1 : Int32), S)
    else
      x_G_isWord_b11 S x0
def rm_x_G_isWord : Room := { frames := 0, cells := 0, slots := 0, locals := 0 }
theorem ok_x_G_isWord : CalS y_G_isWord b_G_isWord 1 (some .boolean) 1 rm_x_G_isWord := ⟨kc_G_isWord, ks_G_isWord, ji_G, ⟨by decide, by decide, by decide +kernel⟩, rfl, rfl⟩
set_option maxHeartbeats 4000000 in
set_option maxRecDepth 100000 in
theorem w_x_G_isWord_b11 {z : Int32 × St} (X : Cx b_G_isWord 1 (some .boolean) R_G D [(cI, .int), (cZ, .boolean), (cJ, .long)] (xA ao aa) (xW cI cZ cJ ao aa) p s m args meth c) (S : St) (x0 : Int32) (hf : x_G_isWord_b11 S x0 = some z) : WX rm_x_G_isWord D (xA ao aa) (xW cI cZ cJ ao aa) p l e s m args below meth c (some (.int z.1)) z.2 11 [] 1 [(0, .int x0)] S := by
  intro H locs ls hP hS hl
  obtain ⟨hx, hb, hr0, hml, hown, htg, hlk, hK, hN, hI⟩ := id X
  unfold x_G_isWord_b11 at hf
  refine lv_iload_n hx hb d_G_isWord_11 rfl (lv_at hl 0 rfl) ?_
  refine lv_bipush (v := 10) hx hb d_G_isWord_12 (by decide) ?_
  refine lv_icmp_lt (tgt := 28) hx hb d_G_isWord_14 (by decide) (fun c => ?_) (fun c => ?_)
  · have hf := if_t hf c
    refine lv_iconst (v := 0) hx hb d_G_isWord_28 (by decide) ?_
    obtain rfl := Option.some.inj hf
    exact W.zret (ty := .boolean) hx hb hr0 rfl (fun t ht _ => ⟨⟨rfl, by rw [ht]; exact hP⟩, hS.F ht⟩) hS.2.2 d_G_isWord_29 hlk
  · have hf := if_f hf c
    refine lv_iload_n hx hb d_G_isWord_17 rfl (lv_at hl 0 rfl) ?_
    refine lv_sipush (v := 19999) hx hb d_G_isWord_18 (by decide) ?_
    refine lv_icmp_gt (tgt := 28) hx hb d_G_isWord_21 (by decide) (fun c => ?_) (fun c => ?_)
    · have hf := if_t hf c
      refine lv_iconst (v := 0) hx hb d_G_isWord_28 (by decide) ?_
      obtain rfl := Option.some.inj hf
      exact W.zret (ty := .boolean) hx hb hr0 rfl (fun t ht _ => ⟨⟨rfl, by rw [ht]; exact hP⟩, hS.F ht⟩) hS.2.2 d_G_isWord_29 hlk
    · have hf := if_f hf c
      refine lv_iconst (v := 1) hx hb d_G_isWord_24 (by decide) ?_
      refine lv_goto (tgt := 29) hx hb d_G_isWord_25 (by decide) ?_
      obtain rfl := Option.some.inj hf
      exact W.zret (ty := .boolean) hx hb hr0 rfl (fun t ht _ => ⟨⟨rfl, by rw [ht]; exact hP⟩, hS.F ht⟩) hS.2.2 d_G_isWord_29 hlk
set_option maxHeartbeats 4000000 in
set_option maxRecDepth 100000 in
theorem w_x_G_isWord {z : Int32 × St} (X : Cx b_G_isWord 1 (some .boolean) R_G D [(cI, .int), (cZ, .boolean), (cJ, .long)] (xA ao aa) (xW cI cZ cJ ao aa) p s m args meth c) (S : St) (x0 : Int32) (hf : x_G_isWord S x0 = some z) : WX rm_x_G_isWord D (xA ao aa) (xW cI cZ cJ ao aa) p l e s m args below meth c (some (.int z.1)) z.2 0 [] 1 [(0, .int x0)] S := by
  intro H locs ls hP hS hl
  obtain ⟨hx, hb, hr0, hml, hown, htg, hlk, hK, hN, hI⟩ := id X
  unfold x_G_isWord at hf
  refine lv_iload_n hx hb d_G_isWord_0 rfl (lv_at hl 0 rfl) ?_
  refine lv_iconst (v := 1) hx hb d_G_isWord_1 (by decide) ?_
  refine lv_icmp_lt (tgt := 11) hx hb d_G_isWord_2 (by decide) (fun c => ?_) (fun c => ?_)
  · have hf := if_t hf c
    exact w_x_G_isWord_b11 X _ _ hf H locs ls hP hS (lv_sub hl [0] rfl)
  · have hf := if_f hf c
    refine lv_iload_n hx hb d_G_isWord_5 rfl (lv_at hl 0 rfl) ?_
    refine lv_bipush (v := 7) hx hb d_G_isWord_6 (by decide) ?_
    refine lv_icmp_le (tgt := 24) hx hb d_G_isWord_8 (by decide) (fun c => ?_) (fun c => ?_)
    · have hf := if_t hf c
      refine lv_iconst (v := 1) hx hb d_G_isWord_24 (by decide) ?_
      refine lv_goto (tgt := 29) hx hb d_G_isWord_25 (by decide) ?_
      obtain rfl := Option.some.inj hf
      exact W.zret (ty := .boolean) hx hb hr0 rfl (fun t ht _ => ⟨⟨rfl, by rw [ht]; exact hP⟩, hS.F ht⟩) hS.2.2 d_G_isWord_29 hlk
    · have hf := if_f hf c
      exact w_x_G_isWord_b11 X _ _ hf H locs ls hP hS (lv_sub hl [0] rfl)
theorem c_x_G_isWord {l : Launch} {D : va_G} {cI cZ cJ : ClassId} {ao aa : Nat → Nat} {S : St} {x0 : Int32} {z : Int32 × St} (hz : x_G_isWord S x0 = some z) : Ct l y_G_isWord (.code y_G_isWord b_G_isWord 1 (some .boolean) :: gw) rm_x_G_isWord D [(cI, .int), (cZ, .boolean), (cJ, .long)] (xA ao aa) (xW cI cZ cJ ao aa) [.int x0] S (some (.int z.1)) z.2 :=
  Ct_of (by decide) (fun p e s m args below meth c X => w_x_G_isWord X _ _ hz) (Nat.le_of_ble_eq_true rfl)
def x_G_word (S : St) (x0 : Int32) : Option (Int32 × St) :=
  (x_G_isWord S x0).bind fun q1 =>
  if q1.1 = 0 then
    some ((-102 : Int32), q1.2)
  else
    (x_Row_size 5 q1.2).bind fun q2 =>
    if q2.1 < (60 : Int32) then
      (x_Row_add 5 q2.2 x0).bind fun q3 =>
      (x_Row_size 5 q3).bind fun q4 =>
      some (q4.1, q4.2)
    else
      some ((-104 : Int32), q2.2)
def rm_x_G_word : Room := { frames := 1, cells := 0, slots := 0, locals := 21 }
theorem ok_x_G_word : CalV y_G_word b_G_word 2 (some .int) 1 rm_x_G_word := ⟨kc_G_word, ki_G_word, kl_G_word, ji_G, ⟨by decide, by decide, by decide +kernel⟩, rfl, rfl⟩
set_option maxHeartbeats 4000000 in
set_option maxRecDepth 100000 in
theorem w_x_G_word {z : Int32 × St} (X : Cx b_G_word 2 (some .int) R_G D [(cI, .int), (cZ, .boolean), (cJ, .long)] (xA ao aa) (xW cI cZ cJ ao aa) p s m args meth c) (S : St) (x0 : Int32) (hf : x_G_word S x0 = some z) : WX rm_x_G_word D (xA ao aa) (xW cI cZ cJ ao aa) p l e s m args below meth c (some (.int z.1)) z.2 0 [] 2 [(0, .ref (ao 27)), (1, .int x0)] S := by
  intro H locs ls hP hS hl
  obtain ⟨hx, hb, hr0, hml, hown, htg, hlk, hK, hN, hI⟩ := id X
  unfold x_G_word at hf
  refine lv_iload_n hx hb d_G_word_0 rfl (lv_at hl 1 rfl) ?_
  obtain ⟨q1, he, hf⟩ := ob_some hf
  refine cl_Si (As := [.int x0]) (rest := []) X (c_x_G_isWord he) ok_x_G_isWord k_m_G_159 rfl rfl hl.1 (Nat.le_of_ble_eq_true rfl) d_G_word_1 ⟨by decide, by decide⟩ hP hS (fun H locs hP hS => ?_)
  refine lv_if_ne (tgt := 10) hx hb d_G_word_4 (by decide) (fun c => ?_) (fun c => ?_)
  · have hf := if_f hf c
    refine lv_aload_n hx hb d_G_word_10 rfl (lv_at hl 0 rfl) ?_
    refine va_get (D := D) (v := .ref (ao 5)) hx hb htg in_G hown hK hP 27 xo_27 rfl 4 (by decide) (htg _ k_f_G_42) (fun _ h9 => h9) rfl d_G_word_11 ?_
    obtain ⟨q2, he, hf⟩ := ob_some hf
    refine cl_Vi (As := []) (rest := []) X (c_x_Row_size (by decide : 5 < 17) he) ok_x_Row_size k_m_G_162 (va_recv hK hP rfl (xo_row (by decide : 5 < 17))) rfl rfl hl.1 (Nat.le_of_ble_eq_true rfl) d_G_word_14 ⟨by decide, by decide⟩ hP hS (fun H locs hP hS => ?_)
    refine lv_bipush (v := 60) hx hb d_G_word_17 (by decide) ?_
    refine lv_icmp_lt (tgt := 25) hx hb d_G_word_19 (by decide) (fun c => ?_) (fun c => ?_)
    · have hf := if_t hf c
      refine lv_aload_n hx hb d_G_word_25 rfl (lv_at hl 0 rfl) ?_
      refine va_get (D := D) (v := .ref (ao 5)) hx hb htg in_G hown hK hP 27 xo_27 rfl 4 (by decide) (htg _ k_f_G_42) (fun _ h9 => h9) rfl d_G_word_26 ?_
      refine lv_iload_n hx hb d_G_word_29 rfl (lv_at hl 1 rfl) ?_
      obtain ⟨q3, he, hf⟩ := ob_some hf
      refine cl_Vv (As := [.int x0]) (rest := []) X (c_x_Row_add (by decide : 5 < 17) he) ok_x_Row_add k_m_G_165 (va_recv hK hP rfl (xo_row (by decide : 5 < 17))) rfl rfl hl.1 (Nat.le_of_ble_eq_true rfl) d_G_word_30 ⟨by decide, by decide⟩ hP hS (fun H locs hP hS => ?_)
      refine lv_aload_n hx hb d_G_word_33 rfl (lv_at hl 0 rfl) ?_
      refine va_get (D := D) (v := .ref (ao 5)) hx hb htg in_G hown hK hP 27 xo_27 rfl 4 (by decide) (htg _ k_f_G_42) (fun _ h9 => h9) rfl d_G_word_34 ?_
      obtain ⟨q4, he, hf⟩ := ob_some hf
      refine cl_Vi (As := []) (rest := []) X (c_x_Row_size (by decide : 5 < 17) he) ok_x_Row_size k_m_G_162 (va_recv hK hP rfl (xo_row (by decide : 5 < 17))) rfl rfl hl.1 (Nat.le_of_ble_eq_true rfl) d_G_word_37 ⟨by decide, by decide⟩ hP hS (fun H locs hP hS => ?_)
      obtain rfl := Option.some.inj hf
      exact W.iret hx hb hr0 (fun t ht _ => ⟨⟨rfl, by rw [ht]; exact hP⟩, hS.F ht⟩) hS.2.2 d_G_word_40 hlk
    · have hf := if_f hf c
      refine lv_bipush (v := (-104)) hx hb d_G_word_22 (by decide) ?_
      obtain rfl := Option.some.inj hf
      exact W.iret hx hb hr0 (fun t ht _ => ⟨⟨rfl, by rw [ht]; exact hP⟩, hS.F ht⟩) hS.2.2 d_G_word_24 hlk
  · have hf := if_t hf c
    refine lv_bipush (v := (-102)) hx hb d_G_word_7 (by decide) ?_
    obtain rfl := Option.some.inj hf
    exact W.iret hx hb hr0 (fun t ht _ => ⟨⟨rfl, by rw [ht]; exact hP⟩, hS.F ht⟩) hS.2.2 d_G_word_9 hlk
theorem c_x_G_word {l : Launch} {D : va_G} {cI cZ cJ : ClassId} {ao aa : Nat → Nat} {S : St} {x0 : Int32} {z : Int32 × St} (hz : x_G_word S x0 = some z) : Ct l y_G_word (.code y_G_word b_G_word 2 (some .int) :: gw) rm_x_G_word D [(cI, .int), (cZ, .boolean), (cJ, .long)] (xA ao aa) (xW cI cZ cJ ao aa) [.ref (ao 27), .int x0] S (some (.int z.1)) z.2 :=
  Ct_of (by decide) (fun p e s m args below meth c X => w_x_G_word X _ _ hz) (Nat.le_of_ble_eq_true rfl)
def x_Row_empty (r : Nat) (S : St) : Option (St) :=
  some (sI S r (0 : Int32))
def rm_x_Row_empty : Room := { frames := 0, cells := 0, slots := 0, locals := 0 }
theorem ok_x_Row_empty : CalV y_Row_empty b_Row_empty 1 none 0 rm_x_Row_empty := ⟨kc_Row_empty, ki_Row_empty, kl_Row_empty, ji_Row, ⟨by decide, by decide, by decide +kernel⟩, rfl, rfl⟩
set_option maxHeartbeats 4000000 in
set_option maxRecDepth 100000 in
theorem w_x_Row_empty {r : Nat} (hr : r < 17) {z : St} (X : Cx b_Row_empty 1 none R_Row D [(cI, .int), (cZ, .boolean), (cJ, .long)] (xA ao aa) (xW cI cZ cJ ao aa) p s m args meth c) (S : St) (hf : x_Row_empty r S = some z) : WX rm_x_Row_empty D (xA ao aa) (xW cI cZ cJ ao aa) p l e s m args below meth c none z 0 [] 1 [(0, .ref (ao r))] S := by
  intro H locs ls hP hS hl
  obtain ⟨hx, hb, hr0, hml, hown, htg, hlk, hK, hN, hI⟩ := id X
  unfold x_Row_empty at hf
  refine lv_aload_n hx hb d_Row_empty_0 rfl (lv_at hl 0 rfl) ?_
  refine lv_iconst (v := 0) hx hb d_Row_empty_1 (by decide) ?_
  refine va_put (D := D) (ty := .int) hx hb htg in_Row t_Row t_Row_ok n_Row hown hK hP (hI _) hS r (xo_row hr) rfl 1 (by decide) (htg _ k_f_Row_21) (fun _ h9 => h9) rfl (by decide +kernel) rfl rfl (Nat.le_of_ble_eq_true rfl) d_Row_empty_2 (fun H locs hP _ hS => ?_)
  replace hP : va_P D classes (xW cI cZ cJ ao aa (sI S r (0 : Int32))) H := pw (xs_row hr) hP
  obtain rfl := Option.some.inj hf
  exact W.vret hx hb hr0 (fun t ht _ => ⟨⟨rfl, by rw [ht]; exact hP⟩, hS.F ht⟩) hS.2.2 d_Row_empty_5 hlk
theorem c_x_Row_empty {l : Launch} {D : va_G} {cI cZ cJ : ClassId} {ao aa : Nat → Nat} {r : Nat} (hr : r < 17) {S : St} {z : St} (hz : x_Row_empty r S = some z) : Ct l y_Row_empty (.code y_Row_empty b_Row_empty 1 none :: gw) rm_x_Row_empty D [(cI, .int), (cZ, .boolean), (cJ, .long)] (xA ao aa) (xW cI cZ cJ ao aa) [.ref (ao r)] S none z :=
  Ct_of (by decide) (fun p e s m args below meth c X => w_x_Row_empty hr X _ hz) (Nat.le_of_ble_eq_true rfl)
def x_G_clear (S : St) : Option (Int32 × St) :=
  (x_Row_size 5 S).bind fun q1 =>
  (x_Row_empty 5 q1.2).bind fun q2 =>
  some (q1.1, q2)
def rm_x_G_clear : Room := { frames := 1, cells := 0, slots := 0, locals := 20 }
theorem ok_x_G_clear : CalV y_G_clear b_G_clear 2 (some .int) 0 rm_x_G_clear := ⟨kc_G_clear, ki_G_clear, kl_G_clear, ji_G, ⟨by decide, by decide, by decide +kernel⟩, rfl, rfl⟩
set_option maxHeartbeats 4000000 in
set_option maxRecDepth 100000 in
theorem w_x_G_clear {z : Int32 × St} (X : Cx b_G_clear 2 (some .int) R_G D [(cI, .int), (cZ, .boolean), (cJ, .long)] (xA ao aa) (xW cI cZ cJ ao aa) p s m args meth c) (S : St) (hf : x_G_clear S = some z) : WX rm_x_G_clear D (xA ao aa) (xW cI cZ cJ ao aa) p l e s m args below meth c (some (.int z.1)) z.2 0 [] 2 [(0, .ref (ao 27))] S := by
  intro H locs ls hP hS hl
  obtain ⟨hx, hb, hr0, hml, hown, htg, hlk, hK, hN, hI⟩ := id X
  unfold x_G_clear at hf
  refine lv_aload_n hx hb d_G_clear_0 rfl (lv_at hl 0 rfl) ?_
  refine va_get (D := D) (v := .ref (ao 5)) hx hb htg in_G hown hK hP 27 xo_27 rfl 4 (by decide) (htg _ k_f_G_42) (fun _ h9 => h9) rfl d_G_clear_1 ?_
  obtain ⟨q1, he, hf⟩ := ob_some hf
  refine cl_Vi (As := []) (rest := []) X (c_x_Row_size (by decide : 5 < 17) he) ok_x_Row_size k_m_G_162 (va_recv hK hP rfl (xo_row (by decide : 5 < 17))) rfl rfl hl.1 (Nat.le_of_ble_eq_true rfl) d_G_clear_4 ⟨by decide, by decide⟩ hP hS (fun H locs hP hS => ?_)
  refine lv_istore_n (lv' := [(1, .int q1.1), (0, .ref (ao 27))]) hx hb d_G_clear_7 rfl hl (by decide) rfl (fun ls hl => ?_)
  refine lv_aload_n hx hb d_G_clear_8 rfl (lv_at hl 1 rfl) ?_
  refine va_get (D := D) (v := .ref (ao 5)) hx hb htg in_G hown hK hP 27 xo_27 rfl 4 (by decide) (htg _ k_f_G_42) (fun _ h9 => h9) rfl d_G_clear_9 ?_
  obtain ⟨q2, he, hf⟩ := ob_some hf
  refine cl_Vv (As := []) (rest := []) X (c_x_Row_empty (by decide : 5 < 17) he) ok_x_Row_empty k_m_G_167 (va_recv hK hP rfl (xo_row (by decide : 5 < 17))) rfl rfl hl.1 (Nat.le_of_ble_eq_true rfl) d_G_clear_12 ⟨by decide, by decide⟩ hP hS (fun H locs hP hS => ?_)
  refine lv_iload_n hx hb d_G_clear_15 rfl (lv_at hl 0 rfl) ?_
  obtain rfl := Option.some.inj hf
  exact W.iret hx hb hr0 (fun t ht _ => ⟨⟨rfl, by rw [ht]; exact hP⟩, hS.F ht⟩) hS.2.2 d_G_clear_16 hlk
theorem c_x_G_clear {l : Launch} {D : va_G} {cI cZ cJ : ClassId} {ao aa : Nat → Nat} {S : St} {z : Int32 × St} (hz : x_G_clear S = some z) : Ct l y_G_clear (.code y_G_clear b_G_clear 2 (some .int) :: gw) rm_x_G_clear D [(cI, .int), (cZ, .boolean), (cJ, .long)] (xA ao aa) (xW cI cZ cJ ao aa) [.ref (ao 27)] S (some (.int z.1)) z.2 :=
  Ct_of (by decide) (fun p e s m args below meth c X => w_x_G_clear X _ hz) (Nat.le_of_ble_eq_true rfl)
def x_Things_namedOf_b84 (k6 : St → Int64 → Int32 → Int64 → Int32 → Option (Int64 × St)) (S : St) (w1 : Int64) (x3 : Int32) (w4 : Int64) (x6 : Int32) : Option (Int64 × St) :=
  k6 S w1 x3 w4 (x6 + 1)
def x_Things_namedOf_b78 (k6 : St → Int64 → Int32 → Int64 → Int32 → Option (Int64 × St)) (k36 : St → Int64 → Int32 → Int64 → Int32 → Int32 → Int32 → Option (Int64 × St)) (S : St) (w1 : Int64) (x3 : Int32) (w4 : Int64) (x6 : Int32) (x7 : Int32) (x8 : Int32) : Option (Int64 × St) :=
  k36 S w1 x3 w4 x6 x7 (x8 + 1)
def x_Things_namedOf_b36_f (k6 : St → Int64 → Int32 → Int64 → Int32 → Option (Int64 × St)) (k36 : St → Int64 → Int32 → Int64 → Int32 → Int32 → Int32 → Option (Int64 × St)) (S : St) (w1 : Int64) (x3 : Int32) (w4 : Int64) (x6 : Int32) (x7 : Int32) (x8 : Int32) : Option (Int64 × St) :=
  if x7 = 0 then
    x_Things_namedOf_b84 k6 S w1 x3 w4 x6
  else
    gd (vin x6 40) <|
    if (gA S 18 x6.toNatClampNeg) ≤ x8 then
      x_Things_namedOf_b84 k6 S w1 x3 w4 x6
    else
      gd (vin ((x6 * (4 : Int32)) + x8) 160) <|
      if (gA S 19 ((x6 * (4 : Int32)) + x8).toNatClampNeg) = x3 then
        x_Things_namedOf_b78 k6 k36 S w1 x3 (w4 ||| ((1 : Int64) <<< (x6.toInt64 &&& 63))) x6 x7 x8
      else
        x_Things_namedOf_b78 k6 k36 S w1 x3 w4 x6 x7 x8
def x_Things_namedOf_b36 (k6 : St → Int64 → Int32 → Int64 → Int32 → Option (Int64 × St)) : Nat → St → Int64 → Int32 → Int64 → Int32 → Int32 → Int32 → Option (Int64 × St)
  | 0, _, _, _, _, _, _, _ => none
  | n + 1, S, w1, x3, w4, x6, x7, x8 => x_Things_namedOf_b36_f k6 (x_Things_namedOf_b36 k6 n) S w1 x3 w4 x6 x7 x8
def x_Things_namedOf_b31 (k6 : St → Int64 → Int32 → Int64 → Int32 → Option (Int64 × St)) (S : St) (w1 : Int64) (x3 : Int32) (w4 : Int64) (x6 : Int32) (s0 : Int32) : Option (Int64 × St) :=
  x_Things_namedOf_b36 k6 fu S w1 x3 w4 x6 s0 (0 : Int32)
def x_Things_namedOf_b6_f (k6 : St → Int64 → Int32 → Int64 → Int32 → Option (Int64 × St)) (S : St) (w1 : Int64) (x3 : Int32) (w4 : Int64) (x6 : Int32) : Option (Int64 × St) :=
  if (gI S 23) ≤ x6 then
    some (w4, S)
  else
    if (lg_cmp ((w1 >>> (x6.toInt64 &&& 63)) &&& (1 : Int64)) (0 : Int64)) = 0 then
      x_Things_namedOf_b31 k6 S w1 x3 w4 x6 (0 : Int32)
    else
      x_Things_namedOf_b31 k6 S w1 x3 w4 x6 (1 : Int32)
def x_Things_namedOf_b6 : Nat → St → Int64 → Int32 → Int64 → Int32 → Option (Int64 × St)
  | 0, _, _, _, _, _ => none
  | n + 1, S, w1, x3, w4, x6 => x_Things_namedOf_b6_f (x_Things_namedOf_b6 n) S w1 x3 w4 x6
def x_Things_namedOf (S : St) (w0 : Int64) (x1 : Int32) : Option (Int64 × St) :=
  x_Things_namedOf_b6 fu S w0 x1 (0 : Int64) (0 : Int32)
def rm_x_Things_namedOf : Room := { frames := 0, cells := 0, slots := 0, locals := 0 }
theorem ok_x_Things_namedOf : CalV y_Things_namedOf b_Things_namedOf 9 (some .long) 2 rm_x_Things_namedOf := ⟨kc_Things_namedOf, ki_Things_namedOf, kl_Things_namedOf, ji_Things, ⟨by decide, by decide, by decide +kernel⟩, rfl, rfl⟩
set_option maxHeartbeats 4000000 in
set_option maxRecDepth 100000 in
theorem w_x_Things_namedOf_b84 {z : Int64 × St} (X : Cx b_Things_namedOf 9 (some .long) R_Things D [(cI, .int), (cZ, .boolean), (cJ, .long)] (xA ao aa) (xW cI cZ cJ ao aa) p s m args meth c) {k6 : St → Int64 → Int32 → Int64 → Int32 → Option (Int64 × St)} (hk6 : ∀ (S : St) (w1 : Int64) (x3 : Int32) (w4 : Int64) (x6 : Int32), k6 S w1 x3 w4 x6 = some z → WX rm_x_Things_namedOf D (xA ao aa) (xW cI cZ cJ ao aa) p l e s m args below meth c (some (.long z.1)) z.2 6 [] 9 [(0, .ref (ao 21)), (1, .long w1), (3, .int x3), (4, .long w4), (6, .int x6)] S) (S : St) (w1 : Int64) (x3 : Int32) (w4 : Int64) (x6 : Int32) (hf : x_Things_namedOf_b84 k6 S w1 x3 w4 x6 = some z) : WX rm_x_Things_namedOf D (xA ao aa) (xW cI cZ cJ ao aa) p l e s m args below meth c (some (.long z.1)) z.2 84 [] 9 [(0, .ref (ao 21)), (1, .long w1), (3, .int x3), (4, .long w4), (6, .int x6)] S := by
  intro H locs ls hP hS hl
  obtain ⟨hx, hb, hr0, hml, hown, htg, hlk, hK, hN, hI⟩ := id X
  unfold x_Things_namedOf_b84 at hf
  refine lv_iinc (v := (x6 + 1)) (lv' := [(6, .int (x6 + 1)), (0, .ref (ao 21)), (1, .long w1), (3, .int x3), (4, .long w4)]) hx hb d_Things_namedOf_84 hl (k := 4) rfl rfl (by decide) rfl (fun ls hl => ?_)
  refine lv_goto (tgt := 6) hx hb d_Things_namedOf_87 (by decide) ?_
  exact hk6 _ _ _ _ _ hf H locs ls hP hS (lv_sub hl [1, 2, 3, 4, 0] rfl)
set_option maxHeartbeats 4000000 in
set_option maxRecDepth 100000 in
theorem w_x_Things_namedOf_b78 {z : Int64 × St} (X : Cx b_Things_namedOf 9 (some .long) R_Things D [(cI, .int), (cZ, .boolean), (cJ, .long)] (xA ao aa) (xW cI cZ cJ ao aa) p s m args meth c) {k6 : St → Int64 → Int32 → Int64 → Int32 → Option (Int64 × St)} (hk6 : ∀ (S : St) (w1 : Int64) (x3 : Int32) (w4 : Int64) (x6 : Int32), k6 S w1 x3 w4 x6 = some z → WX rm_x_Things_namedOf D (xA ao aa) (xW cI cZ cJ ao aa) p l e s m args below meth c (some (.long z.1)) z.2 6 [] 9 [(0, .ref (ao 21)), (1, .long w1), (3, .int x3), (4, .long w4), (6, .int x6)] S) {k36 : St → Int64 → Int32 → Int64 → Int32 → Int32 → Int32 → Option (Int64 × St)} (hk36 : ∀ (S : St) (w1 : Int64) (x3 : Int32) (w4 : Int64) (x6 : Int32) (x7 : Int32) (x8 : Int32), k36 S w1 x3 w4 x6 x7 x8 = some z → WX rm_x_Things_namedOf D (xA ao aa) (xW cI cZ cJ ao aa) p l e s m args below meth c (some (.long z.1)) z.2 36 [] 9 [(0, .ref (ao 21)), (1, .long w1), (3, .int x3), (4, .long w4), (6, .int x6), (7, .int x7), (8, .int x8)] S) (S : St) (w1 : Int64) (x3 : Int32) (w4 : Int64) (x6 : Int32) (x7 : Int32) (x8 : Int32) (hf : x_Things_namedOf_b78 k6 k36 S w1 x3 w4 x6 x7 x8 = some z) : WX rm_x_Things_namedOf D (xA ao aa) (xW cI cZ cJ ao aa) p l e s m args below meth c (some (.long z.1)) z.2 78 [] 9 [(0, .ref (ao 21)), (1, .long w1), (3, .int x3), (4, .long w4), (6, .int x6), (7, .int x7), (8, .int x8)] S := by
  intro H locs ls hP hS hl
  obtain ⟨hx, hb, hr0, hml, hown, htg, hlk, hK, hN, hI⟩ := id X
  unfold x_Things_namedOf_b78 at hf
  refine lv_iinc (v := (x8 + 1)) (lv' := [(8, .int (x8 + 1)), (0, .ref (ao 21)), (1, .long w1), (3, .int x3), (4, .long w4), (6, .int x6), (7, .int x7)]) hx hb d_Things_namedOf_78 hl (k := 6) rfl rfl (by decide) rfl (fun ls hl => ?_)
  refine lv_goto (tgt := 36) hx hb d_Things_namedOf_81 (by decide) ?_
  exact hk36 _ _ _ _ _ _ _ hf H locs ls hP hS (lv_sub hl [1, 2, 3, 4, 5, 6, 0] rfl)
set_option maxHeartbeats 4000000 in
set_option maxRecDepth 100000 in
theorem w_x_Things_namedOf_b36_f {z : Int64 × St} (X : Cx b_Things_namedOf 9 (some .long) R_Things D [(cI, .int), (cZ, .boolean), (cJ, .long)] (xA ao aa) (xW cI cZ cJ ao aa) p s m args meth c) {k6 : St → Int64 → Int32 → Int64 → Int32 → Option (Int64 × St)} (hk6 : ∀ (S : St) (w1 : Int64) (x3 : Int32) (w4 : Int64) (x6 : Int32), k6 S w1 x3 w4 x6 = some z → WX rm_x_Things_namedOf D (xA ao aa) (xW cI cZ cJ ao aa) p l e s m args below meth c (some (.long z.1)) z.2 6 [] 9 [(0, .ref (ao 21)), (1, .long w1), (3, .int x3), (4, .long w4), (6, .int x6)] S) {k36 : St → Int64 → Int32 → Int64 → Int32 → Int32 → Int32 → Option (Int64 × St)} (hk36 : ∀ (S : St) (w1 : Int64) (x3 : Int32) (w4 : Int64) (x6 : Int32) (x7 : Int32) (x8 : Int32), k36 S w1 x3 w4 x6 x7 x8 = some z → WX rm_x_Things_namedOf D (xA ao aa) (xW cI cZ cJ ao aa) p l e s m args below meth c (some (.long z.1)) z.2 36 [] 9 [(0, .ref (ao 21)), (1, .long w1), (3, .int x3), (4, .long w4), (6, .int x6), (7, .int x7), (8, .int x8)] S) (S : St) (w1 : Int64) (x3 : Int32) (w4 : Int64) (x6 : Int32) (x7 : Int32) (x8 : Int32) (hf : x_Things_namedOf_b36_f k6 k36 S w1 x3 w4 x6 x7 x8 = some z) : WX rm_x_Things_namedOf D (xA ao aa) (xW cI cZ cJ ao aa) p l e s m args below meth c (some (.long z.1)) z.2 36 [] 9 [(0, .ref (ao 21)), (1, .long w1), (3, .int x3), (4, .long w4), (6, .int x6), (7, .int x7), (8, .int x8)] S := by
  intro H locs ls hP hS hl
  obtain ⟨hx, hb, hr0, hml, hown, htg, hlk, hK, hN, hI⟩ := id X
  unfold x_Things_namedOf_b36_f at hf
  refine lv_iload hx hb d_Things_namedOf_36 (lv_at hl 5 rfl) ?_
  refine lv_if_eq (tgt := 84) hx hb d_Things_namedOf_38 (by decide) (fun c => ?_) (fun c => ?_)
  · have hf := if_t hf c
    exact w_x_Things_namedOf_b84 X hk6 _ _ _ _ _ hf H locs ls hP hS (lv_sub hl [0, 1, 2, 3, 4] rfl)
  · have hf := if_f hf c
    refine lv_iload hx hb d_Things_namedOf_41 (lv_at hl 6 rfl) ?_
    refine lv_aload_n hx hb d_Things_namedOf_43 rfl (lv_at hl 0 rfl) ?_
    refine va_get (D := D) (v := .ref (aa 18)) hx hb htg in_Things hown hK hP 21 xo_21 rfl 1 (by decide) (htg _ k_f_Things_15) (fun _ h9 => h9) rfl d_Things_namedOf_44 ?_
    refine lv_iload hx hb d_Things_namedOf_47 (lv_at hl 4 rfl) ?_
    obtain ⟨hg, hf⟩ := gd_some hf
    refine va_iald hx hb hK hP 46 0 xa_18 rfl (vin_in hg) d_Things_namedOf_49 ?_
    refine lv_icmp_ge (tgt := 84) hx hb d_Things_namedOf_50 (by decide) (fun c => ?_) (fun c => ?_)
    · have hf := if_t hf c
      exact w_x_Things_namedOf_b84 X hk6 _ _ _ _ _ hf H locs ls hP hS (lv_sub hl [0, 1, 2, 3, 4] rfl)
    · have hf := if_f hf c
      refine lv_aload_n hx hb d_Things_namedOf_53 rfl (lv_at hl 0 rfl) ?_
      refine va_get (D := D) (v := .ref (aa 19)) hx hb htg in_Things hown hK hP 21 xo_21 rfl 2 (by decide) (htg _ k_f_Things_18) (fun _ h9 => h9) rfl d_Things_namedOf_54 ?_
      refine lv_iload hx hb d_Things_namedOf_57 (lv_at hl 4 rfl) ?_
      refine lv_iconst (v := 4) hx hb d_Things_namedOf_59 (by decide) ?_
      refine lv_imul hx hb d_Things_namedOf_60 ?_
      refine lv_iload hx hb d_Things_namedOf_61 (lv_at hl 6 rfl) ?_
      refine lv_iadd hx hb d_Things_namedOf_63 ?_
      obtain ⟨hg, hf⟩ := gd_some hf
      refine va_iald hx hb hK hP 47 0 xa_19 rfl (vin_in hg) d_Things_namedOf_64 ?_
      refine lv_iload_n hx hb d_Things_namedOf_65 rfl (lv_at hl 2 rfl) ?_
      refine lv_icmp_ne (tgt := 78) hx hb d_Things_namedOf_66 (by decide) (fun c => ?_) (fun c => ?_)
      · have hf := if_f hf c
        exact w_x_Things_namedOf_b78 X hk6 hk36 _ _ _ _ _ _ _ hf H locs ls hP hS (lv_sub hl [0, 1, 2, 3, 4, 5, 6] rfl)
      · have hf := if_t hf c
        refine lv_lload hx hb d_Things_namedOf_69 (lv_at hl 3 rfl) ?_
        refine lv_lconst (v := 1) hx hb d_Things_namedOf_71 (by decide) ?_
        refine lv_iload hx hb d_Things_namedOf_72 (lv_at hl 4 rfl) ?_
        refine lv_lshl hx hb d_Things_namedOf_74 rfl ?_
        refine lv_lor hx hb d_Things_namedOf_75 ?_
        refine lv_lstore (lv' := [(4, .long (w4 ||| ((1 : Int64) <<< (x6.toInt64 &&& 63)))), (0, .ref (ao 21)), (1, .long w1), (3, .int x3), (6, .int x6), (7, .int x7), (8, .int x8)]) hx hb d_Things_namedOf_76 hl (by decide) rfl (fun ls hl => ?_)
        exact w_x_Things_namedOf_b78 X hk6 hk36 _ _ _ _ _ _ _ hf H locs ls hP hS (lv_sub hl [1, 2, 3, 0, 4, 5, 6] rfl)
theorem w_x_Things_namedOf_b36 {z : Int64 × St} (X : Cx b_Things_namedOf 9 (some .long) R_Things D [(cI, .int), (cZ, .boolean), (cJ, .long)] (xA ao aa) (xW cI cZ cJ ao aa) p s m args meth c) {k6 : St → Int64 → Int32 → Int64 → Int32 → Option (Int64 × St)} (hk6 : ∀ (S : St) (w1 : Int64) (x3 : Int32) (w4 : Int64) (x6 : Int32), k6 S w1 x3 w4 x6 = some z → WX rm_x_Things_namedOf D (xA ao aa) (xW cI cZ cJ ao aa) p l e s m args below meth c (some (.long z.1)) z.2 6 [] 9 [(0, .ref (ao 21)), (1, .long w1), (3, .int x3), (4, .long w4), (6, .int x6)] S) : ∀ (n : Nat) (S : St) (w1 : Int64) (x3 : Int32) (w4 : Int64) (x6 : Int32) (x7 : Int32) (x8 : Int32), x_Things_namedOf_b36 k6 n S w1 x3 w4 x6 x7 x8 = some z → WX rm_x_Things_namedOf D (xA ao aa) (xW cI cZ cJ ao aa) p l e s m args below meth c (some (.long z.1)) z.2 36 [] 9 [(0, .ref (ao 21)), (1, .long w1), (3, .int x3), (4, .long w4), (6, .int x6), (7, .int x7), (8, .int x8)] S
  | 0, _, _, _, _, _, _, _, hf => ns hf
  | n + 1, _, _, _, _, _, _, _, hf => w_x_Things_namedOf_b36_f X hk6 (w_x_Things_namedOf_b36 X hk6 n) _ _ _ _ _ _ _ hf
set_option maxHeartbeats 4000000 in
set_option maxRecDepth 100000 in
theorem w_x_Things_namedOf_b31 {z : Int64 × St} (X : Cx b_Things_namedOf 9 (some .long) R_Things D [(cI, .int), (cZ, .boolean), (cJ, .long)] (xA ao aa) (xW cI cZ cJ ao aa) p s m args meth c) {k6 : St → Int64 → Int32 → Int64 → Int32 → Option (Int64 × St)} (hk6 : ∀ (S : St) (w1 : Int64) (x3 : Int32) (w4 : Int64) (x6 : Int32), k6 S w1 x3 w4 x6 = some z → WX rm_x_Things_namedOf D (xA ao aa) (xW cI cZ cJ ao aa) p l e s m args below meth c (some (.long z.1)) z.2 6 [] 9 [(0, .ref (ao 21)), (1, .long w1), (3, .int x3), (4, .long w4), (6, .int x6)] S) (S : St) (w1 : Int64) (x3 : Int32) (w4 : Int64) (x6 : Int32) (s0 : Int32) (hf : x_Things_namedOf_b31 k6 S w1 x3 w4 x6 s0 = some z) : WX rm_x_Things_namedOf D (xA ao aa) (xW cI cZ cJ ao aa) p l e s m args below meth c (some (.long z.1)) z.2 31 [.int s0] 9 [(0, .ref (ao 21)), (1, .long w1), (3, .int x3), (4, .long w4), (6, .int x6)] S := by
  intro H locs ls hP hS hl
  obtain ⟨hx, hb, hr0, hml, hown, htg, hlk, hK, hN, hI⟩ := id X
  unfold x_Things_namedOf_b31 at hf
  refine lv_istore (lv' := [(7, .int s0), (0, .ref (ao 21)), (1, .long w1), (3, .int x3), (4, .long w4), (6, .int x6)]) hx hb d_Things_namedOf_31 hl (by decide) rfl (fun ls hl => ?_)
  refine lv_iconst (v := 0) hx hb d_Things_namedOf_33 (by decide) ?_
  refine lv_istore (lv' := [(8, .int (0 : Int32)), (7, .int s0), (0, .ref (ao 21)), (1, .long w1), (3, .int x3), (4, .long w4), (6, .int x6)]) hx hb d_Things_namedOf_34 hl (by decide) rfl (fun ls hl => ?_)
  exact w_x_Things_namedOf_b36 X hk6 _ _ _ _ _ _ _ _ hf H locs ls hP hS (lv_sub hl [2, 3, 4, 5, 6, 1, 0] rfl)
set_option maxHeartbeats 4000000 in
set_option maxRecDepth 100000 in
theorem w_x_Things_namedOf_b6_f {z : Int64 × St} (X : Cx b_Things_namedOf 9 (some .long) R_Things D [(cI, .int), (cZ, .boolean), (cJ, .long)] (xA ao aa) (xW cI cZ cJ ao aa) p s m args meth c) {k6 : St → Int64 → Int32 → Int64 → Int32 → Option (Int64 × St)} (hk6 : ∀ (S : St) (w1 : Int64) (x3 : Int32) (w4 : Int64) (x6 : Int32), k6 S w1 x3 w4 x6 = some z → WX rm_x_Things_namedOf D (xA ao aa) (xW cI cZ cJ ao aa) p l e s m args below meth c (some (.long z.1)) z.2 6 [] 9 [(0, .ref (ao 21)), (1, .long w1), (3, .int x3), (4, .long w4), (6, .int x6)] S) (S : St) (w1 : Int64) (x3 : Int32) (w4 : Int64) (x6 : Int32) (hf : x_Things_namedOf_b6_f k6 S w1 x3 w4 x6 = some z) : WX rm_x_Things_namedOf D (xA ao aa) (xW cI cZ cJ ao aa) p l e s m args below meth c (some (.long z.1)) z.2 6 [] 9 [(0, .ref (ao 21)), (1, .long w1), (3, .int x3), (4, .long w4), (6, .int x6)] S := by
  intro H locs ls hP hS hl
  obtain ⟨hx, hb, hr0, hml, hown, htg, hlk, hK, hN, hI⟩ := id X
  unfold x_Things_namedOf_b6_f at hf
  refine lv_iload hx hb d_Things_namedOf_6 (lv_at hl 4 rfl) ?_
  refine lv_aload_n hx hb d_Things_namedOf_8 rfl (lv_at hl 0 rfl) ?_
  refine va_get (D := D) (v := .int (gI S 23)) hx hb htg in_Things hown hK hP 21 xo_21 rfl 3 (by decide) (htg _ k_f_Things_21) (fun _ h9 => h9) rfl d_Things_namedOf_9 ?_
  refine lv_icmp_ge (tgt := 90) hx hb d_Things_namedOf_12 (by decide) (fun c => ?_) (fun c => ?_)
  · have hf := if_t hf c
    refine lv_lload hx hb d_Things_namedOf_90 (lv_at hl 3 rfl) ?_
    obtain rfl := Option.some.inj hf
    exact W.lret hx hb hr0 (fun t ht _ => ⟨⟨rfl, by rw [ht]; exact hP⟩, hS.F ht⟩) hS.2.2 d_Things_namedOf_92 hlk
  · have hf := if_f hf c
    refine lv_lload_n hx hb d_Things_namedOf_15 rfl (lv_at hl 1 rfl) ?_
    refine lv_iload hx hb d_Things_namedOf_16 (lv_at hl 4 rfl) ?_
    refine lv_lshr hx hb d_Things_namedOf_18 rfl ?_
    refine lv_lconst (v := 1) hx hb d_Things_namedOf_19 (by decide) ?_
    refine lv_land hx hb d_Things_namedOf_20 ?_
    refine lv_lconst (v := 0) hx hb d_Things_namedOf_21 (by decide) ?_
    refine W.lcmp hx hb d_Things_namedOf_22 ?_
    refine lv_if_eq (tgt := 30) hx hb d_Things_namedOf_23 (by decide) (fun c => ?_) (fun c => ?_)
    · have hf := if_t hf c
      refine lv_iconst (v := 0) hx hb d_Things_namedOf_30 (by decide) ?_
      exact w_x_Things_namedOf_b31 X hk6 _ _ _ _ _ _ hf H locs ls hP hS (lv_sub hl [0, 1, 2, 3, 4] rfl)
    · have hf := if_f hf c
      refine lv_iconst (v := 1) hx hb d_Things_namedOf_26 (by decide) ?_
      refine lv_goto (tgt := 31) hx hb d_Things_namedOf_27 (by decide) ?_
      exact w_x_Things_namedOf_b31 X hk6 _ _ _ _ _ _ hf H locs ls hP hS (lv_sub hl [0, 1, 2, 3, 4] rfl)
theorem w_x_Things_namedOf_b6 {z : Int64 × St} (X : Cx b_Things_namedOf 9 (some .long) R_Things D [(cI, .int), (cZ, .boolean), (cJ, .long)] (xA ao aa) (xW cI cZ cJ ao aa) p s m args meth c) : ∀ (n : Nat) (S : St) (w1 : Int64) (x3 : Int32) (w4 : Int64) (x6 : Int32), x_Things_namedOf_b6 n S w1 x3 w4 x6 = some z → WX rm_x_Things_namedOf D (xA ao aa) (xW cI cZ cJ ao aa) p l e s m args below meth c (some (.long z.1)) z.2 6 [] 9 [(0, .ref (ao 21)), (1, .long w1), (3, .int x3), (4, .long w4), (6, .int x6)] S
  | 0, _, _, _, _, _, hf => ns hf
  | n + 1, _, _, _, _, _, hf => w_x_Things_namedOf_b6_f X (w_x_Things_namedOf_b6 X n) _ _ _ _ _ hf
set_option maxHeartbeats 4000000 in
set_option maxRecDepth 100000 in
theorem w_x_Things_namedOf {z : Int64 × St} (X : Cx b_Things_namedOf 9 (some .long) R_Things D [(cI, .int), (cZ, .boolean), (cJ, .long)] (xA ao aa) (xW cI cZ cJ ao aa) p s m args meth c) (S : St) (w0 : Int64) (x1 : Int32) (hf : x_Things_namedOf S w0 x1 = some z) : WX rm_x_Things_namedOf D (xA ao aa) (xW cI cZ cJ ao aa) p l e s m args below meth c (some (.long z.1)) z.2 0 [] 9 [(0, .ref (ao 21)), (1, .long w0), (3, .int x1)] S := by
  intro H locs ls hP hS hl
  obtain ⟨hx, hb, hr0, hml, hown, htg, hlk, hK, hN, hI⟩ := id X
  unfold x_Things_namedOf at hf
  refine lv_lconst (v := 0) hx hb d_Things_namedOf_0 (by decide) ?_
  refine lv_lstore (lv' := [(4, .long (0 : Int64)), (0, .ref (ao 21)), (1, .long w0), (3, .int x1)]) hx hb d_Things_namedOf_1 hl (by decide) rfl (fun ls hl => ?_)
  refine lv_iconst (v := 0) hx hb d_Things_namedOf_3 (by decide) ?_
  refine lv_istore (lv' := [(6, .int (0 : Int32)), (4, .long (0 : Int64)), (0, .ref (ao 21)), (1, .long w0), (3, .int x1)]) hx hb d_Things_namedOf_4 hl (by decide) rfl (fun ls hl => ?_)
  exact w_x_Things_namedOf_b6 X _ _ _ _ _ _ hf H locs ls hP hS (lv_sub hl [2, 3, 4, 1, 0] rfl)
theorem c_x_Things_namedOf {l : Launch} {D : va_G} {cI cZ cJ : ClassId} {ao aa : Nat → Nat} {S : St} {w0 : Int64} {x1 : Int32} {z : Int64 × St} (hz : x_Things_namedOf S w0 x1 = some z) : Ct l y_Things_namedOf (.code y_Things_namedOf b_Things_namedOf 9 (some .long) :: gw) rm_x_Things_namedOf D [(cI, .int), (cZ, .boolean), (cJ, .long)] (xA ao aa) (xW cI cZ cJ ao aa) [.ref (ao 21), .long w0, .int x1] S (some (.long z.1)) z.2 :=
  Ct_of (by decide) (fun p e s m args below meth c X => w_x_Things_namedOf X _ _ _ hz) (Nat.le_of_ble_eq_true rfl)
def x_Phrase_find_19_b73 (r : Nat) (S : St) (x2 : Int32) : Option (Int32 × St) :=
  if (gI S 21) ≤ x2 then
    some ((0 : Int32), S)
  else
    some ((1 : Int32), S)
def x_Phrase_find_19_b18_f (r : Nat) (k18 : St → Int32 → Int32 → Option (Int32 × St)) (S : St) (x2 : Int32) (x3 : Int32) : Option (Int32 × St) :=
  (x_Row_size r S).bind fun q1 =>
  if q1.1 ≤ x3 then
    x_Phrase_find_19_b73 r q1.2 x2
  else
    (x_Row_at r q1.2 x3).bind fun q2 =>
    (x_Things_namedOf q2.2 (gL q1.2 2) q2.1).bind fun q3 =>
    if (lg_cmp q3.1 (0 : Int64)) = 0 then
      x_Phrase_find_19_b73 r q3.2 x2
    else
      k18 (sI (sL q3.2 2 q3.1) 21 (x3 + (1 : Int32))) x2 (x3 + 1)
def x_Phrase_find_19_b18 (r : Nat) : Nat → St → Int32 → Int32 → Option (Int32 × St)
  | 0, _, _, _ => none
  | n + 1, S, x2, x3 => x_Phrase_find_19_b18_f r (x_Phrase_find_19_b18 r n) S x2 x3
def x_Phrase_find_19 (r : Nat) (S : St) (x0 : Int32) : Option (Int32 × St) :=
  x_Phrase_find_19_b18 r fu (sI (sL S 2 (gL S 4)) 21 x0) x0 x0
def rm_x_Phrase_find_19 : Room := { frames := 1, cells := 0, slots := 0, locals := 28 }
theorem ok_x_Phrase_find_19 : CalV y_Phrase_find b_Phrase_find 6 (some .boolean) 2 rm_x_Phrase_find_19 := ⟨kc_Phrase_find, ki_Phrase_find, kl_Phrase_find, ji_Phrase, ⟨by decide, by decide, by decide +kernel⟩, rfl, rfl⟩
set_option maxHeartbeats 4000000 in
set_option maxRecDepth 100000 in
theorem w_x_Phrase_find_19_b73 {r : Nat} (hr : r < 17) {z : Int32 × St} (X : Cx b_Phrase_find 6 (some .boolean) R_Phrase D [(cI, .int), (cZ, .boolean), (cJ, .long)] (xA ao aa) (xW cI cZ cJ ao aa) p s m args meth c) (S : St) (x2 : Int32) (hf : x_Phrase_find_19_b73 r S x2 = some z) : WX rm_x_Phrase_find_19 D (xA ao aa) (xW cI cZ cJ ao aa) p l e s m args below meth c (some (.int z.1)) z.2 73 [] 6 [(0, .ref (ao 19)), (2, .int x2)] S := by
  intro H locs ls hP hS hl
  obtain ⟨hx, hb, hr0, hml, hown, htg, hlk, hK, hN, hI⟩ := id X
  unfold x_Phrase_find_19_b73 at hf
  refine lv_aload_n hx hb d_Phrase_find_73 rfl (lv_at hl 0 rfl) ?_
  refine va_get (D := D) (v := .int (gI S 21)) hx hb htg in_Phrase hown hK hP 19 xo_19 rfl 2 (by decide) (htg _ k_f_Phrase_22) (fun _ h9 => h9) rfl d_Phrase_find_74 ?_
  refine lv_iload_n hx hb d_Phrase_find_77 rfl (lv_at hl 1 rfl) ?_
  refine lv_icmp_le (tgt := 85) hx hb d_Phrase_find_78 (by decide) (fun c => ?_) (fun c => ?_)
  · have hf := if_t hf c
    refine lv_iconst (v := 0) hx hb d_Phrase_find_85 (by decide) ?_
    obtain rfl := Option.some.inj hf
    exact W.zret (ty := .boolean) hx hb hr0 rfl (fun t ht _ => ⟨⟨rfl, by rw [ht]; exact hP⟩, hS.F ht⟩) hS.2.2 d_Phrase_find_86 hlk
  · have hf := if_f hf c
    refine lv_iconst (v := 1) hx hb d_Phrase_find_81 (by decide) ?_
    refine lv_goto (tgt := 86) hx hb d_Phrase_find_82 (by decide) ?_
    obtain rfl := Option.some.inj hf
    exact W.zret (ty := .boolean) hx hb hr0 rfl (fun t ht _ => ⟨⟨rfl, by rw [ht]; exact hP⟩, hS.F ht⟩) hS.2.2 d_Phrase_find_86 hlk
set_option maxHeartbeats 4000000 in
set_option maxRecDepth 100000 in
theorem w_x_Phrase_find_19_b18_f {r : Nat} (hr : r < 17) {z : Int32 × St} (X : Cx b_Phrase_find 6 (some .boolean) R_Phrase D [(cI, .int), (cZ, .boolean), (cJ, .long)] (xA ao aa) (xW cI cZ cJ ao aa) p s m args meth c) {k18 : St → Int32 → Int32 → Option (Int32 × St)} (hk18 : ∀ (S : St) (x2 : Int32) (x3 : Int32), k18 S x2 x3 = some z → WX rm_x_Phrase_find_19 D (xA ao aa) (xW cI cZ cJ ao aa) p l e s m args below meth c (some (.int z.1)) z.2 18 [] 6 [(0, .ref (ao 19)), (1, .ref (ao r)), (2, .int x2), (3, .int x3)] S) (S : St) (x2 : Int32) (x3 : Int32) (hf : x_Phrase_find_19_b18_f r k18 S x2 x3 = some z) : WX rm_x_Phrase_find_19 D (xA ao aa) (xW cI cZ cJ ao aa) p l e s m args below meth c (some (.int z.1)) z.2 18 [] 6 [(0, .ref (ao 19)), (1, .ref (ao r)), (2, .int x2), (3, .int x3)] S := by
  intro H locs ls hP hS hl
  obtain ⟨hx, hb, hr0, hml, hown, htg, hlk, hK, hN, hI⟩ := id X
  unfold x_Phrase_find_19_b18_f at hf
  refine lv_iload_n hx hb d_Phrase_find_18 rfl (lv_at hl 3 rfl) ?_
  refine lv_aload_n hx hb d_Phrase_find_19 rfl (lv_at hl 1 rfl) ?_
  obtain ⟨q1, he, hf⟩ := ob_some hf
  refine cl_Vi (As := []) (rest := [.int x3]) X (c_x_Row_size hr he) ok_x_Row_size k_m_Phrase_26 (va_recv hK hP rfl (xo_row hr)) rfl rfl hl.1 (Nat.le_of_ble_eq_true rfl) d_Phrase_find_20 ⟨by decide, by decide⟩ hP hS (fun H locs hP hS => ?_)
  refine lv_icmp_ge (tgt := 73) hx hb d_Phrase_find_23 (by decide) (fun c => ?_) (fun c => ?_)
  · have hf := if_t hf c
    exact w_x_Phrase_find_19_b73 hr X _ _ hf H locs ls hP hS (lv_sub hl [0, 2] rfl)
  · have hf := if_f hf c
    refine lv_aload_n hx hb d_Phrase_find_26 rfl (lv_at hl 0 rfl) ?_
    refine va_get (D := D) (v := .ref (ao 21)) hx hb htg in_Phrase hown hK hP 19 xo_19 rfl 0 (by decide) (htg _ k_f_Phrase_7) (fun _ h9 => h9) rfl d_Phrase_find_27 ?_
    refine lv_aload_n hx hb d_Phrase_find_30 rfl (lv_at hl 0 rfl) ?_
    refine va_get (D := D) (v := .long (gL q1.2 2)) hx hb htg in_Phrase hown hK hP 19 xo_19 rfl 1 (by decide) (htg _ k_f_Phrase_19) (fun _ h9 => h9) rfl d_Phrase_find_31 ?_
    refine lv_aload_n hx hb d_Phrase_find_34 rfl (lv_at hl 1 rfl) ?_
    refine lv_iload_n hx hb d_Phrase_find_35 rfl (lv_at hl 3 rfl) ?_
    obtain ⟨q2, he, hf⟩ := ob_some hf
    refine cl_Vi (As := [.int x3]) (rest := [.long (gL q1.2 2), .ref (ao 21)]) X (c_x_Row_at hr he) ok_x_Row_at k_m_Phrase_32 (va_recv hK hP rfl (xo_row hr)) rfl rfl hl.1 (Nat.le_of_ble_eq_true rfl) d_Phrase_find_36 ⟨by decide, by decide⟩ hP hS (fun H locs hP hS => ?_)
    obtain ⟨q3, he, hf⟩ := ob_some hf
    refine cl_Vl (As := [.long (gL q1.2 2), .int q2.1]) (rest := []) X (c_x_Things_namedOf he) ok_x_Things_namedOf k_m_Phrase_36 (va_recv hK hP rfl xo_21) rfl rfl hl.1 (Nat.le_of_ble_eq_true rfl) d_Phrase_find_39 ⟨by decide, by decide⟩ hP hS (fun H locs hP hS => ?_)
    refine lv_lstore (lv' := [(4, .long q3.1), (0, .ref (ao 19)), (1, .ref (ao r)), (2, .int x2), (3, .int x3)]) hx hb d_Phrase_find_42 hl (by decide) rfl (fun ls hl => ?_)
    refine lv_lload hx hb d_Phrase_find_44 (lv_at hl 0 rfl) ?_
    refine lv_lconst (v := 0) hx hb d_Phrase_find_46 (by decide) ?_
    refine W.lcmp hx hb d_Phrase_find_47 ?_
    refine lv_if_ne (tgt := 54) hx hb d_Phrase_find_48 (by decide) (fun c => ?_) (fun c => ?_)
    · have hf := if_f hf c
      refine lv_aload_n hx hb d_Phrase_find_54 rfl (lv_at hl 1 rfl) ?_
      refine lv_lload hx hb d_Phrase_find_55 (lv_at hl 0 rfl) ?_
      refine va_put (D := D) (ty := .long) hx hb htg in_Phrase t_Phrase t_Phrase_ok n_Phrase hown hK hP (hI _) hS 19 xo_19 rfl 1 (by decide) (htg _ k_f_Phrase_19) (fun _ h9 => h9) rfl (by decide +kernel) rfl rfl (Nat.le_of_ble_eq_true rfl) d_Phrase_find_57 (fun H locs hP _ hS => ?_)
      replace hP : va_P D classes (xW cI cZ cJ ao aa (sL q3.2 2 q3.1)) H := pw xs_19_its hP
      refine lv_aload_n hx hb d_Phrase_find_60 rfl (lv_at hl 1 rfl) ?_
      refine lv_iload_n hx hb d_Phrase_find_61 rfl (lv_at hl 4 rfl) ?_
      refine lv_iconst (v := 1) hx hb d_Phrase_find_62 (by decide) ?_
      refine lv_iadd hx hb d_Phrase_find_63 ?_
      refine va_put (D := D) (ty := .int) hx hb htg in_Phrase t_Phrase t_Phrase_ok n_Phrase hown hK hP (hI _) hS 19 xo_19 rfl 2 (by decide) (htg _ k_f_Phrase_22) (fun _ h9 => h9) rfl (by decide +kernel) rfl rfl (Nat.le_of_ble_eq_true rfl) d_Phrase_find_64 (fun H locs hP _ hS => ?_)
      replace hP : va_P D classes (xW cI cZ cJ ao aa (sI (sL q3.2 2 q3.1) 21 (x3 + (1 : Int32)))) H := pw xs_19_end hP
      refine lv_iinc (v := (x3 + 1)) (lv' := [(3, .int (x3 + 1)), (4, .long q3.1), (0, .ref (ao 19)), (1, .ref (ao r)), (2, .int x2)]) hx hb d_Phrase_find_67 hl (k := 4) rfl rfl (by decide) rfl (fun ls hl => ?_)
      refine lv_goto (tgt := 18) hx hb d_Phrase_find_70 (by decide) ?_
      exact hk18 _ _ _ hf H locs ls hP hS (lv_sub hl [2, 3, 4, 0] rfl)
    · have hf := if_t hf c
      refine lv_goto (tgt := 73) hx hb d_Phrase_find_51 (by decide) ?_
      exact w_x_Phrase_find_19_b73 hr X _ _ hf H locs ls hP hS (lv_sub hl [1, 3] rfl)
theorem w_x_Phrase_find_19_b18 {r : Nat} (hr : r < 17) {z : Int32 × St} (X : Cx b_Phrase_find 6 (some .boolean) R_Phrase D [(cI, .int), (cZ, .boolean), (cJ, .long)] (xA ao aa) (xW cI cZ cJ ao aa) p s m args meth c) : ∀ (n : Nat) (S : St) (x2 : Int32) (x3 : Int32), x_Phrase_find_19_b18 r n S x2 x3 = some z → WX rm_x_Phrase_find_19 D (xA ao aa) (xW cI cZ cJ ao aa) p l e s m args below meth c (some (.int z.1)) z.2 18 [] 6 [(0, .ref (ao 19)), (1, .ref (ao r)), (2, .int x2), (3, .int x3)] S
  | 0, _, _, _, hf => ns hf
  | n + 1, _, _, _, hf => w_x_Phrase_find_19_b18_f hr X (w_x_Phrase_find_19_b18 hr X n) _ _ _ hf
set_option maxHeartbeats 4000000 in
set_option maxRecDepth 100000 in
theorem w_x_Phrase_find_19 {r : Nat} (hr : r < 17) {z : Int32 × St} (X : Cx b_Phrase_find 6 (some .boolean) R_Phrase D [(cI, .int), (cZ, .boolean), (cJ, .long)] (xA ao aa) (xW cI cZ cJ ao aa) p s m args meth c) (S : St) (x0 : Int32) (hf : x_Phrase_find_19 r S x0 = some z) : WX rm_x_Phrase_find_19 D (xA ao aa) (xW cI cZ cJ ao aa) p l e s m args below meth c (some (.int z.1)) z.2 0 [] 6 [(0, .ref (ao 19)), (1, .ref (ao r)), (2, .int x0)] S := by
  intro H locs ls hP hS hl
  obtain ⟨hx, hb, hr0, hml, hown, htg, hlk, hK, hN, hI⟩ := id X
  unfold x_Phrase_find_19 at hf
  refine lv_aload_n hx hb d_Phrase_find_0 rfl (lv_at hl 0 rfl) ?_
  refine lv_aload_n hx hb d_Phrase_find_1 rfl (lv_at hl 0 rfl) ?_
  refine va_get (D := D) (v := .ref (ao 21)) hx hb htg in_Phrase hown hK hP 19 xo_19 rfl 0 (by decide) (htg _ k_f_Phrase_7) (fun _ h9 => h9) rfl d_Phrase_find_2 ?_
  refine va_getN (D := D) (v := .long (gL S 4)) hx hb htg in_Things hown hK hP 21 xo_21 rfl 4 (by decide) (va_Nw.use rfl (hN _ k_fn_Phrase_13)) (fun _ h9 => h9) rfl d_Phrase_find_5 ?_
  refine va_put (D := D) (ty := .long) hx hb htg in_Phrase t_Phrase t_Phrase_ok n_Phrase hown hK hP (hI _) hS 19 xo_19 rfl 1 (by decide) (htg _ k_f_Phrase_19) (fun _ h9 => h9) rfl (by decide +kernel) rfl rfl (Nat.le_of_ble_eq_true rfl) d_Phrase_find_8 (fun H locs hP _ hS => ?_)
  replace hP : va_P D classes (xW cI cZ cJ ao aa (sL S 2 (gL S 4))) H := pw xs_19_its hP
  refine lv_aload_n hx hb d_Phrase_find_11 rfl (lv_at hl 0 rfl) ?_
  refine lv_iload_n hx hb d_Phrase_find_12 rfl (lv_at hl 2 rfl) ?_
  refine va_put (D := D) (ty := .int) hx hb htg in_Phrase t_Phrase t_Phrase_ok n_Phrase hown hK hP (hI _) hS 19 xo_19 rfl 2 (by decide) (htg _ k_f_Phrase_22) (fun _ h9 => h9) rfl (by decide +kernel) rfl rfl (Nat.le_of_ble_eq_true rfl) d_Phrase_find_13 (fun H locs hP _ hS => ?_)
  replace hP : va_P D classes (xW cI cZ cJ ao aa (sI (sL S 2 (gL S 4)) 21 x0)) H := pw xs_19_end hP
  refine lv_iload_n hx hb d_Phrase_find_16 rfl (lv_at hl 2 rfl) ?_
  refine lv_istore_n (lv' := [(3, .int x0), (0, .ref (ao 19)), (1, .ref (ao r)), (2, .int x0)]) hx hb d_Phrase_find_17 rfl hl (by decide) rfl (fun ls hl => ?_)
  exact w_x_Phrase_find_19_b18 hr X _ _ _ _ hf H locs ls hP hS (lv_sub hl [1, 2, 3, 0] rfl)
theorem c_x_Phrase_find_19 {l : Launch} {D : va_G} {cI cZ cJ : ClassId} {ao aa : Nat → Nat} {r : Nat} (hr : r < 17) {S : St} {x0 : Int32} {z : Int32 × St} (hz : x_Phrase_find_19 r S x0 = some z) : Ct l y_Phrase_find (.code y_Phrase_find b_Phrase_find 6 (some .boolean) :: gw) rm_x_Phrase_find_19 D [(cI, .int), (cZ, .boolean), (cJ, .long)] (xA ao aa) (xW cI cZ cJ ao aa) [.ref (ao 19), .ref (ao r), .int x0] S (some (.int z.1)) z.2 :=
  Ct_of (by decide) (fun p e s m args below meth c X => w_x_Phrase_find_19 hr X _ _ hz) (Nat.le_of_ble_eq_true rfl)
def x_JLong_bitCount (S : St) (w0 : Int64) : Option (Int32 × St) :=
  some ((((((((((w0 - ((w0.toUInt64 >>> ((1 : Int32).toInt64.toUInt64 &&& Int64.toUInt64 63)).toInt64 &&& (6148914691236517205 : Int64))) &&& (3689348814741910323 : Int64)) + (((w0 - ((w0.toUInt64 >>> ((1 : Int32).toInt64.toUInt64 &&& Int64.toUInt64 63)).toInt64 &&& (6148914691236517205 : Int64))).toUInt64 >>> ((2 : Int32).toInt64.toUInt64 &&& Int64.toUInt64 63)).toInt64 &&& (3689348814741910323 : Int64))) + ((((w0 - ((w0.toUInt64 >>> ((1 : Int32).toInt64.toUInt64 &&& Int64.toUInt64 63)).toInt64 &&& (6148914691236517205 : Int64))) &&& (3689348814741910323 : Int64)) + (((w0 - ((w0.toUInt64 >>> ((1 : Int32).toInt64.toUInt64 &&& Int64.toUInt64 63)).toInt64 &&& (6148914691236517205 : Int64))).toUInt64 >>> ((2 : Int32).toInt64.toUInt64 &&& Int64.toUInt64 63)).toInt64 &&& (3689348814741910323 : Int64))).toUInt64 >>> ((4 : Int32).toInt64.toUInt64 &&& Int64.toUInt64 63)).toInt64) &&& (1085102592571150095 : Int64)) + ((((((w0 - ((w0.toUInt64 >>> ((1 : Int32).toInt64.toUInt64 &&& Int64.toUInt64 63)).toInt64 &&& (6148914691236517205 : Int64))) &&& (3689348814741910323 : Int64)) + (((w0 - ((w0.toUInt64 >>> ((1 : Int32).toInt64.toUInt64 &&& Int64.toUInt64 63)).toInt64 &&& (6148914691236517205 : Int64))).toUInt64 >>> ((2 : Int32).toInt64.toUInt64 &&& Int64.toUInt64 63)).toInt64 &&& (3689348814741910323 : Int64))) + ((((w0 - ((w0.toUInt64 >>> ((1 : Int32).toInt64.toUInt64 &&& Int64.toUInt64 63)).toInt64 &&& (6148914691236517205 : Int64))) &&& (3689348814741910323 : Int64)) + (((w0 - ((w0.toUInt64 >>> ((1 : Int32).toInt64.toUInt64 &&& Int64.toUInt64 63)).toInt64 &&& (6148914691236517205 : Int64))).toUInt64 >>> ((2 : Int32).toInt64.toUInt64 &&& Int64.toUInt64 63)).toInt64 &&& (3689348814741910323 : Int64))).toUInt64 >>> ((4 : Int32).toInt64.toUInt64 &&& Int64.toUInt64 63)).toInt64) &&& (1085102592571150095 : Int64)).toUInt64 >>> ((8 : Int32).toInt64.toUInt64 &&& Int64.toUInt64 63)).toInt64) + (((((((w0 - ((w0.toUInt64 >>> ((1 : Int32).toInt64.toUInt64 &&& Int64.toUInt64 63)).toInt64 &&& (6148914691236517205 : Int64))) &&& (3689348814741910323 : Int64)) + (((w0 - ((w0.toUInt64 >>> ((1 : Int32).toInt64.toUInt64 &&& Int64.toUInt64 63)).toInt64 &&& (6148914691236517205 : Int64))).toUInt64 >>> ((2 : Int32).toInt64.toUInt64 &&& Int64.toUInt64 63)).toInt64 &&& (3689348814741910323 : Int64))) + ((((w0 - ((w0.toUInt64 >>> ((1 : Int32).toInt64.toUInt64 &&& Int64.toUInt64 63)).toInt64 &&& (6148914691236517205 : Int64))) &&& (3689348814741910323 : Int64)) + (((w0 - ((w0.toUInt64 >>> ((1 : Int32).toInt64.toUInt64 &&& Int64.toUInt64 63)).toInt64 &&& (6148914691236517205 : Int64))).toUInt64 >>> ((2 : Int32).toInt64.toUInt64 &&& Int64.toUInt64 63)).toInt64 &&& (3689348814741910323 : Int64))).toUInt64 >>> ((4 : Int32).toInt64.toUInt64 &&& Int64.toUInt64 63)).toInt64) &&& (1085102592571150095 : Int64)) + ((((((w0 - ((w0.toUInt64 >>> ((1 : Int32).toInt64.toUInt64 &&& Int64.toUInt64 63)).toInt64 &&& (6148914691236517205 : Int64))) &&& (3689348814741910323 : Int64)) + (((w0 - ((w0.toUInt64 >>> ((1 : Int32).toInt64.toUInt64 &&& Int64.toUInt64 63)).toInt64 &&& (6148914691236517205 : Int64))).toUInt64 >>> ((2 : Int32).toInt64.toUInt64 &&& Int64.toUInt64 63)).toInt64 &&& (3689348814741910323 : Int64))) + ((((w0 - ((w0.toUInt64 >>> ((1 : Int32).toInt64.toUInt64 &&& Int64.toUInt64 63)).toInt64 &&& (6148914691236517205 : Int64))) &&& (3689348814741910323 : Int64)) + (((w0 - ((w0.toUInt64 >>> ((1 : Int32).toInt64.toUInt64 &&& Int64.toUInt64 63)).toInt64 &&& (6148914691236517205 : Int64))).toUInt64 >>> ((2 : Int32).toInt64.toUInt64 &&& Int64.toUInt64 63)).toInt64 &&& (3689348814741910323 : Int64))).toUInt64 >>> ((4 : Int32).toInt64.toUInt64 &&& Int64.toUInt64 63)).toInt64) &&& (1085102592571150095 : Int64)).toUInt64 >>> ((8 : Int32).toInt64.toUInt64 &&& Int64.toUInt64 63)).toInt64).toUInt64 >>> ((16 : Int32).toInt64.toUInt64 &&& Int64.toUInt64 63)).toInt64) + ((((((((w0 - ((w0.toUInt64 >>> ((1 : Int32).toInt64.toUInt64 &&& Int64.toUInt64 63)).toInt64 &&& (6148914691236517205 : Int64))) &&& (3689348814741910323 : Int64)) + (((w0 - ((w0.toUInt64 >>> ((1 : Int32).toInt64.toUInt64 &&& Int64.toUInt64 63)).toInt64 &&& (6148914691236517205 : Int64))).toUInt64 >>> ((2 : Int32).toInt64.toUInt64 &&& Int64.toUInt64 63)).toInt64 &&& (3689348814741910323 : Int64))) + ((((w0 - ((w0.toUInt64 >>> ((1 : Int32).toInt64.toUInt64 &&& Int64.toUInt64 63)).toInt64 &&& (6148914691236517205 : Int64))) &&& (3689348814741910323 : Int64)) + (((w0 - ((w0.toUInt64 >>> ((1 : Int32).toInt64.toUInt64 &&& Int64.toUInt64 63)).toInt64 &&& (6148914691236517205 : Int64))).toUInt64 >>> ((2 : Int32).toInt64.toUInt64 &&& Int64.toUInt64 63)).toInt64 &&& (3689348814741910323 : Int64))).toUInt64 >>> ((4 : Int32).toInt64.toUInt64 &&& Int64.toUInt64 63)).toInt64) &&& (1085102592571150095 : Int64)) + ((((((w0 - ((w0.toUInt64 >>> ((1 : Int32).toInt64.toUInt64 &&& Int64.toUInt64 63)).toInt64 &&& (6148914691236517205 : Int64))) &&& (3689348814741910323 : Int64)) + (((w0 - ((w0.toUInt64 >>> ((1 : Int32).toInt64.toUInt64 &&& Int64.toUInt64 63)).toInt64 &&& (6148914691236517205 : Int64))).toUInt64 >>> ((2 : Int32).toInt64.toUInt64 &&& Int64.toUInt64 63)).toInt64 &&& (3689348814741910323 : Int64))) + ((((w0 - ((w0.toUInt64 >>> ((1 : Int32).toInt64.toUInt64 &&& Int64.toUInt64 63)).toInt64 &&& (6148914691236517205 : Int64))) &&& (3689348814741910323 : Int64)) + (((w0 - ((w0.toUInt64 >>> ((1 : Int32).toInt64.toUInt64 &&& Int64.toUInt64 63)).toInt64 &&& (6148914691236517205 : Int64))).toUInt64 >>> ((2 : Int32).toInt64.toUInt64 &&& Int64.toUInt64 63)).toInt64 &&& (3689348814741910323 : Int64))).toUInt64 >>> ((4 : Int32).toInt64.toUInt64 &&& Int64.toUInt64 63)).toInt64) &&& (1085102592571150095 : Int64)).toUInt64 >>> ((8 : Int32).toInt64.toUInt64 &&& Int64.toUInt64 63)).toInt64) + (((((((w0 - ((w0.toUInt64 >>> ((1 : Int32).toInt64.toUInt64 &&& Int64.toUInt64 63)).toInt64 &&& (6148914691236517205 : Int64))) &&& (3689348814741910323 : Int64)) + (((w0 - ((w0.toUInt64 >>> ((1 : Int32).toInt64.toUInt64 &&& Int64.toUInt64 63)).toInt64 &&& (6148914691236517205 : Int64))).toUInt64 >>> ((2 : Int32).toInt64.toUInt64 &&& Int64.toUInt64 63)).toInt64 &&& (3689348814741910323 : Int64))) + ((((w0 - ((w0.toUInt64 >>> ((1 : Int32).toInt64.toUInt64 &&& Int64.toUInt64 63)).toInt64 &&& (6148914691236517205 : Int64))) &&& (3689348814741910323 : Int64)) + (((w0 - ((w0.toUInt64 >>> ((1 : Int32).toInt64.toUInt64 &&& Int64.toUInt64 63)).toInt64 &&& (6148914691236517205 : Int64))).toUInt64 >>> ((2 : Int32).toInt64.toUInt64 &&& Int64.toUInt64 63)).toInt64 &&& (3689348814741910323 : Int64))).toUInt64 >>> ((4 : Int32).toInt64.toUInt64 &&& Int64.toUInt64 63)).toInt64) &&& (1085102592571150095 : Int64)) + ((((((w0 - ((w0.toUInt64 >>> ((1 : Int32).toInt64.toUInt64 &&& Int64.toUInt64 63)).toInt64 &&& (6148914691236517205 : Int64))) &&& (3689348814741910323 : Int64)) + (((w0 - ((w0.toUInt64 >>> ((1 : Int32).toInt64.toUInt64 &&& Int64.toUInt64 63)).toInt64 &&& (6148914691236517205 : Int64))).toUInt64 >>> ((2 : Int32).toInt64.toUInt64 &&& Int64.toUInt64 63)).toInt64 &&& (3689348814741910323 : Int64))) + ((((w0 - ((w0.toUInt64 >>> ((1 : Int32).toInt64.toUInt64 &&& Int64.toUInt64 63)).toInt64 &&& (6148914691236517205 : Int64))) &&& (3689348814741910323 : Int64)) + (((w0 - ((w0.toUInt64 >>> ((1 : Int32).toInt64.toUInt64 &&& Int64.toUInt64 63)).toInt64 &&& (6148914691236517205 : Int64))).toUInt64 >>> ((2 : Int32).toInt64.toUInt64 &&& Int64.toUInt64 63)).toInt64 &&& (3689348814741910323 : Int64))).toUInt64 >>> ((4 : Int32).toInt64.toUInt64 &&& Int64.toUInt64 63)).toInt64) &&& (1085102592571150095 : Int64)).toUInt64 >>> ((8 : Int32).toInt64.toUInt64 &&& Int64.toUInt64 63)).toInt64).toUInt64 >>> ((16 : Int32).toInt64.toUInt64 &&& Int64.toUInt64 63)).toInt64).toUInt64 >>> ((32 : Int32).toInt64.toUInt64 &&& Int64.toUInt64 63)).toInt64).toInt32 &&& (127 : Int32)), S)
def rm_x_JLong_bitCount : Room := { frames := 0, cells := 0, slots := 0, locals := 0 }
theorem ok_x_JLong_bitCount : CalS y_JLong_bitCount b_JLong_bitCount 2 (some .int) 1 rm_x_JLong_bitCount := ⟨kc_JLong_bitCount, ks_JLong_bitCount, ji_JLong, ⟨by decide, by decide, by decide +kernel⟩, rfl, rfl⟩
set_option maxHeartbeats 4000000 in
set_option maxRecDepth 100000 in
theorem w_x_JLong_bitCount {z : Int32 × St} (X : Cx b_JLong_bitCount 2 (some .int) R_JLong D [(cI, .int), (cZ, .boolean), (cJ, .long)] (xA ao aa) (xW cI cZ cJ ao aa) p s m args meth c) (S : St) (w0 : Int64) (hf : x_JLong_bitCount S w0 = some z) : WX rm_x_JLong_bitCount D (xA ao aa) (xW cI cZ cJ ao aa) p l e s m args below meth c (some (.int z.1)) z.2 0 [] 2 [(0, .long w0)] S := by
  intro H locs ls hP hS hl
  obtain ⟨hx, hb, hr0, hml, hown, htg, hlk, hK, hN, hI⟩ := id X
  unfold x_JLong_bitCount at hf
  refine lv_lload_n hx hb d_JLong_bitCount_0 rfl (lv_at hl 0 rfl) ?_
  refine lv_lload_n hx hb d_JLong_bitCount_1 rfl (lv_at hl 0 rfl) ?_
  refine lv_iconst (v := 1) hx hb d_JLong_bitCount_2 (by decide) ?_
  refine lv_lushr hx hb d_JLong_bitCount_3 rfl ?_
  refine lv_ldc2 (v := 6148914691236517205) hx hb hown (htg _ k_cl_JLong_314) d_JLong_bitCount_4 ?_
  refine lv_land hx hb d_JLong_bitCount_7 ?_
  refine lv_lsub hx hb d_JLong_bitCount_8 ?_
  refine lv_lstore_n (lv' := [(0, .long (w0 - ((w0.toUInt64 >>> ((1 : Int32).toInt64.toUInt64 &&& Int64.toUInt64 63)).toInt64 &&& (6148914691236517205 : Int64))))]) hx hb d_JLong_bitCount_9 rfl hl (by decide) rfl (fun ls hl => ?_)
  refine lv_lload_n hx hb d_JLong_bitCount_10 rfl (lv_at hl 0 rfl) ?_
  refine lv_ldc2 (v := 3689348814741910323) hx hb hown (htg _ k_cl_JLong_316) d_JLong_bitCount_11 ?_
  refine lv_land hx hb d_JLong_bitCount_14 ?_
  refine lv_lload_n hx hb d_JLong_bitCount_15 rfl (lv_at hl 0 rfl) ?_
  refine lv_iconst (v := 2) hx hb d_JLong_bitCount_16 (by decide) ?_
  refine lv_lushr hx hb d_JLong_bitCount_17 rfl ?_
  refine lv_ldc2 (v := 3689348814741910323) hx hb hown (htg _ k_cl_JLong_316) d_JLong_bitCount_18 ?_
  refine lv_land hx hb d_JLong_bitCount_21 ?_
  refine lv_ladd hx hb d_JLong_bitCount_22 ?_
  refine lv_lstore_n (lv' := [(0, .long (((w0 - ((w0.toUInt64 >>> ((1 : Int32).toInt64.toUInt64 &&& Int64.toUInt64 63)).toInt64 &&& (6148914691236517205 : Int64))) &&& (3689348814741910323 : Int64)) + (((w0 - ((w0.toUInt64 >>> ((1 : Int32).toInt64.toUInt64 &&& Int64.toUInt64 63)).toInt64 &&& (6148914691236517205 : Int64))).toUInt64 >>> ((2 : Int32).toInt64.toUInt64 &&& Int64.toUInt64 63)).toInt64 &&& (3689348814741910323 : Int64))))]) hx hb d_JLong_bitCount_23 rfl hl (by decide) rfl (fun ls hl => ?_)
  refine lv_lload_n hx hb d_JLong_bitCount_24 rfl (lv_at hl 0 rfl) ?_
  refine lv_lload_n hx hb d_JLong_bitCount_25 rfl (lv_at hl 0 rfl) ?_
  refine lv_iconst (v := 4) hx hb d_JLong_bitCount_26 (by decide) ?_
  refine lv_lushr hx hb d_JLong_bitCount_27 rfl ?_
  refine lv_ladd hx hb d_JLong_bitCount_28 ?_
  refine lv_ldc2 (v := 1085102592571150095) hx hb hown (htg _ k_cl_JLong_318) d_JLong_bitCount_29 ?_
  refine lv_land hx hb d_JLong_bitCount_32 ?_
  refine lv_lstore_n (lv' := [(0, .long (((((w0 - ((w0.toUInt64 >>> ((1 : Int32).toInt64.toUInt64 &&& Int64.toUInt64 63)).toInt64 &&& (6148914691236517205 : Int64))) &&& (3689348814741910323 : Int64)) + (((w0 - ((w0.toUInt64 >>> ((1 : Int32).toInt64.toUInt64 &&& Int64.toUInt64 63)).toInt64 &&& (6148914691236517205 : Int64))).toUInt64 >>> ((2 : Int32).toInt64.toUInt64 &&& Int64.toUInt64 63)).toInt64 &&& (3689348814741910323 : Int64))) + ((((w0 - ((w0.toUInt64 >>> ((1 : Int32).toInt64.toUInt64 &&& Int64.toUInt64 63)).toInt64 &&& (6148914691236517205 : Int64))) &&& (3689348814741910323 : Int64)) + (((w0 - ((w0.toUInt64 >>> ((1 : Int32).toInt64.toUInt64 &&& Int64.toUInt64 63)).toInt64 &&& (6148914691236517205 : Int64))).toUInt64 >>> ((2 : Int32).toInt64.toUInt64 &&& Int64.toUInt64 63)).toInt64 &&& (3689348814741910323 : Int64))).toUInt64 >>> ((4 : Int32).toInt64.toUInt64 &&& Int64.toUInt64 63)).toInt64) &&& (1085102592571150095 : Int64)))]) hx hb d_JLong_bitCount_33 rfl hl (by decide) rfl (fun ls hl => ?_)
  refine lv_lload_n hx hb d_JLong_bitCount_34 rfl (lv_at hl 0 rfl) ?_
  refine lv_lload_n hx hb d_JLong_bitCount_35 rfl (lv_at hl 0 rfl) ?_
  refine lv_bipush (v := 8) hx hb d_JLong_bitCount_36 (by decide) ?_
  refine lv_lushr hx hb d_JLong_bitCount_38 rfl ?_
  refine lv_ladd hx hb d_JLong_bitCount_39 ?_
  refine lv_lstore_n (lv' := [(0, .long ((((((w0 - ((w0.toUInt64 >>> ((1 : Int32).toInt64.toUInt64 &&& Int64.toUInt64 63)).toInt64 &&& (6148914691236517205 : Int64))) &&& (3689348814741910323 : Int64)) + (((w0 - ((w0.toUInt64 >>> ((1 : Int32).toInt64.toUInt64 &&& Int64.toUInt64 63)).toInt64 &&& (6148914691236517205 : Int64))).toUInt64 >>> ((2 : Int32).toInt64.toUInt64 &&& Int64.toUInt64 63)).toInt64 &&& (3689348814741910323 : Int64))) + ((((w0 - ((w0.toUInt64 >>> ((1 : Int32).toInt64.toUInt64 &&& Int64.toUInt64 63)).toInt64 &&& (6148914691236517205 : Int64))) &&& (3689348814741910323 : Int64)) + (((w0 - ((w0.toUInt64 >>> ((1 : Int32).toInt64.toUInt64 &&& Int64.toUInt64 63)).toInt64 &&& (6148914691236517205 : Int64))).toUInt64 >>> ((2 : Int32).toInt64.toUInt64 &&& Int64.toUInt64 63)).toInt64 &&& (3689348814741910323 : Int64))).toUInt64 >>> ((4 : Int32).toInt64.toUInt64 &&& Int64.toUInt64 63)).toInt64) &&& (1085102592571150095 : Int64)) + ((((((w0 - ((w0.toUInt64 >>> ((1 : Int32).toInt64.toUInt64 &&& Int64.toUInt64 63)).toInt64 &&& (6148914691236517205 : Int64))) &&& (3689348814741910323 : Int64)) + (((w0 - ((w0.toUInt64 >>> ((1 : Int32).toInt64.toUInt64 &&& Int64.toUInt64 63)).toInt64 &&& (6148914691236517205 : Int64))).toUInt64 >>> ((2 : Int32).toInt64.toUInt64 &&& Int64.toUInt64 63)).toInt64 &&& (3689348814741910323 : Int64))) + ((((w0 - ((w0.toUInt64 >>> ((1 : Int32).toInt64.toUInt64 &&& Int64.toUInt64 63)).toInt64 &&& (6148914691236517205 : Int64))) &&& (3689348814741910323 : Int64)) + (((w0 - ((w0.toUInt64 >>> ((1 : Int32).toInt64.toUInt64 &&& Int64.toUInt64 63)).toInt64 &&& (6148914691236517205 : Int64))).toUInt64 >>> ((2 : Int32).toInt64.toUInt64 &&& Int64.toUInt64 63)).toInt64 &&& (3689348814741910323 : Int64))).toUInt64 >>> ((4 : Int32).toInt64.toUInt64 &&& Int64.toUInt64 63)).toInt64) &&& (1085102592571150095 : Int64)).toUInt64 >>> ((8 : Int32).toInt64.toUInt64 &&& Int64.toUInt64 63)).toInt64))]) hx hb d_JLong_bitCount_40 rfl hl (by decide) rfl (fun ls hl => ?_)
  refine lv_lload_n hx hb d_JLong_bitCount_41 rfl (lv_at hl 0 rfl) ?_
  refine lv_lload_n hx hb d_JLong_bitCount_42 rfl (lv_at hl 0 rfl) ?_
  refine lv_bipush (v := 16) hx hb d_JLong_bitCount_43 (by decide) ?_
  refine lv_lushr hx hb d_JLong_bitCount_45 rfl ?_
  refine lv_ladd hx hb d_JLong_bitCount_46 ?_
  refine lv_lstore_n (lv' := [(0, .long (((((((w0 - ((w0.toUInt64 >>> ((1 : Int32).toInt64.toUInt64 &&& Int64.toUInt64 63)).toInt64 &&& (6148914691236517205 : Int64))) &&& (3689348814741910323 : Int64)) + (((w0 - ((w0.toUInt64 >>> ((1 : Int32).toInt64.toUInt64 &&& Int64.toUInt64 63)).toInt64 &&& (6148914691236517205 : Int64))).toUInt64 >>> ((2 : Int32).toInt64.toUInt64 &&& Int64.toUInt64 63)).toInt64 &&& (3689348814741910323 : Int64))) + ((((w0 - ((w0.toUInt64 >>> ((1 : Int32).toInt64.toUInt64 &&& Int64.toUInt64 63)).toInt64 &&& (6148914691236517205 : Int64))) &&& (3689348814741910323 : Int64)) + (((w0 - ((w0.toUInt64 >>> ((1 : Int32).toInt64.toUInt64 &&& Int64.toUInt64 63)).toInt64 &&& (6148914691236517205 : Int64))).toUInt64 >>> ((2 : Int32).toInt64.toUInt64 &&& Int64.toUInt64 63)).toInt64 &&& (3689348814741910323 : Int64))).toUInt64 >>> ((4 : Int32).toInt64.toUInt64 &&& Int64.toUInt64 63)).toInt64) &&& (1085102592571150095 : Int64)) + ((((((w0 - ((w0.toUInt64 >>> ((1 : Int32).toInt64.toUInt64 &&& Int64.toUInt64 63)).toInt64 &&& (6148914691236517205 : Int64))) &&& (3689348814741910323 : Int64)) + (((w0 - ((w0.toUInt64 >>> ((1 : Int32).toInt64.toUInt64 &&& Int64.toUInt64 63)).toInt64 &&& (6148914691236517205 : Int64))).toUInt64 >>> ((2 : Int32).toInt64.toUInt64 &&& Int64.toUInt64 63)).toInt64 &&& (3689348814741910323 : Int64))) + ((((w0 - ((w0.toUInt64 >>> ((1 : Int32).toInt64.toUInt64 &&& Int64.toUInt64 63)).toInt64 &&& (6148914691236517205 : Int64))) &&& (3689348814741910323 : Int64)) + (((w0 - ((w0.toUInt64 >>> ((1 : Int32).toInt64.toUInt64 &&& Int64.toUInt64 63)).toInt64 &&& (6148914691236517205 : Int64))).toUInt64 >>> ((2 : Int32).toInt64.toUInt64 &&& Int64.toUInt64 63)).toInt64 &&& (3689348814741910323 : Int64))).toUInt64 >>> ((4 : Int32).toInt64.toUInt64 &&& Int64.toUInt64 63)).toInt64) &&& (1085102592571150095 : Int64)).toUInt64 >>> ((8 : Int32).toInt64.toUInt64 &&& Int64.toUInt64 63)).toInt64) + (((((((w0 - ((w0.toUInt64 >>> ((1 : Int32).toInt64.toUInt64 &&& Int64.toUInt64 63)).toInt64 &&& (6148914691236517205 : Int64))) &&& (3689348814741910323 : Int64)) + (((w0 - ((w0.toUInt64 >>> ((1 : Int32).toInt64.toUInt64 &&& Int64.toUInt64 63)).toInt64 &&& (6148914691236517205 : Int64))).toUInt64 >>> ((2 : Int32).toInt64.toUInt64 &&& Int64.toUInt64 63)).toInt64 &&& (3689348814741910323 : Int64))) + ((((w0 - ((w0.toUInt64 >>> ((1 : Int32).toInt64.toUInt64 &&& Int64.toUInt64 63)).toInt64 &&& (6148914691236517205 : Int64))) &&& (3689348814741910323 : Int64)) + (((w0 - ((w0.toUInt64 >>> ((1 : Int32).toInt64.toUInt64 &&& Int64.toUInt64 63)).toInt64 &&& (6148914691236517205 : Int64))).toUInt64 >>> ((2 : Int32).toInt64.toUInt64 &&& Int64.toUInt64 63)).toInt64 &&& (3689348814741910323 : Int64))).toUInt64 >>> ((4 : Int32).toInt64.toUInt64 &&& Int64.toUInt64 63)).toInt64) &&& (1085102592571150095 : Int64)) + ((((((w0 - ((w0.toUInt64 >>> ((1 : Int32).toInt64.toUInt64 &&& Int64.toUInt64 63)).toInt64 &&& (6148914691236517205 : Int64))) &&& (3689348814741910323 : Int64)) + (((w0 - ((w0.toUInt64 >>> ((1 : Int32).toInt64.toUInt64 &&& Int64.toUInt64 63)).toInt64 &&& (6148914691236517205 : Int64))).toUInt64 >>> ((2 : Int32).toInt64.toUInt64 &&& Int64.toUInt64 63)).toInt64 &&& (3689348814741910323 : Int64))) + ((((w0 - ((w0.toUInt64 >>> ((1 : Int32).toInt64.toUInt64 &&& Int64.toUInt64 63)).toInt64 &&& (6148914691236517205 : Int64))) &&& (3689348814741910323 : Int64)) + (((w0 - ((w0.toUInt64 >>> ((1 : Int32).toInt64.toUInt64 &&& Int64.toUInt64 63)).toInt64 &&& (6148914691236517205 : Int64))).toUInt64 >>> ((2 : Int32).toInt64.toUInt64 &&& Int64.toUInt64 63)).toInt64 &&& (3689348814741910323 : Int64))).toUInt64 >>> ((4 : Int32).toInt64.toUInt64 &&& Int64.toUInt64 63)).toInt64) &&& (1085102592571150095 : Int64)).toUInt64 >>> ((8 : Int32).toInt64.toUInt64 &&& Int64.toUInt64 63)).toInt64).toUInt64 >>> ((16 : Int32).toInt64.toUInt64 &&& Int64.toUInt64 63)).toInt64))]) hx hb d_JLong_bitCount_47 rfl hl (by decide) rfl (fun ls hl => ?_)
  refine lv_lload_n hx hb d_JLong_bitCount_48 rfl (lv_at hl 0 rfl) ?_
  refine lv_lload_n hx hb d_JLong_bitCount_49 rfl (lv_at hl 0 rfl) ?_
  refine lv_bipush (v := 32) hx hb d_JLong_bitCount_50 (by decide) ?_
  refine lv_lushr hx hb d_JLong_bitCount_52 rfl ?_
  refine lv_ladd hx hb d_JLong_bitCount_53 ?_
  refine lv_lstore_n (lv' := [(0, .long ((((((((w0 - ((w0.toUInt64 >>> ((1 : Int32).toInt64.toUInt64 &&& Int64.toUInt64 63)).toInt64 &&& (6148914691236517205 : Int64))) &&& (3689348814741910323 : Int64)) + (((w0 - ((w0.toUInt64 >>> ((1 : Int32).toInt64.toUInt64 &&& Int64.toUInt64 63)).toInt64 &&& (6148914691236517205 : Int64))).toUInt64 >>> ((2 : Int32).toInt64.toUInt64 &&& Int64.toUInt64 63)).toInt64 &&& (3689348814741910323 : Int64))) + ((((w0 - ((w0.toUInt64 >>> ((1 : Int32).toInt64.toUInt64 &&& Int64.toUInt64 63)).toInt64 &&& (6148914691236517205 : Int64))) &&& (3689348814741910323 : Int64)) + (((w0 - ((w0.toUInt64 >>> ((1 : Int32).toInt64.toUInt64 &&& Int64.toUInt64 63)).toInt64 &&& (6148914691236517205 : Int64))).toUInt64 >>> ((2 : Int32).toInt64.toUInt64 &&& Int64.toUInt64 63)).toInt64 &&& (3689348814741910323 : Int64))).toUInt64 >>> ((4 : Int32).toInt64.toUInt64 &&& Int64.toUInt64 63)).toInt64) &&& (1085102592571150095 : Int64)) + ((((((w0 - ((w0.toUInt64 >>> ((1 : Int32).toInt64.toUInt64 &&& Int64.toUInt64 63)).toInt64 &&& (6148914691236517205 : Int64))) &&& (3689348814741910323 : Int64)) + (((w0 - ((w0.toUInt64 >>> ((1 : Int32).toInt64.toUInt64 &&& Int64.toUInt64 63)).toInt64 &&& (6148914691236517205 : Int64))).toUInt64 >>> ((2 : Int32).toInt64.toUInt64 &&& Int64.toUInt64 63)).toInt64 &&& (3689348814741910323 : Int64))) + ((((w0 - ((w0.toUInt64 >>> ((1 : Int32).toInt64.toUInt64 &&& Int64.toUInt64 63)).toInt64 &&& (6148914691236517205 : Int64))) &&& (3689348814741910323 : Int64)) + (((w0 - ((w0.toUInt64 >>> ((1 : Int32).toInt64.toUInt64 &&& Int64.toUInt64 63)).toInt64 &&& (6148914691236517205 : Int64))).toUInt64 >>> ((2 : Int32).toInt64.toUInt64 &&& Int64.toUInt64 63)).toInt64 &&& (3689348814741910323 : Int64))).toUInt64 >>> ((4 : Int32).toInt64.toUInt64 &&& Int64.toUInt64 63)).toInt64) &&& (1085102592571150095 : Int64)).toUInt64 >>> ((8 : Int32).toInt64.toUInt64 &&& Int64.toUInt64 63)).toInt64) + (((((((w0 - ((w0.toUInt64 >>> ((1 : Int32).toInt64.toUInt64 &&& Int64.toUInt64 63)).toInt64 &&& (6148914691236517205 : Int64))) &&& (3689348814741910323 : Int64)) + (((w0 - ((w0.toUInt64 >>> ((1 : Int32).toInt64.toUInt64 &&& Int64.toUInt64 63)).toInt64 &&& (6148914691236517205 : Int64))).toUInt64 >>> ((2 : Int32).toInt64.toUInt64 &&& Int64.toUInt64 63)).toInt64 &&& (3689348814741910323 : Int64))) + ((((w0 - ((w0.toUInt64 >>> ((1 : Int32).toInt64.toUInt64 &&& Int64.toUInt64 63)).toInt64 &&& (6148914691236517205 : Int64))) &&& (3689348814741910323 : Int64)) + (((w0 - ((w0.toUInt64 >>> ((1 : Int32).toInt64.toUInt64 &&& Int64.toUInt64 63)).toInt64 &&& (6148914691236517205 : Int64))).toUInt64 >>> ((2 : Int32).toInt64.toUInt64 &&& Int64.toUInt64 63)).toInt64 &&& (3689348814741910323 : Int64))).toUInt64 >>> ((4 : Int32).toInt64.toUInt64 &&& Int64.toUInt64 63)).toInt64) &&& (1085102592571150095 : Int64)) + ((((((w0 - ((w0.toUInt64 >>> ((1 : Int32).toInt64.toUInt64 &&& Int64.toUInt64 63)).toInt64 &&& (6148914691236517205 : Int64))) &&& (3689348814741910323 : Int64)) + (((w0 - ((w0.toUInt64 >>> ((1 : Int32).toInt64.toUInt64 &&& Int64.toUInt64 63)).toInt64 &&& (6148914691236517205 : Int64))).toUInt64 >>> ((2 : Int32).toInt64.toUInt64 &&& Int64.toUInt64 63)).toInt64 &&& (3689348814741910323 : Int64))) + ((((w0 - ((w0.toUInt64 >>> ((1 : Int32).toInt64.toUInt64 &&& Int64.toUInt64 63)).toInt64 &&& (6148914691236517205 : Int64))) &&& (3689348814741910323 : Int64)) + (((w0 - ((w0.toUInt64 >>> ((1 : Int32).toInt64.toUInt64 &&& Int64.toUInt64 63)).toInt64 &&& (6148914691236517205 : Int64))).toUInt64 >>> ((2 : Int32).toInt64.toUInt64 &&& Int64.toUInt64 63)).toInt64 &&& (3689348814741910323 : Int64))).toUInt64 >>> ((4 : Int32).toInt64.toUInt64 &&& Int64.toUInt64 63)).toInt64) &&& (1085102592571150095 : Int64)).toUInt64 >>> ((8 : Int32).toInt64.toUInt64 &&& Int64.toUInt64 63)).toInt64).toUInt64 >>> ((16 : Int32).toInt64.toUInt64 &&& Int64.toUInt64 63)).toInt64) + ((((((((w0 - ((w0.toUInt64 >>> ((1 : Int32).toInt64.toUInt64 &&& Int64.toUInt64 63)).toInt64 &&& (6148914691236517205 : Int64))) &&& (3689348814741910323 : Int64)) + (((w0 - ((w0.toUInt64 >>> ((1 : Int32).toInt64.toUInt64 &&& Int64.toUInt64 63)).toInt64 &&& (6148914691236517205 : Int64))).toUInt64 >>> ((2 : Int32).toInt64.toUInt64 &&& Int64.toUInt64 63)).toInt64 &&& (3689348814741910323 : Int64))) + ((((w0 - ((w0.toUInt64 >>> ((1 : Int32).toInt64.toUInt64 &&& Int64.toUInt64 63)).toInt64 &&& (6148914691236517205 : Int64))) &&& (3689348814741910323 : Int64)) + (((w0 - ((w0.toUInt64 >>> ((1 : Int32).toInt64.toUInt64 &&& Int64.toUInt64 63)).toInt64 &&& (6148914691236517205 : Int64))).toUInt64 >>> ((2 : Int32).toInt64.toUInt64 &&& Int64.toUInt64 63)).toInt64 &&& (3689348814741910323 : Int64))).toUInt64 >>> ((4 : Int32).toInt64.toUInt64 &&& Int64.toUInt64 63)).toInt64) &&& (1085102592571150095 : Int64)) + ((((((w0 - ((w0.toUInt64 >>> ((1 : Int32).toInt64.toUInt64 &&& Int64.toUInt64 63)).toInt64 &&& (6148914691236517205 : Int64))) &&& (3689348814741910323 : Int64)) + (((w0 - ((w0.toUInt64 >>> ((1 : Int32).toInt64.toUInt64 &&& Int64.toUInt64 63)).toInt64 &&& (6148914691236517205 : Int64))).toUInt64 >>> ((2 : Int32).toInt64.toUInt64 &&& Int64.toUInt64 63)).toInt64 &&& (3689348814741910323 : Int64))) + ((((w0 - ((w0.toUInt64 >>> ((1 : Int32).toInt64.toUInt64 &&& Int64.toUInt64 63)).toInt64 &&& (6148914691236517205 : Int64))) &&& (3689348814741910323 : Int64)) + (((w0 - ((w0.toUInt64 >>> ((1 : Int32).toInt64.toUInt64 &&& Int64.toUInt64 63)).toInt64 &&& (6148914691236517205 : Int64))).toUInt64 >>> ((2 : Int32).toInt64.toUInt64 &&& Int64.toUInt64 63)).toInt64 &&& (3689348814741910323 : Int64))).toUInt64 >>> ((4 : Int32).toInt64.toUInt64 &&& Int64.toUInt64 63)).toInt64) &&& (1085102592571150095 : Int64)).toUInt64 >>> ((8 : Int32).toInt64.toUInt64 &&& Int64.toUInt64 63)).toInt64) + (((((((w0 - ((w0.toUInt64 >>> ((1 : Int32).toInt64.toUInt64 &&& Int64.toUInt64 63)).toInt64 &&& (6148914691236517205 : Int64))) &&& (3689348814741910323 : Int64)) + (((w0 - ((w0.toUInt64 >>> ((1 : Int32).toInt64.toUInt64 &&& Int64.toUInt64 63)).toInt64 &&& (6148914691236517205 : Int64))).toUInt64 >>> ((2 : Int32).toInt64.toUInt64 &&& Int64.toUInt64 63)).toInt64 &&& (3689348814741910323 : Int64))) + ((((w0 - ((w0.toUInt64 >>> ((1 : Int32).toInt64.toUInt64 &&& Int64.toUInt64 63)).toInt64 &&& (6148914691236517205 : Int64))) &&& (3689348814741910323 : Int64)) + (((w0 - ((w0.toUInt64 >>> ((1 : Int32).toInt64.toUInt64 &&& Int64.toUInt64 63)).toInt64 &&& (6148914691236517205 : Int64))).toUInt64 >>> ((2 : Int32).toInt64.toUInt64 &&& Int64.toUInt64 63)).toInt64 &&& (3689348814741910323 : Int64))).toUInt64 >>> ((4 : Int32).toInt64.toUInt64 &&& Int64.toUInt64 63)).toInt64) &&& (1085102592571150095 : Int64)) + ((((((w0 - ((w0.toUInt64 >>> ((1 : Int32).toInt64.toUInt64 &&& Int64.toUInt64 63)).toInt64 &&& (6148914691236517205 : Int64))) &&& (3689348814741910323 : Int64)) + (((w0 - ((w0.toUInt64 >>> ((1 : Int32).toInt64.toUInt64 &&& Int64.toUInt64 63)).toInt64 &&& (6148914691236517205 : Int64))).toUInt64 >>> ((2 : Int32).toInt64.toUInt64 &&& Int64.toUInt64 63)).toInt64 &&& (3689348814741910323 : Int64))) + ((((w0 - ((w0.toUInt64 >>> ((1 : Int32).toInt64.toUInt64 &&& Int64.toUInt64 63)).toInt64 &&& (6148914691236517205 : Int64))) &&& (3689348814741910323 : Int64)) + (((w0 - ((w0.toUInt64 >>> ((1 : Int32).toInt64.toUInt64 &&& Int64.toUInt64 63)).toInt64 &&& (6148914691236517205 : Int64))).toUInt64 >>> ((2 : Int32).toInt64.toUInt64 &&& Int64.toUInt64 63)).toInt64 &&& (3689348814741910323 : Int64))).toUInt64 >>> ((4 : Int32).toInt64.toUInt64 &&& Int64.toUInt64 63)).toInt64) &&& (1085102592571150095 : Int64)).toUInt64 >>> ((8 : Int32).toInt64.toUInt64 &&& Int64.toUInt64 63)).toInt64).toUInt64 >>> ((16 : Int32).toInt64.toUInt64 &&& Int64.toUInt64 63)).toInt64).toUInt64 >>> ((32 : Int32).toInt64.toUInt64 &&& Int64.toUInt64 63)).toInt64))]) hx hb d_JLong_bitCount_54 rfl hl (by decide) rfl (fun ls hl => ?_)
  refine lv_lload_n hx hb d_JLong_bitCount_55 rfl (lv_at hl 0 rfl) ?_
  refine lv_l2i hx hb d_JLong_bitCount_56 rfl ?_
  refine lv_bipush (v := 127) hx hb d_JLong_bitCount_57 (by decide) ?_
  refine lv_iand hx hb d_JLong_bitCount_59 ?_
  obtain rfl := Option.some.inj hf
  exact W.iret hx hb hr0 (fun t ht _ => ⟨⟨rfl, by rw [ht]; exact hP⟩, hS.F ht⟩) hS.2.2 d_JLong_bitCount_60 hlk
theorem c_x_JLong_bitCount {l : Launch} {D : va_G} {cI cZ cJ : ClassId} {ao aa : Nat → Nat} {S : St} {w0 : Int64} {z : Int32 × St} (hz : x_JLong_bitCount S w0 = some z) : Ct l y_JLong_bitCount (.code y_JLong_bitCount b_JLong_bitCount 2 (some .int) :: gw) rm_x_JLong_bitCount D [(cI, .int), (cZ, .boolean), (cJ, .long)] (xA ao aa) (xW cI cZ cJ ao aa) [.long w0] S (some (.int z.1)) z.2 :=
  Ct_of (by decide) (fun p e s m args below meth c X => w_x_JLong_bitCount X _ _ hz) (Nat.le_of_ble_eq_true rfl)
def x_Row_dropFirst_b15_f (r : Nat) (k15 : St → Int32 → Int32 → Option (St)) (S : St) (x2 : Int32) (x3 : Int32) : Option (St) :=
  if (gI S r) ≤ x3 then
    some (sI S r ((gI S r) - x2))
  else
    gd (vin x3 (xcap r)) <|
    gd (vin (x3 - x2) (xcap r)) <|
    k15 (sA S r (x3 - x2).toNatClampNeg (gA S r x3.toNatClampNeg)) x2 (x3 + 1)
def x_Row_dropFirst_b15 (r : Nat) : Nat → St → Int32 → Int32 → Option (St)
  | 0, _, _, _ => none
  | n + 1, S, x2, x3 => x_Row_dropFirst_b15_f r (x_Row_dropFirst_b15 r n) S x2 x3
def x_Row_dropFirst (r : Nat) (S : St) (x0 : Int32) : Option (St) :=
  x_Row_dropFirst_b15 r fu S (if (0 : Int32) < (if (gI S r) < x0 then (gI S r) else x0) then (if (gI S r) < x0 then (gI S r) else x0) else (0 : Int32)) (if (0 : Int32) < (if (gI S r) < x0 then (gI S r) else x0) then (if (gI S r) < x0 then (gI S r) else x0) else (0 : Int32))
def rm_x_Row_dropFirst : Room := { frames := 1, cells := 0, slots := 0, locals := 21 }
theorem ok_x_Row_dropFirst : CalV y_Row_dropFirst b_Row_dropFirst 4 none 1 rm_x_Row_dropFirst := ⟨kc_Row_dropFirst, ki_Row_dropFirst, kl_Row_dropFirst, ji_Row, ⟨by decide, by decide, by decide +kernel⟩, rfl, rfl⟩
set_option maxHeartbeats 4000000 in
set_option maxRecDepth 100000 in
theorem w_x_Row_dropFirst_b15_f {r : Nat} (hr : r < 17) {z : St} (X : Cx b_Row_dropFirst 4 none R_Row D [(cI, .int), (cZ, .boolean), (cJ, .long)] (xA ao aa) (xW cI cZ cJ ao aa) p s m args meth c) {k15 : St → Int32 → Int32 → Option (St)} (hk15 : ∀ (S : St) (x2 : Int32) (x3 : Int32), k15 S x2 x3 = some z → WX rm_x_Row_dropFirst D (xA ao aa) (xW cI cZ cJ ao aa) p l e s m args below meth c none z 15 [] 4 [(0, .ref (ao r)), (2, .int x2), (3, .int x3)] S) (S : St) (x2 : Int32) (x3 : Int32) (hf : x_Row_dropFirst_b15_f r k15 S x2 x3 = some z) : WX rm_x_Row_dropFirst D (xA ao aa) (xW cI cZ cJ ao aa) p l e s m args below meth c none z 15 [] 4 [(0, .ref (ao r)), (2, .int x2), (3, .int x3)] S := by
  intro H locs ls hP hS hl
  obtain ⟨hx, hb, hr0, hml, hown, htg, hlk, hK, hN, hI⟩ := id X
  unfold x_Row_dropFirst_b15_f at hf
  refine lv_iload_n hx hb d_Row_dropFirst_15 rfl (lv_at hl 2 rfl) ?_
  refine lv_aload_n hx hb d_Row_dropFirst_16 rfl (lv_at hl 0 rfl) ?_
  refine va_get (D := D) (v := .int (gI S r)) hx hb htg in_Row hown hK hP r (xo_row hr) rfl 1 (by decide) (htg _ k_f_Row_21) (fun _ h9 => h9) rfl d_Row_dropFirst_17 ?_
  refine lv_icmp_ge (tgt := 43) hx hb d_Row_dropFirst_20 (by decide) (fun c => ?_) (fun c => ?_)
  · have hf := if_t hf c
    refine lv_aload_n hx hb d_Row_dropFirst_43 rfl (lv_at hl 0 rfl) ?_
    refine lv_dup hx hb d_Row_dropFirst_44 rfl ?_
    refine va_get (D := D) (v := .int (gI S r)) hx hb htg in_Row hown hK hP r (xo_row hr) rfl 1 (by decide) (htg _ k_f_Row_21) (fun _ h9 => h9) rfl d_Row_dropFirst_45 ?_
    refine lv_iload_n hx hb d_Row_dropFirst_48 rfl (lv_at hl 1 rfl) ?_
    refine lv_isub hx hb d_Row_dropFirst_49 ?_
    refine va_put (D := D) (ty := .int) hx hb htg in_Row t_Row t_Row_ok n_Row hown hK hP (hI _) hS r (xo_row hr) rfl 1 (by decide) (htg _ k_f_Row_21) (fun _ h9 => h9) rfl (by decide +kernel) rfl rfl (Nat.le_of_ble_eq_true rfl) d_Row_dropFirst_50 (fun H locs hP _ hS => ?_)
    replace hP : va_P D classes (xW cI cZ cJ ao aa (sI S r ((gI S r) - x2))) H := pw (xs_row hr) hP
    obtain rfl := Option.some.inj hf
    exact W.vret hx hb hr0 (fun t ht _ => ⟨⟨rfl, by rw [ht]; exact hP⟩, hS.F ht⟩) hS.2.2 d_Row_dropFirst_53 hlk
  · have hf := if_f hf c
    refine lv_aload_n hx hb d_Row_dropFirst_23 rfl (lv_at hl 0 rfl) ?_
    refine va_get (D := D) (v := .ref (aa r)) hx hb htg in_Row hown hK hP r (xo_row hr) rfl 0 (by decide) (htg _ k_f_Row_15) (fun _ h9 => h9) rfl d_Row_dropFirst_24 ?_
    refine lv_iload_n hx hb d_Row_dropFirst_27 rfl (lv_at hl 2 rfl) ?_
    refine lv_iload_n hx hb d_Row_dropFirst_28 rfl (lv_at hl 1 rfl) ?_
    refine lv_isub hx hb d_Row_dropFirst_29 ?_
    refine lv_aload_n hx hb d_Row_dropFirst_30 rfl (lv_at hl 0 rfl) ?_
    refine va_get (D := D) (v := .ref (aa r)) hx hb htg in_Row hown hK hP r (xo_row hr) rfl 0 (by decide) (htg _ k_f_Row_15) (fun _ h9 => h9) rfl d_Row_dropFirst_31 ?_
    refine lv_iload_n hx hb d_Row_dropFirst_34 rfl (lv_at hl 2 rfl) ?_
    obtain ⟨hg, hf⟩ := gd_some hf
    refine va_iald hx hb hK hP (28 + r) 0 (xa_row hr) rfl (vin_in hg) d_Row_dropFirst_35 ?_
    obtain ⟨hg, hf⟩ := gd_some hf
    refine va_iast hx hb hK hP (hI _) hS (28 + r) 0 (xa_row hr) rfl (vin_in hg) d_Row_dropFirst_36 (fun H locs hP _ hS => ?_)
    replace hP : va_P D classes (xW cI cZ cJ ao aa (sA S r (x3 - x2).toNatClampNeg (gA S r x3.toNatClampNeg))) H := pw (xt_row hr) hP
    refine lv_iinc (v := (x3 + 1)) (lv' := [(3, .int (x3 + 1)), (0, .ref (ao r)), (2, .int x2)]) hx hb d_Row_dropFirst_37 hl (k := 2) rfl rfl (by decide) rfl (fun ls hl => ?_)
    refine lv_goto (tgt := 15) hx hb d_Row_dropFirst_40 (by decide) ?_
    exact hk15 _ _ _ hf H locs ls hP hS (lv_sub hl [1, 2, 0] rfl)
theorem w_x_Row_dropFirst_b15 {r : Nat} (hr : r < 17) {z : St} (X : Cx b_Row_dropFirst 4 none R_Row D [(cI, .int), (cZ, .boolean), (cJ, .long)] (xA ao aa) (xW cI cZ cJ ao aa) p s m args meth c) : ∀ (n : Nat) (S : St) (x2 : Int32) (x3 : Int32), x_Row_dropFirst_b15 r n S x2 x3 = some z → WX rm_x_Row_dropFirst D (xA ao aa) (xW cI cZ cJ ao aa) p l e s m args below meth c none z 15 [] 4 [(0, .ref (ao r)), (2, .int x2), (3, .int x3)] S
  | 0, _, _, _, hf => ns hf
  | n + 1, _, _, _, hf => w_x_Row_dropFirst_b15_f hr X (w_x_Row_dropFirst_b15 hr X n) _ _ _ hf
set_option maxHeartbeats 4000000 in
set_option maxRecDepth 100000 in
theorem w_x_Row_dropFirst {r : Nat} (hr : r < 17) {z : St} (X : Cx b_Row_dropFirst 4 none R_Row D [(cI, .int), (cZ, .boolean), (cJ, .long)] (xA ao aa) (xW cI cZ cJ ao aa) p s m args meth c) (S : St) (x0 : Int32) (hf : x_Row_dropFirst r S x0 = some z) : WX rm_x_Row_dropFirst D (xA ao aa) (xW cI cZ cJ ao aa) p l e s m args below meth c none z 0 [] 4 [(0, .ref (ao r)), (1, .int x0)] S := by
  intro H locs ls hP hS hl
  obtain ⟨hx, hb, hr0, hml, hown, htg, hlk, hK, hN, hI⟩ := id X
  unfold x_Row_dropFirst at hf
  refine lv_iconst (v := 0) hx hb d_Row_dropFirst_0 (by decide) ?_
  refine lv_iload_n hx hb d_Row_dropFirst_1 rfl (lv_at hl 1 rfl) ?_
  refine lv_aload_n hx hb d_Row_dropFirst_2 rfl (lv_at hl 0 rfl) ?_
  refine va_get (D := D) (v := .int (gI S r)) hx hb htg in_Row hown hK hP r (xo_row hr) rfl 1 (by decide) (htg _ k_f_Row_21) (fun _ h9 => h9) rfl d_Row_dropFirst_3 ?_
  refine va_mmin hx hb (hml.trans hl.1.symm) hown (htg _ k_m_Row_25) (htg _ k_static_JMath_min) (htg _ k_initialized_JMath) (htg _ k_code_JMath_min) (by decide) (Nat.le_of_ble_eq_true rfl) (Nat.zero_le _) (Nat.zero_le _) d_Row_dropFirst_6 ?_
  refine va_mmax hx hb (hml.trans hl.1.symm) hown (htg _ k_m_Row_9) (htg _ k_static_JMath_max) (htg _ k_initialized_JMath) (htg _ k_code_JMath_max) (by decide) (Nat.le_of_ble_eq_true rfl) (Nat.zero_le _) (Nat.zero_le _) d_Row_dropFirst_9 ?_
  refine lv_istore_n (lv' := [(2, .int (if (0 : Int32) < (if (gI S r) < x0 then (gI S r) else x0) then (if (gI S r) < x0 then (gI S r) else x0) else (0 : Int32))), (0, .ref (ao r)), (1, .int x0)]) hx hb d_Row_dropFirst_12 rfl hl (by decide) rfl (fun ls hl => ?_)
  refine lv_iload_n hx hb d_Row_dropFirst_13 rfl (lv_at hl 0 rfl) ?_
  refine lv_istore_n (lv' := [(3, .int (if (0 : Int32) < (if (gI S r) < x0 then (gI S r) else x0) then (if (gI S r) < x0 then (gI S r) else x0) else (0 : Int32))), (2, .int (if (0 : Int32) < (if (gI S r) < x0 then (gI S r) else x0) then (if (gI S r) < x0 then (gI S r) else x0) else (0 : Int32))), (0, .ref (ao r)), (1, .int x0)]) hx hb d_Row_dropFirst_14 rfl hl (by decide) rfl (fun ls hl => ?_)
  exact w_x_Row_dropFirst_b15 hr X _ _ _ _ hf H locs ls hP hS (lv_sub hl [2, 1, 0] rfl)
theorem c_x_Row_dropFirst {l : Launch} {D : va_G} {cI cZ cJ : ClassId} {ao aa : Nat → Nat} {r : Nat} (hr : r < 17) {S : St} {x0 : Int32} {z : St} (hz : x_Row_dropFirst r S x0 = some z) : Ct l y_Row_dropFirst (.code y_Row_dropFirst b_Row_dropFirst 4 none :: gw) rm_x_Row_dropFirst D [(cI, .int), (cZ, .boolean), (cJ, .long)] (xA ao aa) (xW cI cZ cJ ao aa) [.ref (ao r), .int x0] S none z :=
  Ct_of (by decide) (fun p e s m args below meth c X => w_x_Row_dropFirst hr X _ _ hz) (Nat.le_of_ble_eq_true rfl)
def x_Things_firstOf_b2_f (k2 : St → Int64 → Int32 → Option (Int32 × St)) (S : St) (w1 : Int64) (x3 : Int32) : Option (Int32 × St) :=
  if (gI S 23) ≤ x3 then
    some ((-1 : Int32), S)
  else
    if (lg_cmp ((w1 >>> (x3.toInt64 &&& 63)) &&& (1 : Int64)) (0 : Int64)) = 0 then
      k2 S w1 (x3 + 1)
    else
      some (x3, S)
def x_Things_firstOf_b2 : Nat → St → Int64 → Int32 → Option (Int32 × St)
  | 0, _, _, _ => none
  | n + 1, S, w1, x3 => x_Things_firstOf_b2_f (x_Things_firstOf_b2 n) S w1 x3
def x_Things_firstOf (S : St) (w0 : Int64) : Option (Int32 × St) :=
  x_Things_firstOf_b2 fu S w0 (0 : Int32)
def rm_x_Things_firstOf : Room := { frames := 0, cells := 0, slots := 0, locals := 0 }
theorem ok_x_Things_firstOf : CalV y_Things_firstOf b_Things_firstOf 4 (some .int) 1 rm_x_Things_firstOf := ⟨kc_Things_firstOf, ki_Things_firstOf, kl_Things_firstOf, ji_Things, ⟨by decide, by decide, by decide +kernel⟩, rfl, rfl⟩
set_option maxHeartbeats 4000000 in
set_option maxRecDepth 100000 in
theorem w_x_Things_firstOf_b2_f {z : Int32 × St} (X : Cx b_Things_firstOf 4 (some .int) R_Things D [(cI, .int), (cZ, .boolean), (cJ, .long)] (xA ao aa) (xW cI cZ cJ ao aa) p s m args meth c) {k2 : St → Int64 → Int32 → Option (Int32 × St)} (hk2 : ∀ (S : St) (w1 : Int64) (x3 : Int32), k2 S w1 x3 = some z → WX rm_x_Things_firstOf D (xA ao aa) (xW cI cZ cJ ao aa) p l e s m args below meth c (some (.int z.1)) z.2 2 [] 4 [(0, .ref (ao 21)), (1, .long w1), (3, .int x3)] S) (S : St) (w1 : Int64) (x3 : Int32) (hf : x_Things_firstOf_b2_f k2 S w1 x3 = some z) : WX rm_x_Things_firstOf D (xA ao aa) (xW cI cZ cJ ao aa) p l e s m args below meth c (some (.int z.1)) z.2 2 [] 4 [(0, .ref (ao 21)), (1, .long w1), (3, .int x3)] S := by
  intro H locs ls hP hS hl
  obtain ⟨hx, hb, hr0, hml, hown, htg, hlk, hK, hN, hI⟩ := id X
  unfold x_Things_firstOf_b2_f at hf
  refine lv_iload_n hx hb d_Things_firstOf_2 rfl (lv_at hl 2 rfl) ?_
  refine lv_aload_n hx hb d_Things_firstOf_3 rfl (lv_at hl 0 rfl) ?_
  refine va_get (D := D) (v := .int (gI S 23)) hx hb htg in_Things hown hK hP 21 xo_21 rfl 3 (by decide) (htg _ k_f_Things_21) (fun _ h9 => h9) rfl d_Things_firstOf_4 ?_
  refine lv_icmp_ge (tgt := 28) hx hb d_Things_firstOf_7 (by decide) (fun c => ?_) (fun c => ?_)
  · have hf := if_t hf c
    refine lv_iconst (v := (-1)) hx hb d_Things_firstOf_28 (by decide) ?_
    obtain rfl := Option.some.inj hf
    exact W.iret hx hb hr0 (fun t ht _ => ⟨⟨rfl, by rw [ht]; exact hP⟩, hS.F ht⟩) hS.2.2 d_Things_firstOf_29 hlk
  · have hf := if_f hf c
    refine lv_lload_n hx hb d_Things_firstOf_10 rfl (lv_at hl 1 rfl) ?_
    refine lv_iload_n hx hb d_Things_firstOf_11 rfl (lv_at hl 2 rfl) ?_
    refine lv_lshr hx hb d_Things_firstOf_12 rfl ?_
    refine lv_lconst (v := 1) hx hb d_Things_firstOf_13 (by decide) ?_
    refine lv_land hx hb d_Things_firstOf_14 ?_
    refine lv_lconst (v := 0) hx hb d_Things_firstOf_15 (by decide) ?_
    refine W.lcmp hx hb d_Things_firstOf_16 ?_
    refine lv_if_eq (tgt := 22) hx hb d_Things_firstOf_17 (by decide) (fun c => ?_) (fun c => ?_)
    · have hf := if_t hf c
      refine lv_iinc (v := (x3 + 1)) (lv' := [(3, .int (x3 + 1)), (0, .ref (ao 21)), (1, .long w1)]) hx hb d_Things_firstOf_22 hl (k := 2) rfl rfl (by decide) rfl (fun ls hl => ?_)
      refine lv_goto (tgt := 2) hx hb d_Things_firstOf_25 (by decide) ?_
      exact hk2 _ _ _ hf H locs ls hP hS (lv_sub hl [1, 2, 0] rfl)
    · have hf := if_f hf c
      refine lv_iload_n hx hb d_Things_firstOf_20 rfl (lv_at hl 2 rfl) ?_
      obtain rfl := Option.some.inj hf
      exact W.iret hx hb hr0 (fun t ht _ => ⟨⟨rfl, by rw [ht]; exact hP⟩, hS.F ht⟩) hS.2.2 d_Things_firstOf_21 hlk
theorem w_x_Things_firstOf_b2 {z : Int32 × St} (X : Cx b_Things_firstOf 4 (some .int) R_Things D [(cI, .int), (cZ, .boolean), (cJ, .long)] (xA ao aa) (xW cI cZ cJ ao aa) p s m args meth c) : ∀ (n : Nat) (S : St) (w1 : Int64) (x3 : Int32), x_Things_firstOf_b2 n S w1 x3 = some z → WX rm_x_Things_firstOf D (xA ao aa) (xW cI cZ cJ ao aa) p l e s m args below meth c (some (.int z.1)) z.2 2 [] 4 [(0, .ref (ao 21)), (1, .long w1), (3, .int x3)] S
  | 0, _, _, _, hf => ns hf
  | n + 1, _, _, _, hf => w_x_Things_firstOf_b2_f X (w_x_Things_firstOf_b2 X n) _ _ _ hf
set_option maxHeartbeats 4000000 in
set_option maxRecDepth 100000 in
theorem w_x_Things_firstOf {z : Int32 × St} (X : Cx b_Things_firstOf 4 (some .int) R_Things D [(cI, .int), (cZ, .boolean), (cJ, .long)] (xA ao aa) (xW cI cZ cJ ao aa) p s m args meth c) (S : St) (w0 : Int64) (hf : x_Things_firstOf S w0 = some z) : WX rm_x_Things_firstOf D (xA ao aa) (xW cI cZ cJ ao aa) p l e s m args below meth c (some (.int z.1)) z.2 0 [] 4 [(0, .ref (ao 21)), (1, .long w0)] S := by
  intro H locs ls hP hS hl
  obtain ⟨hx, hb, hr0, hml, hown, htg, hlk, hK, hN, hI⟩ := id X
  unfold x_Things_firstOf at hf
  refine lv_iconst (v := 0) hx hb d_Things_firstOf_0 (by decide) ?_
  refine lv_istore_n (lv' := [(3, .int (0 : Int32)), (0, .ref (ao 21)), (1, .long w0)]) hx hb d_Things_firstOf_1 rfl hl (by decide) rfl (fun ls hl => ?_)
  exact w_x_Things_firstOf_b2 X _ _ _ _ hf H locs ls hP hS (lv_sub hl [1, 2, 0] rfl)
theorem c_x_Things_firstOf {l : Launch} {D : va_G} {cI cZ cJ : ClassId} {ao aa : Nat → Nat} {S : St} {w0 : Int64} {z : Int32 × St} (hz : x_Things_firstOf S w0 = some z) : Ct l y_Things_firstOf (.code y_Things_firstOf b_Things_firstOf 4 (some .int) :: gw) rm_x_Things_firstOf D [(cI, .int), (cZ, .boolean), (cJ, .long)] (xA ao aa) (xW cI cZ cJ ao aa) [.ref (ao 21), .long w0] S (some (.int z.1)) z.2 :=
  Ct_of (by decide) (fun p e s m args below meth c X => w_x_Things_firstOf X _ _ hz) (Nat.le_of_ble_eq_true rfl)
def x_G_takeOrder_b56 (S : St) (s0 : Int32) : Option (Int32 × St) :=
  if s0 = 0 then
    some ((-1 : Int32), S)
  else
    (x_Row_at 5 S (gI S 21)).bind fun q3 =>
    if q3.1 = (7 : Int32) then
      (x_Row_size 5 q3.2).bind fun q4 =>
      if ((gI S 21) + (1 : Int32)) < q4.1 then
        (x_Row_dropFirst 5 q4.2 ((gI S 21) + (1 : Int32))).bind fun q5 =>
        (x_Things_firstOf q5 (gL q5 2)).bind fun q6 =>
        some (q6.1, q6.2)
      else
        some ((-1 : Int32), q4.2)
    else
      some ((-1 : Int32), q3.2)
def x_G_takeOrder (S : St) : Option (Int32 × St) :=
  (x_Phrase_find_19 5 S (0 : Int32)).bind fun q1 =>
  if q1.1 = 0 then
    some ((-1 : Int32), q1.2)
  else
    (x_JLong_bitCount q1.2 (gL q1.2 2)).bind fun q2 =>
    if q2.1 = (1 : Int32) then
      if (lg_cmp ((gL q2.2 2) &&& (gL q2.2 7)) (0 : Int64)) = 0 then
        x_G_takeOrder_b56 q2.2 (0 : Int32)
      else
        x_G_takeOrder_b56 q2.2 (1 : Int32)
    else
      some ((-1 : Int32), q2.2)
def rm_x_G_takeOrder : Room := { frames := 2, cells := 0, slots := 0, locals := 53 }
theorem ok_x_G_takeOrder : CalV y_G_takeOrder b_G_takeOrder 3 (some .int) 0 rm_x_G_takeOrder := ⟨kc_G_takeOrder, ki_G_takeOrder, kl_G_takeOrder, ji_G, ⟨by decide, by decide, by decide +kernel⟩, rfl, rfl⟩
set_option maxHeartbeats 4000000 in
set_option maxRecDepth 100000 in
theorem w_x_G_takeOrder_b56 {z : Int32 × St} (X : Cx b_G_takeOrder 3 (some .int) R_G D [(cI, .int), (cZ, .boolean), (cJ, .long)] (xA ao aa) (xW cI cZ cJ ao aa) p s m args meth c) (S : St) (s0 : Int32) (hf : x_G_takeOrder_b56 S s0 = some z) : WX rm_x_G_takeOrder D (xA ao aa) (xW cI cZ cJ ao aa) p l e s m args below meth c (some (.int z.1)) z.2 56 [.int s0] 3 [(0, .ref (ao 27))] S := by
  intro H locs ls hP hS hl
  obtain ⟨hx, hb, hr0, hml, hown, htg, hlk, hK, hN, hI⟩ := id X
  unfold x_G_takeOrder_b56 at hf
  refine lv_istore_n (lv' := [(1, .int s0), (0, .ref (ao 27))]) hx hb d_G_takeOrder_56 rfl hl (by decide) rfl (fun ls hl => ?_)
  refine lv_aload_n hx hb d_G_takeOrder_57 rfl (lv_at hl 1 rfl) ?_
  refine va_get (D := D) (v := .ref (ao 19)) hx hb htg in_G hown hK hP 27 xo_27 rfl 8 (by decide) (htg _ k_f_G_60) (fun _ h9 => h9) rfl d_G_takeOrder_58 ?_
  refine va_getN (D := D) (v := .int (gI S 21)) hx hb htg in_Phrase hown hK hP 19 xo_19 rfl 2 (by decide) (va_Nw.use rfl (hN _ k_fn_G_271)) (fun _ h9 => h9) rfl d_G_takeOrder_61 ?_
  refine lv_istore_n (lv' := [(2, .int (gI S 21)), (1, .int s0), (0, .ref (ao 27))]) hx hb d_G_takeOrder_64 rfl hl (by decide) rfl (fun ls hl => ?_)
  refine lv_iload_n hx hb d_G_takeOrder_65 rfl (lv_at hl 1 rfl) ?_
  refine lv_if_eq (tgt := 95) hx hb d_G_takeOrder_66 (by decide) (fun c => ?_) (fun c => ?_)
  · have hf := if_t hf c
    refine lv_iconst (v := (-1)) hx hb d_G_takeOrder_95 (by decide) ?_
    obtain rfl := Option.some.inj hf
    exact W.iret hx hb hr0 (fun t ht _ => ⟨⟨rfl, by rw [ht]; exact hP⟩, hS.F ht⟩) hS.2.2 d_G_takeOrder_96 hlk
  · have hf := if_f hf c
    refine lv_aload_n hx hb d_G_takeOrder_69 rfl (lv_at hl 2 rfl) ?_
    refine va_get (D := D) (v := .ref (ao 5)) hx hb htg in_G hown hK hP 27 xo_27 rfl 4 (by decide) (htg _ k_f_G_42) (fun _ h9 => h9) rfl d_G_takeOrder_70 ?_
    refine lv_iload_n hx hb d_G_takeOrder_73 rfl (lv_at hl 0 rfl) ?_
    obtain ⟨q3, he, hf⟩ := ob_some hf
    refine cl_Vi (As := [.int (gI S 21)]) (rest := []) X (c_x_Row_at (by decide : 5 < 17) he) ok_x_Row_at k_m_G_234 (va_recv hK hP rfl (xo_row (by decide : 5 < 17))) rfl rfl hl.1 (Nat.le_of_ble_eq_true rfl) d_G_takeOrder_74 ⟨by decide, by decide⟩ hP hS (fun H locs hP hS => ?_)
    refine lv_bipush (v := 7) hx hb d_G_takeOrder_77 (by decide) ?_
    refine lv_icmp_ne (tgt := 95) hx hb d_G_takeOrder_79 (by decide) (fun c => ?_) (fun c => ?_)
    · have hf := if_f hf c
      refine lv_iconst (v := (-1)) hx hb d_G_takeOrder_95 (by decide) ?_
      obtain rfl := Option.some.inj hf
      exact W.iret hx hb hr0 (fun t ht _ => ⟨⟨rfl, by rw [ht]; exact hP⟩, hS.F ht⟩) hS.2.2 d_G_takeOrder_96 hlk
    · have hf := if_t hf c
      refine lv_aload_n hx hb d_G_takeOrder_82 rfl (lv_at hl 2 rfl) ?_
      refine va_get (D := D) (v := .ref (ao 5)) hx hb htg in_G hown hK hP 27 xo_27 rfl 4 (by decide) (htg _ k_f_G_42) (fun _ h9 => h9) rfl d_G_takeOrder_83 ?_
      obtain ⟨q4, he, hf⟩ := ob_some hf
      refine cl_Vi (As := []) (rest := []) X (c_x_Row_size (by decide : 5 < 17) he) ok_x_Row_size k_m_G_162 (va_recv hK hP rfl (xo_row (by decide : 5 < 17))) rfl rfl hl.1 (Nat.le_of_ble_eq_true rfl) d_G_takeOrder_86 ⟨by decide, by decide⟩ hP hS (fun H locs hP hS => ?_)
      refine lv_iload_n hx hb d_G_takeOrder_89 rfl (lv_at hl 0 rfl) ?_
      refine lv_iconst (v := 1) hx hb d_G_takeOrder_90 (by decide) ?_
      refine lv_iadd hx hb d_G_takeOrder_91 ?_
      refine lv_icmp_gt (tgt := 97) hx hb d_G_takeOrder_92 (by decide) (fun c => ?_) (fun c => ?_)
      · have hf := if_t hf c
        refine lv_aload_n hx hb d_G_takeOrder_97 rfl (lv_at hl 2 rfl) ?_
        refine va_get (D := D) (v := .ref (ao 5)) hx hb htg in_G hown hK hP 27 xo_27 rfl 4 (by decide) (htg _ k_f_G_42) (fun _ h9 => h9) rfl d_G_takeOrder_98 ?_
        refine lv_iload_n hx hb d_G_takeOrder_101 rfl (lv_at hl 0 rfl) ?_
        refine lv_iconst (v := 1) hx hb d_G_takeOrder_102 (by decide) ?_
        refine lv_iadd hx hb d_G_takeOrder_103 ?_
        obtain ⟨q5, he, hf⟩ := ob_some hf
        refine cl_Vv (As := [.int ((gI S 21) + (1 : Int32))]) (rest := []) X (c_x_Row_dropFirst (by decide : 5 < 17) he) ok_x_Row_dropFirst k_m_G_274 (va_recv hK hP rfl (xo_row (by decide : 5 < 17))) rfl rfl hl.1 (Nat.le_of_ble_eq_true rfl) d_G_takeOrder_104 ⟨by decide, by decide⟩ hP hS (fun H locs hP hS => ?_)
        refine lv_aload_n hx hb d_G_takeOrder_107 rfl (lv_at hl 2 rfl) ?_
        refine va_get (D := D) (v := .ref (ao 21)) hx hb htg in_G hown hK hP 27 xo_27 rfl 0 (by decide) (htg _ k_f_G_10) (fun _ h9 => h9) rfl d_G_takeOrder_108 ?_
        refine lv_aload_n hx hb d_G_takeOrder_111 rfl (lv_at hl 2 rfl) ?_
        refine va_get (D := D) (v := .ref (ao 19)) hx hb htg in_G hown hK hP 27 xo_27 rfl 8 (by decide) (htg _ k_f_G_60) (fun _ h9 => h9) rfl d_G_takeOrder_112 ?_
        refine va_getN (D := D) (v := .long (gL q5 2)) hx hb htg in_Phrase hown hK hP 19 xo_19 rfl 1 (by decide) (va_Nw.use rfl (hN _ k_fn_G_258)) (fun _ h9 => h9) rfl d_G_takeOrder_115 ?_
        obtain ⟨q6, he, hf⟩ := ob_some hf
        refine cl_Vi (As := [.long (gL q5 2)]) (rest := []) X (c_x_Things_firstOf he) ok_x_Things_firstOf k_m_G_277 (va_recv hK hP rfl xo_21) rfl rfl hl.1 (Nat.le_of_ble_eq_true rfl) d_G_takeOrder_118 ⟨by decide, by decide⟩ hP hS (fun H locs hP hS => ?_)
        obtain rfl := Option.some.inj hf
        exact W.iret hx hb hr0 (fun t ht _ => ⟨⟨rfl, by rw [ht]; exact hP⟩, hS.F ht⟩) hS.2.2 d_G_takeOrder_121 hlk
      · have hf := if_f hf c
        refine lv_iconst (v := (-1)) hx hb d_G_takeOrder_95 (by decide) ?_
        obtain rfl := Option.some.inj hf
        exact W.iret hx hb hr0 (fun t ht _ => ⟨⟨rfl, by rw [ht]; exact hP⟩, hS.F ht⟩) hS.2.2 d_G_takeOrder_96 hlk
set_option maxHeartbeats 4000000 in
set_option maxRecDepth 100000 in
theorem w_x_G_takeOrder {z : Int32 × St} (X : Cx b_G_takeOrder 3 (some .int) R_G D [(cI, .int), (cZ, .boolean), (cJ, .long)] (xA ao aa) (xW cI cZ cJ ao aa) p s m args meth c) (S : St) (hf : x_G_takeOrder S = some z) : WX rm_x_G_takeOrder D (xA ao aa) (xW cI cZ cJ ao aa) p l e s m args below meth c (some (.int z.1)) z.2 0 [] 3 [(0, .ref (ao 27))] S := by
  intro H locs ls hP hS hl
  obtain ⟨hx, hb, hr0, hml, hown, htg, hlk, hK, hN, hI⟩ := id X
  unfold x_G_takeOrder at hf
  refine lv_aload_n hx hb d_G_takeOrder_0 rfl (lv_at hl 0 rfl) ?_
  refine va_get (D := D) (v := .ref (ao 19)) hx hb htg in_G hown hK hP 27 xo_27 rfl 8 (by decide) (htg _ k_f_G_60) (fun _ h9 => h9) rfl d_G_takeOrder_1 ?_
  refine lv_aload_n hx hb d_G_takeOrder_4 rfl (lv_at hl 0 rfl) ?_
  refine va_get (D := D) (v := .ref (ao 5)) hx hb htg in_G hown hK hP 27 xo_27 rfl 4 (by decide) (htg _ k_f_G_42) (fun _ h9 => h9) rfl d_G_takeOrder_5 ?_
  refine lv_iconst (v := 0) hx hb d_G_takeOrder_8 (by decide) ?_
  obtain ⟨q1, he, hf⟩ := ob_some hf
  refine cl_Vi (As := [.ref (ao 5), .int (0 : Int32)]) (rest := []) X (c_x_Phrase_find_19 (by decide : 5 < 17) he) ok_x_Phrase_find_19 k_m_G_255 (va_recv hK hP rfl xo_19) rfl rfl hl.1 (Nat.le_of_ble_eq_true rfl) d_G_takeOrder_9 ⟨by decide, by decide⟩ hP hS (fun H locs hP hS => ?_)
  refine lv_if_eq (tgt := 29) hx hb d_G_takeOrder_12 (by decide) (fun c => ?_) (fun c => ?_)
  · have hf := if_t hf c
    refine lv_iconst (v := (-1)) hx hb d_G_takeOrder_29 (by decide) ?_
    obtain rfl := Option.some.inj hf
    exact W.iret hx hb hr0 (fun t ht _ => ⟨⟨rfl, by rw [ht]; exact hP⟩, hS.F ht⟩) hS.2.2 d_G_takeOrder_30 hlk
  · have hf := if_f hf c
    refine lv_aload_n hx hb d_G_takeOrder_15 rfl (lv_at hl 0 rfl) ?_
    refine va_get (D := D) (v := .ref (ao 19)) hx hb htg in_G hown hK hP 27 xo_27 rfl 8 (by decide) (htg _ k_f_G_60) (fun _ h9 => h9) rfl d_G_takeOrder_16 ?_
    refine va_getN (D := D) (v := .long (gL q1.2 2)) hx hb htg in_Phrase hown hK hP 19 xo_19 rfl 1 (by decide) (va_Nw.use rfl (hN _ k_fn_G_258)) (fun _ h9 => h9) rfl d_G_takeOrder_19 ?_
    obtain ⟨q2, he, hf⟩ := ob_some hf
    refine cl_Si (As := [.long (gL q1.2 2)]) (rest := []) X (c_x_JLong_bitCount he) ok_x_JLong_bitCount k_m_G_262 rfl rfl hl.1 (Nat.le_of_ble_eq_true rfl) d_G_takeOrder_22 ⟨by decide, by decide⟩ hP hS (fun H locs hP hS => ?_)
    refine lv_iconst (v := 1) hx hb d_G_takeOrder_25 (by decide) ?_
    refine lv_icmp_eq (tgt := 31) hx hb d_G_takeOrder_26 (by decide) (fun c => ?_) (fun c => ?_)
    · have hf := if_t hf c
      refine lv_aload_n hx hb d_G_takeOrder_31 rfl (lv_at hl 0 rfl) ?_
      refine va_get (D := D) (v := .ref (ao 19)) hx hb htg in_G hown hK hP 27 xo_27 rfl 8 (by decide) (htg _ k_f_G_60) (fun _ h9 => h9) rfl d_G_takeOrder_32 ?_
      refine va_getN (D := D) (v := .long (gL q2.2 2)) hx hb htg in_Phrase hown hK hP 19 xo_19 rfl 1 (by decide) (va_Nw.use rfl (hN _ k_fn_G_258)) (fun _ h9 => h9) rfl d_G_takeOrder_35 ?_
      refine lv_aload_n hx hb d_G_takeOrder_38 rfl (lv_at hl 0 rfl) ?_
      refine va_get (D := D) (v := .ref (ao 21)) hx hb htg in_G hown hK hP 27 xo_27 rfl 0 (by decide) (htg _ k_f_G_10) (fun _ h9 => h9) rfl d_G_takeOrder_39 ?_
      refine va_getN (D := D) (v := .long (gL q2.2 7)) hx hb htg in_Things hown hK hP 21 xo_21 rfl 7 (by decide) (va_Nw.use rfl (hN _ k_fn_G_268)) (fun _ h9 => h9) rfl d_G_takeOrder_42 ?_
      refine lv_land hx hb d_G_takeOrder_45 ?_
      refine lv_lconst (v := 0) hx hb d_G_takeOrder_46 (by decide) ?_
      refine W.lcmp hx hb d_G_takeOrder_47 ?_
      refine lv_if_eq (tgt := 55) hx hb d_G_takeOrder_48 (by decide) (fun c => ?_) (fun c => ?_)
      · have hf := if_t hf c
        refine lv_iconst (v := 0) hx hb d_G_takeOrder_55 (by decide) ?_
        exact w_x_G_takeOrder_b56 X _ _ hf H locs ls hP hS (lv_sub hl [0] rfl)
      · have hf := if_f hf c
        refine lv_iconst (v := 1) hx hb d_G_takeOrder_51 (by decide) ?_
        refine lv_goto (tgt := 56) hx hb d_G_takeOrder_52 (by decide) ?_
        exact w_x_G_takeOrder_b56 X _ _ hf H locs ls hP hS (lv_sub hl [0] rfl)
    · have hf := if_f hf c
      refine lv_iconst (v := (-1)) hx hb d_G_takeOrder_29 (by decide) ?_
      obtain rfl := Option.some.inj hf
      exact W.iret hx hb hr0 (fun t ht _ => ⟨⟨rfl, by rw [ht]; exact hP⟩, hS.F ht⟩) hS.2.2 d_G_takeOrder_30 hlk
theorem c_x_G_takeOrder {l : Launch} {D : va_G} {cI cZ cJ : ClassId} {ao aa : Nat → Nat} {S : St} {z : Int32 × St} (hz : x_G_takeOrder S = some z) : Ct l y_G_takeOrder (.code y_G_takeOrder b_G_takeOrder 3 (some .int) :: gw) rm_x_G_takeOrder D [(cI, .int), (cZ, .boolean), (cJ, .long)] (xA ao aa) (xW cI cZ cJ ao aa) [.ref (ao 27)] S (some (.int z.1)) z.2 :=
  Ct_of (by decide) (fun p e s m args below meth c X => w_x_G_takeOrder X _ hz) (Nat.le_of_ble_eq_true rfl)
def x_G_isJoin (S : St) (x0 : Int32) : Option (Int32 × St) :=
  if x0 = (1 : Int32) then
    some ((1 : Int32), S)
  else
    if x0 = (7 : Int32) then
      some ((1 : Int32), S)
    else
      some ((0 : Int32), S)
def rm_x_G_isJoin : Room := { frames := 0, cells := 0, slots := 0, locals := 0 }
theorem ok_x_G_isJoin : CalS y_G_isJoin b_G_isJoin 1 (some .boolean) 1 rm_x_G_isJoin := ⟨kc_G_isJoin, ks_G_isJoin, ji_G, ⟨by decide, by decide, by decide +kernel⟩, rfl, rfl⟩
set_option maxHeartbeats 4000000 in
set_option maxRecDepth 100000 in
theorem w_x_G_isJoin {z : Int32 × St} (X : Cx b_G_isJoin 1 (some .boolean) R_G D [(cI, .int), (cZ, .boolean), (cJ, .long)] (xA ao aa) (xW cI cZ cJ ao aa) p s m args meth c) (S : St) (x0 : Int32) (hf : x_G_isJoin S x0 = some z) : WX rm_x_G_isJoin D (xA ao aa) (xW cI cZ cJ ao aa) p l e s m args below meth c (some (.int z.1)) z.2 0 [] 1 [(0, .int x0)] S := by
  intro H locs ls hP hS hl
  obtain ⟨hx, hb, hr0, hml, hown, htg, hlk, hK, hN, hI⟩ := id X
  unfold x_G_isJoin at hf
  refine lv_iload_n hx hb d_G_isJoin_0 rfl (lv_at hl 0 rfl) ?_
  refine lv_iconst (v := 1) hx hb d_G_isJoin_1 (by decide) ?_
  refine lv_icmp_eq (tgt := 11) hx hb d_G_isJoin_2 (by decide) (fun c => ?_) (fun c => ?_)
  · have hf := if_t hf c
    refine lv_iconst (v := 1) hx hb d_G_isJoin_11 (by decide) ?_
    refine lv_goto (tgt := 16) hx hb d_G_isJoin_12 (by decide) ?_
    obtain rfl := Option.some.inj hf
    exact W.zret (ty := .boolean) hx hb hr0 rfl (fun t ht _ => ⟨⟨rfl, by rw [ht]; exact hP⟩, hS.F ht⟩) hS.2.2 d_G_isJoin_16 hlk
  · have hf := if_f hf c
    refine lv_iload_n hx hb d_G_isJoin_5 rfl (lv_at hl 0 rfl) ?_
    refine lv_bipush (v := 7) hx hb d_G_isJoin_6 (by decide) ?_
    refine lv_icmp_ne (tgt := 15) hx hb d_G_isJoin_8 (by decide) (fun c => ?_) (fun c => ?_)
    · have hf := if_f hf c
      refine lv_iconst (v := 0) hx hb d_G_isJoin_15 (by decide) ?_
      obtain rfl := Option.some.inj hf
      exact W.zret (ty := .boolean) hx hb hr0 rfl (fun t ht _ => ⟨⟨rfl, by rw [ht]; exact hP⟩, hS.F ht⟩) hS.2.2 d_G_isJoin_16 hlk
    · have hf := if_t hf c
      refine lv_iconst (v := 1) hx hb d_G_isJoin_11 (by decide) ?_
      refine lv_goto (tgt := 16) hx hb d_G_isJoin_12 (by decide) ?_
      obtain rfl := Option.some.inj hf
      exact W.zret (ty := .boolean) hx hb hr0 rfl (fun t ht _ => ⟨⟨rfl, by rw [ht]; exact hP⟩, hS.F ht⟩) hS.2.2 d_G_isJoin_16 hlk
theorem c_x_G_isJoin {l : Launch} {D : va_G} {cI cZ cJ : ClassId} {ao aa : Nat → Nat} {S : St} {x0 : Int32} {z : Int32 × St} (hz : x_G_isJoin S x0 = some z) : Ct l y_G_isJoin (.code y_G_isJoin b_G_isJoin 1 (some .boolean) :: gw) rm_x_G_isJoin D [(cI, .int), (cZ, .boolean), (cJ, .long)] (xA ao aa) (xW cI cZ cJ ao aa) [.int x0] S (some (.int z.1)) z.2 :=
  Ct_of (by decide) (fun p e s m args below meth c X => w_x_G_isJoin X _ _ hz) (Nat.le_of_ble_eq_true rfl)
def x_G_endsCommand (S : St) (x0 : Int32) : Option (Int32 × St) :=
  (x_Row_at 5 S x0).bind fun q1 =>
  if q1.1 = (2 : Int32) then
    some ((1 : Int32), q1.2)
  else
    (x_G_isJoin q1.2 q1.1).bind fun q2 =>
    if q2.1 = 0 then
      some ((0 : Int32), q2.2)
    else
      (x_Row_at 5 q2.2 (x0 + (1 : Int32))).bind fun q3 =>
      (x_Verbs_find q3.2 q3.1).bind fun q4 =>
      if q4.1 = (-1 : Int32) then
        some ((0 : Int32), q4.2)
      else
        some ((1 : Int32), q4.2)
def rm_x_G_endsCommand : Room := { frames := 2, cells := 0, slots := 0, locals := 43 }
theorem ok_x_G_endsCommand : CalV y_G_endsCommand b_G_endsCommand 3 (some .boolean) 1 rm_x_G_endsCommand := ⟨kc_G_endsCommand, ki_G_endsCommand, kl_G_endsCommand, ji_G, ⟨by decide, by decide, by decide +kernel⟩, rfl, rfl⟩
set_option maxHeartbeats 4000000 in
set_option maxRecDepth 100000 in
theorem w_x_G_endsCommand {z : Int32 × St} (X : Cx b_G_endsCommand 3 (some .boolean) R_G D [(cI, .int), (cZ, .boolean), (cJ, .long)] (xA ao aa) (xW cI cZ cJ ao aa) p s m args meth c) (S : St) (x0 : Int32) (hf : x_G_endsCommand S x0 = some z) : WX rm_x_G_endsCommand D (xA ao aa) (xW cI cZ cJ ao aa) p l e s m args below meth c (some (.int z.1)) z.2 0 [] 3 [(0, .ref (ao 27)), (1, .int x0)] S := by
  intro H locs ls hP hS hl
  obtain ⟨hx, hb, hr0, hml, hown, htg, hlk, hK, hN, hI⟩ := id X
  unfold x_G_endsCommand at hf
  refine lv_aload_n hx hb d_G_endsCommand_0 rfl (lv_at hl 0 rfl) ?_
  refine va_get (D := D) (v := .ref (ao 5)) hx hb htg in_G hown hK hP 27 xo_27 rfl 4 (by decide) (htg _ k_f_G_42) (fun _ h9 => h9) rfl d_G_endsCommand_1 ?_
  refine lv_iload_n hx hb d_G_endsCommand_4 rfl (lv_at hl 1 rfl) ?_
  obtain ⟨q1, he, hf⟩ := ob_some hf
  refine cl_Vi (As := [.int x0]) (rest := []) X (c_x_Row_at (by decide : 5 < 17) he) ok_x_Row_at k_m_G_234 (va_recv hK hP rfl (xo_row (by decide : 5 < 17))) rfl rfl hl.1 (Nat.le_of_ble_eq_true rfl) d_G_endsCommand_5 ⟨by decide, by decide⟩ hP hS (fun H locs hP hS => ?_)
  refine lv_istore_n (lv' := [(2, .int q1.1), (0, .ref (ao 27)), (1, .int x0)]) hx hb d_G_endsCommand_8 rfl hl (by decide) rfl (fun ls hl => ?_)
  refine lv_iload_n hx hb d_G_endsCommand_9 rfl (lv_at hl 0 rfl) ?_
  refine lv_iconst (v := 2) hx hb d_G_endsCommand_10 (by decide) ?_
  refine lv_icmp_eq (tgt := 42) hx hb d_G_endsCommand_11 (by decide) (fun c => ?_) (fun c => ?_)
  · have hf := if_t hf c
    refine lv_iconst (v := 1) hx hb d_G_endsCommand_42 (by decide) ?_
    refine lv_goto (tgt := 47) hx hb d_G_endsCommand_43 (by decide) ?_
    obtain rfl := Option.some.inj hf
    exact W.zret (ty := .boolean) hx hb hr0 rfl (fun t ht _ => ⟨⟨rfl, by rw [ht]; exact hP⟩, hS.F ht⟩) hS.2.2 d_G_endsCommand_47 hlk
  · have hf := if_f hf c
    refine lv_iload_n hx hb d_G_endsCommand_14 rfl (lv_at hl 0 rfl) ?_
    obtain ⟨q2, he, hf⟩ := ob_some hf
    refine cl_Si (As := [.int q1.1]) (rest := []) X (c_x_G_isJoin he) ok_x_G_isJoin k_m_G_283 rfl rfl hl.1 (Nat.le_of_ble_eq_true rfl) d_G_endsCommand_15 ⟨by decide, by decide⟩ hP hS (fun H locs hP hS => ?_)
    refine lv_if_eq (tgt := 46) hx hb d_G_endsCommand_18 (by decide) (fun c => ?_) (fun c => ?_)
    · have hf := if_t hf c
      refine lv_iconst (v := 0) hx hb d_G_endsCommand_46 (by decide) ?_
      obtain rfl := Option.some.inj hf
      exact W.zret (ty := .boolean) hx hb hr0 rfl (fun t ht _ => ⟨⟨rfl, by rw [ht]; exact hP⟩, hS.F ht⟩) hS.2.2 d_G_endsCommand_47 hlk
    · have hf := if_f hf c
      refine lv_aload_n hx hb d_G_endsCommand_21 rfl (lv_at hl 1 rfl) ?_
      refine va_get (D := D) (v := .ref (ao 22)) hx hb htg in_G hown hK hP 27 xo_27 rfl 1 (by decide) (htg _ k_f_G_19) (fun _ h9 => h9) rfl d_G_endsCommand_22 ?_
      refine lv_aload_n hx hb d_G_endsCommand_25 rfl (lv_at hl 1 rfl) ?_
      refine va_get (D := D) (v := .ref (ao 5)) hx hb htg in_G hown hK hP 27 xo_27 rfl 4 (by decide) (htg _ k_f_G_42) (fun _ h9 => h9) rfl d_G_endsCommand_26 ?_
      refine lv_iload_n hx hb d_G_endsCommand_29 rfl (lv_at hl 2 rfl) ?_
      refine lv_iconst (v := 1) hx hb d_G_endsCommand_30 (by decide) ?_
      refine lv_iadd hx hb d_G_endsCommand_31 ?_
      obtain ⟨q3, he, hf⟩ := ob_some hf
      refine cl_Vi (As := [.int (x0 + (1 : Int32))]) (rest := [.ref (ao 22)]) X (c_x_Row_at (by decide : 5 < 17) he) ok_x_Row_at k_m_G_234 (va_recv hK hP rfl (xo_row (by decide : 5 < 17))) rfl rfl hl.1 (Nat.le_of_ble_eq_true rfl) d_G_endsCommand_32 ⟨by decide, by decide⟩ hP hS (fun H locs hP hS => ?_)
      obtain ⟨q4, he, hf⟩ := ob_some hf
      refine cl_Vi (As := [.int q3.1]) (rest := []) X (c_x_Verbs_find he) ok_x_Verbs_find k_m_G_192 (va_recv hK hP rfl xo_22) rfl rfl hl.1 (Nat.le_of_ble_eq_true rfl) d_G_endsCommand_35 ⟨by decide, by decide⟩ hP hS (fun H locs hP hS => ?_)
      refine lv_iconst (v := (-1)) hx hb d_G_endsCommand_38 (by decide) ?_
      refine lv_icmp_eq (tgt := 46) hx hb d_G_endsCommand_39 (by decide) (fun c => ?_) (fun c => ?_)
      · have hf := if_t hf c
        refine lv_iconst (v := 0) hx hb d_G_endsCommand_46 (by decide) ?_
        obtain rfl := Option.some.inj hf
        exact W.zret (ty := .boolean) hx hb hr0 rfl (fun t ht _ => ⟨⟨rfl, by rw [ht]; exact hP⟩, hS.F ht⟩) hS.2.2 d_G_endsCommand_47 hlk
      · have hf := if_f hf c
        refine lv_iconst (v := 1) hx hb d_G_endsCommand_42 (by decide) ?_
        refine lv_goto (tgt := 47) hx hb d_G_endsCommand_43 (by decide) ?_
        obtain rfl := Option.some.inj hf
        exact W.zret (ty := .boolean) hx hb hr0 rfl (fun t ht _ => ⟨⟨rfl, by rw [ht]; exact hP⟩, hS.F ht⟩) hS.2.2 d_G_endsCommand_47 hlk
theorem c_x_G_endsCommand {l : Launch} {D : va_G} {cI cZ cJ : ClassId} {ao aa : Nat → Nat} {S : St} {x0 : Int32} {z : Int32 × St} (hz : x_G_endsCommand S x0 = some z) : Ct l y_G_endsCommand (.code y_G_endsCommand b_G_endsCommand 3 (some .boolean) :: gw) rm_x_G_endsCommand D [(cI, .int), (cZ, .boolean), (cJ, .long)] (xA ao aa) (xW cI cZ cJ ao aa) [.ref (ao 27), .int x0] S (some (.int z.1)) z.2 :=
  Ct_of (by decide) (fun p e s m args below meth c X => w_x_G_endsCommand X _ _ hz) (Nat.le_of_ble_eq_true rfl)
def x_G_takeCommand_b49 (S : St) (x1 : Int32) : Option (St) :=
  (x_Row_dropFirst 5 S (x1 + (1 : Int32))).bind fun q3 =>
  some q3
def x_G_takeCommand_b9_f (k9 : St → Int32 → Option (St)) (S : St) (x1 : Int32) : Option (St) :=
  (x_Row_size 5 S).bind fun q2 =>
  if q2.1 ≤ x1 then
    x_G_takeCommand_b49 q2.2 x1
  else
    (x_G_endsCommand q2.2 x1).bind fun q4 =>
    if q4.1 = 0 then
      (x_Row_at 5 q4.2 x1).bind fun q5 =>
      (x_Row_add 7 q5.2 q5.1).bind fun q6 =>
      k9 q6 (x1 + 1)
    else
      x_G_takeCommand_b49 q4.2 x1
def x_G_takeCommand_b9 : Nat → St → Int32 → Option (St)
  | 0, _, _ => none
  | n + 1, S, x1 => x_G_takeCommand_b9_f (x_G_takeCommand_b9 n) S x1
def x_G_takeCommand (S : St) : Option (St) :=
  (x_Row_empty 7 S).bind fun q1 =>
  x_G_takeCommand_b9 fu q1 (0 : Int32)
def rm_x_G_takeCommand : Room := { frames := 3, cells := 0, slots := 0, locals := 65 }
theorem ok_x_G_takeCommand : CalV y_G_takeCommand b_G_takeCommand 2 none 0 rm_x_G_takeCommand := ⟨kc_G_takeCommand, ki_G_takeCommand, kl_G_takeCommand, ji_G, ⟨by decide, by decide, by decide +kernel⟩, rfl, rfl⟩
set_option maxHeartbeats 4000000 in
set_option maxRecDepth 100000 in
theorem w_x_G_takeCommand_b49 {z : St} (X : Cx b_G_takeCommand 2 none R_G D [(cI, .int), (cZ, .boolean), (cJ, .long)] (xA ao aa) (xW cI cZ cJ ao aa) p s m args meth c) (S : St) (x1 : Int32) (hf : x_G_takeCommand_b49 S x1 = some z) : WX rm_x_G_takeCommand D (xA ao aa) (xW cI cZ cJ ao aa) p l e s m args below meth c none z 49 [] 2 [(0, .ref (ao 27)), (1, .int x1)] S := by
  intro H locs ls hP hS hl
  obtain ⟨hx, hb, hr0, hml, hown, htg, hlk, hK, hN, hI⟩ := id X
  unfold x_G_takeCommand_b49 at hf
  refine lv_aload_n hx hb d_G_takeCommand_49 rfl (lv_at hl 0 rfl) ?_
  refine va_get (D := D) (v := .ref (ao 5)) hx hb htg in_G hown hK hP 27 xo_27 rfl 4 (by decide) (htg _ k_f_G_42) (fun _ h9 => h9) rfl d_G_takeCommand_50 ?_
  refine lv_iload_n hx hb d_G_takeCommand_53 rfl (lv_at hl 1 rfl) ?_
  refine lv_iconst (v := 1) hx hb d_G_takeCommand_54 (by decide) ?_
  refine lv_iadd hx hb d_G_takeCommand_55 ?_
  obtain ⟨q3, he, hf⟩ := ob_some hf
  refine cl_Vv (As := [.int (x1 + (1 : Int32))]) (rest := []) X (c_x_Row_dropFirst (by decide : 5 < 17) he) ok_x_Row_dropFirst k_m_G_274 (va_recv hK hP rfl (xo_row (by decide : 5 < 17))) rfl rfl hl.1 (Nat.le_of_ble_eq_true rfl) d_G_takeCommand_56 ⟨by decide, by decide⟩ hP hS (fun H locs hP hS => ?_)
  obtain rfl := Option.some.inj hf
  exact W.vret hx hb hr0 (fun t ht _ => ⟨⟨rfl, by rw [ht]; exact hP⟩, hS.F ht⟩) hS.2.2 d_G_takeCommand_59 hlk
set_option maxHeartbeats 4000000 in
set_option maxRecDepth 100000 in
theorem w_x_G_takeCommand_b9_f {z : St} (X : Cx b_G_takeCommand 2 none R_G D [(cI, .int), (cZ, .boolean), (cJ, .long)] (xA ao aa) (xW cI cZ cJ ao aa) p s m args meth c) {k9 : St → Int32 → Option (St)} (hk9 : ∀ (S : St) (x1 : Int32), k9 S x1 = some z → WX rm_x_G_takeCommand D (xA ao aa) (xW cI cZ cJ ao aa) p l e s m args below meth c none z 9 [] 2 [(0, .ref (ao 27)), (1, .int x1)] S) (S : St) (x1 : Int32) (hf : x_G_takeCommand_b9_f k9 S x1 = some z) : WX rm_x_G_takeCommand D (xA ao aa) (xW cI cZ cJ ao aa) p l e s m args below meth c none z 9 [] 2 [(0, .ref (ao 27)), (1, .int x1)] S := by
  intro H locs ls hP hS hl
  obtain ⟨hx, hb, hr0, hml, hown, htg, hlk, hK, hN, hI⟩ := id X
  unfold x_G_takeCommand_b9_f at hf
  refine lv_iload_n hx hb d_G_takeCommand_9 rfl (lv_at hl 1 rfl) ?_
  refine lv_aload_n hx hb d_G_takeCommand_10 rfl (lv_at hl 0 rfl) ?_
  refine va_get (D := D) (v := .ref (ao 5)) hx hb htg in_G hown hK hP 27 xo_27 rfl 4 (by decide) (htg _ k_f_G_42) (fun _ h9 => h9) rfl d_G_takeCommand_11 ?_
  obtain ⟨q2, he, hf⟩ := ob_some hf
  refine cl_Vi (As := []) (rest := [.int x1]) X (c_x_Row_size (by decide : 5 < 17) he) ok_x_Row_size k_m_G_162 (va_recv hK hP rfl (xo_row (by decide : 5 < 17))) rfl rfl hl.1 (Nat.le_of_ble_eq_true rfl) d_G_takeCommand_14 ⟨by decide, by decide⟩ hP hS (fun H locs hP hS => ?_)
  refine lv_icmp_ge (tgt := 49) hx hb d_G_takeCommand_17 (by decide) (fun c => ?_) (fun c => ?_)
  · have hf := if_t hf c
    exact w_x_G_takeCommand_b49 X _ _ hf H locs ls hP hS (lv_sub hl [0, 1] rfl)
  · have hf := if_f hf c
    refine lv_aload_n hx hb d_G_takeCommand_20 rfl (lv_at hl 0 rfl) ?_
    refine lv_iload_n hx hb d_G_takeCommand_21 rfl (lv_at hl 1 rfl) ?_
    obtain ⟨q4, he, hf⟩ := ob_some hf
    refine cl_Vi (As := [.int x1]) (rest := []) X (c_x_G_endsCommand he) ok_x_G_endsCommand k_m_G_280 (va_recv hK hP rfl xo_27) rfl rfl hl.1 (Nat.le_of_ble_eq_true rfl) d_G_takeCommand_22 ⟨by decide, by decide⟩ hP hS (fun H locs hP hS => ?_)
    refine lv_if_ne (tgt := 49) hx hb d_G_takeCommand_25 (by decide) (fun c => ?_) (fun c => ?_)
    · have hf := if_f hf c
      exact w_x_G_takeCommand_b49 X _ _ hf H locs ls hP hS (lv_sub hl [0, 1] rfl)
    · have hf := if_t hf c
      refine lv_aload_n hx hb d_G_takeCommand_28 rfl (lv_at hl 0 rfl) ?_
      refine va_get (D := D) (v := .ref (ao 7)) hx hb htg in_G hown hK hP 27 xo_27 rfl 6 (by decide) (htg _ k_f_G_49) (fun _ h9 => h9) rfl d_G_takeCommand_29 ?_
      refine lv_aload_n hx hb d_G_takeCommand_32 rfl (lv_at hl 0 rfl) ?_
      refine va_get (D := D) (v := .ref (ao 5)) hx hb htg in_G hown hK hP 27 xo_27 rfl 4 (by decide) (htg _ k_f_G_42) (fun _ h9 => h9) rfl d_G_takeCommand_33 ?_
      refine lv_iload_n hx hb d_G_takeCommand_36 rfl (lv_at hl 1 rfl) ?_
      obtain ⟨q5, he, hf⟩ := ob_some hf
      refine cl_Vi (As := [.int x1]) (rest := [.ref (ao 7)]) X (c_x_Row_at (by decide : 5 < 17) he) ok_x_Row_at k_m_G_234 (va_recv hK hP rfl (xo_row (by decide : 5 < 17))) rfl rfl hl.1 (Nat.le_of_ble_eq_true rfl) d_G_takeCommand_37 ⟨by decide, by decide⟩ hP hS (fun H locs hP hS => ?_)
      obtain ⟨q6, he, hf⟩ := ob_some hf
      refine cl_Vv (As := [.int q5.1]) (rest := []) X (c_x_Row_add (by decide : 7 < 17) he) ok_x_Row_add k_m_G_165 (va_recv hK hP rfl (xo_row (by decide : 7 < 17))) rfl rfl hl.1 (Nat.le_of_ble_eq_true rfl) d_G_takeCommand_40 ⟨by decide, by decide⟩ hP hS (fun H locs hP hS => ?_)
      refine lv_iinc (v := (x1 + 1)) (lv' := [(1, .int (x1 + 1)), (0, .ref (ao 27))]) hx hb d_G_takeCommand_43 hl (k := 1) rfl rfl (by decide) rfl (fun ls hl => ?_)
      refine lv_goto (tgt := 9) hx hb d_G_takeCommand_46 (by decide) ?_
      exact hk9 _ _ hf H locs ls hP hS (lv_sub hl [1, 0] rfl)
theorem w_x_G_takeCommand_b9 {z : St} (X : Cx b_G_takeCommand 2 none R_G D [(cI, .int), (cZ, .boolean), (cJ, .long)] (xA ao aa) (xW cI cZ cJ ao aa) p s m args meth c) : ∀ (n : Nat) (S : St) (x1 : Int32), x_G_takeCommand_b9 n S x1 = some z → WX rm_x_G_takeCommand D (xA ao aa) (xW cI cZ cJ ao aa) p l e s m args below meth c none z 9 [] 2 [(0, .ref (ao 27)), (1, .int x1)] S
  | 0, _, _, hf => ns hf
  | n + 1, _, _, hf => w_x_G_takeCommand_b9_f X (w_x_G_takeCommand_b9 X n) _ _ hf
set_option maxHeartbeats 4000000 in
set_option maxRecDepth 100000 in
theorem w_x_G_takeCommand {z : St} (X : Cx b_G_takeCommand 2 none R_G D [(cI, .int), (cZ, .boolean), (cJ, .long)] (xA ao aa) (xW cI cZ cJ ao aa) p s m args meth c) (S : St) (hf : x_G_takeCommand S = some z) : WX rm_x_G_takeCommand D (xA ao aa) (xW cI cZ cJ ao aa) p l e s m args below meth c none z 0 [] 2 [(0, .ref (ao 27))] S := by
  intro H locs ls hP hS hl
  obtain ⟨hx, hb, hr0, hml, hown, htg, hlk, hK, hN, hI⟩ := id X
  unfold x_G_takeCommand at hf
  refine lv_aload_n hx hb d_G_takeCommand_0 rfl (lv_at hl 0 rfl) ?_
  refine va_get (D := D) (v := .ref (ao 7)) hx hb htg in_G hown hK hP 27 xo_27 rfl 6 (by decide) (htg _ k_f_G_49) (fun _ h9 => h9) rfl d_G_takeCommand_1 ?_
  obtain ⟨q1, he, hf⟩ := ob_some hf
  refine cl_Vv (As := []) (rest := []) X (c_x_Row_empty (by decide : 7 < 17) he) ok_x_Row_empty k_m_G_167 (va_recv hK hP rfl (xo_row (by decide : 7 < 17))) rfl rfl hl.1 (Nat.le_of_ble_eq_true rfl) d_G_takeCommand_4 ⟨by decide, by decide⟩ hP hS (fun H locs hP hS => ?_)
  refine lv_iconst (v := 0) hx hb d_G_takeCommand_7 (by decide) ?_
  refine lv_istore_n (lv' := [(1, .int (0 : Int32)), (0, .ref (ao 27))]) hx hb d_G_takeCommand_8 rfl hl (by decide) rfl (fun ls hl => ?_)
  exact w_x_G_takeCommand_b9 X _ _ _ hf H locs ls hP hS (lv_sub hl [1, 0] rfl)
theorem c_x_G_takeCommand {l : Launch} {D : va_G} {cI cZ cJ : ClassId} {ao aa : Nat → Nat} {S : St} {z : St} (hz : x_G_takeCommand S = some z) : Ct l y_G_takeCommand (.code y_G_takeCommand b_G_takeCommand 2 none :: gw) rm_x_G_takeCommand D [(cI, .int), (cZ, .boolean), (cJ, .long)] (xA ao aa) (xW cI cZ cJ ao aa) [.ref (ao 27)] S none z :=
  Ct_of (by decide) (fun p e s m args below meth c X => w_x_G_takeCommand X _ hz) (Nat.le_of_ble_eq_true rfl)
def x_Row_become_b6_f (r : Nat) (r1 : Nat) (k6 : St → Int32 → Option (St)) (S : St) (x2 : Int32) : Option (St) :=
  if (gI S r1) ≤ x2 then
    some S
  else
    gd (vin x2 (xcap r1)) <|
    (x_Row_add r S (gA S r1 x2.toNatClampNeg)).bind fun q2 =>
    k6 q2 (x2 + 1)
def x_Row_become_b6 (r : Nat) (r1 : Nat) : Nat → St → Int32 → Option (St)
  | 0, _, _ => none
  | n + 1, S, x2 => x_Row_become_b6_f r r1 (x_Row_become_b6 r r1 n) S x2
def x_Row_become (r : Nat) (r1 : Nat) (S : St) : Option (St) :=
  (x_Row_empty r S).bind fun q1 =>
  x_Row_become_b6 r r1 fu q1 (0 : Int32)
def rm_x_Row_become : Room := { frames := 1, cells := 0, slots := 0, locals := 21 }
theorem ok_x_Row_become : CalV y_Row_become b_Row_become 3 none 1 rm_x_Row_become := ⟨kc_Row_become, ki_Row_become, kl_Row_become, ji_Row, ⟨by decide, by decide, by decide +kernel⟩, rfl, rfl⟩
set_option maxHeartbeats 4000000 in
set_option maxRecDepth 100000 in
theorem w_x_Row_become_b6_f {r : Nat} {r1 : Nat} (hr : r < 17) (hr1 : r1 < 17) {z : St} (X : Cx b_Row_become 3 none R_Row D [(cI, .int), (cZ, .boolean), (cJ, .long)] (xA ao aa) (xW cI cZ cJ ao aa) p s m args meth c) {k6 : St → Int32 → Option (St)} (hk6 : ∀ (S : St) (x2 : Int32), k6 S x2 = some z → WX rm_x_Row_become D (xA ao aa) (xW cI cZ cJ ao aa) p l e s m args below meth c none z 6 [] 3 [(0, .ref (ao r)), (1, .ref (ao r1)), (2, .int x2)] S) (S : St) (x2 : Int32) (hf : x_Row_become_b6_f r r1 k6 S x2 = some z) : WX rm_x_Row_become D (xA ao aa) (xW cI cZ cJ ao aa) p l e s m args below meth c none z 6 [] 3 [(0, .ref (ao r)), (1, .ref (ao r1)), (2, .int x2)] S := by
  intro H locs ls hP hS hl
  obtain ⟨hx, hb, hr0, hml, hown, htg, hlk, hK, hN, hI⟩ := id X
  unfold x_Row_become_b6_f at hf
  refine lv_iload_n hx hb d_Row_become_6 rfl (lv_at hl 2 rfl) ?_
  refine lv_aload_n hx hb d_Row_become_7 rfl (lv_at hl 1 rfl) ?_
  refine va_get (D := D) (v := .int (gI S r1)) hx hb htg in_Row hown hK hP r1 (xo_row hr1) rfl 1 (by decide) (htg _ k_f_Row_21) (fun _ h9 => h9) rfl d_Row_become_8 ?_
  refine lv_icmp_ge (tgt := 30) hx hb d_Row_become_11 (by decide) (fun c => ?_) (fun c => ?_)
  · have hf := if_t hf c
    obtain rfl := Option.some.inj hf
    exact W.vret hx hb hr0 (fun t ht _ => ⟨⟨rfl, by rw [ht]; exact hP⟩, hS.F ht⟩) hS.2.2 d_Row_become_30 hlk
  · have hf := if_f hf c
    refine lv_aload_n hx hb d_Row_become_14 rfl (lv_at hl 0 rfl) ?_
    refine lv_aload_n hx hb d_Row_become_15 rfl (lv_at hl 1 rfl) ?_
    refine va_get (D := D) (v := .ref (aa r1)) hx hb htg in_Row hown hK hP r1 (xo_row hr1) rfl 0 (by decide) (htg _ k_f_Row_15) (fun _ h9 => h9) rfl d_Row_become_16 ?_
    refine lv_iload_n hx hb d_Row_become_19 rfl (lv_at hl 2 rfl) ?_
    obtain ⟨hg, hf⟩ := gd_some hf
    refine va_iald hx hb hK hP (28 + r1) 0 (xa_row hr1) rfl (vin_in hg) d_Row_become_20 ?_
    obtain ⟨q2, he, hf⟩ := ob_some hf
    refine cl_Vv (As := [.int (gA S r1 x2.toNatClampNeg)]) (rest := []) X (c_x_Row_add hr he) ok_x_Row_add k_m_Row_31 (va_recv hK hP rfl (xo_row hr)) rfl rfl hl.1 (Nat.le_of_ble_eq_true rfl) d_Row_become_21 ⟨by decide, by decide⟩ hP hS (fun H locs hP hS => ?_)
    refine lv_iinc (v := (x2 + 1)) (lv' := [(2, .int (x2 + 1)), (0, .ref (ao r)), (1, .ref (ao r1))]) hx hb d_Row_become_24 hl (k := 2) rfl rfl (by decide) rfl (fun ls hl => ?_)
    refine lv_goto (tgt := 6) hx hb d_Row_become_27 (by decide) ?_
    exact hk6 _ _ hf H locs ls hP hS (lv_sub hl [1, 2, 0] rfl)
theorem w_x_Row_become_b6 {r : Nat} {r1 : Nat} (hr : r < 17) (hr1 : r1 < 17) {z : St} (X : Cx b_Row_become 3 none R_Row D [(cI, .int), (cZ, .boolean), (cJ, .long)] (xA ao aa) (xW cI cZ cJ ao aa) p s m args meth c) : ∀ (n : Nat) (S : St) (x2 : Int32), x_Row_become_b6 r r1 n S x2 = some z → WX rm_x_Row_become D (xA ao aa) (xW cI cZ cJ ao aa) p l e s m args below meth c none z 6 [] 3 [(0, .ref (ao r)), (1, .ref (ao r1)), (2, .int x2)] S
  | 0, _, _, hf => ns hf
  | n + 1, _, _, hf => w_x_Row_become_b6_f hr hr1 X (w_x_Row_become_b6 hr hr1 X n) _ _ hf
set_option maxHeartbeats 4000000 in
set_option maxRecDepth 100000 in
theorem w_x_Row_become {r : Nat} {r1 : Nat} (hr : r < 17) (hr1 : r1 < 17) {z : St} (X : Cx b_Row_become 3 none R_Row D [(cI, .int), (cZ, .boolean), (cJ, .long)] (xA ao aa) (xW cI cZ cJ ao aa) p s m args meth c) (S : St) (hf : x_Row_become r r1 S = some z) : WX rm_x_Row_become D (xA ao aa) (xW cI cZ cJ ao aa) p l e s m args below meth c none z 0 [] 3 [(0, .ref (ao r)), (1, .ref (ao r1))] S := by
  intro H locs ls hP hS hl
  obtain ⟨hx, hb, hr0, hml, hown, htg, hlk, hK, hN, hI⟩ := id X
  unfold x_Row_become at hf
  refine lv_aload_n hx hb d_Row_become_0 rfl (lv_at hl 0 rfl) ?_
  obtain ⟨q1, he, hf⟩ := ob_some hf
  refine cl_Vv (As := []) (rest := []) X (c_x_Row_empty hr he) ok_x_Row_empty k_m_Row_28 (va_recv hK hP rfl (xo_row hr)) rfl rfl hl.1 (Nat.le_of_ble_eq_true rfl) d_Row_become_1 ⟨by decide, by decide⟩ hP hS (fun H locs hP hS => ?_)
  refine lv_iconst (v := 0) hx hb d_Row_become_4 (by decide) ?_
  refine lv_istore_n (lv' := [(2, .int (0 : Int32)), (0, .ref (ao r)), (1, .ref (ao r1))]) hx hb d_Row_become_5 rfl hl (by decide) rfl (fun ls hl => ?_)
  exact w_x_Row_become_b6 hr hr1 X _ _ _ hf H locs ls hP hS (lv_sub hl [1, 2, 0] rfl)
theorem c_x_Row_become {l : Launch} {D : va_G} {cI cZ cJ : ClassId} {ao aa : Nat → Nat} {r : Nat} {r1 : Nat} (hr : r < 17) (hr1 : r1 < 17) {S : St} {z : St} (hz : x_Row_become r r1 S = some z) : Ct l y_Row_become (.code y_Row_become b_Row_become 3 none :: gw) rm_x_Row_become D [(cI, .int), (cZ, .boolean), (cJ, .long)] (xA ao aa) (xW cI cZ cJ ao aa) [.ref (ao r), .ref (ao r1)] S none z :=
  Ct_of (by decide) (fun p e s m args below meth c X => w_x_Row_become hr hr1 X _ hz) (Nat.le_of_ble_eq_true rfl)
def x_G_chooseCommand_b140 (S : St) (x1 : Int32) (x2 : Int32) (x3 : Int32) : Option (Int32 × St) :=
  (x_Row_become 6 7 S).bind fun q3 =>
  (x_Row_size 7 (sI q3 35 x1)).bind fun q4 =>
  if q4.1 = 0 then
    some ((1 : Int32), q4.2)
  else
    if x2 = 0 then
      if x3 = 0 then
        some ((0 : Int32), q4.2)
      else
        some ((4 : Int32), q4.2)
    else
      some ((3 : Int32), q4.2)
def x_G_chooseCommand_b105 (S : St) (x1 : Int32) (x2 : Int32) (x3 : Int32) : Option (Int32 × St) :=
  if x2 = 0 then
    x_G_chooseCommand_b140 S x1 x2 x3
  else
    (x_Row_size 8 S).bind fun q5 =>
    if q5.1 ≤ 0 then
      x_G_chooseCommand_b140 q5.2 x1 x2 x3
    else
      (x_Row_become 6 8 q5.2).bind fun q6 =>
      some ((0 : Int32), (sI q6 35 (gI q6 36)))
def x_G_chooseCommand_b58 (S : St) (x1 : Int32) (x2 : Int32) (s0 : Int32) : Option (Int32 × St) :=
  if s0 = 0 then
    x_G_chooseCommand_b105 S x1 x2 s0
  else
    (x_Row_at 6 S (gI S 32)).bind fun q7 =>
    if q7.1 = (-1 : Int32) then
      x_G_chooseCommand_b105 q7.2 x1 x2 s0
    else
      (x_Row_at 7 q7.2 (1 : Int32)).bind fun q8 =>
      (x_Row_put 6 q8.2 (gI q7.2 32) q8.1).bind fun q9 =>
      some ((0 : Int32), q9)
def x_G_chooseCommand_b57 (S : St) (x1 : Int32) (x2 : Int32) : Option (Int32 × St) :=
  x_G_chooseCommand_b58 S x1 x2 (0 : Int32)
def x_G_chooseCommand_b28 (S : St) (x1 : Int32) (s0 : Int32) : Option (Int32 × St) :=
  (x_Row_size 7 S).bind fun q2 =>
  if q2.1 = (2 : Int32) then
    (x_Row_at 7 q2.2 (0 : Int32)).bind fun q10 =>
    if q10.1 = (6 : Int32) then
      x_G_chooseCommand_b58 q10.2 x1 s0 (1 : Int32)
    else
      x_G_chooseCommand_b57 q10.2 x1 s0
  else
    x_G_chooseCommand_b57 q2.2 x1 s0
def x_G_chooseCommand_b27 (S : St) (x1 : Int32) : Option (Int32 × St) :=
  x_G_chooseCommand_b28 S x1 (0 : Int32)
def x_G_chooseCommand (S : St) (x0 : Int32) : Option (Int32 × St) :=
  (x_Row_size 7 S).bind fun q1 =>
  if q1.1 = (1 : Int32) then
    (x_Row_at 7 q1.2 (0 : Int32)).bind fun q11 =>
    if q11.1 = (5 : Int32) then
      x_G_chooseCommand_b28 q11.2 x0 (1 : Int32)
    else
      x_G_chooseCommand_b27 q11.2 x0
  else
    x_G_chooseCommand_b27 q1.2 x0
def rm_x_G_chooseCommand : Room := { frames := 2, cells := 0, slots := 0, locals := 43 }
theorem ok_x_G_chooseCommand : CalV y_G_chooseCommand b_G_chooseCommand 4 (some .int) 1 rm_x_G_chooseCommand := ⟨kc_G_chooseCommand, ki_G_chooseCommand, kl_G_chooseCommand, ji_G, ⟨by decide, by decide, by decide +kernel⟩, rfl, rfl⟩
set_option maxHeartbeats 4000000 in
set_option maxRecDepth 100000 in
theorem w_x_G_chooseCommand_b140 {z : Int32 × St} (X : Cx b_G_chooseCommand 4 (some .int) R_G D [(cI, .int), (cZ, .boolean), (cJ, .long)] (xA ao aa) (xW cI cZ cJ ao aa) p s m args meth c) (S : St) (x1 : Int32) (x2 : Int32) (x3 : Int32) (hf : x_G_chooseCommand_b140 S x1 x2 x3 = some z) : WX rm_x_G_chooseCommand D (xA ao aa) (xW cI cZ cJ ao aa) p l e s m args below meth c (some (.int z.1)) z.2 140 [] 4 [(0, .ref (ao 27)), (1, .int x1), (2, .int x2), (3, .int x3)] S := by
  intro H locs ls hP hS hl
  obtain ⟨hx, hb, hr0, hml, hown, htg, hlk, hK, hN, hI⟩ := id X
  unfold x_G_chooseCommand_b140 at hf
  refine lv_aload_n hx hb d_G_chooseCommand_140 rfl (lv_at hl 0 rfl) ?_
  refine va_get (D := D) (v := .ref (ao 6)) hx hb htg in_G hown hK hP 27 xo_27 rfl 5 (by decide) (htg _ k_f_G_46) (fun _ h9 => h9) rfl d_G_chooseCommand_141 ?_
  refine lv_aload_n hx hb d_G_chooseCommand_144 rfl (lv_at hl 0 rfl) ?_
  refine va_get (D := D) (v := .ref (ao 7)) hx hb htg in_G hown hK hP 27 xo_27 rfl 6 (by decide) (htg _ k_f_G_49) (fun _ h9 => h9) rfl d_G_chooseCommand_145 ?_
  obtain ⟨q3, he, hf⟩ := ob_some hf
  refine cl_Vv (As := [.ref (ao 7)]) (rest := []) X (c_x_Row_become (by decide : 6 < 17) (by decide : 7 < 17) he) ok_x_Row_become k_m_G_288 (va_recv hK hP rfl (xo_row (by decide : 6 < 17))) rfl rfl hl.1 (Nat.le_of_ble_eq_true rfl) d_G_chooseCommand_148 ⟨by decide, by decide⟩ hP hS (fun H locs hP hS => ?_)
  refine lv_aload_n hx hb d_G_chooseCommand_151 rfl (lv_at hl 0 rfl) ?_
  refine lv_iload_n hx hb d_G_chooseCommand_152 rfl (lv_at hl 1 rfl) ?_
  refine va_put (D := D) (ty := .int) hx hb htg in_G t_G t_G_ok n_G hown hK hP (hI _) hS 27 xo_27 rfl 11 (by decide) (htg _ k_f_G_80) (fun _ h9 => h9) rfl (by decide +kernel) rfl rfl (Nat.le_of_ble_eq_true rfl) d_G_chooseCommand_153 (fun H locs hP _ hS => ?_)
  replace hP : va_P D classes (xW cI cZ cJ ao aa (sI q3 35 x1)) H := pw xs_27_recipient hP
  refine lv_aload_n hx hb d_G_chooseCommand_156 rfl (lv_at hl 0 rfl) ?_
  refine va_get (D := D) (v := .ref (ao 7)) hx hb htg in_G hown hK hP 27 xo_27 rfl 6 (by decide) (htg _ k_f_G_49) (fun _ h9 => h9) rfl d_G_chooseCommand_157 ?_
  obtain ⟨q4, he, hf⟩ := ob_some hf
  refine cl_Vi (As := []) (rest := []) X (c_x_Row_size (by decide : 7 < 17) he) ok_x_Row_size k_m_G_162 (va_recv hK hP rfl (xo_row (by decide : 7 < 17))) rfl rfl hl.1 (Nat.le_of_ble_eq_true rfl) d_G_chooseCommand_160 ⟨by decide, by decide⟩ hP hS (fun H locs hP hS => ?_)
  refine lv_if_ne (tgt := 168) hx hb d_G_chooseCommand_163 (by decide) (fun c => ?_) (fun c => ?_)
  · have hf := if_f hf c
    refine lv_iload_n hx hb d_G_chooseCommand_168 rfl (lv_at hl 2 rfl) ?_
    refine lv_if_eq (tgt := 176) hx hb d_G_chooseCommand_169 (by decide) (fun c => ?_) (fun c => ?_)
    · have hf := if_t hf c
      refine lv_iload_n hx hb d_G_chooseCommand_176 rfl (lv_at hl 3 rfl) ?_
      refine lv_if_eq (tgt := 184) hx hb d_G_chooseCommand_177 (by decide) (fun c => ?_) (fun c => ?_)
      · have hf := if_t hf c
        refine lv_iconst (v := 0) hx hb d_G_chooseCommand_184 (by decide) ?_
        obtain rfl := Option.some.inj hf
        exact W.iret hx hb hr0 (fun t ht _ => ⟨⟨rfl, by rw [ht]; exact hP⟩, hS.F ht⟩) hS.2.2 d_G_chooseCommand_185 hlk
      · have hf := if_f hf c
        refine lv_iconst (v := 4) hx hb d_G_chooseCommand_180 (by decide) ?_
        refine lv_goto (tgt := 185) hx hb d_G_chooseCommand_181 (by decide) ?_
        obtain rfl := Option.some.inj hf
        exact W.iret hx hb hr0 (fun t ht _ => ⟨⟨rfl, by rw [ht]; exact hP⟩, hS.F ht⟩) hS.2.2 d_G_chooseCommand_185 hlk
    · have hf := if_f hf c
      refine lv_iconst (v := 3) hx hb d_G_chooseCommand_172 (by decide) ?_
      refine lv_goto (tgt := 185) hx hb d_G_chooseCommand_173 (by decide) ?_
      obtain rfl := Option.some.inj hf
      exact W.iret hx hb hr0 (fun t ht _ => ⟨⟨rfl, by rw [ht]; exact hP⟩, hS.F ht⟩) hS.2.2 d_G_chooseCommand_185 hlk
  · have hf := if_t hf c
    refine lv_iconst (v := 1) hx hb d_G_chooseCommand_166 (by decide) ?_
    obtain rfl := Option.some.inj hf
    exact W.iret hx hb hr0 (fun t ht _ => ⟨⟨rfl, by rw [ht]; exact hP⟩, hS.F ht⟩) hS.2.2 d_G_chooseCommand_167 hlk
set_option maxHeartbeats 4000000 in
set_option maxRecDepth 100000 in
theorem w_x_G_chooseCommand_b105 {z : Int32 × St} (X : Cx b_G_chooseCommand 4 (some .int) R_G D [(cI, .int), (cZ, .boolean), (cJ, .long)] (xA ao aa) (xW cI cZ cJ ao aa) p s m args meth c) (S : St) (x1 : Int32) (x2 : Int32) (x3 : Int32) (hf : x_G_chooseCommand_b105 S x1 x2 x3 = some z) : WX rm_x_G_chooseCommand D (xA ao aa) (xW cI cZ cJ ao aa) p l e s m args below meth c (some (.int z.1)) z.2 105 [] 4 [(0, .ref (ao 27)), (1, .int x1), (2, .int x2), (3, .int x3)] S := by
  intro H locs ls hP hS hl
  obtain ⟨hx, hb, hr0, hml, hown, htg, hlk, hK, hN, hI⟩ := id X
  unfold x_G_chooseCommand_b105 at hf
  refine lv_iload_n hx hb d_G_chooseCommand_105 rfl (lv_at hl 2 rfl) ?_
  refine lv_if_eq (tgt := 140) hx hb d_G_chooseCommand_106 (by decide) (fun c => ?_) (fun c => ?_)
  · have hf := if_t hf c
    exact w_x_G_chooseCommand_b140 X _ _ _ _ hf H locs ls hP hS (lv_sub hl [0, 1, 2, 3] rfl)
  · have hf := if_f hf c
    refine lv_aload_n hx hb d_G_chooseCommand_109 rfl (lv_at hl 0 rfl) ?_
    refine va_get (D := D) (v := .ref (ao 8)) hx hb htg in_G hown hK hP 27 xo_27 rfl 7 (by decide) (htg _ k_f_G_52) (fun _ h9 => h9) rfl d_G_chooseCommand_110 ?_
    obtain ⟨q5, he, hf⟩ := ob_some hf
    refine cl_Vi (As := []) (rest := []) X (c_x_Row_size (by decide : 8 < 17) he) ok_x_Row_size k_m_G_162 (va_recv hK hP rfl (xo_row (by decide : 8 < 17))) rfl rfl hl.1 (Nat.le_of_ble_eq_true rfl) d_G_chooseCommand_113 ⟨by decide, by decide⟩ hP hS (fun H locs hP hS => ?_)
    refine lv_if_le (tgt := 140) hx hb d_G_chooseCommand_116 (by decide) (fun c => ?_) (fun c => ?_)
    · have hf := if_t hf c
      exact w_x_G_chooseCommand_b140 X _ _ _ _ hf H locs ls hP hS (lv_sub hl [0, 1, 2, 3] rfl)
    · have hf := if_f hf c
      refine lv_aload_n hx hb d_G_chooseCommand_119 rfl (lv_at hl 0 rfl) ?_
      refine va_get (D := D) (v := .ref (ao 6)) hx hb htg in_G hown hK hP 27 xo_27 rfl 5 (by decide) (htg _ k_f_G_46) (fun _ h9 => h9) rfl d_G_chooseCommand_120 ?_
      refine lv_aload_n hx hb d_G_chooseCommand_123 rfl (lv_at hl 0 rfl) ?_
      refine va_get (D := D) (v := .ref (ao 8)) hx hb htg in_G hown hK hP 27 xo_27 rfl 7 (by decide) (htg _ k_f_G_52) (fun _ h9 => h9) rfl d_G_chooseCommand_124 ?_
      obtain ⟨q6, he, hf⟩ := ob_some hf
      refine cl_Vv (As := [.ref (ao 8)]) (rest := []) X (c_x_Row_become (by decide : 6 < 17) (by decide : 8 < 17) he) ok_x_Row_become k_m_G_288 (va_recv hK hP rfl (xo_row (by decide : 6 < 17))) rfl rfl hl.1 (Nat.le_of_ble_eq_true rfl) d_G_chooseCommand_127 ⟨by decide, by decide⟩ hP hS (fun H locs hP hS => ?_)
      refine lv_aload_n hx hb d_G_chooseCommand_130 rfl (lv_at hl 0 rfl) ?_
      refine lv_aload_n hx hb d_G_chooseCommand_131 rfl (lv_at hl 0 rfl) ?_
      refine va_get (D := D) (v := .int (gI q6 36)) hx hb htg in_G hown hK hP 27 xo_27 rfl 12 (by decide) (htg _ k_f_G_84) (fun _ h9 => h9) rfl d_G_chooseCommand_132 ?_
      refine va_put (D := D) (ty := .int) hx hb htg in_G t_G t_G_ok n_G hown hK hP (hI _) hS 27 xo_27 rfl 11 (by decide) (htg _ k_f_G_80) (fun _ h9 => h9) rfl (by decide +kernel) rfl rfl (Nat.le_of_ble_eq_true rfl) d_G_chooseCommand_135 (fun H locs hP _ hS => ?_)
      replace hP : va_P D classes (xW cI cZ cJ ao aa (sI q6 35 (gI q6 36))) H := pw xs_27_recipient hP
      refine lv_iconst (v := 0) hx hb d_G_chooseCommand_138 (by decide) ?_
      obtain rfl := Option.some.inj hf
      exact W.iret hx hb hr0 (fun t ht _ => ⟨⟨rfl, by rw [ht]; exact hP⟩, hS.F ht⟩) hS.2.2 d_G_chooseCommand_139 hlk
set_option maxHeartbeats 4000000 in
set_option maxRecDepth 100000 in
theorem w_x_G_chooseCommand_b58 {z : Int32 × St} (X : Cx b_G_chooseCommand 4 (some .int) R_G D [(cI, .int), (cZ, .boolean), (cJ, .long)] (xA ao aa) (xW cI cZ cJ ao aa) p s m args meth c) (S : St) (x1 : Int32) (x2 : Int32) (s0 : Int32) (hf : x_G_chooseCommand_b58 S x1 x2 s0 = some z) : WX rm_x_G_chooseCommand D (xA ao aa) (xW cI cZ cJ ao aa) p l e s m args below meth c (some (.int z.1)) z.2 58 [.int s0] 4 [(0, .ref (ao 27)), (1, .int x1), (2, .int x2)] S := by
  intro H locs ls hP hS hl
  obtain ⟨hx, hb, hr0, hml, hown, htg, hlk, hK, hN, hI⟩ := id X
  unfold x_G_chooseCommand_b58 at hf
  refine lv_istore_n (lv' := [(3, .int s0), (0, .ref (ao 27)), (1, .int x1), (2, .int x2)]) hx hb d_G_chooseCommand_58 rfl hl (by decide) rfl (fun ls hl => ?_)
  refine lv_iload_n hx hb d_G_chooseCommand_59 rfl (lv_at hl 0 rfl) ?_
  refine lv_if_eq (tgt := 105) hx hb d_G_chooseCommand_60 (by decide) (fun c => ?_) (fun c => ?_)
  · have hf := if_t hf c
    exact w_x_G_chooseCommand_b105 X _ _ _ _ hf H locs ls hP hS (lv_sub hl [1, 2, 3, 0] rfl)
  · have hf := if_f hf c
    refine lv_aload_n hx hb d_G_chooseCommand_63 rfl (lv_at hl 1 rfl) ?_
    refine va_get (D := D) (v := .ref (ao 6)) hx hb htg in_G hown hK hP 27 xo_27 rfl 5 (by decide) (htg _ k_f_G_46) (fun _ h9 => h9) rfl d_G_chooseCommand_64 ?_
    refine lv_aload_n hx hb d_G_chooseCommand_67 rfl (lv_at hl 1 rfl) ?_
    refine va_get (D := D) (v := .ref (ao 26)) hx hb htg in_G hown hK hP 27 xo_27 rfl 10 (by decide) (htg _ k_f_G_76) (fun _ h9 => h9) rfl d_G_chooseCommand_68 ?_
    refine va_getN (D := D) (v := .int (gI S 32)) hx hb htg in_Report hown hK hP 26 xo_26 rfl 6 (by decide) (va_Nw.use rfl (hN _ k_fn_G_240)) (fun _ h9 => h9) rfl d_G_chooseCommand_71 ?_
    obtain ⟨q7, he, hf⟩ := ob_some hf
    refine cl_Vi (As := [.int (gI S 32)]) (rest := []) X (c_x_Row_at (by decide : 6 < 17) he) ok_x_Row_at k_m_G_234 (va_recv hK hP rfl (xo_row (by decide : 6 < 17))) rfl rfl hl.1 (Nat.le_of_ble_eq_true rfl) d_G_chooseCommand_74 ⟨by decide, by decide⟩ hP hS (fun H locs hP hS => ?_)
    refine lv_iconst (v := (-1)) hx hb d_G_chooseCommand_77 (by decide) ?_
    refine lv_icmp_eq (tgt := 105) hx hb d_G_chooseCommand_78 (by decide) (fun c => ?_) (fun c => ?_)
    · have hf := if_t hf c
      exact w_x_G_chooseCommand_b105 X _ _ _ _ hf H locs ls hP hS (lv_sub hl [1, 2, 3, 0] rfl)
    · have hf := if_f hf c
      refine lv_aload_n hx hb d_G_chooseCommand_81 rfl (lv_at hl 1 rfl) ?_
      refine va_get (D := D) (v := .ref (ao 6)) hx hb htg in_G hown hK hP 27 xo_27 rfl 5 (by decide) (htg _ k_f_G_46) (fun _ h9 => h9) rfl d_G_chooseCommand_82 ?_
      refine lv_aload_n hx hb d_G_chooseCommand_85 rfl (lv_at hl 1 rfl) ?_
      refine va_get (D := D) (v := .ref (ao 26)) hx hb htg in_G hown hK hP 27 xo_27 rfl 10 (by decide) (htg _ k_f_G_76) (fun _ h9 => h9) rfl d_G_chooseCommand_86 ?_
      refine va_getN (D := D) (v := .int (gI q7.2 32)) hx hb htg in_Report hown hK hP 26 xo_26 rfl 6 (by decide) (va_Nw.use rfl (hN _ k_fn_G_240)) (fun _ h9 => h9) rfl d_G_chooseCommand_89 ?_
      refine lv_aload_n hx hb d_G_chooseCommand_92 rfl (lv_at hl 1 rfl) ?_
      refine va_get (D := D) (v := .ref (ao 7)) hx hb htg in_G hown hK hP 27 xo_27 rfl 6 (by decide) (htg _ k_f_G_49) (fun _ h9 => h9) rfl d_G_chooseCommand_93 ?_
      refine lv_iconst (v := 1) hx hb d_G_chooseCommand_96 (by decide) ?_
      obtain ⟨q8, he, hf⟩ := ob_some hf
      refine cl_Vi (As := [.int (1 : Int32)]) (rest := [.int (gI q7.2 32), .ref (ao 6)]) X (c_x_Row_at (by decide : 7 < 17) he) ok_x_Row_at k_m_G_234 (va_recv hK hP rfl (xo_row (by decide : 7 < 17))) rfl rfl hl.1 (Nat.le_of_ble_eq_true rfl) d_G_chooseCommand_97 ⟨by decide, by decide⟩ hP hS (fun H locs hP hS => ?_)
      obtain ⟨q9, he, hf⟩ := ob_some hf
      refine cl_Vv (As := [.int (gI q7.2 32), .int q8.1]) (rest := []) X (c_x_Row_put (by decide : 6 < 17) he) ok_x_Row_put k_m_G_286 (va_recv hK hP rfl (xo_row (by decide : 6 < 17))) rfl rfl hl.1 (Nat.le_of_ble_eq_true rfl) d_G_chooseCommand_100 ⟨by decide, by decide⟩ hP hS (fun H locs hP hS => ?_)
      refine lv_iconst (v := 0) hx hb d_G_chooseCommand_103 (by decide) ?_
      obtain rfl := Option.some.inj hf
      exact W.iret hx hb hr0 (fun t ht _ => ⟨⟨rfl, by rw [ht]; exact hP⟩, hS.F ht⟩) hS.2.2 d_G_chooseCommand_104 hlk
set_option maxHeartbeats 4000000 in
set_option maxRecDepth 100000 in
theorem w_x_G_chooseCommand_b57 {z : Int32 × St} (X : Cx b_G_chooseCommand 4 (some .int) R_G D [(cI, .int), (cZ, .boolean), (cJ, .long)] (xA ao aa) (xW cI cZ cJ ao aa) p s m args meth c) (S : St) (x1 : Int32) (x2 : Int32) (hf : x_G_chooseCommand_b57 S x1 x2 = some z) : WX rm_x_G_chooseCommand D (xA ao aa) (xW cI cZ cJ ao aa) p l e s m args below meth c (some (.int z.1)) z.2 57 [] 4 [(0, .ref (ao 27)), (1, .int x1), (2, .int x2)] S := by
  intro H locs ls hP hS hl
  obtain ⟨hx, hb, hr0, hml, hown, htg, hlk, hK, hN, hI⟩ := id X
  unfold x_G_chooseCommand_b57 at hf
  refine lv_iconst (v := 0) hx hb d_G_chooseCommand_57 (by decide) ?_
  exact w_x_G_chooseCommand_b58 X _ _ _ _ hf H locs ls hP hS (lv_sub hl [0, 1, 2] rfl)
set_option maxHeartbeats 4000000 in
set_option maxRecDepth 100000 in
theorem w_x_G_chooseCommand_b28 {z : Int32 × St} (X : Cx b_G_chooseCommand 4 (some .int) R_G D [(cI, .int), (cZ, .boolean), (cJ, .long)] (xA ao aa) (xW cI cZ cJ ao aa) p s m args meth c) (S : St) (x1 : Int32) (s0 : Int32) (hf : x_G_chooseCommand_b28 S x1 s0 = some z) : WX rm_x_G_chooseCommand D (xA ao aa) (xW cI cZ cJ ao aa) p l e s m args below meth c (some (.int z.1)) z.2 28 [.int s0] 4 [(0, .ref (ao 27)), (1, .int x1)] S := by
  intro H locs ls hP hS hl
  obtain ⟨hx, hb, hr0, hml, hown, htg, hlk, hK, hN, hI⟩ := id X
  unfold x_G_chooseCommand_b28 at hf
  refine lv_istore_n (lv' := [(2, .int s0), (0, .ref (ao 27)), (1, .int x1)]) hx hb d_G_chooseCommand_28 rfl hl (by decide) rfl (fun ls hl => ?_)
  refine lv_aload_n hx hb d_G_chooseCommand_29 rfl (lv_at hl 1 rfl) ?_
  refine va_get (D := D) (v := .ref (ao 7)) hx hb htg in_G hown hK hP 27 xo_27 rfl 6 (by decide) (htg _ k_f_G_49) (fun _ h9 => h9) rfl d_G_chooseCommand_30 ?_
  obtain ⟨q2, he, hf⟩ := ob_some hf
  refine cl_Vi (As := []) (rest := []) X (c_x_Row_size (by decide : 7 < 17) he) ok_x_Row_size k_m_G_162 (va_recv hK hP rfl (xo_row (by decide : 7 < 17))) rfl rfl hl.1 (Nat.le_of_ble_eq_true rfl) d_G_chooseCommand_33 ⟨by decide, by decide⟩ hP hS (fun H locs hP hS => ?_)
  refine lv_iconst (v := 2) hx hb d_G_chooseCommand_36 (by decide) ?_
  refine lv_icmp_ne (tgt := 57) hx hb d_G_chooseCommand_37 (by decide) (fun c => ?_) (fun c => ?_)
  · have hf := if_f hf c
    exact w_x_G_chooseCommand_b57 X _ _ _ hf H locs ls hP hS (lv_sub hl [1, 2, 0] rfl)
  · have hf := if_t hf c
    refine lv_aload_n hx hb d_G_chooseCommand_40 rfl (lv_at hl 1 rfl) ?_
    refine va_get (D := D) (v := .ref (ao 7)) hx hb htg in_G hown hK hP 27 xo_27 rfl 6 (by decide) (htg _ k_f_G_49) (fun _ h9 => h9) rfl d_G_chooseCommand_41 ?_
    refine lv_iconst (v := 0) hx hb d_G_chooseCommand_44 (by decide) ?_
    obtain ⟨q10, he, hf⟩ := ob_some hf
    refine cl_Vi (As := [.int (0 : Int32)]) (rest := []) X (c_x_Row_at (by decide : 7 < 17) he) ok_x_Row_at k_m_G_234 (va_recv hK hP rfl (xo_row (by decide : 7 < 17))) rfl rfl hl.1 (Nat.le_of_ble_eq_true rfl) d_G_chooseCommand_45 ⟨by decide, by decide⟩ hP hS (fun H locs hP hS => ?_)
    refine lv_bipush (v := 6) hx hb d_G_chooseCommand_48 (by decide) ?_
    refine lv_icmp_ne (tgt := 57) hx hb d_G_chooseCommand_50 (by decide) (fun c => ?_) (fun c => ?_)
    · have hf := if_f hf c
      exact w_x_G_chooseCommand_b57 X _ _ _ hf H locs ls hP hS (lv_sub hl [1, 2, 0] rfl)
    · have hf := if_t hf c
      refine lv_iconst (v := 1) hx hb d_G_chooseCommand_53 (by decide) ?_
      refine lv_goto (tgt := 58) hx hb d_G_chooseCommand_54 (by decide) ?_
      exact w_x_G_chooseCommand_b58 X _ _ _ _ hf H locs ls hP hS (lv_sub hl [1, 2, 0] rfl)
set_option maxHeartbeats 4000000 in
set_option maxRecDepth 100000 in
theorem w_x_G_chooseCommand_b27 {z : Int32 × St} (X : Cx b_G_chooseCommand 4 (some .int) R_G D [(cI, .int), (cZ, .boolean), (cJ, .long)] (xA ao aa) (xW cI cZ cJ ao aa) p s m args meth c) (S : St) (x1 : Int32) (hf : x_G_chooseCommand_b27 S x1 = some z) : WX rm_x_G_chooseCommand D (xA ao aa) (xW cI cZ cJ ao aa) p l e s m args below meth c (some (.int z.1)) z.2 27 [] 4 [(0, .ref (ao 27)), (1, .int x1)] S := by
  intro H locs ls hP hS hl
  obtain ⟨hx, hb, hr0, hml, hown, htg, hlk, hK, hN, hI⟩ := id X
  unfold x_G_chooseCommand_b27 at hf
  refine lv_iconst (v := 0) hx hb d_G_chooseCommand_27 (by decide) ?_
  exact w_x_G_chooseCommand_b28 X _ _ _ hf H locs ls hP hS (lv_sub hl [0, 1] rfl)
set_option maxHeartbeats 4000000 in
set_option maxRecDepth 100000 in
theorem w_x_G_chooseCommand {z : Int32 × St} (X : Cx b_G_chooseCommand 4 (some .int) R_G D [(cI, .int), (cZ, .boolean), (cJ, .long)] (xA ao aa) (xW cI cZ cJ ao aa) p s m args meth c) (S : St) (x0 : Int32) (hf : x_G_chooseCommand S x0 = some z) : WX rm_x_G_chooseCommand D (xA ao aa) (xW cI cZ cJ ao aa) p l e s m args below meth c (some (.int z.1)) z.2 0 [] 4 [(0, .ref (ao 27)), (1, .int x0)] S := by
  intro H locs ls hP hS hl
  obtain ⟨hx, hb, hr0, hml, hown, htg, hlk, hK, hN, hI⟩ := id X
  unfold x_G_chooseCommand at hf
  refine lv_aload_n hx hb d_G_chooseCommand_0 rfl (lv_at hl 0 rfl) ?_
  refine va_get (D := D) (v := .ref (ao 7)) hx hb htg in_G hown hK hP 27 xo_27 rfl 6 (by decide) (htg _ k_f_G_49) (fun _ h9 => h9) rfl d_G_chooseCommand_1 ?_
  obtain ⟨q1, he, hf⟩ := ob_some hf
  refine cl_Vi (As := []) (rest := []) X (c_x_Row_size (by decide : 7 < 17) he) ok_x_Row_size k_m_G_162 (va_recv hK hP rfl (xo_row (by decide : 7 < 17))) rfl rfl hl.1 (Nat.le_of_ble_eq_true rfl) d_G_chooseCommand_4 ⟨by decide, by decide⟩ hP hS (fun H locs hP hS => ?_)
  refine lv_iconst (v := 1) hx hb d_G_chooseCommand_7 (by decide) ?_
  refine lv_icmp_ne (tgt := 27) hx hb d_G_chooseCommand_8 (by decide) (fun c => ?_) (fun c => ?_)
  · have hf := if_f hf c
    exact w_x_G_chooseCommand_b27 X _ _ hf H locs ls hP hS (lv_sub hl [0, 1] rfl)
  · have hf := if_t hf c
    refine lv_aload_n hx hb d_G_chooseCommand_11 rfl (lv_at hl 0 rfl) ?_
    refine va_get (D := D) (v := .ref (ao 7)) hx hb htg in_G hown hK hP 27 xo_27 rfl 6 (by decide) (htg _ k_f_G_49) (fun _ h9 => h9) rfl d_G_chooseCommand_12 ?_
    refine lv_iconst (v := 0) hx hb d_G_chooseCommand_15 (by decide) ?_
    obtain ⟨q11, he, hf⟩ := ob_some hf
    refine cl_Vi (As := [.int (0 : Int32)]) (rest := []) X (c_x_Row_at (by decide : 7 < 17) he) ok_x_Row_at k_m_G_234 (va_recv hK hP rfl (xo_row (by decide : 7 < 17))) rfl rfl hl.1 (Nat.le_of_ble_eq_true rfl) d_G_chooseCommand_16 ⟨by decide, by decide⟩ hP hS (fun H locs hP hS => ?_)
    refine lv_iconst (v := 5) hx hb d_G_chooseCommand_19 (by decide) ?_
    refine lv_icmp_ne (tgt := 27) hx hb d_G_chooseCommand_20 (by decide) (fun c => ?_) (fun c => ?_)
    · have hf := if_f hf c
      exact w_x_G_chooseCommand_b27 X _ _ hf H locs ls hP hS (lv_sub hl [0, 1] rfl)
    · have hf := if_t hf c
      refine lv_iconst (v := 1) hx hb d_G_chooseCommand_23 (by decide) ?_
      refine lv_goto (tgt := 28) hx hb d_G_chooseCommand_24 (by decide) ?_
      exact w_x_G_chooseCommand_b28 X _ _ _ hf H locs ls hP hS (lv_sub hl [0, 1] rfl)
theorem c_x_G_chooseCommand {l : Launch} {D : va_G} {cI cZ cJ : ClassId} {ao aa : Nat → Nat} {S : St} {x0 : Int32} {z : Int32 × St} (hz : x_G_chooseCommand S x0 = some z) : Ct l y_G_chooseCommand (.code y_G_chooseCommand b_G_chooseCommand 4 (some .int) :: gw) rm_x_G_chooseCommand D [(cI, .int), (cZ, .boolean), (cJ, .long)] (xA ao aa) (xW cI cZ cJ ao aa) [.ref (ao 27), .int x0] S (some (.int z.1)) z.2 :=
  Ct_of (by decide) (fun p e s m args below meth c X => w_x_G_chooseCommand X _ _ hz) (Nat.le_of_ble_eq_true rfl)
end

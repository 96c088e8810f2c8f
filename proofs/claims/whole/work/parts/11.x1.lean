section
variable {p : Program} {l : Launch} {e : Env} {s : State} {m : MethodId} {args : Array Value} {below : List Frame} {meth : Method} {c : Code} {D : va_G} {cI cZ cJ : ClassId} {ao aa : Nat → Nat}
def x_Lines_addKind_b58 (S : St) (x1 : Int32) : Option (Int32 × St) :=
  (x_Lines_kindsOf S x1).bind fun q2 =>
  some (q2.1, q2.2)
def x_Lines_addKind (S : St) (x0 : Int32) (x1 : Int32) (x2 : Int32) : Option (Int32 × St) :=
  (x_Lines_has S x0).bind fun q1 =>
  if q1.1 = 0 then
    x_Lines_addKind_b58 q1.2 x0
  else
    gd (vin x0 60) <|
    if (8 : Int32) ≤ (gA q1.2 23 x0.toNatClampNeg) then
      x_Lines_addKind_b58 q1.2 x0
    else
      gd (vin x0 60) <|
      gd (vin ((x0 * (8 : Int32)) + (gA q1.2 23 x0.toNatClampNeg)) 480) <|
      gd (vin ((x0 * (8 : Int32)) + (gA q1.2 23 x0.toNatClampNeg)) 480) <|
      gd (vin x0 60) <|
      gd (vin x0 60) <|
      x_Lines_addKind_b58 (sA (sA (sA q1.2 24 ((x0 * (8 : Int32)) + (gA q1.2 23 x0.toNatClampNeg)).toNatClampNeg x1) 25 ((x0 * (8 : Int32)) + (gA q1.2 23 x0.toNatClampNeg)).toNatClampNeg x2) 23 x0.toNatClampNeg ((gA (sA (sA q1.2 24 ((x0 * (8 : Int32)) + (gA q1.2 23 x0.toNatClampNeg)).toNatClampNeg x1) 25 ((x0 * (8 : Int32)) + (gA q1.2 23 x0.toNatClampNeg)).toNatClampNeg x2) 23 x0.toNatClampNeg) + (1 : Int32))) x0
def rm_x_Lines_addKind : Room := { frames := 2, cells := 0, slots := 0, locals := 42 }
theorem ok_x_Lines_addKind : CalV y_Lines_addKind b_Lines_addKind 5 (some .int) 3 rm_x_Lines_addKind := ⟨kc_Lines_addKind, ki_Lines_addKind, kl_Lines_addKind, ji_Lines, ⟨by decide, by decide, by decide +kernel⟩, rfl, rfl⟩
set_option maxHeartbeats 4000000 in
set_option maxRecDepth 100000 in
theorem w_x_Lines_addKind_b58 {z : Int32 × St} (X : Cx b_Lines_addKind 5 (some .int) R_Lines D [(cI, .int), (cZ, .boolean), (cJ, .long)] (xA ao aa) (xW cI cZ cJ ao aa) p s m args meth c) (S : St) (x1 : Int32) (hf : x_Lines_addKind_b58 S x1 = some z) : WX rm_x_Lines_addKind D (xA ao aa) (xW cI cZ cJ ao aa) p l e s m args below meth c (some (.int z.1)) z.2 58 [] 5 [(0, .ref (ao 23)), (1, .int x1)] S := by
  intro H locs ls hP hS hl
  obtain ⟨hx, hb, hr0, hml, hown, htg, hlk, hK, hN, hI⟩ := id X
  unfold x_Lines_addKind_b58 at hf
  refine lv_aload_n hx hb d_Lines_addKind_58 rfl (lv_at hl 0 rfl) ?_
  refine lv_iload_n hx hb d_Lines_addKind_59 rfl (lv_at hl 1 rfl) ?_
  obtain ⟨q2, he, hf⟩ := ob_some hf
  refine cl_Vi (As := [.int x1]) (rest := []) X (c_x_Lines_kindsOf he) ok_x_Lines_kindsOf k_m_Lines_43 (va_recv hK hP rfl xo_23) rfl rfl hl.1 (Nat.le_of_ble_eq_true rfl) d_Lines_addKind_60 ⟨by decide, by decide⟩ hP hS (fun H locs hP hS => ?_)
  obtain rfl := Option.some.inj hf
  exact W.iret hx hb hr0 (fun t ht _ => ⟨⟨rfl, by rw [ht]; exact hP⟩, hS.F ht⟩) hS.2.2 d_Lines_addKind_63 hlk
set_option maxHeartbeats 4000000 in
set_option maxRecDepth 100000 in
theorem w_x_Lines_addKind {z : Int32 × St} (X : Cx b_Lines_addKind 5 (some .int) R_Lines D [(cI, .int), (cZ, .boolean), (cJ, .long)] (xA ao aa) (xW cI cZ cJ ao aa) p s m args meth c) (S : St) (x0 : Int32) (x1 : Int32) (x2 : Int32) (hf : x_Lines_addKind S x0 x1 x2 = some z) : WX rm_x_Lines_addKind D (xA ao aa) (xW cI cZ cJ ao aa) p l e s m args below meth c (some (.int z.1)) z.2 0 [] 5 [(0, .ref (ao 23)), (1, .int x0), (2, .int x1), (3, .int x2)] S := by
  intro H locs ls hP hS hl
  obtain ⟨hx, hb, hr0, hml, hown, htg, hlk, hK, hN, hI⟩ := id X
  unfold x_Lines_addKind at hf
  refine lv_aload_n hx hb d_Lines_addKind_0 rfl (lv_at hl 0 rfl) ?_
  refine lv_iload_n hx hb d_Lines_addKind_1 rfl (lv_at hl 1 rfl) ?_
  obtain ⟨q1, he, hf⟩ := ob_some hf
  refine cl_Vi (As := [.int x0]) (rest := []) X (c_x_Lines_has he) ok_x_Lines_has k_m_Lines_39 (va_recv hK hP rfl xo_23) rfl rfl hl.1 (Nat.le_of_ble_eq_true rfl) d_Lines_addKind_2 ⟨by decide, by decide⟩ hP hS (fun H locs hP hS => ?_)
  refine lv_if_eq (tgt := 58) hx hb d_Lines_addKind_5 (by decide) (fun c => ?_) (fun c => ?_)
  · have hf := if_t hf c
    exact w_x_Lines_addKind_b58 X _ _ hf H locs ls hP hS (lv_sub hl [0, 1] rfl)
  · have hf := if_f hf c
    refine lv_aload_n hx hb d_Lines_addKind_8 rfl (lv_at hl 0 rfl) ?_
    refine va_get (D := D) (v := .ref (aa 23)) hx hb htg in_Lines hown hK hP 23 xo_23 rfl 3 (by decide) (htg _ k_f_Lines_22) (fun _ h9 => h9) rfl d_Lines_addKind_9 ?_
    refine lv_iload_n hx hb d_Lines_addKind_12 rfl (lv_at hl 1 rfl) ?_
    obtain ⟨hg, hf⟩ := gd_some hf
    refine va_iald hx hb hK hP 51 0 xa_23 rfl (vin_in hg) d_Lines_addKind_13 ?_
    refine lv_bipush (v := 8) hx hb d_Lines_addKind_14 (by decide) ?_
    refine lv_icmp_ge (tgt := 58) hx hb d_Lines_addKind_16 (by decide) (fun c => ?_) (fun c => ?_)
    · have hf := if_t hf c
      exact w_x_Lines_addKind_b58 X _ _ hf H locs ls hP hS (lv_sub hl [0, 1] rfl)
    · have hf := if_f hf c
      refine lv_iload_n hx hb d_Lines_addKind_19 rfl (lv_at hl 1 rfl) ?_
      refine lv_bipush (v := 8) hx hb d_Lines_addKind_20 (by decide) ?_
      refine lv_imul hx hb d_Lines_addKind_22 ?_
      refine lv_aload_n hx hb d_Lines_addKind_23 rfl (lv_at hl 0 rfl) ?_
      refine va_get (D := D) (v := .ref (aa 23)) hx hb htg in_Lines hown hK hP 23 xo_23 rfl 3 (by decide) (htg _ k_f_Lines_22) (fun _ h9 => h9) rfl d_Lines_addKind_24 ?_
      refine lv_iload_n hx hb d_Lines_addKind_27 rfl (lv_at hl 1 rfl) ?_
      obtain ⟨hg, hf⟩ := gd_some hf
      refine va_iald hx hb hK hP 51 0 xa_23 rfl (vin_in hg) d_Lines_addKind_28 ?_
      refine lv_iadd hx hb d_Lines_addKind_29 ?_
      refine lv_istore (lv' := [(4, .int ((x0 * (8 : Int32)) + (gA q1.2 23 x0.toNatClampNeg))), (0, .ref (ao 23)), (1, .int x0), (2, .int x1), (3, .int x2)]) hx hb d_Lines_addKind_30 hl (by decide) rfl (fun ls hl => ?_)
      refine lv_aload_n hx hb d_Lines_addKind_32 rfl (lv_at hl 1 rfl) ?_
      refine va_get (D := D) (v := .ref (aa 24)) hx hb htg in_Lines hown hK hP 23 xo_23 rfl 4 (by decide) (htg _ k_f_Lines_25) (fun _ h9 => h9) rfl d_Lines_addKind_33 ?_
      refine lv_iload hx hb d_Lines_addKind_36 (lv_at hl 0 rfl) ?_
      refine lv_iload_n hx hb d_Lines_addKind_38 rfl (lv_at hl 3 rfl) ?_
      obtain ⟨hg, hf⟩ := gd_some hf
      refine va_iast hx hb hK hP (hI _) hS 52 0 xa_24 rfl (vin_in hg) d_Lines_addKind_39 (fun H locs hP _ hS => ?_)
      replace hP : va_P D classes (xW cI cZ cJ ao aa (sA q1.2 24 ((x0 * (8 : Int32)) + (gA q1.2 23 x0.toNatClampNeg)).toNatClampNeg x1)) H := pw xt_24 hP
      refine lv_aload_n hx hb d_Lines_addKind_40 rfl (lv_at hl 1 rfl) ?_
      refine va_get (D := D) (v := .ref (aa 25)) hx hb htg in_Lines hown hK hP 23 xo_23 rfl 5 (by decide) (htg _ k_f_Lines_28) (fun _ h9 => h9) rfl d_Lines_addKind_41 ?_
      refine lv_iload hx hb d_Lines_addKind_44 (lv_at hl 0 rfl) ?_
      refine lv_iload_n hx hb d_Lines_addKind_46 rfl (lv_at hl 4 rfl) ?_
      obtain ⟨hg, hf⟩ := gd_some hf
      refine va_iast hx hb hK hP (hI _) hS 53 0 xa_25 rfl (vin_in hg) d_Lines_addKind_47 (fun H locs hP _ hS => ?_)
      replace hP : va_P D classes (xW cI cZ cJ ao aa (sA (sA q1.2 24 ((x0 * (8 : Int32)) + (gA q1.2 23 x0.toNatClampNeg)).toNatClampNeg x1) 25 ((x0 * (8 : Int32)) + (gA q1.2 23 x0.toNatClampNeg)).toNatClampNeg x2)) H := pw xt_25 hP
      refine lv_aload_n hx hb d_Lines_addKind_48 rfl (lv_at hl 1 rfl) ?_
      refine va_get (D := D) (v := .ref (aa 23)) hx hb htg in_Lines hown hK hP 23 xo_23 rfl 3 (by decide) (htg _ k_f_Lines_22) (fun _ h9 => h9) rfl d_Lines_addKind_49 ?_
      refine lv_iload_n hx hb d_Lines_addKind_52 rfl (lv_at hl 2 rfl) ?_
      refine lv_dup2_11 hx hb d_Lines_addKind_53 rfl rfl ?_
      obtain ⟨hg, hf⟩ := gd_some hf
      refine va_iald hx hb hK hP 51 0 xa_23 rfl (vin_in hg) d_Lines_addKind_54 ?_
      refine lv_iconst (v := 1) hx hb d_Lines_addKind_55 (by decide) ?_
      refine lv_iadd hx hb d_Lines_addKind_56 ?_
      obtain ⟨hg, hf⟩ := gd_some hf
      refine va_iast hx hb hK hP (hI _) hS 51 0 xa_23 rfl (vin_in hg) d_Lines_addKind_57 (fun H locs hP _ hS => ?_)
      replace hP : va_P D classes (xW cI cZ cJ ao aa (sA (sA (sA q1.2 24 ((x0 * (8 : Int32)) + (gA q1.2 23 x0.toNatClampNeg)).toNatClampNeg x1) 25 ((x0 * (8 : Int32)) + (gA q1.2 23 x0.toNatClampNeg)).toNatClampNeg x2) 23 x0.toNatClampNeg ((gA (sA (sA q1.2 24 ((x0 * (8 : Int32)) + (gA q1.2 23 x0.toNatClampNeg)).toNatClampNeg x1) 25 ((x0 * (8 : Int32)) + (gA q1.2 23 x0.toNatClampNeg)).toNatClampNeg x2) 23 x0.toNatClampNeg) + (1 : Int32)))) H := pw xt_23 hP
      exact w_x_Lines_addKind_b58 X _ _ hf H locs ls hP hS (lv_sub hl [1, 2] rfl)
theorem c_x_Lines_addKind {l : Launch} {D : va_G} {cI cZ cJ : ClassId} {ao aa : Nat → Nat} {S : St} {x0 : Int32} {x1 : Int32} {x2 : Int32} {z : Int32 × St} (hz : x_Lines_addKind S x0 x1 x2 = some z) : Ct l y_Lines_addKind (.code y_Lines_addKind b_Lines_addKind 5 (some .int) :: gw) rm_x_Lines_addKind D [(cI, .int), (cZ, .boolean), (cJ, .long)] (xA ao aa) (xW cI cZ cJ ao aa) [.ref (ao 23), .int x0, .int x1, .int x2] S (some (.int z.1)) z.2 :=
  Ct_of (by decide) (fun p e s m args below meth c X => w_x_Lines_addKind X _ _ _ _ hz) (Nat.le_of_ble_eq_true rfl)
def x_G_token (S : St) (x0 : Int32) (x1 : Int32) (x2 : Int32) : Option (Int32 × St) :=
  (x_Lines_has S x0).bind fun q1 =>
  if q1.1 = 0 then
    some ((-101 : Int32), q1.2)
  else
    (x_G_mayBeToken q1.2 x1 x2).bind fun q2 =>
    if q2.1 = 0 then
      some ((-102 : Int32), q2.2)
    else
      (x_Lines_allows q2.2 x0 x1).bind fun q3 =>
      if q3.1 = 0 then
        some ((-103 : Int32), q3.2)
      else
        (x_Lines_kindsOf q3.2 x0).bind fun q4 =>
        if q4.1 < (8 : Int32) then
          (x_Lines_addKind q4.2 x0 x1 x2).bind fun q5 =>
          some (q5.1, q5.2)
        else
          some ((-104 : Int32), q4.2)
def rm_x_G_token : Room := { frames := 4, cells := 0, slots := 0, locals := 89 }
theorem ok_x_G_token : CalV y_G_token b_G_token 4 (some .int) 3 rm_x_G_token := ⟨kc_G_token, ki_G_token, kl_G_token, ji_G, ⟨by decide, by decide, by decide +kernel⟩, rfl, rfl⟩
set_option maxHeartbeats 4000000 in
set_option maxRecDepth 100000 in
theorem w_x_G_token {z : Int32 × St} (X : Cx b_G_token 4 (some .int) R_G D [(cI, .int), (cZ, .boolean), (cJ, .long)] (xA ao aa) (xW cI cZ cJ ao aa) p s m args meth c) (S : St) (x0 : Int32) (x1 : Int32) (x2 : Int32) (hf : x_G_token S x0 x1 x2 = some z) : WX rm_x_G_token D (xA ao aa) (xW cI cZ cJ ao aa) p l e s m args below meth c (some (.int z.1)) z.2 0 [] 4 [(0, .ref (ao 27)), (1, .int x0), (2, .int x1), (3, .int x2)] S := by
  intro H locs ls hP hS hl
  obtain ⟨hx, hb, hr0, hml, hown, htg, hlk, hK, hN, hI⟩ := id X
  unfold x_G_token at hf
  refine lv_aload_n hx hb d_G_token_0 rfl (lv_at hl 0 rfl) ?_
  refine va_get (D := D) (v := .ref (ao 23)) hx hb htg in_G hown hK hP 27 xo_27 rfl 2 (by decide) (htg _ k_f_G_26) (fun _ h9 => h9) rfl d_G_token_1 ?_
  refine lv_iload_n hx hb d_G_token_4 rfl (lv_at hl 1 rfl) ?_
  obtain ⟨q1, he, hf⟩ := ob_some hf
  refine cl_Vi (As := [.int x0]) (rest := []) X (c_x_Lines_has he) ok_x_Lines_has k_m_G_113 (va_recv hK hP rfl xo_23) rfl rfl hl.1 (Nat.le_of_ble_eq_true rfl) d_G_token_5 ⟨by decide, by decide⟩ hP hS (fun H locs hP hS => ?_)
  refine lv_if_ne (tgt := 14) hx hb d_G_token_8 (by decide) (fun c => ?_) (fun c => ?_)
  · have hf := if_f hf c
    refine lv_iload_n hx hb d_G_token_14 rfl (lv_at hl 2 rfl) ?_
    refine lv_iload_n hx hb d_G_token_15 rfl (lv_at hl 3 rfl) ?_
    obtain ⟨q2, he, hf⟩ := ob_some hf
    refine cl_Si (As := [.int x1, .int x2]) (rest := []) X (c_x_G_mayBeToken he) ok_x_G_mayBeToken k_m_G_114 rfl rfl hl.1 (Nat.le_of_ble_eq_true rfl) d_G_token_16 ⟨by decide, by decide⟩ hP hS (fun H locs hP hS => ?_)
    refine lv_if_ne (tgt := 25) hx hb d_G_token_19 (by decide) (fun c => ?_) (fun c => ?_)
    · have hf := if_f hf c
      refine lv_aload_n hx hb d_G_token_25 rfl (lv_at hl 0 rfl) ?_
      refine va_get (D := D) (v := .ref (ao 23)) hx hb htg in_G hown hK hP 27 xo_27 rfl 2 (by decide) (htg _ k_f_G_26) (fun _ h9 => h9) rfl d_G_token_26 ?_
      refine lv_iload_n hx hb d_G_token_29 rfl (lv_at hl 1 rfl) ?_
      refine lv_iload_n hx hb d_G_token_30 rfl (lv_at hl 2 rfl) ?_
      obtain ⟨q3, he, hf⟩ := ob_some hf
      refine cl_Vi (As := [.int x0, .int x1]) (rest := []) X (c_x_Lines_allows he) ok_x_Lines_allows k_m_G_118 (va_recv hK hP rfl xo_23) rfl rfl hl.1 (Nat.le_of_ble_eq_true rfl) d_G_token_31 ⟨by decide, by decide⟩ hP hS (fun H locs hP hS => ?_)
      refine lv_if_ne (tgt := 40) hx hb d_G_token_34 (by decide) (fun c => ?_) (fun c => ?_)
      · have hf := if_f hf c
        refine lv_aload_n hx hb d_G_token_40 rfl (lv_at hl 0 rfl) ?_
        refine va_get (D := D) (v := .ref (ao 23)) hx hb htg in_G hown hK hP 27 xo_27 rfl 2 (by decide) (htg _ k_f_G_26) (fun _ h9 => h9) rfl d_G_token_41 ?_
        refine lv_iload_n hx hb d_G_token_44 rfl (lv_at hl 1 rfl) ?_
        obtain ⟨q4, he, hf⟩ := ob_some hf
        refine cl_Vi (As := [.int x0]) (rest := []) X (c_x_Lines_kindsOf he) ok_x_Lines_kindsOf k_m_G_121 (va_recv hK hP rfl xo_23) rfl rfl hl.1 (Nat.le_of_ble_eq_true rfl) d_G_token_45 ⟨by decide, by decide⟩ hP hS (fun H locs hP hS => ?_)
        refine lv_bipush (v := 8) hx hb d_G_token_48 (by decide) ?_
        refine lv_icmp_lt (tgt := 56) hx hb d_G_token_50 (by decide) (fun c => ?_) (fun c => ?_)
        · have hf := if_t hf c
          refine lv_aload_n hx hb d_G_token_56 rfl (lv_at hl 0 rfl) ?_
          refine va_get (D := D) (v := .ref (ao 23)) hx hb htg in_G hown hK hP 27 xo_27 rfl 2 (by decide) (htg _ k_f_G_26) (fun _ h9 => h9) rfl d_G_token_57 ?_
          refine lv_iload_n hx hb d_G_token_60 rfl (lv_at hl 1 rfl) ?_
          refine lv_iload_n hx hb d_G_token_61 rfl (lv_at hl 2 rfl) ?_
          refine lv_iload_n hx hb d_G_token_62 rfl (lv_at hl 3 rfl) ?_
          obtain ⟨q5, he, hf⟩ := ob_some hf
          refine cl_Vi (As := [.int x0, .int x1, .int x2]) (rest := []) X (c_x_Lines_addKind he) ok_x_Lines_addKind k_m_G_124 (va_recv hK hP rfl xo_23) rfl rfl hl.1 (Nat.le_of_ble_eq_true rfl) d_G_token_63 ⟨by decide, by decide⟩ hP hS (fun H locs hP hS => ?_)
          obtain rfl := Option.some.inj hf
          exact W.iret hx hb hr0 (fun t ht _ => ⟨⟨rfl, by rw [ht]; exact hP⟩, hS.F ht⟩) hS.2.2 d_G_token_66 hlk
        · have hf := if_f hf c
          refine lv_bipush (v := (-104)) hx hb d_G_token_53 (by decide) ?_
          obtain rfl := Option.some.inj hf
          exact W.iret hx hb hr0 (fun t ht _ => ⟨⟨rfl, by rw [ht]; exact hP⟩, hS.F ht⟩) hS.2.2 d_G_token_55 hlk
      · have hf := if_t hf c
        refine lv_bipush (v := (-103)) hx hb d_G_token_37 (by decide) ?_
        obtain rfl := Option.some.inj hf
        exact W.iret hx hb hr0 (fun t ht _ => ⟨⟨rfl, by rw [ht]; exact hP⟩, hS.F ht⟩) hS.2.2 d_G_token_39 hlk
    · have hf := if_t hf c
      refine lv_bipush (v := (-102)) hx hb d_G_token_22 (by decide) ?_
      obtain rfl := Option.some.inj hf
      exact W.iret hx hb hr0 (fun t ht _ => ⟨⟨rfl, by rw [ht]; exact hP⟩, hS.F ht⟩) hS.2.2 d_G_token_24 hlk
  · have hf := if_t hf c
    refine lv_bipush (v := (-101)) hx hb d_G_token_11 (by decide) ?_
    obtain rfl := Option.some.inj hf
    exact W.iret hx hb hr0 (fun t ht _ => ⟨⟨rfl, by rw [ht]; exact hP⟩, hS.F ht⟩) hS.2.2 d_G_token_13 hlk
theorem c_x_G_token {l : Launch} {D : va_G} {cI cZ cJ : ClassId} {ao aa : Nat → Nat} {S : St} {x0 : Int32} {x1 : Int32} {x2 : Int32} {z : Int32 × St} (hz : x_G_token S x0 x1 x2 = some z) : Ct l y_G_token (.code y_G_token b_G_token 4 (some .int) :: gw) rm_x_G_token D [(cI, .int), (cZ, .boolean), (cJ, .long)] (xA ao aa) (xW cI cZ cJ ao aa) [.ref (ao 27), .int x0, .int x1, .int x2] S (some (.int z.1)) z.2 :=
  Ct_of (by decide) (fun p e s m args below meth c X => w_x_G_token X _ _ _ _ hz) (Nat.le_of_ble_eq_true rfl)
def x_G_mayBeFlags (S : St) (x0 : Int32) : Option (Int32 × St) :=
  if x0 < 0 then
    some ((0 : Int32), S)
  else
    if (15 : Int32) < x0 then
      some ((0 : Int32), S)
    else
      some ((1 : Int32), S)
def rm_x_G_mayBeFlags : Room := { frames := 0, cells := 0, slots := 0, locals := 0 }
theorem ok_x_G_mayBeFlags : CalS y_G_mayBeFlags b_G_mayBeFlags 1 (some .boolean) 1 rm_x_G_mayBeFlags := ⟨kc_G_mayBeFlags, ks_G_mayBeFlags, ji_G, ⟨by decide, by decide, by decide +kernel⟩, rfl, rfl⟩
set_option maxHeartbeats 4000000 in
set_option maxRecDepth 100000 in
theorem w_x_G_mayBeFlags {z : Int32 × St} (X : Cx b_G_mayBeFlags 1 (some .boolean) R_G D [(cI, .int), (cZ, .boolean), (cJ, .long)] (xA ao aa) (xW cI cZ cJ ao aa) p s m args meth c) (S : St) (x0 : Int32) (hf : x_G_mayBeFlags S x0 = some z) : WX rm_x_G_mayBeFlags D (xA ao aa) (xW cI cZ cJ ao aa) p l e s m args below meth c (some (.int z.1)) z.2 0 [] 1 [(0, .int x0)] S := by
  intro H locs ls hP hS hl
  obtain ⟨hx, hb, hr0, hml, hown, htg, hlk, hK, hN, hI⟩ := id X
  unfold x_G_mayBeFlags at hf
  refine lv_iload_n hx hb d_G_mayBeFlags_0 rfl (lv_at hl 0 rfl) ?_
  refine lv_if_lt (tgt := 14) hx hb d_G_mayBeFlags_1 (by decide) (fun c => ?_) (fun c => ?_)
  · have hf := if_t hf c
    refine lv_iconst (v := 0) hx hb d_G_mayBeFlags_14 (by decide) ?_
    obtain rfl := Option.some.inj hf
    exact W.zret (ty := .boolean) hx hb hr0 rfl (fun t ht _ => ⟨⟨rfl, by rw [ht]; exact hP⟩, hS.F ht⟩) hS.2.2 d_G_mayBeFlags_15 hlk
  · have hf := if_f hf c
    refine lv_iload_n hx hb d_G_mayBeFlags_4 rfl (lv_at hl 0 rfl) ?_
    refine lv_bipush (v := 15) hx hb d_G_mayBeFlags_5 (by decide) ?_
    refine lv_icmp_gt (tgt := 14) hx hb d_G_mayBeFlags_7 (by decide) (fun c => ?_) (fun c => ?_)
    · have hf := if_t hf c
      refine lv_iconst (v := 0) hx hb d_G_mayBeFlags_14 (by decide) ?_
      obtain rfl := Option.some.inj hf
      exact W.zret (ty := .boolean) hx hb hr0 rfl (fun t ht _ => ⟨⟨rfl, by rw [ht]; exact hP⟩, hS.F ht⟩) hS.2.2 d_G_mayBeFlags_15 hlk
    · have hf := if_f hf c
      refine lv_iconst (v := 1) hx hb d_G_mayBeFlags_10 (by decide) ?_
      refine lv_goto (tgt := 15) hx hb d_G_mayBeFlags_11 (by decide) ?_
      obtain rfl := Option.some.inj hf
      exact W.zret (ty := .boolean) hx hb hr0 rfl (fun t ht _ => ⟨⟨rfl, by rw [ht]; exact hP⟩, hS.F ht⟩) hS.2.2 d_G_mayBeFlags_15 hlk
theorem c_x_G_mayBeFlags {l : Launch} {D : va_G} {cI cZ cJ : ClassId} {ao aa : Nat → Nat} {S : St} {x0 : Int32} {z : Int32 × St} (hz : x_G_mayBeFlags S x0 = some z) : Ct l y_G_mayBeFlags (.code y_G_mayBeFlags b_G_mayBeFlags 1 (some .boolean) :: gw) rm_x_G_mayBeFlags D [(cI, .int), (cZ, .boolean), (cJ, .long)] (xA ao aa) (xW cI cZ cJ ao aa) [.int x0] S (some (.int z.1)) z.2 :=
  Ct_of (by decide) (fun p e s m args below meth c X => w_x_G_mayBeFlags X _ _ hz) (Nat.le_of_ble_eq_true rfl)
def x_Things_isFull (S : St) : Option (Int32 × St) :=
  if (gI S 23) < (40 : Int32) then
    some ((0 : Int32), S)
  else
    some ((1 : Int32), S)
def rm_x_Things_isFull : Room := { frames := 0, cells := 0, slots := 0, locals := 0 }
theorem ok_x_Things_isFull : CalV y_Things_isFull b_Things_isFull 1 (some .boolean) 0 rm_x_Things_isFull := ⟨kc_Things_isFull, ki_Things_isFull, kl_Things_isFull, ji_Things, ⟨by decide, by decide, by decide +kernel⟩, rfl, rfl⟩
set_option maxHeartbeats 4000000 in
set_option maxRecDepth 100000 in
theorem w_x_Things_isFull {z : Int32 × St} (X : Cx b_Things_isFull 1 (some .boolean) R_Things D [(cI, .int), (cZ, .boolean), (cJ, .long)] (xA ao aa) (xW cI cZ cJ ao aa) p s m args meth c) (S : St) (hf : x_Things_isFull S = some z) : WX rm_x_Things_isFull D (xA ao aa) (xW cI cZ cJ ao aa) p l e s m args below meth c (some (.int z.1)) z.2 0 [] 1 [(0, .ref (ao 21))] S := by
  intro H locs ls hP hS hl
  obtain ⟨hx, hb, hr0, hml, hown, htg, hlk, hK, hN, hI⟩ := id X
  unfold x_Things_isFull at hf
  refine lv_aload_n hx hb d_Things_isFull_0 rfl (lv_at hl 0 rfl) ?_
  refine va_get (D := D) (v := .int (gI S 23)) hx hb htg in_Things hown hK hP 21 xo_21 rfl 3 (by decide) (htg _ k_f_Things_21) (fun _ h9 => h9) rfl d_Things_isFull_1 ?_
  refine lv_bipush (v := 40) hx hb d_Things_isFull_4 (by decide) ?_
  refine lv_icmp_lt (tgt := 13) hx hb d_Things_isFull_6 (by decide) (fun c => ?_) (fun c => ?_)
  · have hf := if_t hf c
    refine lv_iconst (v := 0) hx hb d_Things_isFull_13 (by decide) ?_
    obtain rfl := Option.some.inj hf
    exact W.zret (ty := .boolean) hx hb hr0 rfl (fun t ht _ => ⟨⟨rfl, by rw [ht]; exact hP⟩, hS.F ht⟩) hS.2.2 d_Things_isFull_14 hlk
  · have hf := if_f hf c
    refine lv_iconst (v := 1) hx hb d_Things_isFull_9 (by decide) ?_
    refine lv_goto (tgt := 14) hx hb d_Things_isFull_10 (by decide) ?_
    obtain rfl := Option.some.inj hf
    exact W.zret (ty := .boolean) hx hb hr0 rfl (fun t ht _ => ⟨⟨rfl, by rw [ht]; exact hP⟩, hS.F ht⟩) hS.2.2 d_Things_isFull_14 hlk
theorem c_x_Things_isFull {l : Launch} {D : va_G} {cI cZ cJ : ClassId} {ao aa : Nat → Nat} {S : St} {z : Int32 × St} (hz : x_Things_isFull S = some z) : Ct l y_Things_isFull (.code y_Things_isFull b_Things_isFull 1 (some .boolean) :: gw) rm_x_Things_isFull D [(cI, .int), (cZ, .boolean), (cJ, .long)] (xA ao aa) (xW cI cZ cJ ao aa) [.ref (ao 21)] S (some (.int z.1)) z.2 :=
  Ct_of (by decide) (fun p e s m args below meth c X => w_x_Things_isFull X _ hz) (Nat.le_of_ble_eq_true rfl)
def x_Things_has (S : St) (x0 : Int32) : Option (Int32 × St) :=
  if x0 < 0 then
    some ((0 : Int32), S)
  else
    if (gI S 23) ≤ x0 then
      some ((0 : Int32), S)
    else
      some ((1 : Int32), S)
def rm_x_Things_has : Room := { frames := 0, cells := 0, slots := 0, locals := 0 }
theorem ok_x_Things_has : CalV y_Things_has b_Things_has 2 (some .boolean) 1 rm_x_Things_has := ⟨kc_Things_has, ki_Things_has, kl_Things_has, ji_Things, ⟨by decide, by decide, by decide +kernel⟩, rfl, rfl⟩
set_option maxHeartbeats 4000000 in
set_option maxRecDepth 100000 in
theorem w_x_Things_has {z : Int32 × St} (X : Cx b_Things_has 2 (some .boolean) R_Things D [(cI, .int), (cZ, .boolean), (cJ, .long)] (xA ao aa) (xW cI cZ cJ ao aa) p s m args meth c) (S : St) (x0 : Int32) (hf : x_Things_has S x0 = some z) : WX rm_x_Things_has D (xA ao aa) (xW cI cZ cJ ao aa) p l e s m args below meth c (some (.int z.1)) z.2 0 [] 2 [(0, .ref (ao 21)), (1, .int x0)] S := by
  intro H locs ls hP hS hl
  obtain ⟨hx, hb, hr0, hml, hown, htg, hlk, hK, hN, hI⟩ := id X
  unfold x_Things_has at hf
  refine lv_iload_n hx hb d_Things_has_0 rfl (lv_at hl 1 rfl) ?_
  refine lv_if_lt (tgt := 16) hx hb d_Things_has_1 (by decide) (fun c => ?_) (fun c => ?_)
  · have hf := if_t hf c
    refine lv_iconst (v := 0) hx hb d_Things_has_16 (by decide) ?_
    obtain rfl := Option.some.inj hf
    exact W.zret (ty := .boolean) hx hb hr0 rfl (fun t ht _ => ⟨⟨rfl, by rw [ht]; exact hP⟩, hS.F ht⟩) hS.2.2 d_Things_has_17 hlk
  · have hf := if_f hf c
    refine lv_iload_n hx hb d_Things_has_4 rfl (lv_at hl 1 rfl) ?_
    refine lv_aload_n hx hb d_Things_has_5 rfl (lv_at hl 0 rfl) ?_
    refine va_get (D := D) (v := .int (gI S 23)) hx hb htg in_Things hown hK hP 21 xo_21 rfl 3 (by decide) (htg _ k_f_Things_21) (fun _ h9 => h9) rfl d_Things_has_6 ?_
    refine lv_icmp_ge (tgt := 16) hx hb d_Things_has_9 (by decide) (fun c => ?_) (fun c => ?_)
    · have hf := if_t hf c
      refine lv_iconst (v := 0) hx hb d_Things_has_16 (by decide) ?_
      obtain rfl := Option.some.inj hf
      exact W.zret (ty := .boolean) hx hb hr0 rfl (fun t ht _ => ⟨⟨rfl, by rw [ht]; exact hP⟩, hS.F ht⟩) hS.2.2 d_Things_has_17 hlk
    · have hf := if_f hf c
      refine lv_iconst (v := 1) hx hb d_Things_has_12 (by decide) ?_
      refine lv_goto (tgt := 17) hx hb d_Things_has_13 (by decide) ?_
      obtain rfl := Option.some.inj hf
      exact W.zret (ty := .boolean) hx hb hr0 rfl (fun t ht _ => ⟨⟨rfl, by rw [ht]; exact hP⟩, hS.F ht⟩) hS.2.2 d_Things_has_17 hlk
theorem c_x_Things_has {l : Launch} {D : va_G} {cI cZ cJ : ClassId} {ao aa : Nat → Nat} {S : St} {x0 : Int32} {z : Int32 × St} (hz : x_Things_has S x0 = some z) : Ct l y_Things_has (.code y_Things_has b_Things_has 2 (some .boolean) :: gw) rm_x_Things_has D [(cI, .int), (cZ, .boolean), (cJ, .long)] (xA ao aa) (xW cI cZ cJ ao aa) [.ref (ao 21), .int x0] S (some (.int z.1)) z.2 :=
  Ct_of (by decide) (fun p e s m args below meth c X => w_x_Things_has X _ _ hz) (Nat.le_of_ble_eq_true rfl)
def x_Things_withAnyOf_b33 (k5 : St → Int32 → Int64 → Int32 → Option (Int64 × St)) (S : St) (x1 : Int32) (w2 : Int64) (x4 : Int32) : Option (Int64 × St) :=
  k5 S x1 w2 (x4 + 1)
def x_Things_withAnyOf_b5_f (k5 : St → Int32 → Int64 → Int32 → Option (Int64 × St)) (S : St) (x1 : Int32) (w2 : Int64) (x4 : Int32) : Option (Int64 × St) :=
  if (gI S 23) ≤ x4 then
    some (w2, S)
  else
    gd (vin x4 40) <|
    if ((gA S 17 x4.toNatClampNeg) &&& x1) = 0 then
      x_Things_withAnyOf_b33 k5 S x1 w2 x4
    else
      x_Things_withAnyOf_b33 k5 S x1 (w2 ||| ((1 : Int64) <<< (x4.toInt64 &&& 63))) x4
def x_Things_withAnyOf_b5 : Nat → St → Int32 → Int64 → Int32 → Option (Int64 × St)
  | 0, _, _, _, _ => none
  | n + 1, S, x1, w2, x4 => x_Things_withAnyOf_b5_f (x_Things_withAnyOf_b5 n) S x1 w2 x4
def x_Things_withAnyOf (S : St) (x0 : Int32) : Option (Int64 × St) :=
  x_Things_withAnyOf_b5 fu S x0 (0 : Int64) (0 : Int32)
def rm_x_Things_withAnyOf : Room := { frames := 0, cells := 0, slots := 0, locals := 0 }
theorem ok_x_Things_withAnyOf : CalV y_Things_withAnyOf b_Things_withAnyOf 5 (some .long) 1 rm_x_Things_withAnyOf := ⟨kc_Things_withAnyOf, ki_Things_withAnyOf, kl_Things_withAnyOf, ji_Things, ⟨by decide, by decide, by decide +kernel⟩, rfl, rfl⟩
set_option maxHeartbeats 4000000 in
set_option maxRecDepth 100000 in
theorem w_x_Things_withAnyOf_b33 {z : Int64 × St} (X : Cx b_Things_withAnyOf 5 (some .long) R_Things D [(cI, .int), (cZ, .boolean), (cJ, .long)] (xA ao aa) (xW cI cZ cJ ao aa) p s m args meth c) {k5 : St → Int32 → Int64 → Int32 → Option (Int64 × St)} (hk5 : ∀ (S : St) (x1 : Int32) (w2 : Int64) (x4 : Int32), k5 S x1 w2 x4 = some z → WX rm_x_Things_withAnyOf D (xA ao aa) (xW cI cZ cJ ao aa) p l e s m args below meth c (some (.long z.1)) z.2 5 [] 5 [(0, .ref (ao 21)), (1, .int x1), (2, .long w2), (4, .int x4)] S) (S : St) (x1 : Int32) (w2 : Int64) (x4 : Int32) (hf : x_Things_withAnyOf_b33 k5 S x1 w2 x4 = some z) : WX rm_x_Things_withAnyOf D (xA ao aa) (xW cI cZ cJ ao aa) p l e s m args below meth c (some (.long z.1)) z.2 33 [] 5 [(0, .ref (ao 21)), (1, .int x1), (2, .long w2), (4, .int x4)] S := by
  intro H locs ls hP hS hl
  obtain ⟨hx, hb, hr0, hml, hown, htg, hlk, hK, hN, hI⟩ := id X
  unfold x_Things_withAnyOf_b33 at hf
  refine lv_iinc (v := (x4 + 1)) (lv' := [(4, .int (x4 + 1)), (0, .ref (ao 21)), (1, .int x1), (2, .long w2)]) hx hb d_Things_withAnyOf_33 hl (k := 3) rfl rfl (by decide) rfl (fun ls hl => ?_)
  refine lv_goto (tgt := 5) hx hb d_Things_withAnyOf_36 (by decide) ?_
  exact hk5 _ _ _ _ hf H locs ls hP hS (lv_sub hl [1, 2, 3, 0] rfl)
set_option maxHeartbeats 4000000 in
set_option maxRecDepth 100000 in
theorem w_x_Things_withAnyOf_b5_f {z : Int64 × St} (X : Cx b_Things_withAnyOf 5 (some .long) R_Things D [(cI, .int), (cZ, .boolean), (cJ, .long)] (xA ao aa) (xW cI cZ cJ ao aa) p s m args meth c) {k5 : St → Int32 → Int64 → Int32 → Option (Int64 × St)} (hk5 : ∀ (S : St) (x1 : Int32) (w2 : Int64) (x4 : Int32), k5 S x1 w2 x4 = some z → WX rm_x_Things_withAnyOf D (xA ao aa) (xW cI cZ cJ ao aa) p l e s m args below meth c (some (.long z.1)) z.2 5 [] 5 [(0, .ref (ao 21)), (1, .int x1), (2, .long w2), (4, .int x4)] S) (S : St) (x1 : Int32) (w2 : Int64) (x4 : Int32) (hf : x_Things_withAnyOf_b5_f k5 S x1 w2 x4 = some z) : WX rm_x_Things_withAnyOf D (xA ao aa) (xW cI cZ cJ ao aa) p l e s m args below meth c (some (.long z.1)) z.2 5 [] 5 [(0, .ref (ao 21)), (1, .int x1), (2, .long w2), (4, .int x4)] S := by
  intro H locs ls hP hS hl
  obtain ⟨hx, hb, hr0, hml, hown, htg, hlk, hK, hN, hI⟩ := id X
  unfold x_Things_withAnyOf_b5_f at hf
  refine lv_iload hx hb d_Things_withAnyOf_5 (lv_at hl 3 rfl) ?_
  refine lv_aload_n hx hb d_Things_withAnyOf_7 rfl (lv_at hl 0 rfl) ?_
  refine va_get (D := D) (v := .int (gI S 23)) hx hb htg in_Things hown hK hP 21 xo_21 rfl 3 (by decide) (htg _ k_f_Things_21) (fun _ h9 => h9) rfl d_Things_withAnyOf_8 ?_
  refine lv_icmp_ge (tgt := 39) hx hb d_Things_withAnyOf_11 (by decide) (fun c => ?_) (fun c => ?_)
  · have hf := if_t hf c
    refine lv_lload_n hx hb d_Things_withAnyOf_39 rfl (lv_at hl 2 rfl) ?_
    obtain rfl := Option.some.inj hf
    exact W.lret hx hb hr0 (fun t ht _ => ⟨⟨rfl, by rw [ht]; exact hP⟩, hS.F ht⟩) hS.2.2 d_Things_withAnyOf_40 hlk
  · have hf := if_f hf c
    refine lv_aload_n hx hb d_Things_withAnyOf_14 rfl (lv_at hl 0 rfl) ?_
    refine va_get (D := D) (v := .ref (aa 17)) hx hb htg in_Things hown hK hP 21 xo_21 rfl 0 (by decide) (htg _ k_f_Things_9) (fun _ h9 => h9) rfl d_Things_withAnyOf_15 ?_
    refine lv_iload hx hb d_Things_withAnyOf_18 (lv_at hl 3 rfl) ?_
    obtain ⟨hg, hf⟩ := gd_some hf
    refine va_iald hx hb hK hP 45 0 xa_17 rfl (vin_in hg) d_Things_withAnyOf_20 ?_
    refine lv_iload_n hx hb d_Things_withAnyOf_21 rfl (lv_at hl 1 rfl) ?_
    refine lv_iand hx hb d_Things_withAnyOf_22 ?_
    refine lv_if_eq (tgt := 33) hx hb d_Things_withAnyOf_23 (by decide) (fun c => ?_) (fun c => ?_)
    · have hf := if_t hf c
      exact w_x_Things_withAnyOf_b33 X hk5 _ _ _ _ hf H locs ls hP hS (lv_sub hl [0, 1, 2, 3] rfl)
    · have hf := if_f hf c
      refine lv_lload_n hx hb d_Things_withAnyOf_26 rfl (lv_at hl 2 rfl) ?_
      refine lv_lconst (v := 1) hx hb d_Things_withAnyOf_27 (by decide) ?_
      refine lv_iload hx hb d_Things_withAnyOf_28 (lv_at hl 3 rfl) ?_
      refine lv_lshl hx hb d_Things_withAnyOf_30 rfl ?_
      refine lv_lor hx hb d_Things_withAnyOf_31 ?_
      refine lv_lstore_n (lv' := [(2, .long (w2 ||| ((1 : Int64) <<< (x4.toInt64 &&& 63)))), (0, .ref (ao 21)), (1, .int x1), (4, .int x4)]) hx hb d_Things_withAnyOf_32 rfl hl (by decide) rfl (fun ls hl => ?_)
      exact w_x_Things_withAnyOf_b33 X hk5 _ _ _ _ hf H locs ls hP hS (lv_sub hl [1, 2, 0, 3] rfl)
theorem w_x_Things_withAnyOf_b5 {z : Int64 × St} (X : Cx b_Things_withAnyOf 5 (some .long) R_Things D [(cI, .int), (cZ, .boolean), (cJ, .long)] (xA ao aa) (xW cI cZ cJ ao aa) p s m args meth c) : ∀ (n : Nat) (S : St) (x1 : Int32) (w2 : Int64) (x4 : Int32), x_Things_withAnyOf_b5 n S x1 w2 x4 = some z → WX rm_x_Things_withAnyOf D (xA ao aa) (xW cI cZ cJ ao aa) p l e s m args below meth c (some (.long z.1)) z.2 5 [] 5 [(0, .ref (ao 21)), (1, .int x1), (2, .long w2), (4, .int x4)] S
  | 0, _, _, _, _, hf => ns hf
  | n + 1, _, _, _, _, hf => w_x_Things_withAnyOf_b5_f X (w_x_Things_withAnyOf_b5 X n) _ _ _ _ hf
set_option maxHeartbeats 4000000 in
set_option maxRecDepth 100000 in
theorem w_x_Things_withAnyOf {z : Int64 × St} (X : Cx b_Things_withAnyOf 5 (some .long) R_Things D [(cI, .int), (cZ, .boolean), (cJ, .long)] (xA ao aa) (xW cI cZ cJ ao aa) p s m args meth c) (S : St) (x0 : Int32) (hf : x_Things_withAnyOf S x0 = some z) : WX rm_x_Things_withAnyOf D (xA ao aa) (xW cI cZ cJ ao aa) p l e s m args below meth c (some (.long z.1)) z.2 0 [] 5 [(0, .ref (ao 21)), (1, .int x0)] S := by
  intro H locs ls hP hS hl
  obtain ⟨hx, hb, hr0, hml, hown, htg, hlk, hK, hN, hI⟩ := id X
  unfold x_Things_withAnyOf at hf
  refine lv_lconst (v := 0) hx hb d_Things_withAnyOf_0 (by decide) ?_
  refine lv_lstore_n (lv' := [(2, .long (0 : Int64)), (0, .ref (ao 21)), (1, .int x0)]) hx hb d_Things_withAnyOf_1 rfl hl (by decide) rfl (fun ls hl => ?_)
  refine lv_iconst (v := 0) hx hb d_Things_withAnyOf_2 (by decide) ?_
  refine lv_istore (lv' := [(4, .int (0 : Int32)), (2, .long (0 : Int64)), (0, .ref (ao 21)), (1, .int x0)]) hx hb d_Things_withAnyOf_3 hl (by decide) rfl (fun ls hl => ?_)
  exact w_x_Things_withAnyOf_b5 X _ _ _ _ _ hf H locs ls hP hS (lv_sub hl [2, 3, 1, 0] rfl)
theorem c_x_Things_withAnyOf {l : Launch} {D : va_G} {cI cZ cJ : ClassId} {ao aa : Nat → Nat} {S : St} {x0 : Int32} {z : Int64 × St} (hz : x_Things_withAnyOf S x0 = some z) : Ct l y_Things_withAnyOf (.code y_Things_withAnyOf b_Things_withAnyOf 5 (some .long) :: gw) rm_x_Things_withAnyOf D [(cI, .int), (cZ, .boolean), (cJ, .long)] (xA ao aa) (xW cI cZ cJ ao aa) [.ref (ao 21), .int x0] S (some (.long z.1)) z.2 :=
  Ct_of (by decide) (fun p e s m args below meth c X => w_x_Things_withAnyOf X _ _ hz) (Nat.le_of_ble_eq_true rfl)
def x_Things_changeFlags (S : St) (x0 : Int32) (x1 : Int32) : Option (Int32 × St) :=
  (x_Things_has S x0).bind fun q1 =>
  if q1.1 = 0 then
    some ((-1 : Int32), q1.2)
  else
    gd (vin x0 40) <|
    gd (vin x0 40) <|
    (x_Things_withAnyOf (sA q1.2 17 x0.toNatClampNeg x1) (7 : Int32)).bind fun q2 =>
    (x_Things_withAnyOf (sL q2.2 4 q2.1) (6 : Int32)).bind fun q3 =>
    (x_Things_withAnyOf (sL q3.2 5 q3.1) (4 : Int32)).bind fun q4 =>
    (x_Things_withAnyOf (sL q4.2 6 q4.1) (8 : Int32)).bind fun q5 =>
    some ((gA q1.2 17 x0.toNatClampNeg), (sL q5.2 7 q5.1))
def rm_x_Things_changeFlags : Room := { frames := 1, cells := 0, slots := 0, locals := 24 }
theorem ok_x_Things_changeFlags : CalV y_Things_changeFlags b_Things_changeFlags 4 (some .int) 2 rm_x_Things_changeFlags := ⟨kc_Things_changeFlags, ki_Things_changeFlags, kl_Things_changeFlags, ji_Things, ⟨by decide, by decide, by decide +kernel⟩, rfl, rfl⟩
set_option maxHeartbeats 4000000 in
set_option maxRecDepth 100000 in
theorem w_x_Things_changeFlags {z : Int32 × St} (X : Cx b_Things_changeFlags 4 (some .int) R_Things D [(cI, .int), (cZ, .boolean), (cJ, .long)] (xA ao aa) (xW cI cZ cJ ao aa) p s m args meth c) (S : St) (x0 : Int32) (x1 : Int32) (hf : x_Things_changeFlags S x0 x1 = some z) : WX rm_x_Things_changeFlags D (xA ao aa) (xW cI cZ cJ ao aa) p l e s m args below meth c (some (.int z.1)) z.2 0 [] 4 [(0, .ref (ao 21)), (1, .int x0), (2, .int x1)] S := by
  intro H locs ls hP hS hl
  obtain ⟨hx, hb, hr0, hml, hown, htg, hlk, hK, hN, hI⟩ := id X
  unfold x_Things_changeFlags at hf
  refine lv_aload_n hx hb d_Things_changeFlags_0 rfl (lv_at hl 0 rfl) ?_
  refine lv_iload_n hx hb d_Things_changeFlags_1 rfl (lv_at hl 1 rfl) ?_
  obtain ⟨q1, he, hf⟩ := ob_some hf
  refine cl_Vi (As := [.int x0]) (rest := []) X (c_x_Things_has he) ok_x_Things_has k_m_Things_33 (va_recv hK hP rfl xo_21) rfl rfl hl.1 (Nat.le_of_ble_eq_true rfl) d_Things_changeFlags_2 ⟨by decide, by decide⟩ hP hS (fun H locs hP hS => ?_)
  refine lv_if_ne (tgt := 10) hx hb d_Things_changeFlags_5 (by decide) (fun c => ?_) (fun c => ?_)
  · have hf := if_f hf c
    refine lv_aload_n hx hb d_Things_changeFlags_10 rfl (lv_at hl 0 rfl) ?_
    refine va_get (D := D) (v := .ref (aa 17)) hx hb htg in_Things hown hK hP 21 xo_21 rfl 0 (by decide) (htg _ k_f_Things_9) (fun _ h9 => h9) rfl d_Things_changeFlags_11 ?_
    refine lv_iload_n hx hb d_Things_changeFlags_14 rfl (lv_at hl 1 rfl) ?_
    obtain ⟨hg, hf⟩ := gd_some hf
    refine va_iald hx hb hK hP 45 0 xa_17 rfl (vin_in hg) d_Things_changeFlags_15 ?_
    refine lv_istore_n (lv' := [(3, .int (gA q1.2 17 x0.toNatClampNeg)), (0, .ref (ao 21)), (1, .int x0), (2, .int x1)]) hx hb d_Things_changeFlags_16 rfl hl (by decide) rfl (fun ls hl => ?_)
    refine lv_aload_n hx hb d_Things_changeFlags_17 rfl (lv_at hl 1 rfl) ?_
    refine va_get (D := D) (v := .ref (aa 17)) hx hb htg in_Things hown hK hP 21 xo_21 rfl 0 (by decide) (htg _ k_f_Things_9) (fun _ h9 => h9) rfl d_Things_changeFlags_18 ?_
    refine lv_iload_n hx hb d_Things_changeFlags_21 rfl (lv_at hl 2 rfl) ?_
    refine lv_iload_n hx hb d_Things_changeFlags_22 rfl (lv_at hl 3 rfl) ?_
    obtain ⟨hg, hf⟩ := gd_some hf
    refine va_iast hx hb hK hP (hI _) hS 45 0 xa_17 rfl (vin_in hg) d_Things_changeFlags_23 (fun H locs hP _ hS => ?_)
    replace hP : va_P D classes (xW cI cZ cJ ao aa (sA q1.2 17 x0.toNatClampNeg x1)) H := pw xt_17 hP
    refine lv_aload_n hx hb d_Things_changeFlags_24 rfl (lv_at hl 1 rfl) ?_
    refine lv_aload_n hx hb d_Things_changeFlags_25 rfl (lv_at hl 1 rfl) ?_
    refine lv_bipush (v := 7) hx hb d_Things_changeFlags_26 (by decide) ?_
    obtain ⟨q2, he, hf⟩ := ob_some hf
    refine cl_Vl (As := [.int (7 : Int32)]) (rest := [.ref (ao 21)]) X (c_x_Things_withAnyOf he) ok_x_Things_withAnyOf k_m_Things_37 (va_recv hK hP rfl xo_21) rfl rfl hl.1 (Nat.le_of_ble_eq_true rfl) d_Things_changeFlags_28 ⟨by decide, by decide⟩ hP hS (fun H locs hP hS => ?_)
    refine va_put (D := D) (ty := .long) hx hb htg in_Things t_Things t_Things_ok n_Things hown hK hP (hI _) hS 21 xo_21 rfl 4 (by decide) (htg _ k_f_Things_41) (fun _ h9 => h9) rfl (by decide +kernel) rfl rfl (Nat.le_of_ble_eq_true rfl) d_Things_changeFlags_31 (fun H locs hP _ hS => ?_)
    replace hP : va_P D classes (xW cI cZ cJ ao aa (sL q2.2 4 q2.1)) H := pw xs_21_inScope hP
    refine lv_aload_n hx hb d_Things_changeFlags_34 rfl (lv_at hl 1 rfl) ?_
    refine lv_aload_n hx hb d_Things_changeFlags_35 rfl (lv_at hl 1 rfl) ?_
    refine lv_bipush (v := 6) hx hb d_Things_changeFlags_36 (by decide) ?_
    obtain ⟨q3, he, hf⟩ := ob_some hf
    refine cl_Vl (As := [.int (6 : Int32)]) (rest := [.ref (ao 21)]) X (c_x_Things_withAnyOf he) ok_x_Things_withAnyOf k_m_Things_37 (va_recv hK hP rfl xo_21) rfl rfl hl.1 (Nat.le_of_ble_eq_true rfl) d_Things_changeFlags_38 ⟨by decide, by decide⟩ hP hS (fun H locs hP hS => ?_)
    refine va_put (D := D) (ty := .long) hx hb htg in_Things t_Things t_Things_ok n_Things hown hK hP (hI _) hS 21 xo_21 rfl 5 (by decide) (htg _ k_f_Things_45) (fun _ h9 => h9) rfl (by decide +kernel) rfl rfl (Nat.le_of_ble_eq_true rfl) d_Things_changeFlags_41 (fun H locs hP _ hS => ?_)
    replace hP : va_P D classes (xW cI cZ cJ ao aa (sL q3.2 5 q3.1)) H := pw xs_21_held hP
    refine lv_aload_n hx hb d_Things_changeFlags_44 rfl (lv_at hl 1 rfl) ?_
    refine lv_aload_n hx hb d_Things_changeFlags_45 rfl (lv_at hl 1 rfl) ?_
    refine lv_iconst (v := 4) hx hb d_Things_changeFlags_46 (by decide) ?_
    obtain ⟨q4, he, hf⟩ := ob_some hf
    refine cl_Vl (As := [.int (4 : Int32)]) (rest := [.ref (ao 21)]) X (c_x_Things_withAnyOf he) ok_x_Things_withAnyOf k_m_Things_37 (va_recv hK hP rfl xo_21) rfl rfl hl.1 (Nat.le_of_ble_eq_true rfl) d_Things_changeFlags_47 ⟨by decide, by decide⟩ hP hS (fun H locs hP hS => ?_)
    refine va_put (D := D) (ty := .long) hx hb htg in_Things t_Things t_Things_ok n_Things hown hK hP (hI _) hS 21 xo_21 rfl 6 (by decide) (htg _ k_f_Things_48) (fun _ h9 => h9) rfl (by decide +kernel) rfl rfl (Nat.le_of_ble_eq_true rfl) d_Things_changeFlags_50 (fun H locs hP _ hS => ?_)
    replace hP : va_P D classes (xW cI cZ cJ ao aa (sL q4.2 6 q4.1)) H := pw xs_21_worn hP
    refine lv_aload_n hx hb d_Things_changeFlags_53 rfl (lv_at hl 1 rfl) ?_
    refine lv_aload_n hx hb d_Things_changeFlags_54 rfl (lv_at hl 1 rfl) ?_
    refine lv_bipush (v := 8) hx hb d_Things_changeFlags_55 (by decide) ?_
    obtain ⟨q5, he, hf⟩ := ob_some hf
    refine cl_Vl (As := [.int (8 : Int32)]) (rest := [.ref (ao 21)]) X (c_x_Things_withAnyOf he) ok_x_Things_withAnyOf k_m_Things_37 (va_recv hK hP rfl xo_21) rfl rfl hl.1 (Nat.le_of_ble_eq_true rfl) d_Things_changeFlags_57 ⟨by decide, by decide⟩ hP hS (fun H locs hP hS => ?_)
    refine va_put (D := D) (ty := .long) hx hb htg in_Things t_Things t_Things_ok n_Things hown hK hP (hI _) hS 21 xo_21 rfl 7 (by decide) (htg _ k_f_Things_51) (fun _ h9 => h9) rfl (by decide +kernel) rfl rfl (Nat.le_of_ble_eq_true rfl) d_Things_changeFlags_60 (fun H locs hP _ hS => ?_)
    replace hP : va_P D classes (xW cI cZ cJ ao aa (sL q5.2 7 q5.1)) H := pw xs_21_creatures hP
    refine lv_iload_n hx hb d_Things_changeFlags_63 rfl (lv_at hl 0 rfl) ?_
    obtain rfl := Option.some.inj hf
    exact W.iret hx hb hr0 (fun t ht _ => ⟨⟨rfl, by rw [ht]; exact hP⟩, hS.F ht⟩) hS.2.2 d_Things_changeFlags_64 hlk
  · have hf := if_t hf c
    refine lv_iconst (v := (-1)) hx hb d_Things_changeFlags_8 (by decide) ?_
    obtain rfl := Option.some.inj hf
    exact W.iret hx hb hr0 (fun t ht _ => ⟨⟨rfl, by rw [ht]; exact hP⟩, hS.F ht⟩) hS.2.2 d_Things_changeFlags_9 hlk
theorem c_x_Things_changeFlags {l : Launch} {D : va_G} {cI cZ cJ : ClassId} {ao aa : Nat → Nat} {S : St} {x0 : Int32} {x1 : Int32} {z : Int32 × St} (hz : x_Things_changeFlags S x0 x1 = some z) : Ct l y_Things_changeFlags (.code y_Things_changeFlags b_Things_changeFlags 4 (some .int) :: gw) rm_x_Things_changeFlags D [(cI, .int), (cZ, .boolean), (cJ, .long)] (xA ao aa) (xW cI cZ cJ ao aa) [.ref (ao 21), .int x0, .int x1] S (some (.int z.1)) z.2 :=
  Ct_of (by decide) (fun p e s m args below meth c X => w_x_Things_changeFlags X _ _ _ hz) (Nat.le_of_ble_eq_true rfl)
def x_Things_add (S : St) (x0 : Int32) : Option (Int32 × St) :=
  (x_Things_isFull S).bind fun q1 =>
  if q1.1 = 0 then
    (x_Things_changeFlags (sI q1.2 23 ((gI q1.2 23) + (1 : Int32))) ((gI (sI q1.2 23 ((gI q1.2 23) + (1 : Int32))) 23) - (1 : Int32)) x0).bind fun q2 =>
    some (((gI q2.2 23) - (1 : Int32)), q2.2)
  else
    some ((-1 : Int32), q1.2)
def rm_x_Things_add : Room := { frames := 2, cells := 0, slots := 0, locals := 47 }
theorem ok_x_Things_add : CalV y_Things_add b_Things_add 2 (some .int) 1 rm_x_Things_add := ⟨kc_Things_add, ki_Things_add, kl_Things_add, ji_Things, ⟨by decide, by decide, by decide +kernel⟩, rfl, rfl⟩
set_option maxHeartbeats 4000000 in
set_option maxRecDepth 100000 in
theorem w_x_Things_add {z : Int32 × St} (X : Cx b_Things_add 2 (some .int) R_Things D [(cI, .int), (cZ, .boolean), (cJ, .long)] (xA ao aa) (xW cI cZ cJ ao aa) p s m args meth c) (S : St) (x0 : Int32) (hf : x_Things_add S x0 = some z) : WX rm_x_Things_add D (xA ao aa) (xW cI cZ cJ ao aa) p l e s m args below meth c (some (.int z.1)) z.2 0 [] 2 [(0, .ref (ao 21)), (1, .int x0)] S := by
  intro H locs ls hP hS hl
  obtain ⟨hx, hb, hr0, hml, hown, htg, hlk, hK, hN, hI⟩ := id X
  unfold x_Things_add at hf
  refine lv_aload_n hx hb d_Things_add_0 rfl (lv_at hl 0 rfl) ?_
  obtain ⟨q1, he, hf⟩ := ob_some hf
  refine cl_Vi (As := []) (rest := []) X (c_x_Things_isFull he) ok_x_Things_isFull k_m_Things_25 (va_recv hK hP rfl xo_21) rfl rfl hl.1 (Nat.le_of_ble_eq_true rfl) d_Things_add_1 ⟨by decide, by decide⟩ hP hS (fun H locs hP hS => ?_)
  refine lv_if_eq (tgt := 9) hx hb d_Things_add_4 (by decide) (fun c => ?_) (fun c => ?_)
  · have hf := if_t hf c
    refine lv_aload_n hx hb d_Things_add_9 rfl (lv_at hl 0 rfl) ?_
    refine lv_dup hx hb d_Things_add_10 rfl ?_
    refine va_get (D := D) (v := .int (gI q1.2 23)) hx hb htg in_Things hown hK hP 21 xo_21 rfl 3 (by decide) (htg _ k_f_Things_21) (fun _ h9 => h9) rfl d_Things_add_11 ?_
    refine lv_iconst (v := 1) hx hb d_Things_add_14 (by decide) ?_
    refine lv_iadd hx hb d_Things_add_15 ?_
    refine va_put (D := D) (ty := .int) hx hb htg in_Things t_Things t_Things_ok n_Things hown hK hP (hI _) hS 21 xo_21 rfl 3 (by decide) (htg _ k_f_Things_21) (fun _ h9 => h9) rfl (by decide +kernel) rfl rfl (Nat.le_of_ble_eq_true rfl) d_Things_add_16 (fun H locs hP _ hS => ?_)
    replace hP : va_P D classes (xW cI cZ cJ ao aa (sI q1.2 23 ((gI q1.2 23) + (1 : Int32)))) H := pw xs_21_count hP
    refine lv_aload_n hx hb d_Things_add_19 rfl (lv_at hl 0 rfl) ?_
    refine lv_aload_n hx hb d_Things_add_20 rfl (lv_at hl 0 rfl) ?_
    refine va_get (D := D) (v := .int (gI (sI q1.2 23 ((gI q1.2 23) + (1 : Int32))) 23)) hx hb htg in_Things hown hK hP 21 xo_21 rfl 3 (by decide) (htg _ k_f_Things_21) (fun _ h9 => h9) rfl d_Things_add_21 ?_
    refine lv_iconst (v := 1) hx hb d_Things_add_24 (by decide) ?_
    refine lv_isub hx hb d_Things_add_25 ?_
    refine lv_iload_n hx hb d_Things_add_26 rfl (lv_at hl 1 rfl) ?_
    obtain ⟨q2, he, hf⟩ := ob_some hf
    refine cl_Vi (As := [.int ((gI (sI q1.2 23 ((gI q1.2 23) + (1 : Int32))) 23) - (1 : Int32)), .int x0]) (rest := []) X (c_x_Things_changeFlags he) ok_x_Things_changeFlags k_m_Things_29 (va_recv hK hP rfl xo_21) rfl rfl hl.1 (Nat.le_of_ble_eq_true rfl) d_Things_add_27 ⟨by decide, by decide⟩ hP hS (fun H locs hP hS => ?_)
    refine lv_pop hx hb d_Things_add_30 rfl ?_
    refine lv_aload_n hx hb d_Things_add_31 rfl (lv_at hl 0 rfl) ?_
    refine va_get (D := D) (v := .int (gI q2.2 23)) hx hb htg in_Things hown hK hP 21 xo_21 rfl 3 (by decide) (htg _ k_f_Things_21) (fun _ h9 => h9) rfl d_Things_add_32 ?_
    refine lv_iconst (v := 1) hx hb d_Things_add_35 (by decide) ?_
    refine lv_isub hx hb d_Things_add_36 ?_
    obtain rfl := Option.some.inj hf
    exact W.iret hx hb hr0 (fun t ht _ => ⟨⟨rfl, by rw [ht]; exact hP⟩, hS.F ht⟩) hS.2.2 d_Things_add_37 hlk
  · have hf := if_f hf c
    refine lv_iconst (v := (-1)) hx hb d_Things_add_7 (by decide) ?_
    obtain rfl := Option.some.inj hf
    exact W.iret hx hb hr0 (fun t ht _ => ⟨⟨rfl, by rw [ht]; exact hP⟩, hS.F ht⟩) hS.2.2 d_Things_add_8 hlk
theorem c_x_Things_add {l : Launch} {D : va_G} {cI cZ cJ : ClassId} {ao aa : Nat → Nat} {S : St} {x0 : Int32} {z : Int32 × St} (hz : x_Things_add S x0 = some z) : Ct l y_Things_add (.code y_Things_add b_Things_add 2 (some .int) :: gw) rm_x_Things_add D [(cI, .int), (cZ, .boolean), (cJ, .long)] (xA ao aa) (xW cI cZ cJ ao aa) [.ref (ao 21), .int x0] S (some (.int z.1)) z.2 :=
  Ct_of (by decide) (fun p e s m args below meth c X => w_x_Things_add X _ _ hz) (Nat.le_of_ble_eq_true rfl)
def x_G_thing (S : St) (x0 : Int32) : Option (Int32 × St) :=
  (x_G_mayBeFlags S x0).bind fun q1 =>
  if q1.1 = 0 then
    some ((-102 : Int32), q1.2)
  else
    (x_Things_isFull q1.2).bind fun q2 =>
    if q2.1 = 0 then
      (x_Things_add q2.2 x0).bind fun q3 =>
      some (q3.1, q3.2)
    else
      some ((-104 : Int32), q2.2)
def rm_x_G_thing : Room := { frames := 3, cells := 0, slots := 0, locals := 68 }
theorem ok_x_G_thing : CalV y_G_thing b_G_thing 2 (some .int) 1 rm_x_G_thing := ⟨kc_G_thing, ki_G_thing, kl_G_thing, ji_G, ⟨by decide, by decide, by decide +kernel⟩, rfl, rfl⟩
set_option maxHeartbeats 4000000 in
set_option maxRecDepth 100000 in
theorem w_x_G_thing {z : Int32 × St} (X : Cx b_G_thing 2 (some .int) R_G D [(cI, .int), (cZ, .boolean), (cJ, .long)] (xA ao aa) (xW cI cZ cJ ao aa) p s m args meth c) (S : St) (x0 : Int32) (hf : x_G_thing S x0 = some z) : WX rm_x_G_thing D (xA ao aa) (xW cI cZ cJ ao aa) p l e s m args below meth c (some (.int z.1)) z.2 0 [] 2 [(0, .ref (ao 27)), (1, .int x0)] S := by
  intro H locs ls hP hS hl
  obtain ⟨hx, hb, hr0, hml, hown, htg, hlk, hK, hN, hI⟩ := id X
  unfold x_G_thing at hf
  refine lv_iload_n hx hb d_G_thing_0 rfl (lv_at hl 1 rfl) ?_
  obtain ⟨q1, he, hf⟩ := ob_some hf
  refine cl_Si (As := [.int x0]) (rest := []) X (c_x_G_mayBeFlags he) ok_x_G_mayBeFlags k_m_G_128 rfl rfl hl.1 (Nat.le_of_ble_eq_true rfl) d_G_thing_1 ⟨by decide, by decide⟩ hP hS (fun H locs hP hS => ?_)
  refine lv_if_ne (tgt := 10) hx hb d_G_thing_4 (by decide) (fun c => ?_) (fun c => ?_)
  · have hf := if_f hf c
    refine lv_aload_n hx hb d_G_thing_10 rfl (lv_at hl 0 rfl) ?_
    refine va_get (D := D) (v := .ref (ao 21)) hx hb htg in_G hown hK hP 27 xo_27 rfl 0 (by decide) (htg _ k_f_G_10) (fun _ h9 => h9) rfl d_G_thing_11 ?_
    obtain ⟨q2, he, hf⟩ := ob_some hf
    refine cl_Vi (As := []) (rest := []) X (c_x_Things_isFull he) ok_x_Things_isFull k_m_G_131 (va_recv hK hP rfl xo_21) rfl rfl hl.1 (Nat.le_of_ble_eq_true rfl) d_G_thing_14 ⟨by decide, by decide⟩ hP hS (fun H locs hP hS => ?_)
    refine lv_if_eq (tgt := 23) hx hb d_G_thing_17 (by decide) (fun c => ?_) (fun c => ?_)
    · have hf := if_t hf c
      refine lv_aload_n hx hb d_G_thing_23 rfl (lv_at hl 0 rfl) ?_
      refine va_get (D := D) (v := .ref (ao 21)) hx hb htg in_G hown hK hP 27 xo_27 rfl 0 (by decide) (htg _ k_f_G_10) (fun _ h9 => h9) rfl d_G_thing_24 ?_
      refine lv_iload_n hx hb d_G_thing_27 rfl (lv_at hl 1 rfl) ?_
      obtain ⟨q3, he, hf⟩ := ob_some hf
      refine cl_Vi (As := [.int x0]) (rest := []) X (c_x_Things_add he) ok_x_Things_add k_m_G_132 (va_recv hK hP rfl xo_21) rfl rfl hl.1 (Nat.le_of_ble_eq_true rfl) d_G_thing_28 ⟨by decide, by decide⟩ hP hS (fun H locs hP hS => ?_)
      obtain rfl := Option.some.inj hf
      exact W.iret hx hb hr0 (fun t ht _ => ⟨⟨rfl, by rw [ht]; exact hP⟩, hS.F ht⟩) hS.2.2 d_G_thing_31 hlk
    · have hf := if_f hf c
      refine lv_bipush (v := (-104)) hx hb d_G_thing_20 (by decide) ?_
      obtain rfl := Option.some.inj hf
      exact W.iret hx hb hr0 (fun t ht _ => ⟨⟨rfl, by rw [ht]; exact hP⟩, hS.F ht⟩) hS.2.2 d_G_thing_22 hlk
  · have hf := if_t hf c
    refine lv_bipush (v := (-102)) hx hb d_G_thing_7 (by decide) ?_
    obtain rfl := Option.some.inj hf
    exact W.iret hx hb hr0 (fun t ht _ => ⟨⟨rfl, by rw [ht]; exact hP⟩, hS.F ht⟩) hS.2.2 d_G_thing_9 hlk
theorem c_x_G_thing {l : Launch} {D : va_G} {cI cZ cJ : ClassId} {ao aa : Nat → Nat} {S : St} {x0 : Int32} {z : Int32 × St} (hz : x_G_thing S x0 = some z) : Ct l y_G_thing (.code y_G_thing b_G_thing 2 (some .int) :: gw) rm_x_G_thing D [(cI, .int), (cZ, .boolean), (cJ, .long)] (xA ao aa) (xW cI cZ cJ ao aa) [.ref (ao 27), .int x0] S (some (.int z.1)) z.2 :=
  Ct_of (by decide) (fun p e s m args below meth c X => w_x_G_thing X _ _ hz) (Nat.le_of_ble_eq_true rfl)
def x_Things_isNamed_b2_f (k2 : St → Int32 → Int32 → Int32 → Option (Int32 × St)) (S : St) (x1 : Int32) (x2 : Int32) (x3 : Int32) : Option (Int32 × St) :=
  (x_Things_has S x1).bind fun q1 =>
  if q1.1 = 0 then
    some ((0 : Int32), q1.2)
  else
    gd (vin x1 40) <|
    if (gA q1.2 18 x1.toNatClampNeg) ≤ x3 then
      some ((0 : Int32), q1.2)
    else
      gd (vin ((x1 * (4 : Int32)) + x3) 160) <|
      if (gA q1.2 19 ((x1 * (4 : Int32)) + x3).toNatClampNeg) = x2 then
        some ((1 : Int32), q1.2)
      else
        k2 q1.2 x1 x2 (x3 + 1)
def x_Things_isNamed_b2 : Nat → St → Int32 → Int32 → Int32 → Option (Int32 × St)
  | 0, _, _, _, _ => none
  | n + 1, S, x1, x2, x3 => x_Things_isNamed_b2_f (x_Things_isNamed_b2 n) S x1 x2 x3
def x_Things_isNamed (S : St) (x0 : Int32) (x1 : Int32) : Option (Int32 × St) :=
  x_Things_isNamed_b2 fu S x0 x1 (0 : Int32)
def rm_x_Things_isNamed : Room := { frames := 1, cells := 0, slots := 0, locals := 21 }
theorem ok_x_Things_isNamed : CalV y_Things_isNamed b_Things_isNamed 4 (some .boolean) 2 rm_x_Things_isNamed := ⟨kc_Things_isNamed, ki_Things_isNamed, kl_Things_isNamed, ji_Things, ⟨by decide, by decide, by decide +kernel⟩, rfl, rfl⟩
set_option maxHeartbeats 4000000 in
set_option maxRecDepth 100000 in
theorem w_x_Things_isNamed_b2_f {z : Int32 × St} (X : Cx b_Things_isNamed 4 (some .boolean) R_Things D [(cI, .int), (cZ, .boolean), (cJ, .long)] (xA ao aa) (xW cI cZ cJ ao aa) p s m args meth c) {k2 : St → Int32 → Int32 → Int32 → Option (Int32 × St)} (hk2 : ∀ (S : St) (x1 : Int32) (x2 : Int32) (x3 : Int32), k2 S x1 x2 x3 = some z → WX rm_x_Things_isNamed D (xA ao aa) (xW cI cZ cJ ao aa) p l e s m args below meth c (some (.int z.1)) z.2 2 [] 4 [(0, .ref (ao 21)), (1, .int x1), (2, .int x2), (3, .int x3)] S) (S : St) (x1 : Int32) (x2 : Int32) (x3 : Int32) (hf : x_Things_isNamed_b2_f k2 S x1 x2 x3 = some z) : WX rm_x_Things_isNamed D (xA ao aa) (xW cI cZ cJ ao aa) p l e s m args below meth c (some (.int z.1)) z.2 2 [] 4 [(0, .ref (ao 21)), (1, .int x1), (2, .int x2), (3, .int x3)] S := by
  intro H locs ls hP hS hl
  obtain ⟨hx, hb, hr0, hml, hown, htg, hlk, hK, hN, hI⟩ := id X
  unfold x_Things_isNamed_b2_f at hf
  refine lv_aload_n hx hb d_Things_isNamed_2 rfl (lv_at hl 0 rfl) ?_
  refine lv_iload_n hx hb d_Things_isNamed_3 rfl (lv_at hl 1 rfl) ?_
  obtain ⟨q1, he, hf⟩ := ob_some hf
  refine cl_Vi (As := [.int x1]) (rest := []) X (c_x_Things_has he) ok_x_Things_has k_m_Things_33 (va_recv hK hP rfl xo_21) rfl rfl hl.1 (Nat.le_of_ble_eq_true rfl) d_Things_isNamed_4 ⟨by decide, by decide⟩ hP hS (fun H locs hP hS => ?_)
  refine lv_if_eq (tgt := 42) hx hb d_Things_isNamed_7 (by decide) (fun c => ?_) (fun c => ?_)
  · have hf := if_t hf c
    refine lv_iconst (v := 0) hx hb d_Things_isNamed_42 (by decide) ?_
    obtain rfl := Option.some.inj hf
    exact W.zret (ty := .boolean) hx hb hr0 rfl (fun t ht _ => ⟨⟨rfl, by rw [ht]; exact hP⟩, hS.F ht⟩) hS.2.2 d_Things_isNamed_43 hlk
  · have hf := if_f hf c
    refine lv_iload_n hx hb d_Things_isNamed_10 rfl (lv_at hl 3 rfl) ?_
    refine lv_aload_n hx hb d_Things_isNamed_11 rfl (lv_at hl 0 rfl) ?_
    refine va_get (D := D) (v := .ref (aa 18)) hx hb htg in_Things hown hK hP 21 xo_21 rfl 1 (by decide) (htg _ k_f_Things_15) (fun _ h9 => h9) rfl d_Things_isNamed_12 ?_
    refine lv_iload_n hx hb d_Things_isNamed_15 rfl (lv_at hl 1 rfl) ?_
    obtain ⟨hg, hf⟩ := gd_some hf
    refine va_iald hx hb hK hP 46 0 xa_18 rfl (vin_in hg) d_Things_isNamed_16 ?_
    refine lv_icmp_ge (tgt := 42) hx hb d_Things_isNamed_17 (by decide) (fun c => ?_) (fun c => ?_)
    · have hf := if_t hf c
      refine lv_iconst (v := 0) hx hb d_Things_isNamed_42 (by decide) ?_
      obtain rfl := Option.some.inj hf
      exact W.zret (ty := .boolean) hx hb hr0 rfl (fun t ht _ => ⟨⟨rfl, by rw [ht]; exact hP⟩, hS.F ht⟩) hS.2.2 d_Things_isNamed_43 hlk
    · have hf := if_f hf c
      refine lv_aload_n hx hb d_Things_isNamed_20 rfl (lv_at hl 0 rfl) ?_
      refine va_get (D := D) (v := .ref (aa 19)) hx hb htg in_Things hown hK hP 21 xo_21 rfl 2 (by decide) (htg _ k_f_Things_18) (fun _ h9 => h9) rfl d_Things_isNamed_21 ?_
      refine lv_iload_n hx hb d_Things_isNamed_24 rfl (lv_at hl 1 rfl) ?_
      refine lv_iconst (v := 4) hx hb d_Things_isNamed_25 (by decide) ?_
      refine lv_imul hx hb d_Things_isNamed_26 ?_
      refine lv_iload_n hx hb d_Things_isNamed_27 rfl (lv_at hl 3 rfl) ?_
      refine lv_iadd hx hb d_Things_isNamed_28 ?_
      obtain ⟨hg, hf⟩ := gd_some hf
      refine va_iald hx hb hK hP 47 0 xa_19 rfl (vin_in hg) d_Things_isNamed_29 ?_
      refine lv_iload_n hx hb d_Things_isNamed_30 rfl (lv_at hl 2 rfl) ?_
      refine lv_icmp_ne (tgt := 36) hx hb d_Things_isNamed_31 (by decide) (fun c => ?_) (fun c => ?_)
      · have hf := if_f hf c
        refine lv_iinc (v := (x3 + 1)) (lv' := [(3, .int (x3 + 1)), (0, .ref (ao 21)), (1, .int x1), (2, .int x2)]) hx hb d_Things_isNamed_36 hl (k := 3) rfl rfl (by decide) rfl (fun ls hl => ?_)
        refine lv_goto (tgt := 2) hx hb d_Things_isNamed_39 (by decide) ?_
        exact hk2 _ _ _ _ hf H locs ls hP hS (lv_sub hl [1, 2, 3, 0] rfl)
      · have hf := if_t hf c
        refine lv_iconst (v := 1) hx hb d_Things_isNamed_34 (by decide) ?_
        obtain rfl := Option.some.inj hf
        exact W.zret (ty := .boolean) hx hb hr0 rfl (fun t ht _ => ⟨⟨rfl, by rw [ht]; exact hP⟩, hS.F ht⟩) hS.2.2 d_Things_isNamed_35 hlk
theorem w_x_Things_isNamed_b2 {z : Int32 × St} (X : Cx b_Things_isNamed 4 (some .boolean) R_Things D [(cI, .int), (cZ, .boolean), (cJ, .long)] (xA ao aa) (xW cI cZ cJ ao aa) p s m args meth c) : ∀ (n : Nat) (S : St) (x1 : Int32) (x2 : Int32) (x3 : Int32), x_Things_isNamed_b2 n S x1 x2 x3 = some z → WX rm_x_Things_isNamed D (xA ao aa) (xW cI cZ cJ ao aa) p l e s m args below meth c (some (.int z.1)) z.2 2 [] 4 [(0, .ref (ao 21)), (1, .int x1), (2, .int x2), (3, .int x3)] S
  | 0, _, _, _, _, hf => ns hf
  | n + 1, _, _, _, _, hf => w_x_Things_isNamed_b2_f X (w_x_Things_isNamed_b2 X n) _ _ _ _ hf
set_option maxHeartbeats 4000000 in
set_option maxRecDepth 100000 in
theorem w_x_Things_isNamed {z : Int32 × St} (X : Cx b_Things_isNamed 4 (some .boolean) R_Things D [(cI, .int), (cZ, .boolean), (cJ, .long)] (xA ao aa) (xW cI cZ cJ ao aa) p s m args meth c) (S : St) (x0 : Int32) (x1 : Int32) (hf : x_Things_isNamed S x0 x1 = some z) : WX rm_x_Things_isNamed D (xA ao aa) (xW cI cZ cJ ao aa) p l e s m args below meth c (some (.int z.1)) z.2 0 [] 4 [(0, .ref (ao 21)), (1, .int x0), (2, .int x1)] S := by
  intro H locs ls hP hS hl
  obtain ⟨hx, hb, hr0, hml, hown, htg, hlk, hK, hN, hI⟩ := id X
  unfold x_Things_isNamed at hf
  refine lv_iconst (v := 0) hx hb d_Things_isNamed_0 (by decide) ?_
  refine lv_istore_n (lv' := [(3, .int (0 : Int32)), (0, .ref (ao 21)), (1, .int x0), (2, .int x1)]) hx hb d_Things_isNamed_1 rfl hl (by decide) rfl (fun ls hl => ?_)
  exact w_x_Things_isNamed_b2 X _ _ _ _ _ hf H locs ls hP hS (lv_sub hl [1, 2, 3, 0] rfl)
theorem c_x_Things_isNamed {l : Launch} {D : va_G} {cI cZ cJ : ClassId} {ao aa : Nat → Nat} {S : St} {x0 : Int32} {x1 : Int32} {z : Int32 × St} (hz : x_Things_isNamed S x0 x1 = some z) : Ct l y_Things_isNamed (.code y_Things_isNamed b_Things_isNamed 4 (some .boolean) :: gw) rm_x_Things_isNamed D [(cI, .int), (cZ, .boolean), (cJ, .long)] (xA ao aa) (xW cI cZ cJ ao aa) [.ref (ao 21), .int x0, .int x1] S (some (.int z.1)) z.2 :=
  Ct_of (by decide) (fun p e s m args below meth c X => w_x_Things_isNamed X _ _ _ hz) (Nat.le_of_ble_eq_true rfl)
def x_Things_namesOf (S : St) (x0 : Int32) : Option (Int32 × St) :=
  (x_Things_has S x0).bind fun q1 =>
  if q1.1 = 0 then
    some ((0 : Int32), q1.2)
  else
    gd (vin x0 40) <|
    some ((gA q1.2 18 x0.toNatClampNeg), q1.2)
def rm_x_Things_namesOf : Room := { frames := 1, cells := 0, slots := 0, locals := 21 }
theorem ok_x_Things_namesOf : CalV y_Things_namesOf b_Things_namesOf 2 (some .int) 1 rm_x_Things_namesOf := ⟨kc_Things_namesOf, ki_Things_namesOf, kl_Things_namesOf, ji_Things, ⟨by decide, by decide, by decide +kernel⟩, rfl, rfl⟩
set_option maxHeartbeats 4000000 in
set_option maxRecDepth 100000 in
theorem w_x_Things_namesOf {z : Int32 × St} (X : Cx b_Things_namesOf 2 (some .int) R_Things D [(cI, .int), (cZ, .boolean), (cJ, .long)] (xA ao aa) (xW cI cZ cJ ao aa) p s m args meth c) (S : St) (x0 : Int32) (hf : x_Things_namesOf S x0 = some z) : WX rm_x_Things_namesOf D (xA ao aa) (xW cI cZ cJ ao aa) p l e s m args below meth c (some (.int z.1)) z.2 0 [] 2 [(0, .ref (ao 21)), (1, .int x0)] S := by
  intro H locs ls hP hS hl
  obtain ⟨hx, hb, hr0, hml, hown, htg, hlk, hK, hN, hI⟩ := id X
  unfold x_Things_namesOf at hf
  refine lv_aload_n hx hb d_Things_namesOf_0 rfl (lv_at hl 0 rfl) ?_
  refine lv_iload_n hx hb d_Things_namesOf_1 rfl (lv_at hl 1 rfl) ?_
  obtain ⟨q1, he, hf⟩ := ob_some hf
  refine cl_Vi (As := [.int x0]) (rest := []) X (c_x_Things_has he) ok_x_Things_has k_m_Things_33 (va_recv hK hP rfl xo_21) rfl rfl hl.1 (Nat.le_of_ble_eq_true rfl) d_Things_namesOf_2 ⟨by decide, by decide⟩ hP hS (fun H locs hP hS => ?_)
  refine lv_if_eq (tgt := 17) hx hb d_Things_namesOf_5 (by decide) (fun c => ?_) (fun c => ?_)
  · have hf := if_t hf c
    refine lv_iconst (v := 0) hx hb d_Things_namesOf_17 (by decide) ?_
    obtain rfl := Option.some.inj hf
    exact W.iret hx hb hr0 (fun t ht _ => ⟨⟨rfl, by rw [ht]; exact hP⟩, hS.F ht⟩) hS.2.2 d_Things_namesOf_18 hlk
  · have hf := if_f hf c
    refine lv_aload_n hx hb d_Things_namesOf_8 rfl (lv_at hl 0 rfl) ?_
    refine va_get (D := D) (v := .ref (aa 18)) hx hb htg in_Things hown hK hP 21 xo_21 rfl 1 (by decide) (htg _ k_f_Things_15) (fun _ h9 => h9) rfl d_Things_namesOf_9 ?_
    refine lv_iload_n hx hb d_Things_namesOf_12 rfl (lv_at hl 1 rfl) ?_
    obtain ⟨hg, hf⟩ := gd_some hf
    refine va_iald hx hb hK hP 46 0 xa_18 rfl (vin_in hg) d_Things_namesOf_13 ?_
    refine lv_goto (tgt := 18) hx hb d_Things_namesOf_14 (by decide) ?_
    obtain rfl := Option.some.inj hf
    exact W.iret hx hb hr0 (fun t ht _ => ⟨⟨rfl, by rw [ht]; exact hP⟩, hS.F ht⟩) hS.2.2 d_Things_namesOf_18 hlk
theorem c_x_Things_namesOf {l : Launch} {D : va_G} {cI cZ cJ : ClassId} {ao aa : Nat → Nat} {S : St} {x0 : Int32} {z : Int32 × St} (hz : x_Things_namesOf S x0 = some z) : Ct l y_Things_namesOf (.code y_Things_namesOf b_Things_namesOf 2 (some .int) :: gw) rm_x_Things_namesOf D [(cI, .int), (cZ, .boolean), (cJ, .long)] (xA ao aa) (xW cI cZ cJ ao aa) [.ref (ao 21), .int x0] S (some (.int z.1)) z.2 :=
  Ct_of (by decide) (fun p e s m args below meth c X => w_x_Things_namesOf X _ _ hz) (Nat.le_of_ble_eq_true rfl)
def x_Things_addName_b53 (S : St) (x1 : Int32) : Option (Int32 × St) :=
  (x_Things_namesOf S x1).bind fun q2 =>
  some (q2.1, q2.2)
def x_Things_addName (S : St) (x0 : Int32) (x1 : Int32) : Option (Int32 × St) :=
  (x_Things_has S x0).bind fun q1 =>
  if q1.1 = 0 then
    x_Things_addName_b53 q1.2 x0
  else
    (x_Things_isNamed q1.2 x0 x1).bind fun q3 =>
    if q3.1 = 0 then
      gd (vin x0 40) <|
      if (4 : Int32) ≤ (gA q3.2 18 x0.toNatClampNeg) then
        x_Things_addName_b53 q3.2 x0
      else
        gd (vin x0 40) <|
        gd (vin ((x0 * (4 : Int32)) + (gA q3.2 18 x0.toNatClampNeg)) 160) <|
        gd (vin x0 40) <|
        gd (vin x0 40) <|
        x_Things_addName_b53 (sA (sA q3.2 19 ((x0 * (4 : Int32)) + (gA q3.2 18 x0.toNatClampNeg)).toNatClampNeg x1) 18 x0.toNatClampNeg ((gA (sA q3.2 19 ((x0 * (4 : Int32)) + (gA q3.2 18 x0.toNatClampNeg)).toNatClampNeg x1) 18 x0.toNatClampNeg) + (1 : Int32))) x0
    else
      x_Things_addName_b53 q3.2 x0
def rm_x_Things_addName : Room := { frames := 2, cells := 0, slots := 0, locals := 44 }
theorem ok_x_Things_addName : CalV y_Things_addName b_Things_addName 3 (some .int) 2 rm_x_Things_addName := ⟨kc_Things_addName, ki_Things_addName, kl_Things_addName, ji_Things, ⟨by decide, by decide, by decide +kernel⟩, rfl, rfl⟩
set_option maxHeartbeats 4000000 in
set_option maxRecDepth 100000 in
theorem w_x_Things_addName_b53 {z : Int32 × St} (X : Cx b_Things_addName 3 (some .int) R_Things D [(cI, .int), (cZ, .boolean), (cJ, .long)] (xA ao aa) (xW cI cZ cJ ao aa) p s m args meth c) (S : St) (x1 : Int32) (hf : x_Things_addName_b53 S x1 = some z) : WX rm_x_Things_addName D (xA ao aa) (xW cI cZ cJ ao aa) p l e s m args below meth c (some (.int z.1)) z.2 53 [] 3 [(0, .ref (ao 21)), (1, .int x1)] S := by
  intro H locs ls hP hS hl
  obtain ⟨hx, hb, hr0, hml, hown, htg, hlk, hK, hN, hI⟩ := id X
  unfold x_Things_addName_b53 at hf
  refine lv_aload_n hx hb d_Things_addName_53 rfl (lv_at hl 0 rfl) ?_
  refine lv_iload_n hx hb d_Things_addName_54 rfl (lv_at hl 1 rfl) ?_
  obtain ⟨q2, he, hf⟩ := ob_some hf
  refine cl_Vi (As := [.int x1]) (rest := []) X (c_x_Things_namesOf he) ok_x_Things_namesOf k_m_Things_58 (va_recv hK hP rfl xo_21) rfl rfl hl.1 (Nat.le_of_ble_eq_true rfl) d_Things_addName_55 ⟨by decide, by decide⟩ hP hS (fun H locs hP hS => ?_)
  obtain rfl := Option.some.inj hf
  exact W.iret hx hb hr0 (fun t ht _ => ⟨⟨rfl, by rw [ht]; exact hP⟩, hS.F ht⟩) hS.2.2 d_Things_addName_58 hlk
set_option maxHeartbeats 4000000 in
set_option maxRecDepth 100000 in
theorem w_x_Things_addName {z : Int32 × St} (X : Cx b_Things_addName 3 (some .int) R_Things D [(cI, .int), (cZ, .boolean), (cJ, .long)] (xA ao aa) (xW cI cZ cJ ao aa) p s m args meth c) (S : St) (x0 : Int32) (x1 : Int32) (hf : x_Things_addName S x0 x1 = some z) : WX rm_x_Things_addName D (xA ao aa) (xW cI cZ cJ ao aa) p l e s m args below meth c (some (.int z.1)) z.2 0 [] 3 [(0, .ref (ao 21)), (1, .int x0), (2, .int x1)] S := by
  intro H locs ls hP hS hl
  obtain ⟨hx, hb, hr0, hml, hown, htg, hlk, hK, hN, hI⟩ := id X
  unfold x_Things_addName at hf
  refine lv_aload_n hx hb d_Things_addName_0 rfl (lv_at hl 0 rfl) ?_
  refine lv_iload_n hx hb d_Things_addName_1 rfl (lv_at hl 1 rfl) ?_
  obtain ⟨q1, he, hf⟩ := ob_some hf
  refine cl_Vi (As := [.int x0]) (rest := []) X (c_x_Things_has he) ok_x_Things_has k_m_Things_33 (va_recv hK hP rfl xo_21) rfl rfl hl.1 (Nat.le_of_ble_eq_true rfl) d_Things_addName_2 ⟨by decide, by decide⟩ hP hS (fun H locs hP hS => ?_)
  refine lv_if_eq (tgt := 53) hx hb d_Things_addName_5 (by decide) (fun c => ?_) (fun c => ?_)
  · have hf := if_t hf c
    exact w_x_Things_addName_b53 X _ _ hf H locs ls hP hS (lv_sub hl [0, 1] rfl)
  · have hf := if_f hf c
    refine lv_aload_n hx hb d_Things_addName_8 rfl (lv_at hl 0 rfl) ?_
    refine lv_iload_n hx hb d_Things_addName_9 rfl (lv_at hl 1 rfl) ?_
    refine lv_iload_n hx hb d_Things_addName_10 rfl (lv_at hl 2 rfl) ?_
    obtain ⟨q3, he, hf⟩ := ob_some hf
    refine cl_Vi (As := [.int x0, .int x1]) (rest := []) X (c_x_Things_isNamed he) ok_x_Things_isNamed k_m_Things_54 (va_recv hK hP rfl xo_21) rfl rfl hl.1 (Nat.le_of_ble_eq_true rfl) d_Things_addName_11 ⟨by decide, by decide⟩ hP hS (fun H locs hP hS => ?_)
    refine lv_if_ne (tgt := 53) hx hb d_Things_addName_14 (by decide) (fun c => ?_) (fun c => ?_)
    · have hf := if_f hf c
      exact w_x_Things_addName_b53 X _ _ hf H locs ls hP hS (lv_sub hl [0, 1] rfl)
    · have hf := if_t hf c
      refine lv_aload_n hx hb d_Things_addName_17 rfl (lv_at hl 0 rfl) ?_
      refine va_get (D := D) (v := .ref (aa 18)) hx hb htg in_Things hown hK hP 21 xo_21 rfl 1 (by decide) (htg _ k_f_Things_15) (fun _ h9 => h9) rfl d_Things_addName_18 ?_
      refine lv_iload_n hx hb d_Things_addName_21 rfl (lv_at hl 1 rfl) ?_
      obtain ⟨hg, hf⟩ := gd_some hf
      refine va_iald hx hb hK hP 46 0 xa_18 rfl (vin_in hg) d_Things_addName_22 ?_
      refine lv_iconst (v := 4) hx hb d_Things_addName_23 (by decide) ?_
      refine lv_icmp_ge (tgt := 53) hx hb d_Things_addName_24 (by decide) (fun c => ?_) (fun c => ?_)
      · have hf := if_t hf c
        exact w_x_Things_addName_b53 X _ _ hf H locs ls hP hS (lv_sub hl [0, 1] rfl)
      · have hf := if_f hf c
        refine lv_aload_n hx hb d_Things_addName_27 rfl (lv_at hl 0 rfl) ?_
        refine va_get (D := D) (v := .ref (aa 19)) hx hb htg in_Things hown hK hP 21 xo_21 rfl 2 (by decide) (htg _ k_f_Things_18) (fun _ h9 => h9) rfl d_Things_addName_28 ?_
        refine lv_iload_n hx hb d_Things_addName_31 rfl (lv_at hl 1 rfl) ?_
        refine lv_iconst (v := 4) hx hb d_Things_addName_32 (by decide) ?_
        refine lv_imul hx hb d_Things_addName_33 ?_
        refine lv_aload_n hx hb d_Things_addName_34 rfl (lv_at hl 0 rfl) ?_
        refine va_get (D := D) (v := .ref (aa 18)) hx hb htg in_Things hown hK hP 21 xo_21 rfl 1 (by decide) (htg _ k_f_Things_15) (fun _ h9 => h9) rfl d_Things_addName_35 ?_
        refine lv_iload_n hx hb d_Things_addName_38 rfl (lv_at hl 1 rfl) ?_
        obtain ⟨hg, hf⟩ := gd_some hf
        refine va_iald hx hb hK hP 46 0 xa_18 rfl (vin_in hg) d_Things_addName_39 ?_
        refine lv_iadd hx hb d_Things_addName_40 ?_
        refine lv_iload_n hx hb d_Things_addName_41 rfl (lv_at hl 2 rfl) ?_
        obtain ⟨hg, hf⟩ := gd_some hf
        refine va_iast hx hb hK hP (hI _) hS 47 0 xa_19 rfl (vin_in hg) d_Things_addName_42 (fun H locs hP _ hS => ?_)
        replace hP : va_P D classes (xW cI cZ cJ ao aa (sA q3.2 19 ((x0 * (4 : Int32)) + (gA q3.2 18 x0.toNatClampNeg)).toNatClampNeg x1)) H := pw xt_19 hP
        refine lv_aload_n hx hb d_Things_addName_43 rfl (lv_at hl 0 rfl) ?_
        refine va_get (D := D) (v := .ref (aa 18)) hx hb htg in_Things hown hK hP 21 xo_21 rfl 1 (by decide) (htg _ k_f_Things_15) (fun _ h9 => h9) rfl d_Things_addName_44 ?_
        refine lv_iload_n hx hb d_Things_addName_47 rfl (lv_at hl 1 rfl) ?_
        refine lv_dup2_11 hx hb d_Things_addName_48 rfl rfl ?_
        obtain ⟨hg, hf⟩ := gd_some hf
        refine va_iald hx hb hK hP 46 0 xa_18 rfl (vin_in hg) d_Things_addName_49 ?_
        refine lv_iconst (v := 1) hx hb d_Things_addName_50 (by decide) ?_
        refine lv_iadd hx hb d_Things_addName_51 ?_
        obtain ⟨hg, hf⟩ := gd_some hf
        refine va_iast hx hb hK hP (hI _) hS 46 0 xa_18 rfl (vin_in hg) d_Things_addName_52 (fun H locs hP _ hS => ?_)
        replace hP : va_P D classes (xW cI cZ cJ ao aa (sA (sA q3.2 19 ((x0 * (4 : Int32)) + (gA q3.2 18 x0.toNatClampNeg)).toNatClampNeg x1) 18 x0.toNatClampNeg ((gA (sA q3.2 19 ((x0 * (4 : Int32)) + (gA q3.2 18 x0.toNatClampNeg)).toNatClampNeg x1) 18 x0.toNatClampNeg) + (1 : Int32)))) H := pw xt_18 hP
        exact w_x_Things_addName_b53 X _ _ hf H locs ls hP hS (lv_sub hl [0, 1] rfl)
theorem c_x_Things_addName {l : Launch} {D : va_G} {cI cZ cJ : ClassId} {ao aa : Nat → Nat} {S : St} {x0 : Int32} {x1 : Int32} {z : Int32 × St} (hz : x_Things_addName S x0 x1 = some z) : Ct l y_Things_addName (.code y_Things_addName b_Things_addName 3 (some .int) :: gw) rm_x_Things_addName D [(cI, .int), (cZ, .boolean), (cJ, .long)] (xA ao aa) (xW cI cZ cJ ao aa) [.ref (ao 21), .int x0, .int x1] S (some (.int z.1)) z.2 :=
  Ct_of (by decide) (fun p e s m args below meth c X => w_x_Things_addName X _ _ _ hz) (Nat.le_of_ble_eq_true rfl)
def x_G_name_b51 (S : St) (x1 : Int32) (x2 : Int32) : Option (Int32 × St) :=
  (x_Things_addName S x1 x2).bind fun q4 =>
  some (q4.1, q4.2)
def x_G_name (S : St) (x0 : Int32) (x1 : Int32) : Option (Int32 × St) :=
  (x_Things_has S x0).bind fun q1 =>
  if q1.1 = 0 then
    some ((-101 : Int32), q1.2)
  else
    (x_G_isPlainWord q1.2 x1).bind fun q2 =>
    if q2.1 = 0 then
      some ((-102 : Int32), q2.2)
    else
      (x_Things_isNamed q2.2 x0 x1).bind fun q3 =>
      if q3.1 = 0 then
        (x_Things_namesOf q3.2 x0).bind fun q5 =>
        if q5.1 < (4 : Int32) then
          x_G_name_b51 q5.2 x0 x1
        else
          some ((-104 : Int32), q5.2)
      else
        x_G_name_b51 q3.2 x0 x1
def rm_x_G_name : Room := { frames := 3, cells := 0, slots := 0, locals := 66 }
theorem ok_x_G_name : CalV y_G_name b_G_name 3 (some .int) 2 rm_x_G_name := ⟨kc_G_name, ki_G_name, kl_G_name, ji_G, ⟨by decide, by decide, by decide +kernel⟩, rfl, rfl⟩
set_option maxHeartbeats 4000000 in
set_option maxRecDepth 100000 in
theorem w_x_G_name_b51 {z : Int32 × St} (X : Cx b_G_name 3 (some .int) R_G D [(cI, .int), (cZ, .boolean), (cJ, .long)] (xA ao aa) (xW cI cZ cJ ao aa) p s m args meth c) (S : St) (x1 : Int32) (x2 : Int32) (hf : x_G_name_b51 S x1 x2 = some z) : WX rm_x_G_name D (xA ao aa) (xW cI cZ cJ ao aa) p l e s m args below meth c (some (.int z.1)) z.2 51 [] 3 [(0, .ref (ao 27)), (1, .int x1), (2, .int x2)] S := by
  intro H locs ls hP hS hl
  obtain ⟨hx, hb, hr0, hml, hown, htg, hlk, hK, hN, hI⟩ := id X
  unfold x_G_name_b51 at hf
  refine lv_aload_n hx hb d_G_name_51 rfl (lv_at hl 0 rfl) ?_
  refine va_get (D := D) (v := .ref (ao 21)) hx hb htg in_G hown hK hP 27 xo_27 rfl 0 (by decide) (htg _ k_f_G_10) (fun _ h9 => h9) rfl d_G_name_52 ?_
  refine lv_iload_n hx hb d_G_name_55 rfl (lv_at hl 1 rfl) ?_
  refine lv_iload_n hx hb d_G_name_56 rfl (lv_at hl 2 rfl) ?_
  obtain ⟨q4, he, hf⟩ := ob_some hf
  refine cl_Vi (As := [.int x1, .int x2]) (rest := []) X (c_x_Things_addName he) ok_x_Things_addName k_m_G_143 (va_recv hK hP rfl xo_21) rfl rfl hl.1 (Nat.le_of_ble_eq_true rfl) d_G_name_57 ⟨by decide, by decide⟩ hP hS (fun H locs hP hS => ?_)
  obtain rfl := Option.some.inj hf
  exact W.iret hx hb hr0 (fun t ht _ => ⟨⟨rfl, by rw [ht]; exact hP⟩, hS.F ht⟩) hS.2.2 d_G_name_60 hlk
set_option maxHeartbeats 4000000 in
set_option maxRecDepth 100000 in
theorem w_x_G_name {z : Int32 × St} (X : Cx b_G_name 3 (some .int) R_G D [(cI, .int), (cZ, .boolean), (cJ, .long)] (xA ao aa) (xW cI cZ cJ ao aa) p s m args meth c) (S : St) (x0 : Int32) (x1 : Int32) (hf : x_G_name S x0 x1 = some z) : WX rm_x_G_name D (xA ao aa) (xW cI cZ cJ ao aa) p l e s m args below meth c (some (.int z.1)) z.2 0 [] 3 [(0, .ref (ao 27)), (1, .int x0), (2, .int x1)] S := by
  intro H locs ls hP hS hl
  obtain ⟨hx, hb, hr0, hml, hown, htg, hlk, hK, hN, hI⟩ := id X
  unfold x_G_name at hf
  refine lv_aload_n hx hb d_G_name_0 rfl (lv_at hl 0 rfl) ?_
  refine va_get (D := D) (v := .ref (ao 21)) hx hb htg in_G hown hK hP 27 xo_27 rfl 0 (by decide) (htg _ k_f_G_10) (fun _ h9 => h9) rfl d_G_name_1 ?_
  refine lv_iload_n hx hb d_G_name_4 rfl (lv_at hl 1 rfl) ?_
  obtain ⟨q1, he, hf⟩ := ob_some hf
  refine cl_Vi (As := [.int x0]) (rest := []) X (c_x_Things_has he) ok_x_Things_has k_m_G_133 (va_recv hK hP rfl xo_21) rfl rfl hl.1 (Nat.le_of_ble_eq_true rfl) d_G_name_5 ⟨by decide, by decide⟩ hP hS (fun H locs hP hS => ?_)
  refine lv_if_ne (tgt := 14) hx hb d_G_name_8 (by decide) (fun c => ?_) (fun c => ?_)
  · have hf := if_f hf c
    refine lv_iload_n hx hb d_G_name_14 rfl (lv_at hl 2 rfl) ?_
    obtain ⟨q2, he, hf⟩ := ob_some hf
    refine cl_Si (As := [.int x1]) (rest := []) X (c_x_G_isPlainWord he) ok_x_G_isPlainWord k_m_G_134 rfl rfl hl.1 (Nat.le_of_ble_eq_true rfl) d_G_name_15 ⟨by decide, by decide⟩ hP hS (fun H locs hP hS => ?_)
    refine lv_if_ne (tgt := 24) hx hb d_G_name_18 (by decide) (fun c => ?_) (fun c => ?_)
    · have hf := if_f hf c
      refine lv_aload_n hx hb d_G_name_24 rfl (lv_at hl 0 rfl) ?_
      refine va_get (D := D) (v := .ref (ao 21)) hx hb htg in_G hown hK hP 27 xo_27 rfl 0 (by decide) (htg _ k_f_G_10) (fun _ h9 => h9) rfl d_G_name_25 ?_
      refine lv_iload_n hx hb d_G_name_28 rfl (lv_at hl 1 rfl) ?_
      refine lv_iload_n hx hb d_G_name_29 rfl (lv_at hl 2 rfl) ?_
      obtain ⟨q3, he, hf⟩ := ob_some hf
      refine cl_Vi (As := [.int x0, .int x1]) (rest := []) X (c_x_Things_isNamed he) ok_x_Things_isNamed k_m_G_137 (va_recv hK hP rfl xo_21) rfl rfl hl.1 (Nat.le_of_ble_eq_true rfl) d_G_name_30 ⟨by decide, by decide⟩ hP hS (fun H locs hP hS => ?_)
      refine lv_if_ne (tgt := 51) hx hb d_G_name_33 (by decide) (fun c => ?_) (fun c => ?_)
      · have hf := if_f hf c
        exact w_x_G_name_b51 X _ _ _ hf H locs ls hP hS (lv_sub hl [0, 1, 2] rfl)
      · have hf := if_t hf c
        refine lv_aload_n hx hb d_G_name_36 rfl (lv_at hl 0 rfl) ?_
        refine va_get (D := D) (v := .ref (ao 21)) hx hb htg in_G hown hK hP 27 xo_27 rfl 0 (by decide) (htg _ k_f_G_10) (fun _ h9 => h9) rfl d_G_name_37 ?_
        refine lv_iload_n hx hb d_G_name_40 rfl (lv_at hl 1 rfl) ?_
        obtain ⟨q5, he, hf⟩ := ob_some hf
        refine cl_Vi (As := [.int x0]) (rest := []) X (c_x_Things_namesOf he) ok_x_Things_namesOf k_m_G_140 (va_recv hK hP rfl xo_21) rfl rfl hl.1 (Nat.le_of_ble_eq_true rfl) d_G_name_41 ⟨by decide, by decide⟩ hP hS (fun H locs hP hS => ?_)
        refine lv_iconst (v := 4) hx hb d_G_name_44 (by decide) ?_
        refine lv_icmp_lt (tgt := 51) hx hb d_G_name_45 (by decide) (fun c => ?_) (fun c => ?_)
        · have hf := if_t hf c
          exact w_x_G_name_b51 X _ _ _ hf H locs ls hP hS (lv_sub hl [0, 1, 2] rfl)
        · have hf := if_f hf c
          refine lv_bipush (v := (-104)) hx hb d_G_name_48 (by decide) ?_
          obtain rfl := Option.some.inj hf
          exact W.iret hx hb hr0 (fun t ht _ => ⟨⟨rfl, by rw [ht]; exact hP⟩, hS.F ht⟩) hS.2.2 d_G_name_50 hlk
    · have hf := if_t hf c
      refine lv_bipush (v := (-102)) hx hb d_G_name_21 (by decide) ?_
      obtain rfl := Option.some.inj hf
      exact W.iret hx hb hr0 (fun t ht _ => ⟨⟨rfl, by rw [ht]; exact hP⟩, hS.F ht⟩) hS.2.2 d_G_name_23 hlk
  · have hf := if_t hf c
    refine lv_bipush (v := (-101)) hx hb d_G_name_11 (by decide) ?_
    obtain rfl := Option.some.inj hf
    exact W.iret hx hb hr0 (fun t ht _ => ⟨⟨rfl, by rw [ht]; exact hP⟩, hS.F ht⟩) hS.2.2 d_G_name_13 hlk
theorem c_x_G_name {l : Launch} {D : va_G} {cI cZ cJ : ClassId} {ao aa : Nat → Nat} {S : St} {x0 : Int32} {x1 : Int32} {z : Int32 × St} (hz : x_G_name S x0 x1 = some z) : Ct l y_G_name (.code y_G_name b_G_name 3 (some .int) :: gw) rm_x_G_name D [(cI, .int), (cZ, .boolean), (cJ, .long)] (xA ao aa) (xW cI cZ cJ ao aa) [.ref (ao 27), .int x0, .int x1] S (some (.int z.1)) z.2 :=
  Ct_of (by decide) (fun p e s m args below meth c X => w_x_G_name X _ _ _ hz) (Nat.le_of_ble_eq_true rfl)
def x_G_flags (S : St) (x0 : Int32) (x1 : Int32) : Option (Int32 × St) :=
  (x_Things_has S x0).bind fun q1 =>
  if q1.1 = 0 then
    some ((-101 : Int32), q1.2)
  else
    (x_G_mayBeFlags q1.2 x1).bind fun q2 =>
    if q2.1 = 0 then
      some ((-102 : Int32), q2.2)
    else
      (x_Things_changeFlags q2.2 x0 x1).bind fun q3 =>
      some (q3.1, q3.2)
def rm_x_G_flags : Room := { frames := 2, cells := 0, slots := 0, locals := 47 }
theorem ok_x_G_flags : CalV y_G_flags b_G_flags 3 (some .int) 2 rm_x_G_flags := ⟨kc_G_flags, ki_G_flags, kl_G_flags, ji_G, ⟨by decide, by decide, by decide +kernel⟩, rfl, rfl⟩
set_option maxHeartbeats 4000000 in
set_option maxRecDepth 100000 in
theorem w_x_G_flags {z : Int32 × St} (X : Cx b_G_flags 3 (some .int) R_G D [(cI, .int), (cZ, .boolean), (cJ, .long)] (xA ao aa) (xW cI cZ cJ ao aa) p s m args meth c) (S : St) (x0 : Int32) (x1 : Int32) (hf : x_G_flags S x0 x1 = some z) : WX rm_x_G_flags D (xA ao aa) (xW cI cZ cJ ao aa) p l e s m args below meth c (some (.int z.1)) z.2 0 [] 3 [(0, .ref (ao 27)), (1, .int x0), (2, .int x1)] S := by
  intro H locs ls hP hS hl
  obtain ⟨hx, hb, hr0, hml, hown, htg, hlk, hK, hN, hI⟩ := id X
  unfold x_G_flags at hf
  refine lv_aload_n hx hb d_G_flags_0 rfl (lv_at hl 0 rfl) ?_
  refine va_get (D := D) (v := .ref (ao 21)) hx hb htg in_G hown hK hP 27 xo_27 rfl 0 (by decide) (htg _ k_f_G_10) (fun _ h9 => h9) rfl d_G_flags_1 ?_
  refine lv_iload_n hx hb d_G_flags_4 rfl (lv_at hl 1 rfl) ?_
  obtain ⟨q1, he, hf⟩ := ob_some hf
  refine cl_Vi (As := [.int x0]) (rest := []) X (c_x_Things_has he) ok_x_Things_has k_m_G_133 (va_recv hK hP rfl xo_21) rfl rfl hl.1 (Nat.le_of_ble_eq_true rfl) d_G_flags_5 ⟨by decide, by decide⟩ hP hS (fun H locs hP hS => ?_)
  refine lv_if_ne (tgt := 14) hx hb d_G_flags_8 (by decide) (fun c => ?_) (fun c => ?_)
  · have hf := if_f hf c
    refine lv_iload_n hx hb d_G_flags_14 rfl (lv_at hl 2 rfl) ?_
    obtain ⟨q2, he, hf⟩ := ob_some hf
    refine cl_Si (As := [.int x1]) (rest := []) X (c_x_G_mayBeFlags he) ok_x_G_mayBeFlags k_m_G_128 rfl rfl hl.1 (Nat.le_of_ble_eq_true rfl) d_G_flags_15 ⟨by decide, by decide⟩ hP hS (fun H locs hP hS => ?_)
    refine lv_if_ne (tgt := 24) hx hb d_G_flags_18 (by decide) (fun c => ?_) (fun c => ?_)
    · have hf := if_f hf c
      refine lv_aload_n hx hb d_G_flags_24 rfl (lv_at hl 0 rfl) ?_
      refine va_get (D := D) (v := .ref (ao 21)) hx hb htg in_G hown hK hP 27 xo_27 rfl 0 (by decide) (htg _ k_f_G_10) (fun _ h9 => h9) rfl d_G_flags_25 ?_
      refine lv_iload_n hx hb d_G_flags_28 rfl (lv_at hl 1 rfl) ?_
      refine lv_iload_n hx hb d_G_flags_29 rfl (lv_at hl 2 rfl) ?_
      obtain ⟨q3, he, hf⟩ := ob_some hf
      refine cl_Vi (As := [.int x0, .int x1]) (rest := []) X (c_x_Things_changeFlags he) ok_x_Things_changeFlags k_m_G_146 (va_recv hK hP rfl xo_21) rfl rfl hl.1 (Nat.le_of_ble_eq_true rfl) d_G_flags_30 ⟨by decide, by decide⟩ hP hS (fun H locs hP hS => ?_)
      obtain rfl := Option.some.inj hf
      exact W.iret hx hb hr0 (fun t ht _ => ⟨⟨rfl, by rw [ht]; exact hP⟩, hS.F ht⟩) hS.2.2 d_G_flags_33 hlk
    · have hf := if_t hf c
      refine lv_bipush (v := (-102)) hx hb d_G_flags_21 (by decide) ?_
      obtain rfl := Option.some.inj hf
      exact W.iret hx hb hr0 (fun t ht _ => ⟨⟨rfl, by rw [ht]; exact hP⟩, hS.F ht⟩) hS.2.2 d_G_flags_23 hlk
  · have hf := if_t hf c
    refine lv_bipush (v := (-101)) hx hb d_G_flags_11 (by decide) ?_
    obtain rfl := Option.some.inj hf
    exact W.iret hx hb hr0 (fun t ht _ => ⟨⟨rfl, by rw [ht]; exact hP⟩, hS.F ht⟩) hS.2.2 d_G_flags_13 hlk
theorem c_x_G_flags {l : Launch} {D : va_G} {cI cZ cJ : ClassId} {ao aa : Nat → Nat} {S : St} {x0 : Int32} {x1 : Int32} {z : Int32 × St} (hz : x_G_flags S x0 x1 = some z) : Ct l y_G_flags (.code y_G_flags b_G_flags 3 (some .int) :: gw) rm_x_G_flags D [(cI, .int), (cZ, .boolean), (cJ, .long)] (xA ao aa) (xW cI cZ cJ ao aa) [.ref (ao 27), .int x0, .int x1] S (some (.int z.1)) z.2 :=
  Ct_of (by decide) (fun p e s m args below meth c X => w_x_G_flags X _ _ _ hz) (Nat.le_of_ble_eq_true rfl)
def x_Values_indexOf_b39 (k2 : St → Int32 → Int32 → Int32 → Option (Int32 × St)) (S : St) (x1 : Int32) (x2 : Int32) (x3 : Int32) : Option (Int32 × St) :=
  k2 S x1 x2 (x3 + 1)
def x_Values_indexOf_b2_f (k2 : St → Int32 → Int32 → Int32 → Option (Int32 × St)) (S : St) (x1 : Int32) (x2 : Int32) (x3 : Int32) : Option (Int32 × St) :=
  (x_Row_size 3 S).bind fun q1 =>
  if q1.1 ≤ x3 then
    some ((-1 : Int32), q1.2)
  else
    (x_Row_at 2 q1.2 x3).bind fun q2 =>
    if q2.1 = x1 then
      (x_Row_at 3 q2.2 x3).bind fun q3 =>
      if q3.1 = x2 then
        some (x3, q3.2)
      else
        x_Values_indexOf_b39 k2 q3.2 x1 x2 x3
    else
      x_Values_indexOf_b39 k2 q2.2 x1 x2 x3
def x_Values_indexOf_b2 : Nat → St → Int32 → Int32 → Int32 → Option (Int32 × St)
  | 0, _, _, _, _ => none
  | n + 1, S, x1, x2, x3 => x_Values_indexOf_b2_f (x_Values_indexOf_b2 n) S x1 x2 x3
def x_Values_indexOf (S : St) (x0 : Int32) (x1 : Int32) : Option (Int32 × St) :=
  x_Values_indexOf_b2 fu S x0 x1 (0 : Int32)
def rm_x_Values_indexOf : Room := { frames := 1, cells := 0, slots := 0, locals := 21 }
theorem ok_x_Values_indexOf : CalV y_Values_indexOf b_Values_indexOf 4 (some .int) 2 rm_x_Values_indexOf := ⟨kc_Values_indexOf, ki_Values_indexOf, kl_Values_indexOf, ji_Values, ⟨by decide, by decide, by decide +kernel⟩, rfl, rfl⟩
set_option maxHeartbeats 4000000 in
set_option maxRecDepth 100000 in
theorem w_x_Values_indexOf_b39 {z : Int32 × St} (X : Cx b_Values_indexOf 4 (some .int) R_Values D [(cI, .int), (cZ, .boolean), (cJ, .long)] (xA ao aa) (xW cI cZ cJ ao aa) p s m args meth c) {k2 : St → Int32 → Int32 → Int32 → Option (Int32 × St)} (hk2 : ∀ (S : St) (x1 : Int32) (x2 : Int32) (x3 : Int32), k2 S x1 x2 x3 = some z → WX rm_x_Values_indexOf D (xA ao aa) (xW cI cZ cJ ao aa) p l e s m args below meth c (some (.int z.1)) z.2 2 [] 4 [(0, .ref (ao 24)), (1, .int x1), (2, .int x2), (3, .int x3)] S) (S : St) (x1 : Int32) (x2 : Int32) (x3 : Int32) (hf : x_Values_indexOf_b39 k2 S x1 x2 x3 = some z) : WX rm_x_Values_indexOf D (xA ao aa) (xW cI cZ cJ ao aa) p l e s m args below meth c (some (.int z.1)) z.2 39 [] 4 [(0, .ref (ao 24)), (1, .int x1), (2, .int x2), (3, .int x3)] S := by
  intro H locs ls hP hS hl
  obtain ⟨hx, hb, hr0, hml, hown, htg, hlk, hK, hN, hI⟩ := id X
  unfold x_Values_indexOf_b39 at hf
  refine lv_iinc (v := (x3 + 1)) (lv' := [(3, .int (x3 + 1)), (0, .ref (ao 24)), (1, .int x1), (2, .int x2)]) hx hb d_Values_indexOf_39 hl (k := 3) rfl rfl (by decide) rfl (fun ls hl => ?_)
  refine lv_goto (tgt := 2) hx hb d_Values_indexOf_42 (by decide) ?_
  exact hk2 _ _ _ _ hf H locs ls hP hS (lv_sub hl [1, 2, 3, 0] rfl)
set_option maxHeartbeats 4000000 in
set_option maxRecDepth 100000 in
theorem w_x_Values_indexOf_b2_f {z : Int32 × St} (X : Cx b_Values_indexOf 4 (some .int) R_Values D [(cI, .int), (cZ, .boolean), (cJ, .long)] (xA ao aa) (xW cI cZ cJ ao aa) p s m args meth c) {k2 : St → Int32 → Int32 → Int32 → Option (Int32 × St)} (hk2 : ∀ (S : St) (x1 : Int32) (x2 : Int32) (x3 : Int32), k2 S x1 x2 x3 = some z → WX rm_x_Values_indexOf D (xA ao aa) (xW cI cZ cJ ao aa) p l e s m args below meth c (some (.int z.1)) z.2 2 [] 4 [(0, .ref (ao 24)), (1, .int x1), (2, .int x2), (3, .int x3)] S) (S : St) (x1 : Int32) (x2 : Int32) (x3 : Int32) (hf : x_Values_indexOf_b2_f k2 S x1 x2 x3 = some z) : WX rm_x_Values_indexOf D (xA ao aa) (xW cI cZ cJ ao aa) p l e s m args below meth c (some (.int z.1)) z.2 2 [] 4 [(0, .ref (ao 24)), (1, .int x1), (2, .int x2), (3, .int x3)] S := by
  intro H locs ls hP hS hl
  obtain ⟨hx, hb, hr0, hml, hown, htg, hlk, hK, hN, hI⟩ := id X
  unfold x_Values_indexOf_b2_f at hf
  refine lv_iload_n hx hb d_Values_indexOf_2 rfl (lv_at hl 3 rfl) ?_
  refine lv_aload_n hx hb d_Values_indexOf_3 rfl (lv_at hl 0 rfl) ?_
  refine va_get (D := D) (v := .ref (ao 3)) hx hb htg in_Values hown hK hP 24 xo_24 rfl 1 (by decide) (htg _ k_f_Values_20) (fun _ h9 => h9) rfl d_Values_indexOf_4 ?_
  obtain ⟨q1, he, hf⟩ := ob_some hf
  refine cl_Vi (As := []) (rest := [.int x3]) X (c_x_Row_size (by decide : 3 < 17) he) ok_x_Row_size k_m_Values_26 (va_recv hK hP rfl (xo_row (by decide : 3 < 17))) rfl rfl hl.1 (Nat.le_of_ble_eq_true rfl) d_Values_indexOf_7 ⟨by decide, by decide⟩ hP hS (fun H locs hP hS => ?_)
  refine lv_icmp_ge (tgt := 45) hx hb d_Values_indexOf_10 (by decide) (fun c => ?_) (fun c => ?_)
  · have hf := if_t hf c
    refine lv_iconst (v := (-1)) hx hb d_Values_indexOf_45 (by decide) ?_
    obtain rfl := Option.some.inj hf
    exact W.iret hx hb hr0 (fun t ht _ => ⟨⟨rfl, by rw [ht]; exact hP⟩, hS.F ht⟩) hS.2.2 d_Values_indexOf_46 hlk
  · have hf := if_f hf c
    refine lv_aload_n hx hb d_Values_indexOf_13 rfl (lv_at hl 0 rfl) ?_
    refine va_get (D := D) (v := .ref (ao 2)) hx hb htg in_Values hown hK hP 24 xo_24 rfl 0 (by decide) (htg _ k_f_Values_14) (fun _ h9 => h9) rfl d_Values_indexOf_14 ?_
    refine lv_iload_n hx hb d_Values_indexOf_17 rfl (lv_at hl 3 rfl) ?_
    obtain ⟨q2, he, hf⟩ := ob_some hf
    refine cl_Vi (As := [.int x3]) (rest := []) X (c_x_Row_at (by decide : 2 < 17) he) ok_x_Row_at k_m_Values_30 (va_recv hK hP rfl (xo_row (by decide : 2 < 17))) rfl rfl hl.1 (Nat.le_of_ble_eq_true rfl) d_Values_indexOf_18 ⟨by decide, by decide⟩ hP hS (fun H locs hP hS => ?_)
    refine lv_iload_n hx hb d_Values_indexOf_21 rfl (lv_at hl 1 rfl) ?_
    refine lv_icmp_ne (tgt := 39) hx hb d_Values_indexOf_22 (by decide) (fun c => ?_) (fun c => ?_)
    · have hf := if_f hf c
      exact w_x_Values_indexOf_b39 X hk2 _ _ _ _ hf H locs ls hP hS (lv_sub hl [0, 1, 2, 3] rfl)
    · have hf := if_t hf c
      refine lv_aload_n hx hb d_Values_indexOf_25 rfl (lv_at hl 0 rfl) ?_
      refine va_get (D := D) (v := .ref (ao 3)) hx hb htg in_Values hown hK hP 24 xo_24 rfl 1 (by decide) (htg _ k_f_Values_20) (fun _ h9 => h9) rfl d_Values_indexOf_26 ?_
      refine lv_iload_n hx hb d_Values_indexOf_29 rfl (lv_at hl 3 rfl) ?_
      obtain ⟨q3, he, hf⟩ := ob_some hf
      refine cl_Vi (As := [.int x3]) (rest := []) X (c_x_Row_at (by decide : 3 < 17) he) ok_x_Row_at k_m_Values_30 (va_recv hK hP rfl (xo_row (by decide : 3 < 17))) rfl rfl hl.1 (Nat.le_of_ble_eq_true rfl) d_Values_indexOf_30 ⟨by decide, by decide⟩ hP hS (fun H locs hP hS => ?_)
      refine lv_iload_n hx hb d_Values_indexOf_33 rfl (lv_at hl 2 rfl) ?_
      refine lv_icmp_ne (tgt := 39) hx hb d_Values_indexOf_34 (by decide) (fun c => ?_) (fun c => ?_)
      · have hf := if_f hf c
        exact w_x_Values_indexOf_b39 X hk2 _ _ _ _ hf H locs ls hP hS (lv_sub hl [0, 1, 2, 3] rfl)
      · have hf := if_t hf c
        refine lv_iload_n hx hb d_Values_indexOf_37 rfl (lv_at hl 3 rfl) ?_
        obtain rfl := Option.some.inj hf
        exact W.iret hx hb hr0 (fun t ht _ => ⟨⟨rfl, by rw [ht]; exact hP⟩, hS.F ht⟩) hS.2.2 d_Values_indexOf_38 hlk
theorem w_x_Values_indexOf_b2 {z : Int32 × St} (X : Cx b_Values_indexOf 4 (some .int) R_Values D [(cI, .int), (cZ, .boolean), (cJ, .long)] (xA ao aa) (xW cI cZ cJ ao aa) p s m args meth c) : ∀ (n : Nat) (S : St) (x1 : Int32) (x2 : Int32) (x3 : Int32), x_Values_indexOf_b2 n S x1 x2 x3 = some z → WX rm_x_Values_indexOf D (xA ao aa) (xW cI cZ cJ ao aa) p l e s m args below meth c (some (.int z.1)) z.2 2 [] 4 [(0, .ref (ao 24)), (1, .int x1), (2, .int x2), (3, .int x3)] S
  | 0, _, _, _, _, hf => ns hf
  | n + 1, _, _, _, _, hf => w_x_Values_indexOf_b2_f X (w_x_Values_indexOf_b2 X n) _ _ _ _ hf
set_option maxHeartbeats 4000000 in
set_option maxRecDepth 100000 in
theorem w_x_Values_indexOf {z : Int32 × St} (X : Cx b_Values_indexOf 4 (some .int) R_Values D [(cI, .int), (cZ, .boolean), (cJ, .long)] (xA ao aa) (xW cI cZ cJ ao aa) p s m args meth c) (S : St) (x0 : Int32) (x1 : Int32) (hf : x_Values_indexOf S x0 x1 = some z) : WX rm_x_Values_indexOf D (xA ao aa) (xW cI cZ cJ ao aa) p l e s m args below meth c (some (.int z.1)) z.2 0 [] 4 [(0, .ref (ao 24)), (1, .int x0), (2, .int x1)] S := by
  intro H locs ls hP hS hl
  obtain ⟨hx, hb, hr0, hml, hown, htg, hlk, hK, hN, hI⟩ := id X
  unfold x_Values_indexOf at hf
  refine lv_iconst (v := 0) hx hb d_Values_indexOf_0 (by decide) ?_
  refine lv_istore_n (lv' := [(3, .int (0 : Int32)), (0, .ref (ao 24)), (1, .int x0), (2, .int x1)]) hx hb d_Values_indexOf_1 rfl hl (by decide) rfl (fun ls hl => ?_)
  exact w_x_Values_indexOf_b2 X _ _ _ _ _ hf H locs ls hP hS (lv_sub hl [1, 2, 3, 0] rfl)
theorem c_x_Values_indexOf {l : Launch} {D : va_G} {cI cZ cJ : ClassId} {ao aa : Nat → Nat} {S : St} {x0 : Int32} {x1 : Int32} {z : Int32 × St} (hz : x_Values_indexOf S x0 x1 = some z) : Ct l y_Values_indexOf (.code y_Values_indexOf b_Values_indexOf 4 (some .int) :: gw) rm_x_Values_indexOf D [(cI, .int), (cZ, .boolean), (cJ, .long)] (xA ao aa) (xW cI cZ cJ ao aa) [.ref (ao 24), .int x0, .int x1] S (some (.int z.1)) z.2 :=
  Ct_of (by decide) (fun p e s m args below meth c X => w_x_Values_indexOf X _ _ _ hz) (Nat.le_of_ble_eq_true rfl)
def x_Values_find (S : St) (x0 : Int32) (x1 : Int32) : Option (Int32 × St) :=
  (x_Values_indexOf S x0 x1).bind fun q1 =>
  (x_Row_at 4 q1.2 q1.1).bind fun q2 =>
  some (q2.1, q2.2)
def rm_x_Values_find : Room := { frames := 2, cells := 0, slots := 0, locals := 44 }
theorem ok_x_Values_find : CalV y_Values_find b_Values_find 3 (some .int) 2 rm_x_Values_find := ⟨kc_Values_find, ki_Values_find, kl_Values_find, ji_Values, ⟨by decide, by decide, by decide +kernel⟩, rfl, rfl⟩
set_option maxHeartbeats 4000000 in
set_option maxRecDepth 100000 in
theorem w_x_Values_find {z : Int32 × St} (X : Cx b_Values_find 3 (some .int) R_Values D [(cI, .int), (cZ, .boolean), (cJ, .long)] (xA ao aa) (xW cI cZ cJ ao aa) p s m args meth c) (S : St) (x0 : Int32) (x1 : Int32) (hf : x_Values_find S x0 x1 = some z) : WX rm_x_Values_find D (xA ao aa) (xW cI cZ cJ ao aa) p l e s m args below meth c (some (.int z.1)) z.2 0 [] 3 [(0, .ref (ao 24)), (1, .int x0), (2, .int x1)] S := by
  intro H locs ls hP hS hl
  obtain ⟨hx, hb, hr0, hml, hown, htg, hlk, hK, hN, hI⟩ := id X
  unfold x_Values_find at hf
  refine lv_aload_n hx hb d_Values_find_0 rfl (lv_at hl 0 rfl) ?_
  refine va_get (D := D) (v := .ref (ao 4)) hx hb htg in_Values hown hK hP 24 xo_24 rfl 2 (by decide) (htg _ k_f_Values_23) (fun _ h9 => h9) rfl d_Values_find_1 ?_
  refine lv_aload_n hx hb d_Values_find_4 rfl (lv_at hl 0 rfl) ?_
  refine lv_iload_n hx hb d_Values_find_5 rfl (lv_at hl 1 rfl) ?_
  refine lv_iload_n hx hb d_Values_find_6 rfl (lv_at hl 2 rfl) ?_
  obtain ⟨q1, he, hf⟩ := ob_some hf
  refine cl_Vi (As := [.int x0, .int x1]) (rest := [.ref (ao 4)]) X (c_x_Values_indexOf he) ok_x_Values_indexOf k_m_Values_34 (va_recv hK hP rfl xo_24) rfl rfl hl.1 (Nat.le_of_ble_eq_true rfl) d_Values_find_7 ⟨by decide, by decide⟩ hP hS (fun H locs hP hS => ?_)
  obtain ⟨q2, he, hf⟩ := ob_some hf
  refine cl_Vi (As := [.int q1.1]) (rest := []) X (c_x_Row_at (by decide : 4 < 17) he) ok_x_Row_at k_m_Values_30 (va_recv hK hP rfl (xo_row (by decide : 4 < 17))) rfl rfl hl.1 (Nat.le_of_ble_eq_true rfl) d_Values_find_10 ⟨by decide, by decide⟩ hP hS (fun H locs hP hS => ?_)
  obtain rfl := Option.some.inj hf
  exact W.iret hx hb hr0 (fun t ht _ => ⟨⟨rfl, by rw [ht]; exact hP⟩, hS.F ht⟩) hS.2.2 d_Values_find_13 hlk
theorem c_x_Values_find {l : Launch} {D : va_G} {cI cZ cJ : ClassId} {ao aa : Nat → Nat} {S : St} {x0 : Int32} {x1 : Int32} {z : Int32 × St} (hz : x_Values_find S x0 x1 = some z) : Ct l y_Values_find (.code y_Values_find b_Values_find 3 (some .int) :: gw) rm_x_Values_find D [(cI, .int), (cZ, .boolean), (cJ, .long)] (xA ao aa) (xW cI cZ cJ ao aa) [.ref (ao 24), .int x0, .int x1] S (some (.int z.1)) z.2 :=
  Ct_of (by decide) (fun p e s m args below meth c X => w_x_Values_find X _ _ _ hz) (Nat.le_of_ble_eq_true rfl)
def x_Row_put (r : Nat) (S : St) (x0 : Int32) (x1 : Int32) : Option (St) :=
  if x0 < 0 then
    some S
  else
    if (gI S r) ≤ x0 then
      some S
    else
      gd (vin x0 (xcap r)) <|
      some (sA S r x0.toNatClampNeg x1)
def rm_x_Row_put : Room := { frames := 0, cells := 0, slots := 0, locals := 0 }
theorem ok_x_Row_put : CalV y_Row_put b_Row_put 3 none 2 rm_x_Row_put := ⟨kc_Row_put, ki_Row_put, kl_Row_put, ji_Row, ⟨by decide, by decide, by decide +kernel⟩, rfl, rfl⟩
set_option maxHeartbeats 4000000 in
set_option maxRecDepth 100000 in
theorem w_x_Row_put {r : Nat} (hr : r < 17) {z : St} (X : Cx b_Row_put 3 none R_Row D [(cI, .int), (cZ, .boolean), (cJ, .long)] (xA ao aa) (xW cI cZ cJ ao aa) p s m args meth c) (S : St) (x0 : Int32) (x1 : Int32) (hf : x_Row_put r S x0 x1 = some z) : WX rm_x_Row_put D (xA ao aa) (xW cI cZ cJ ao aa) p l e s m args below meth c none z 0 [] 3 [(0, .ref (ao r)), (1, .int x0), (2, .int x1)] S := by
  intro H locs ls hP hS hl
  obtain ⟨hx, hb, hr0, hml, hown, htg, hlk, hK, hN, hI⟩ := id X
  unfold x_Row_put at hf
  refine lv_iload_n hx hb d_Row_put_0 rfl (lv_at hl 1 rfl) ?_
  refine lv_if_lt (tgt := 19) hx hb d_Row_put_1 (by decide) (fun c => ?_) (fun c => ?_)
  · have hf := if_t hf c
    obtain rfl := Option.some.inj hf
    exact W.vret hx hb hr0 (fun t ht _ => ⟨⟨rfl, by rw [ht]; exact hP⟩, hS.F ht⟩) hS.2.2 d_Row_put_19 hlk
  · have hf := if_f hf c
    refine lv_iload_n hx hb d_Row_put_4 rfl (lv_at hl 1 rfl) ?_
    refine lv_aload_n hx hb d_Row_put_5 rfl (lv_at hl 0 rfl) ?_
    refine va_get (D := D) (v := .int (gI S r)) hx hb htg in_Row hown hK hP r (xo_row hr) rfl 1 (by decide) (htg _ k_f_Row_21) (fun _ h9 => h9) rfl d_Row_put_6 ?_
    refine lv_icmp_ge (tgt := 19) hx hb d_Row_put_9 (by decide) (fun c => ?_) (fun c => ?_)
    · have hf := if_t hf c
      obtain rfl := Option.some.inj hf
      exact W.vret hx hb hr0 (fun t ht _ => ⟨⟨rfl, by rw [ht]; exact hP⟩, hS.F ht⟩) hS.2.2 d_Row_put_19 hlk
    · have hf := if_f hf c
      refine lv_aload_n hx hb d_Row_put_12 rfl (lv_at hl 0 rfl) ?_
      refine va_get (D := D) (v := .ref (aa r)) hx hb htg in_Row hown hK hP r (xo_row hr) rfl 0 (by decide) (htg _ k_f_Row_15) (fun _ h9 => h9) rfl d_Row_put_13 ?_
      refine lv_iload_n hx hb d_Row_put_16 rfl (lv_at hl 1 rfl) ?_
      refine lv_iload_n hx hb d_Row_put_17 rfl (lv_at hl 2 rfl) ?_
      obtain ⟨hg, hf⟩ := gd_some hf
      refine va_iast hx hb hK hP (hI _) hS (28 + r) 0 (xa_row hr) rfl (vin_in hg) d_Row_put_18 (fun H locs hP _ hS => ?_)
      replace hP : va_P D classes (xW cI cZ cJ ao aa (sA S r x0.toNatClampNeg x1)) H := pw (xt_row hr) hP
      obtain rfl := Option.some.inj hf
      exact W.vret hx hb hr0 (fun t ht _ => ⟨⟨rfl, by rw [ht]; exact hP⟩, hS.F ht⟩) hS.2.2 d_Row_put_19 hlk
theorem c_x_Row_put {l : Launch} {D : va_G} {cI cZ cJ : ClassId} {ao aa : Nat → Nat} {r : Nat} (hr : r < 17) {S : St} {x0 : Int32} {x1 : Int32} {z : St} (hz : x_Row_put r S x0 x1 = some z) : Ct l y_Row_put (.code y_Row_put b_Row_put 3 none :: gw) rm_x_Row_put D [(cI, .int), (cZ, .boolean), (cJ, .long)] (xA ao aa) (xW cI cZ cJ ao aa) [.ref (ao r), .int x0, .int x1] S none z :=
  Ct_of (by decide) (fun p e s m args below meth c X => w_x_Row_put hr X _ _ _ hz) (Nat.le_of_ble_eq_true rfl)
def x_Values_count (S : St) : Option (Int32 × St) :=
  (x_Row_size 4 S).bind fun q1 =>
  some (q1.1, q1.2)
def rm_x_Values_count : Room := { frames := 1, cells := 0, slots := 0, locals := 20 }
theorem ok_x_Values_count : CalV y_Values_count b_Values_count 1 (some .int) 0 rm_x_Values_count := ⟨kc_Values_count, ki_Values_count, kl_Values_count, ji_Values, ⟨by decide, by decide, by decide +kernel⟩, rfl, rfl⟩
set_option maxHeartbeats 4000000 in
set_option maxRecDepth 100000 in
theorem w_x_Values_count {z : Int32 × St} (X : Cx b_Values_count 1 (some .int) R_Values D [(cI, .int), (cZ, .boolean), (cJ, .long)] (xA ao aa) (xW cI cZ cJ ao aa) p s m args meth c) (S : St) (hf : x_Values_count S = some z) : WX rm_x_Values_count D (xA ao aa) (xW cI cZ cJ ao aa) p l e s m args below meth c (some (.int z.1)) z.2 0 [] 1 [(0, .ref (ao 24))] S := by
  intro H locs ls hP hS hl
  obtain ⟨hx, hb, hr0, hml, hown, htg, hlk, hK, hN, hI⟩ := id X
  unfold x_Values_count at hf
  refine lv_aload_n hx hb d_Values_count_0 rfl (lv_at hl 0 rfl) ?_
  refine va_get (D := D) (v := .ref (ao 4)) hx hb htg in_Values hown hK hP 24 xo_24 rfl 2 (by decide) (htg _ k_f_Values_23) (fun _ h9 => h9) rfl d_Values_count_1 ?_
  obtain ⟨q1, he, hf⟩ := ob_some hf
  refine cl_Vi (As := []) (rest := []) X (c_x_Row_size (by decide : 4 < 17) he) ok_x_Row_size k_m_Values_26 (va_recv hK hP rfl (xo_row (by decide : 4 < 17))) rfl rfl hl.1 (Nat.le_of_ble_eq_true rfl) d_Values_count_4 ⟨by decide, by decide⟩ hP hS (fun H locs hP hS => ?_)
  obtain rfl := Option.some.inj hf
  exact W.iret hx hb hr0 (fun t ht _ => ⟨⟨rfl, by rw [ht]; exact hP⟩, hS.F ht⟩) hS.2.2 d_Values_count_7 hlk
theorem c_x_Values_count {l : Launch} {D : va_G} {cI cZ cJ : ClassId} {ao aa : Nat → Nat} {S : St} {z : Int32 × St} (hz : x_Values_count S = some z) : Ct l y_Values_count (.code y_Values_count b_Values_count 1 (some .int) :: gw) rm_x_Values_count D [(cI, .int), (cZ, .boolean), (cJ, .long)] (xA ao aa) (xW cI cZ cJ ao aa) [.ref (ao 24)] S (some (.int z.1)) z.2 :=
  Ct_of (by decide) (fun p e s m args below meth c X => w_x_Values_count X _ hz) (Nat.le_of_ble_eq_true rfl)
def x_Values_put_b51 (S : St) : Option (Int32 × St) :=
  (x_Values_count S).bind fun q3 =>
  some (q3.1, q3.2)
def x_Values_put (S : St) (x0 : Int32) (x1 : Int32) (x2 : Int32) : Option (Int32 × St) :=
  (x_Values_indexOf S x0 x1).bind fun q1 =>
  if q1.1 = (-1 : Int32) then
    (x_Row_add 2 q1.2 x0).bind fun q4 =>
    (x_Row_add 3 q4 x1).bind fun q5 =>
    (x_Row_add 4 q5 x2).bind fun q6 =>
    x_Values_put_b51 q6
  else
    (x_Row_put 4 q1.2 q1.1 x2).bind fun q2 =>
    x_Values_put_b51 q2
def rm_x_Values_put : Room := { frames := 2, cells := 0, slots := 0, locals := 44 }
theorem ok_x_Values_put : CalV y_Values_put b_Values_put 5 (some .int) 3 rm_x_Values_put := ⟨kc_Values_put, ki_Values_put, kl_Values_put, ji_Values, ⟨by decide, by decide, by decide +kernel⟩, rfl, rfl⟩
set_option maxHeartbeats 4000000 in
set_option maxRecDepth 100000 in
theorem w_x_Values_put_b51 {z : Int32 × St} (X : Cx b_Values_put 5 (some .int) R_Values D [(cI, .int), (cZ, .boolean), (cJ, .long)] (xA ao aa) (xW cI cZ cJ ao aa) p s m args meth c) (S : St) (hf : x_Values_put_b51 S = some z) : WX rm_x_Values_put D (xA ao aa) (xW cI cZ cJ ao aa) p l e s m args below meth c (some (.int z.1)) z.2 51 [] 5 [(0, .ref (ao 24))] S := by
  intro H locs ls hP hS hl
  obtain ⟨hx, hb, hr0, hml, hown, htg, hlk, hK, hN, hI⟩ := id X
  unfold x_Values_put_b51 at hf
  refine lv_aload_n hx hb d_Values_put_51 rfl (lv_at hl 0 rfl) ?_
  obtain ⟨q3, he, hf⟩ := ob_some hf
  refine cl_Vi (As := []) (rest := []) X (c_x_Values_count he) ok_x_Values_count k_m_Values_45 (va_recv hK hP rfl xo_24) rfl rfl hl.1 (Nat.le_of_ble_eq_true rfl) d_Values_put_52 ⟨by decide, by decide⟩ hP hS (fun H locs hP hS => ?_)
  obtain rfl := Option.some.inj hf
  exact W.iret hx hb hr0 (fun t ht _ => ⟨⟨rfl, by rw [ht]; exact hP⟩, hS.F ht⟩) hS.2.2 d_Values_put_55 hlk
set_option maxHeartbeats 4000000 in
set_option maxRecDepth 100000 in
theorem w_x_Values_put {z : Int32 × St} (X : Cx b_Values_put 5 (some .int) R_Values D [(cI, .int), (cZ, .boolean), (cJ, .long)] (xA ao aa) (xW cI cZ cJ ao aa) p s m args meth c) (S : St) (x0 : Int32) (x1 : Int32) (x2 : Int32) (hf : x_Values_put S x0 x1 x2 = some z) : WX rm_x_Values_put D (xA ao aa) (xW cI cZ cJ ao aa) p l e s m args below meth c (some (.int z.1)) z.2 0 [] 5 [(0, .ref (ao 24)), (1, .int x0), (2, .int x1), (3, .int x2)] S := by
  intro H locs ls hP hS hl
  obtain ⟨hx, hb, hr0, hml, hown, htg, hlk, hK, hN, hI⟩ := id X
  unfold x_Values_put at hf
  refine lv_aload_n hx hb d_Values_put_0 rfl (lv_at hl 0 rfl) ?_
  refine lv_iload_n hx hb d_Values_put_1 rfl (lv_at hl 1 rfl) ?_
  refine lv_iload_n hx hb d_Values_put_2 rfl (lv_at hl 2 rfl) ?_
  obtain ⟨q1, he, hf⟩ := ob_some hf
  refine cl_Vi (As := [.int x0, .int x1]) (rest := []) X (c_x_Values_indexOf he) ok_x_Values_indexOf k_m_Values_34 (va_recv hK hP rfl xo_24) rfl rfl hl.1 (Nat.le_of_ble_eq_true rfl) d_Values_put_3 ⟨by decide, by decide⟩ hP hS (fun H locs hP hS => ?_)
  refine lv_istore (lv' := [(4, .int q1.1), (0, .ref (ao 24)), (1, .int x0), (2, .int x1), (3, .int x2)]) hx hb d_Values_put_6 hl (by decide) rfl (fun ls hl => ?_)
  refine lv_iload hx hb d_Values_put_8 (lv_at hl 0 rfl) ?_
  refine lv_iconst (v := (-1)) hx hb d_Values_put_10 (by decide) ?_
  refine lv_icmp_ne (tgt := 41) hx hb d_Values_put_11 (by decide) (fun c => ?_) (fun c => ?_)
  · have hf := if_f hf c
    refine lv_aload_n hx hb d_Values_put_41 rfl (lv_at hl 1 rfl) ?_
    refine va_get (D := D) (v := .ref (ao 4)) hx hb htg in_Values hown hK hP 24 xo_24 rfl 2 (by decide) (htg _ k_f_Values_23) (fun _ h9 => h9) rfl d_Values_put_42 ?_
    refine lv_iload hx hb d_Values_put_45 (lv_at hl 0 rfl) ?_
    refine lv_iload_n hx hb d_Values_put_47 rfl (lv_at hl 4 rfl) ?_
    obtain ⟨q2, he, hf⟩ := ob_some hf
    refine cl_Vv (As := [.int q1.1, .int x2]) (rest := []) X (c_x_Row_put (by decide : 4 < 17) he) ok_x_Row_put k_m_Values_41 (va_recv hK hP rfl (xo_row (by decide : 4 < 17))) rfl rfl hl.1 (Nat.le_of_ble_eq_true rfl) d_Values_put_48 ⟨by decide, by decide⟩ hP hS (fun H locs hP hS => ?_)
    exact w_x_Values_put_b51 X _ hf H locs ls hP hS (lv_sub hl [1] rfl)
  · have hf := if_t hf c
    refine lv_aload_n hx hb d_Values_put_14 rfl (lv_at hl 1 rfl) ?_
    refine va_get (D := D) (v := .ref (ao 2)) hx hb htg in_Values hown hK hP 24 xo_24 rfl 0 (by decide) (htg _ k_f_Values_14) (fun _ h9 => h9) rfl d_Values_put_15 ?_
    refine lv_iload_n hx hb d_Values_put_18 rfl (lv_at hl 2 rfl) ?_
    obtain ⟨q4, he, hf⟩ := ob_some hf
    refine cl_Vv (As := [.int x0]) (rest := []) X (c_x_Row_add (by decide : 2 < 17) he) ok_x_Row_add k_m_Values_38 (va_recv hK hP rfl (xo_row (by decide : 2 < 17))) rfl rfl hl.1 (Nat.le_of_ble_eq_true rfl) d_Values_put_19 ⟨by decide, by decide⟩ hP hS (fun H locs hP hS => ?_)
    refine lv_aload_n hx hb d_Values_put_22 rfl (lv_at hl 1 rfl) ?_
    refine va_get (D := D) (v := .ref (ao 3)) hx hb htg in_Values hown hK hP 24 xo_24 rfl 1 (by decide) (htg _ k_f_Values_20) (fun _ h9 => h9) rfl d_Values_put_23 ?_
    refine lv_iload_n hx hb d_Values_put_26 rfl (lv_at hl 3 rfl) ?_
    obtain ⟨q5, he, hf⟩ := ob_some hf
    refine cl_Vv (As := [.int x1]) (rest := []) X (c_x_Row_add (by decide : 3 < 17) he) ok_x_Row_add k_m_Values_38 (va_recv hK hP rfl (xo_row (by decide : 3 < 17))) rfl rfl hl.1 (Nat.le_of_ble_eq_true rfl) d_Values_put_27 ⟨by decide, by decide⟩ hP hS (fun H locs hP hS => ?_)
    refine lv_aload_n hx hb d_Values_put_30 rfl (lv_at hl 1 rfl) ?_
    refine va_get (D := D) (v := .ref (ao 4)) hx hb htg in_Values hown hK hP 24 xo_24 rfl 2 (by decide) (htg _ k_f_Values_23) (fun _ h9 => h9) rfl d_Values_put_31 ?_
    refine lv_iload_n hx hb d_Values_put_34 rfl (lv_at hl 4 rfl) ?_
    obtain ⟨q6, he, hf⟩ := ob_some hf
    refine cl_Vv (As := [.int x2]) (rest := []) X (c_x_Row_add (by decide : 4 < 17) he) ok_x_Row_add k_m_Values_38 (va_recv hK hP rfl (xo_row (by decide : 4 < 17))) rfl rfl hl.1 (Nat.le_of_ble_eq_true rfl) d_Values_put_35 ⟨by decide, by decide⟩ hP hS (fun H locs hP hS => ?_)
    refine lv_goto (tgt := 51) hx hb d_Values_put_38 (by decide) ?_
    exact w_x_Values_put_b51 X _ hf H locs ls hP hS (lv_sub hl [1] rfl)
theorem c_x_Values_put {l : Launch} {D : va_G} {cI cZ cJ : ClassId} {ao aa : Nat → Nat} {S : St} {x0 : Int32} {x1 : Int32} {x2 : Int32} {z : Int32 × St} (hz : x_Values_put S x0 x1 x2 = some z) : Ct l y_Values_put (.code y_Values_put b_Values_put 5 (some .int) :: gw) rm_x_Values_put D [(cI, .int), (cZ, .boolean), (cJ, .long)] (xA ao aa) (xW cI cZ cJ ao aa) [.ref (ao 24), .int x0, .int x1, .int x2] S (some (.int z.1)) z.2 :=
  Ct_of (by decide) (fun p e s m args below meth c X => w_x_Values_put X _ _ _ _ hz) (Nat.le_of_ble_eq_true rfl)
def x_G_custom_b77 (S : St) (x1 : Int32) (x2 : Int32) (x3 : Int32) : Option (Int32 × St) :=
  (x_Values_put S x1 x2 x3).bind fun q2 =>
  some (q2.1, q2.2)
def x_G_custom_b18 (S : St) (x1 : Int32) (x2 : Int32) (x3 : Int32) (s0 : Int32) : Option (Int32 × St) :=
  if x1 < 0 then
    some ((-102 : Int32), S)
  else
    if (9 : Int32) < x1 then
      some ((-102 : Int32), S)
    else
      if s0 = 0 then
        some ((-102 : Int32), S)
      else
        if x3 < 0 then
          some ((-102 : Int32), S)
        else
          if x3 ≤ (9999 : Int32) then
            (x_Values_find S x1 x2).bind fun q1 =>
            if q1.1 = (-1 : Int32) then
              (x_Values_count q1.2).bind fun q3 =>
              if q3.1 < (40 : Int32) then
                x_G_custom_b77 q3.2 x1 x2 x3
              else
                some ((-104 : Int32), q3.2)
            else
              x_G_custom_b77 q1.2 x1 x2 x3
          else
            some ((-102 : Int32), S)
def x_G_custom_b17 (S : St) (x1 : Int32) (x2 : Int32) (x3 : Int32) : Option (Int32 × St) :=
  x_G_custom_b18 S x1 x2 x3 (0 : Int32)
def x_G_custom (S : St) (x0 : Int32) (x1 : Int32) (x2 : Int32) : Option (Int32 × St) :=
  if x1 < (10 : Int32) then
    x_G_custom_b17 S x0 x1 x2
  else
    if (19999 : Int32) < x1 then
      x_G_custom_b17 S x0 x1 x2
    else
      x_G_custom_b18 S x0 x1 x2 (1 : Int32)
def rm_x_G_custom : Room := { frames := 3, cells := 0, slots := 0, locals := 68 }
theorem ok_x_G_custom : CalV y_G_custom b_G_custom 5 (some .int) 3 rm_x_G_custom := ⟨kc_G_custom, ki_G_custom, kl_G_custom, ji_G, ⟨by decide, by decide, by decide +kernel⟩, rfl, rfl⟩
set_option maxHeartbeats 4000000 in
set_option maxRecDepth 100000 in
theorem w_x_G_custom_b77 {z : Int32 × St} (X : Cx b_G_custom 5 (some .int) R_G D [(cI, .int), (cZ, .boolean), (cJ, .long)] (xA ao aa) (xW cI cZ cJ ao aa) p s m args meth c) (S : St) (x1 : Int32) (x2 : Int32) (x3 : Int32) (hf : x_G_custom_b77 S x1 x2 x3 = some z) : WX rm_x_G_custom D (xA ao aa) (xW cI cZ cJ ao aa) p l e s m args below meth c (some (.int z.1)) z.2 77 [] 5 [(0, .ref (ao 27)), (1, .int x1), (2, .int x2), (3, .int x3)] S := by
  intro H locs ls hP hS hl
  obtain ⟨hx, hb, hr0, hml, hown, htg, hlk, hK, hN, hI⟩ := id X
  unfold x_G_custom_b77 at hf
  refine lv_aload_n hx hb d_G_custom_77 rfl (lv_at hl 0 rfl) ?_
  refine va_get (D := D) (v := .ref (ao 24)) hx hb htg in_G hown hK hP 27 xo_27 rfl 3 (by decide) (htg _ k_f_G_33) (fun _ h9 => h9) rfl d_G_custom_78 ?_
  refine lv_iload_n hx hb d_G_custom_81 rfl (lv_at hl 1 rfl) ?_
  refine lv_iload_n hx hb d_G_custom_82 rfl (lv_at hl 2 rfl) ?_
  refine lv_iload_n hx hb d_G_custom_83 rfl (lv_at hl 3 rfl) ?_
  obtain ⟨q2, he, hf⟩ := ob_some hf
  refine cl_Vi (As := [.int x1, .int x2, .int x3]) (rest := []) X (c_x_Values_put he) ok_x_Values_put k_m_G_156 (va_recv hK hP rfl xo_24) rfl rfl hl.1 (Nat.le_of_ble_eq_true rfl) d_G_custom_84 ⟨by decide, by decide⟩ hP hS (fun H locs hP hS => ?_)
  obtain rfl := Option.some.inj hf
  exact W.iret hx hb hr0 (fun t ht _ => ⟨⟨rfl, by rw [ht]; exact hP⟩, hS.F ht⟩) hS.2.2 d_G_custom_87 hlk
set_option maxHeartbeats 4000000 in
set_option maxRecDepth 100000 in
theorem w_x_G_custom_b18 {z : Int32 × St} (X : Cx b_G_custom 5 (some .int) R_G D [(cI, .int), (cZ, .boolean), (cJ, .long)] (xA ao aa) (xW cI cZ cJ ao aa) p s m args meth c) (S : St) (x1 : Int32) (x2 : Int32) (x3 : Int32) (s0 : Int32) (hf : x_G_custom_b18 S x1 x2 x3 s0 = some z) : WX rm_x_G_custom D (xA ao aa) (xW cI cZ cJ ao aa) p l e s m args below meth c (some (.int z.1)) z.2 18 [.int s0] 5 [(0, .ref (ao 27)), (1, .int x1), (2, .int x2), (3, .int x3)] S := by
  intro H locs ls hP hS hl
  obtain ⟨hx, hb, hr0, hml, hown, htg, hlk, hK, hN, hI⟩ := id X
  unfold x_G_custom_b18 at hf
  refine lv_istore (lv' := [(4, .int s0), (0, .ref (ao 27)), (1, .int x1), (2, .int x2), (3, .int x3)]) hx hb d_G_custom_18 hl (by decide) rfl (fun ls hl => ?_)
  refine lv_iload_n hx hb d_G_custom_20 rfl (lv_at hl 2 rfl) ?_
  refine lv_if_lt (tgt := 46) hx hb d_G_custom_21 (by decide) (fun c => ?_) (fun c => ?_)
  · have hf := if_t hf c
    refine lv_bipush (v := (-102)) hx hb d_G_custom_46 (by decide) ?_
    obtain rfl := Option.some.inj hf
    exact W.iret hx hb hr0 (fun t ht _ => ⟨⟨rfl, by rw [ht]; exact hP⟩, hS.F ht⟩) hS.2.2 d_G_custom_48 hlk
  · have hf := if_f hf c
    refine lv_iload_n hx hb d_G_custom_24 rfl (lv_at hl 2 rfl) ?_
    refine lv_bipush (v := 9) hx hb d_G_custom_25 (by decide) ?_
    refine lv_icmp_gt (tgt := 46) hx hb d_G_custom_27 (by decide) (fun c => ?_) (fun c => ?_)
    · have hf := if_t hf c
      refine lv_bipush (v := (-102)) hx hb d_G_custom_46 (by decide) ?_
      obtain rfl := Option.some.inj hf
      exact W.iret hx hb hr0 (fun t ht _ => ⟨⟨rfl, by rw [ht]; exact hP⟩, hS.F ht⟩) hS.2.2 d_G_custom_48 hlk
    · have hf := if_f hf c
      refine lv_iload hx hb d_G_custom_30 (lv_at hl 0 rfl) ?_
      refine lv_if_eq (tgt := 46) hx hb d_G_custom_32 (by decide) (fun c => ?_) (fun c => ?_)
      · have hf := if_t hf c
        refine lv_bipush (v := (-102)) hx hb d_G_custom_46 (by decide) ?_
        obtain rfl := Option.some.inj hf
        exact W.iret hx hb hr0 (fun t ht _ => ⟨⟨rfl, by rw [ht]; exact hP⟩, hS.F ht⟩) hS.2.2 d_G_custom_48 hlk
      · have hf := if_f hf c
        refine lv_iload_n hx hb d_G_custom_35 rfl (lv_at hl 4 rfl) ?_
        refine lv_if_lt (tgt := 46) hx hb d_G_custom_36 (by decide) (fun c => ?_) (fun c => ?_)
        · have hf := if_t hf c
          refine lv_bipush (v := (-102)) hx hb d_G_custom_46 (by decide) ?_
          obtain rfl := Option.some.inj hf
          exact W.iret hx hb hr0 (fun t ht _ => ⟨⟨rfl, by rw [ht]; exact hP⟩, hS.F ht⟩) hS.2.2 d_G_custom_48 hlk
        · have hf := if_f hf c
          refine lv_iload_n hx hb d_G_custom_39 rfl (lv_at hl 4 rfl) ?_
          refine lv_sipush (v := 9999) hx hb d_G_custom_40 (by decide) ?_
          refine lv_icmp_le (tgt := 49) hx hb d_G_custom_43 (by decide) (fun c => ?_) (fun c => ?_)
          · have hf := if_t hf c
            refine lv_aload_n hx hb d_G_custom_49 rfl (lv_at hl 1 rfl) ?_
            refine va_get (D := D) (v := .ref (ao 24)) hx hb htg in_G hown hK hP 27 xo_27 rfl 3 (by decide) (htg _ k_f_G_33) (fun _ h9 => h9) rfl d_G_custom_50 ?_
            refine lv_iload_n hx hb d_G_custom_53 rfl (lv_at hl 2 rfl) ?_
            refine lv_iload_n hx hb d_G_custom_54 rfl (lv_at hl 3 rfl) ?_
            obtain ⟨q1, he, hf⟩ := ob_some hf
            refine cl_Vi (As := [.int x1, .int x2]) (rest := []) X (c_x_Values_find he) ok_x_Values_find k_m_G_149 (va_recv hK hP rfl xo_24) rfl rfl hl.1 (Nat.le_of_ble_eq_true rfl) d_G_custom_55 ⟨by decide, by decide⟩ hP hS (fun H locs hP hS => ?_)
            refine lv_iconst (v := (-1)) hx hb d_G_custom_58 (by decide) ?_
            refine lv_icmp_ne (tgt := 77) hx hb d_G_custom_59 (by decide) (fun c => ?_) (fun c => ?_)
            · have hf := if_f hf c
              exact w_x_G_custom_b77 X _ _ _ _ hf H locs ls hP hS (lv_sub hl [1, 2, 3, 4] rfl)
            · have hf := if_t hf c
              refine lv_aload_n hx hb d_G_custom_62 rfl (lv_at hl 1 rfl) ?_
              refine va_get (D := D) (v := .ref (ao 24)) hx hb htg in_G hown hK hP 27 xo_27 rfl 3 (by decide) (htg _ k_f_G_33) (fun _ h9 => h9) rfl d_G_custom_63 ?_
              obtain ⟨q3, he, hf⟩ := ob_some hf
              refine cl_Vi (As := []) (rest := []) X (c_x_Values_count he) ok_x_Values_count k_m_G_152 (va_recv hK hP rfl xo_24) rfl rfl hl.1 (Nat.le_of_ble_eq_true rfl) d_G_custom_66 ⟨by decide, by decide⟩ hP hS (fun H locs hP hS => ?_)
              refine lv_bipush (v := 40) hx hb d_G_custom_69 (by decide) ?_
              refine lv_icmp_lt (tgt := 77) hx hb d_G_custom_71 (by decide) (fun c => ?_) (fun c => ?_)
              · have hf := if_t hf c
                exact w_x_G_custom_b77 X _ _ _ _ hf H locs ls hP hS (lv_sub hl [1, 2, 3, 4] rfl)
              · have hf := if_f hf c
                refine lv_bipush (v := (-104)) hx hb d_G_custom_74 (by decide) ?_
                obtain rfl := Option.some.inj hf
                exact W.iret hx hb hr0 (fun t ht _ => ⟨⟨rfl, by rw [ht]; exact hP⟩, hS.F ht⟩) hS.2.2 d_G_custom_76 hlk
          · have hf := if_f hf c
            refine lv_bipush (v := (-102)) hx hb d_G_custom_46 (by decide) ?_
            obtain rfl := Option.some.inj hf
            exact W.iret hx hb hr0 (fun t ht _ => ⟨⟨rfl, by rw [ht]; exact hP⟩, hS.F ht⟩) hS.2.2 d_G_custom_48 hlk
set_option maxHeartbeats 4000000 in
set_option maxRecDepth 100000 in
theorem w_x_G_custom_b17 {z : Int32 × St} (X : Cx b_G_custom 5 (some .int) R_G D [(cI, .int), (cZ, .boolean), (cJ, .long)] (xA ao aa) (xW cI cZ cJ ao aa) p s m args meth c) (S : St) (x1 : Int32) (x2 : Int32) (x3 : Int32) (hf : x_G_custom_b17 S x1 x2 x3 = some z) : WX rm_x_G_custom D (xA ao aa) (xW cI cZ cJ ao aa) p l e s m args below meth c (some (.int z.1)) z.2 17 [] 5 [(0, .ref (ao 27)), (1, .int x1), (2, .int x2), (3, .int x3)] S := by
  intro H locs ls hP hS hl
  obtain ⟨hx, hb, hr0, hml, hown, htg, hlk, hK, hN, hI⟩ := id X
  unfold x_G_custom_b17 at hf
  refine lv_iconst (v := 0) hx hb d_G_custom_17 (by decide) ?_
  exact w_x_G_custom_b18 X _ _ _ _ _ hf H locs ls hP hS (lv_sub hl [0, 1, 2, 3] rfl)
set_option maxHeartbeats 4000000 in
set_option maxRecDepth 100000 in
theorem w_x_G_custom {z : Int32 × St} (X : Cx b_G_custom 5 (some .int) R_G D [(cI, .int), (cZ, .boolean), (cJ, .long)] (xA ao aa) (xW cI cZ cJ ao aa) p s m args meth c) (S : St) (x0 : Int32) (x1 : Int32) (x2 : Int32) (hf : x_G_custom S x0 x1 x2 = some z) : WX rm_x_G_custom D (xA ao aa) (xW cI cZ cJ ao aa) p l e s m args below meth c (some (.int z.1)) z.2 0 [] 5 [(0, .ref (ao 27)), (1, .int x0), (2, .int x1), (3, .int x2)] S := by
  intro H locs ls hP hS hl
  obtain ⟨hx, hb, hr0, hml, hown, htg, hlk, hK, hN, hI⟩ := id X
  unfold x_G_custom at hf
  refine lv_iload_n hx hb d_G_custom_0 rfl (lv_at hl 2 rfl) ?_
  refine lv_bipush (v := 10) hx hb d_G_custom_1 (by decide) ?_
  refine lv_icmp_lt (tgt := 17) hx hb d_G_custom_3 (by decide) (fun c => ?_) (fun c => ?_)
  · have hf := if_t hf c
    exact w_x_G_custom_b17 X _ _ _ _ hf H locs ls hP hS (lv_sub hl [0, 1, 2, 3] rfl)
  · have hf := if_f hf c
    refine lv_iload_n hx hb d_G_custom_6 rfl (lv_at hl 2 rfl) ?_
    refine lv_sipush (v := 19999) hx hb d_G_custom_7 (by decide) ?_
    refine lv_icmp_gt (tgt := 17) hx hb d_G_custom_10 (by decide) (fun c => ?_) (fun c => ?_)
    · have hf := if_t hf c
      exact w_x_G_custom_b17 X _ _ _ _ hf H locs ls hP hS (lv_sub hl [0, 1, 2, 3] rfl)
    · have hf := if_f hf c
      refine lv_iconst (v := 1) hx hb d_G_custom_13 (by decide) ?_
      refine lv_goto (tgt := 18) hx hb d_G_custom_14 (by decide) ?_
      exact w_x_G_custom_b18 X _ _ _ _ _ hf H locs ls hP hS (lv_sub hl [0, 1, 2, 3] rfl)
theorem c_x_G_custom {l : Launch} {D : va_G} {cI cZ cJ : ClassId} {ao aa : Nat → Nat} {S : St} {x0 : Int32} {x1 : Int32} {x2 : Int32} {z : Int32 × St} (hz : x_G_custom S x0 x1 x2 = some z) : Ct l y_G_custom (.code y_G_custom b_G_custom 5 (some .int) :: gw) rm_x_G_custom D [(cI, .int), (cZ, .boolean), (cJ, .long)] (xA ao aa) (xW cI cZ cJ ao aa) [.ref (ao 27), .int x0, .int x1, .int x2] S (some (.int z.1)) z.2 :=
  Ct_of (by decide) (fun p e s m args below meth c X => w_x_G_custom X _ _ _ _ hz) (Nat.le_of_ble_eq_true rfl)
end

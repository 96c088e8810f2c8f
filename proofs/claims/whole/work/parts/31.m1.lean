section
variable {p : Program} {l : Launch} {e : Env} {s : State} {m : MethodId} {args : Array Value} {below : List Frame} {meth : Method} {c : Code} {D : va_G} {cI cZ cJ : ClassId} {ao aa : Nat → Nat}
def m_M_pairOf_b30 (k2 : St → Int32 → Int32 → Int32 → Option (Int32 × St)) (S : St) (x1 : Int32) (x2 : Int32) (x3 : Int32) : Option (Int32 × St) :=
  k2 S x1 x2 (x3 + 1)
def m_M_pairOf_b2_f (k2 : St → Int32 → Int32 → Int32 → Option (Int32 × St)) (S : St) (x1 : Int32) (x2 : Int32) (x3 : Int32) : Option (Int32 × St) :=
  if (gI S 4) ≤ x3 then
    some (x3, S)
  else
    gd (vin x3 40) <|
    if (gA S 11 x3.toNatClampNeg) = x1 then
      gd (vin x3 40) <|
      if (gA S 12 x3.toNatClampNeg) = x2 then
        some (x3, S)
      else
        m_M_pairOf_b30 k2 S x1 x2 x3
    else
      m_M_pairOf_b30 k2 S x1 x2 x3
def m_M_pairOf_b2 : Nat → St → Int32 → Int32 → Int32 → Option (Int32 × St)
  | 0, _, _, _, _ => none
  | n + 1, S, x1, x2, x3 => m_M_pairOf_b2_f (m_M_pairOf_b2 n) S x1 x2 x3
def m_M_pairOf (S : St) (x0 : Int32) (x1 : Int32) : Option (Int32 × St) :=
  m_M_pairOf_b2 fu S x0 x1 (0 : Int32)
def rm_m_M_pairOf : Room := { frames := 0, cells := 0, slots := 0, locals := 0 }
theorem ok_m_M_pairOf : CalV y_M_pairOf b_M_pairOf 4 (some .int) 2 rm_m_M_pairOf := ⟨kc_M_pairOf, ki_M_pairOf, kl_M_pairOf, ji_M, ⟨by decide, by decide, by decide +kernel⟩, rfl, rfl⟩
set_option maxHeartbeats 4000000 in
set_option maxRecDepth 100000 in
theorem w_m_M_pairOf_b30 {z : Int32 × St} (X : Cx b_M_pairOf 4 (some .int) R_M D [(cI, .int), (cZ, .boolean), (cJ, .long)] (mA ao aa) (mW cI cZ cJ ao aa) p s m args meth c) {k2 : St → Int32 → Int32 → Int32 → Option (Int32 × St)} (hk2 : ∀ (S : St) (x1 : Int32) (x2 : Int32) (x3 : Int32), k2 S x1 x2 x3 = some z → WX rm_m_M_pairOf D (mA ao aa) (mW cI cZ cJ ao aa) p l e s m args below meth c (some (.int z.1)) z.2 2 [] 4 [(0, .ref (ao 0)), (1, .int x1), (2, .int x2), (3, .int x3)] S) (S : St) (x1 : Int32) (x2 : Int32) (x3 : Int32) (hf : m_M_pairOf_b30 k2 S x1 x2 x3 = some z) : WX rm_m_M_pairOf D (mA ao aa) (mW cI cZ cJ ao aa) p l e s m args below meth c (some (.int z.1)) z.2 30 [] 4 [(0, .ref (ao 0)), (1, .int x1), (2, .int x2), (3, .int x3)] S := by
  intro H locs ls hP hS hl
  obtain ⟨hx, hb, hr0, hml, hown, htg, hlk, hK, hN, hI⟩ := id X
  unfold m_M_pairOf_b30 at hf
  refine lv_iinc (v := (x3 + 1)) (lv' := [(3, .int (x3 + 1)), (0, .ref (ao 0)), (1, .int x1), (2, .int x2)]) hx hb d_M_pairOf_30 hl (k := 3) rfl rfl (by decide) rfl (fun ls hl => ?_)
  refine lv_goto (tgt := 2) hx hb d_M_pairOf_33 (by decide) ?_
  exact hk2 _ _ _ _ hf H locs ls hP hS (lv_sub hl [1, 2, 3, 0] rfl)
set_option maxHeartbeats 4000000 in
set_option maxRecDepth 100000 in
theorem w_m_M_pairOf_b2_f {z : Int32 × St} (X : Cx b_M_pairOf 4 (some .int) R_M D [(cI, .int), (cZ, .boolean), (cJ, .long)] (mA ao aa) (mW cI cZ cJ ao aa) p s m args meth c) {k2 : St → Int32 → Int32 → Int32 → Option (Int32 × St)} (hk2 : ∀ (S : St) (x1 : Int32) (x2 : Int32) (x3 : Int32), k2 S x1 x2 x3 = some z → WX rm_m_M_pairOf D (mA ao aa) (mW cI cZ cJ ao aa) p l e s m args below meth c (some (.int z.1)) z.2 2 [] 4 [(0, .ref (ao 0)), (1, .int x1), (2, .int x2), (3, .int x3)] S) (S : St) (x1 : Int32) (x2 : Int32) (x3 : Int32) (hf : m_M_pairOf_b2_f k2 S x1 x2 x3 = some z) : WX rm_m_M_pairOf D (mA ao aa) (mW cI cZ cJ ao aa) p l e s m args below meth c (some (.int z.1)) z.2 2 [] 4 [(0, .ref (ao 0)), (1, .int x1), (2, .int x2), (3, .int x3)] S := by
  intro H locs ls hP hS hl
  obtain ⟨hx, hb, hr0, hml, hown, htg, hlk, hK, hN, hI⟩ := id X
  unfold m_M_pairOf_b2_f at hf
  refine lv_iload_n hx hb d_M_pairOf_2 rfl (lv_at hl 3 rfl) ?_
  refine lv_aload_n hx hb d_M_pairOf_3 rfl (lv_at hl 0 rfl) ?_
  refine va_get (D := D) (v := .int (gI S 4)) hx hb htg in_M hown hK hP 0 mo_0 rfl 15 (by decide) (htg _ k_f_M_147) (fun _ h9 => h9) rfl d_M_pairOf_4 ?_
  refine lv_icmp_ge (tgt := 36) hx hb d_M_pairOf_7 (by decide) (fun c => ?_) (fun c => ?_)
  · have hf := if_t hf c
    refine lv_iload_n hx hb d_M_pairOf_36 rfl (lv_at hl 3 rfl) ?_
    obtain rfl := Option.some.inj hf
    exact W.iret hx hb hr0 (fun t ht _ => ⟨⟨rfl, by rw [ht]; exact hP⟩, hS.F ht⟩) hS.2.2 d_M_pairOf_37 hlk
  · have hf := if_f hf c
    refine lv_aload_n hx hb d_M_pairOf_10 rfl (lv_at hl 0 rfl) ?_
    refine va_get (D := D) (v := .ref (aa 11)) hx hb htg in_M hown hK hP 0 mo_0 rfl 16 (by decide) (htg _ k_f_M_44) (fun _ h9 => h9) rfl d_M_pairOf_11 ?_
    refine lv_iload_n hx hb d_M_pairOf_14 rfl (lv_at hl 3 rfl) ?_
    obtain ⟨hg, hf⟩ := gd_some hf
    refine va_iald hx hb hK hP 12 0 ma_11 rfl (vin_in hg) d_M_pairOf_15 ?_
    refine lv_iload_n hx hb d_M_pairOf_16 rfl (lv_at hl 1 rfl) ?_
    refine lv_icmp_ne (tgt := 30) hx hb d_M_pairOf_17 (by decide) (fun c => ?_) (fun c => ?_)
    · have hf := if_f hf c
      exact w_m_M_pairOf_b30 X hk2 _ _ _ _ hf H locs ls hP hS (lv_sub hl [0, 1, 2, 3] rfl)
    · have hf := if_t hf c
      refine lv_aload_n hx hb d_M_pairOf_20 rfl (lv_at hl 0 rfl) ?_
      refine va_get (D := D) (v := .ref (aa 12)) hx hb htg in_M hown hK hP 0 mo_0 rfl 17 (by decide) (htg _ k_f_M_47) (fun _ h9 => h9) rfl d_M_pairOf_21 ?_
      refine lv_iload_n hx hb d_M_pairOf_24 rfl (lv_at hl 3 rfl) ?_
      obtain ⟨hg, hf⟩ := gd_some hf
      refine va_iald hx hb hK hP 13 0 ma_12 rfl (vin_in hg) d_M_pairOf_25 ?_
      refine lv_iload_n hx hb d_M_pairOf_26 rfl (lv_at hl 2 rfl) ?_
      refine lv_icmp_eq (tgt := 36) hx hb d_M_pairOf_27 (by decide) (fun c => ?_) (fun c => ?_)
      · have hf := if_t hf c
        refine lv_iload_n hx hb d_M_pairOf_36 rfl (lv_at hl 3 rfl) ?_
        obtain rfl := Option.some.inj hf
        exact W.iret hx hb hr0 (fun t ht _ => ⟨⟨rfl, by rw [ht]; exact hP⟩, hS.F ht⟩) hS.2.2 d_M_pairOf_37 hlk
      · have hf := if_f hf c
        exact w_m_M_pairOf_b30 X hk2 _ _ _ _ hf H locs ls hP hS (lv_sub hl [0, 1, 2, 3] rfl)
theorem w_m_M_pairOf_b2 {z : Int32 × St} (X : Cx b_M_pairOf 4 (some .int) R_M D [(cI, .int), (cZ, .boolean), (cJ, .long)] (mA ao aa) (mW cI cZ cJ ao aa) p s m args meth c) : ∀ (n : Nat) (S : St) (x1 : Int32) (x2 : Int32) (x3 : Int32), m_M_pairOf_b2 n S x1 x2 x3 = some z → WX rm_m_M_pairOf D (mA ao aa) (mW cI cZ cJ ao aa) p l e s m args below meth c (some (.int z.1)) z.2 2 [] 4 [(0, .ref (ao 0)), (1, .int x1), (2, .int x2), (3, .int x3)] S
  | 0, _, _, _, _, hf => ns hf
  | n + 1, _, _, _, _, hf => w_m_M_pairOf_b2_f X (w_m_M_pairOf_b2 X n) _ _ _ _ hf
set_option maxHeartbeats 4000000 in
set_option maxRecDepth 100000 in
theorem w_m_M_pairOf {z : Int32 × St} (X : Cx b_M_pairOf 4 (some .int) R_M D [(cI, .int), (cZ, .boolean), (cJ, .long)] (mA ao aa) (mW cI cZ cJ ao aa) p s m args meth c) (S : St) (x0 : Int32) (x1 : Int32) (hf : m_M_pairOf S x0 x1 = some z) : WX rm_m_M_pairOf D (mA ao aa) (mW cI cZ cJ ao aa) p l e s m args below meth c (some (.int z.1)) z.2 0 [] 4 [(0, .ref (ao 0)), (1, .int x0), (2, .int x1)] S := by
  intro H locs ls hP hS hl
  obtain ⟨hx, hb, hr0, hml, hown, htg, hlk, hK, hN, hI⟩ := id X
  unfold m_M_pairOf at hf
  refine lv_iconst (v := 0) hx hb d_M_pairOf_0 (by decide) ?_
  refine lv_istore_n (lv' := [(3, .int (0 : Int32)), (0, .ref (ao 0)), (1, .int x0), (2, .int x1)]) hx hb d_M_pairOf_1 rfl hl (by decide) rfl (fun ls hl => ?_)
  exact w_m_M_pairOf_b2 X _ _ _ _ _ hf H locs ls hP hS (lv_sub hl [1, 2, 3, 0] rfl)
theorem c_m_M_pairOf {l : Launch} {D : va_G} {cI cZ cJ : ClassId} {ao aa : Nat → Nat} {S : St} {x0 : Int32} {x1 : Int32} {z : Int32 × St} (hz : m_M_pairOf S x0 x1 = some z) : Ct l y_M_pairOf (.code y_M_pairOf b_M_pairOf 4 (some .int) :: gw) rm_m_M_pairOf D [(cI, .int), (cZ, .boolean), (cJ, .long)] (mA ao aa) (mW cI cZ cJ ao aa) [.ref (ao 0), .int x0, .int x1] S (some (.int z.1)) z.2 :=
  Ct_of (by decide) (fun p e s m args below meth c X => w_m_M_pairOf X _ _ _ hz) (Nat.le_of_ble_eq_true rfl)
def m_M_custom (S : St) (x0 : Int32) (x1 : Int32) (x2 : Int32) : Option (Int32 × St) :=
  (m_M_within S x0 (0 : Int32) (9 : Int32)).bind fun q1 =>
  if q1.1 = 0 then
    some ((-102 : Int32), q1.2)
  else
    (m_M_within q1.2 x1 (10 : Int32) (19999 : Int32)).bind fun q2 =>
    if q2.1 = 0 then
      some ((-102 : Int32), q2.2)
    else
      (m_M_within q2.2 x2 (0 : Int32) (9999 : Int32)).bind fun q3 =>
      if q3.1 = 0 then
        some ((-102 : Int32), q3.2)
      else
        (m_M_pairOf q3.2 x0 x1).bind fun q4 =>
        if q4.1 = (40 : Int32) then
          some ((-104 : Int32), q4.2)
        else
          gd (vin q4.1 40) <|
          gd (vin q4.1 40) <|
          gd (vin q4.1 40) <|
          if q4.1 = (gI (sA (sA (sA q4.2 11 q4.1.toNatClampNeg x0) 12 q4.1.toNatClampNeg x1) 13 q4.1.toNatClampNeg x2) 4) then
            some ((gI (sI (sA (sA (sA q4.2 11 q4.1.toNatClampNeg x0) 12 q4.1.toNatClampNeg x1) 13 q4.1.toNatClampNeg x2) 4 ((gI (sA (sA (sA q4.2 11 q4.1.toNatClampNeg x0) 12 q4.1.toNatClampNeg x1) 13 q4.1.toNatClampNeg x2) 4) + (1 : Int32))) 4), (sI (sA (sA (sA q4.2 11 q4.1.toNatClampNeg x0) 12 q4.1.toNatClampNeg x1) 13 q4.1.toNatClampNeg x2) 4 ((gI (sA (sA (sA q4.2 11 q4.1.toNatClampNeg x0) 12 q4.1.toNatClampNeg x1) 13 q4.1.toNatClampNeg x2) 4) + (1 : Int32))))
          else
            some ((gI (sI (sA (sA (sA q4.2 11 q4.1.toNatClampNeg x0) 12 q4.1.toNatClampNeg x1) 13 q4.1.toNatClampNeg x2) 4 (gI (sA (sA (sA q4.2 11 q4.1.toNatClampNeg x0) 12 q4.1.toNatClampNeg x1) 13 q4.1.toNatClampNeg x2) 4)) 4), (sI (sA (sA (sA q4.2 11 q4.1.toNatClampNeg x0) 12 q4.1.toNatClampNeg x1) 13 q4.1.toNatClampNeg x2) 4 (gI (sA (sA (sA q4.2 11 q4.1.toNatClampNeg x0) 12 q4.1.toNatClampNeg x1) 13 q4.1.toNatClampNeg x2) 4)))
def rm_m_M_custom : Room := { frames := 1, cells := 0, slots := 0, locals := 23 }
theorem ok_m_M_custom : CalV y_M_custom b_M_custom 5 (some .int) 3 rm_m_M_custom := ⟨kc_M_custom, ki_M_custom, kl_M_custom, ji_M, ⟨by decide, by decide, by decide +kernel⟩, rfl, rfl⟩
set_option maxHeartbeats 4000000 in
set_option maxRecDepth 100000 in
theorem w_m_M_custom {z : Int32 × St} (X : Cx b_M_custom 5 (some .int) R_M D [(cI, .int), (cZ, .boolean), (cJ, .long)] (mA ao aa) (mW cI cZ cJ ao aa) p s m args meth c) (S : St) (x0 : Int32) (x1 : Int32) (x2 : Int32) (hf : m_M_custom S x0 x1 x2 = some z) : WX rm_m_M_custom D (mA ao aa) (mW cI cZ cJ ao aa) p l e s m args below meth c (some (.int z.1)) z.2 0 [] 5 [(0, .ref (ao 0)), (1, .int x0), (2, .int x1), (3, .int x2)] S := by
  intro H locs ls hP hS hl
  obtain ⟨hx, hb, hr0, hml, hown, htg, hlk, hK, hN, hI⟩ := id X
  unfold m_M_custom at hf
  refine lv_iload_n hx hb d_M_custom_0 rfl (lv_at hl 1 rfl) ?_
  refine lv_iconst (v := 0) hx hb d_M_custom_1 (by decide) ?_
  refine lv_bipush (v := 9) hx hb d_M_custom_2 (by decide) ?_
  obtain ⟨q1, he, hf⟩ := ob_some hf
  refine cl_Si (As := [.int x0, .int (0 : Int32), .int (9 : Int32)]) (rest := []) X (c_m_M_within he) ok_m_M_within k_m_M_112 rfl rfl hl.1 (Nat.le_of_ble_eq_true rfl) d_M_custom_4 ⟨by decide, by decide⟩ hP hS (fun H locs hP hS => ?_)
  refine lv_if_eq (tgt := 33) hx hb d_M_custom_7 (by decide) (fun c => ?_) (fun c => ?_)
  · have hf := if_t hf c
    refine lv_bipush (v := (-102)) hx hb d_M_custom_33 (by decide) ?_
    obtain rfl := Option.some.inj hf
    exact W.iret hx hb hr0 (fun t ht _ => ⟨⟨rfl, by rw [ht]; exact hP⟩, hS.F ht⟩) hS.2.2 d_M_custom_35 hlk
  · have hf := if_f hf c
    refine lv_iload_n hx hb d_M_custom_10 rfl (lv_at hl 2 rfl) ?_
    refine lv_bipush (v := 10) hx hb d_M_custom_11 (by decide) ?_
    refine lv_sipush (v := 19999) hx hb d_M_custom_13 (by decide) ?_
    obtain ⟨q2, he, hf⟩ := ob_some hf
    refine cl_Si (As := [.int x1, .int (10 : Int32), .int (19999 : Int32)]) (rest := []) X (c_m_M_within he) ok_m_M_within k_m_M_112 rfl rfl hl.1 (Nat.le_of_ble_eq_true rfl) d_M_custom_16 ⟨by decide, by decide⟩ hP hS (fun H locs hP hS => ?_)
    refine lv_if_eq (tgt := 33) hx hb d_M_custom_19 (by decide) (fun c => ?_) (fun c => ?_)
    · have hf := if_t hf c
      refine lv_bipush (v := (-102)) hx hb d_M_custom_33 (by decide) ?_
      obtain rfl := Option.some.inj hf
      exact W.iret hx hb hr0 (fun t ht _ => ⟨⟨rfl, by rw [ht]; exact hP⟩, hS.F ht⟩) hS.2.2 d_M_custom_35 hlk
    · have hf := if_f hf c
      refine lv_iload_n hx hb d_M_custom_22 rfl (lv_at hl 3 rfl) ?_
      refine lv_iconst (v := 0) hx hb d_M_custom_23 (by decide) ?_
      refine lv_sipush (v := 9999) hx hb d_M_custom_24 (by decide) ?_
      obtain ⟨q3, he, hf⟩ := ob_some hf
      refine cl_Si (As := [.int x2, .int (0 : Int32), .int (9999 : Int32)]) (rest := []) X (c_m_M_within he) ok_m_M_within k_m_M_112 rfl rfl hl.1 (Nat.le_of_ble_eq_true rfl) d_M_custom_27 ⟨by decide, by decide⟩ hP hS (fun H locs hP hS => ?_)
      refine lv_if_ne (tgt := 36) hx hb d_M_custom_30 (by decide) (fun c => ?_) (fun c => ?_)
      · have hf := if_f hf c
        refine lv_aload_n hx hb d_M_custom_36 rfl (lv_at hl 0 rfl) ?_
        refine lv_iload_n hx hb d_M_custom_37 rfl (lv_at hl 1 rfl) ?_
        refine lv_iload_n hx hb d_M_custom_38 rfl (lv_at hl 2 rfl) ?_
        obtain ⟨q4, he, hf⟩ := ob_some hf
        refine cl_Vi (As := [.int x0, .int x1]) (rest := []) X (c_m_M_pairOf he) ok_m_M_pairOf k_m_M_150 (va_recv hK hP rfl mo_0) rfl rfl hl.1 (Nat.le_of_ble_eq_true rfl) d_M_custom_39 ⟨by decide, by decide⟩ hP hS (fun H locs hP hS => ?_)
        refine lv_istore (lv' := [(4, .int q4.1), (0, .ref (ao 0)), (1, .int x0), (2, .int x1), (3, .int x2)]) hx hb d_M_custom_42 hl (by decide) rfl (fun ls hl => ?_)
        refine lv_iload hx hb d_M_custom_44 (lv_at hl 0 rfl) ?_
        refine lv_bipush (v := 40) hx hb d_M_custom_46 (by decide) ?_
        refine lv_icmp_ne (tgt := 54) hx hb d_M_custom_48 (by decide) (fun c => ?_) (fun c => ?_)
        · have hf := if_f hf c
          refine lv_aload_n hx hb d_M_custom_54 rfl (lv_at hl 1 rfl) ?_
          refine va_get (D := D) (v := .ref (aa 11)) hx hb htg in_M hown hK hP 0 mo_0 rfl 16 (by decide) (htg _ k_f_M_44) (fun _ h9 => h9) rfl d_M_custom_55 ?_
          refine lv_iload hx hb d_M_custom_58 (lv_at hl 0 rfl) ?_
          refine lv_iload_n hx hb d_M_custom_60 rfl (lv_at hl 2 rfl) ?_
          obtain ⟨hg, hf⟩ := gd_some hf
          refine va_iast hx hb hK hP (hI _) hS 12 0 ma_11 rfl (vin_in hg) d_M_custom_61 (fun H locs hP _ hS => ?_)
          replace hP : va_P D classes (mW cI cZ cJ ao aa (sA q4.2 11 q4.1.toNatClampNeg x0)) H := pw mt_11 hP
          refine lv_aload_n hx hb d_M_custom_62 rfl (lv_at hl 1 rfl) ?_
          refine va_get (D := D) (v := .ref (aa 12)) hx hb htg in_M hown hK hP 0 mo_0 rfl 17 (by decide) (htg _ k_f_M_47) (fun _ h9 => h9) rfl d_M_custom_63 ?_
          refine lv_iload hx hb d_M_custom_66 (lv_at hl 0 rfl) ?_
          refine lv_iload_n hx hb d_M_custom_68 rfl (lv_at hl 3 rfl) ?_
          obtain ⟨hg, hf⟩ := gd_some hf
          refine va_iast hx hb hK hP (hI _) hS 13 0 ma_12 rfl (vin_in hg) d_M_custom_69 (fun H locs hP _ hS => ?_)
          replace hP : va_P D classes (mW cI cZ cJ ao aa (sA (sA q4.2 11 q4.1.toNatClampNeg x0) 12 q4.1.toNatClampNeg x1)) H := pw mt_12 hP
          refine lv_aload_n hx hb d_M_custom_70 rfl (lv_at hl 1 rfl) ?_
          refine va_get (D := D) (v := .ref (aa 13)) hx hb htg in_M hown hK hP 0 mo_0 rfl 18 (by decide) (htg _ k_f_M_50) (fun _ h9 => h9) rfl d_M_custom_71 ?_
          refine lv_iload hx hb d_M_custom_74 (lv_at hl 0 rfl) ?_
          refine lv_iload_n hx hb d_M_custom_76 rfl (lv_at hl 4 rfl) ?_
          obtain ⟨hg, hf⟩ := gd_some hf
          refine va_iast hx hb hK hP (hI _) hS 14 0 ma_13 rfl (vin_in hg) d_M_custom_77 (fun H locs hP _ hS => ?_)
          replace hP : va_P D classes (mW cI cZ cJ ao aa (sA (sA (sA q4.2 11 q4.1.toNatClampNeg x0) 12 q4.1.toNatClampNeg x1) 13 q4.1.toNatClampNeg x2)) H := pw mt_13 hP
          refine lv_aload_n hx hb d_M_custom_78 rfl (lv_at hl 1 rfl) ?_
          refine lv_iload hx hb d_M_custom_79 (lv_at hl 0 rfl) ?_
          refine lv_aload_n hx hb d_M_custom_81 rfl (lv_at hl 1 rfl) ?_
          refine va_get (D := D) (v := .int (gI (sA (sA (sA q4.2 11 q4.1.toNatClampNeg x0) 12 q4.1.toNatClampNeg x1) 13 q4.1.toNatClampNeg x2) 4)) hx hb htg in_M hown hK hP 0 mo_0 rfl 15 (by decide) (htg _ k_f_M_147) (fun _ h9 => h9) rfl d_M_custom_82 ?_
          refine lv_icmp_ne (tgt := 97) hx hb d_M_custom_85 (by decide) (fun c => ?_) (fun c => ?_)
          · have hf := if_f hf c
            refine lv_aload_n hx hb d_M_custom_97 rfl (lv_at hl 1 rfl) ?_
            refine va_get (D := D) (v := .int (gI (sA (sA (sA q4.2 11 q4.1.toNatClampNeg x0) 12 q4.1.toNatClampNeg x1) 13 q4.1.toNatClampNeg x2) 4)) hx hb htg in_M hown hK hP 0 mo_0 rfl 15 (by decide) (htg _ k_f_M_147) (fun _ h9 => h9) rfl d_M_custom_98 ?_
            refine va_put (D := D) (ty := .int) hx hb htg in_M t_M t_M_ok n_M hown hK hP (hI _) hS 0 mo_0 rfl 15 (by decide) (htg _ k_f_M_147) (fun _ h9 => h9) rfl (by decide +kernel) rfl rfl (Nat.le_of_ble_eq_true rfl) d_M_custom_101 (fun H locs hP _ hS => ?_)
            replace hP : va_P D classes (mW cI cZ cJ ao aa (sI (sA (sA (sA q4.2 11 q4.1.toNatClampNeg x0) 12 q4.1.toNatClampNeg x1) 13 q4.1.toNatClampNeg x2) 4 (gI (sA (sA (sA q4.2 11 q4.1.toNatClampNeg x0) 12 q4.1.toNatClampNeg x1) 13 q4.1.toNatClampNeg x2) 4))) H := pw ms_0_pairs hP
            refine lv_aload_n hx hb d_M_custom_104 rfl (lv_at hl 1 rfl) ?_
            refine va_get (D := D) (v := .int (gI (sI (sA (sA (sA q4.2 11 q4.1.toNatClampNeg x0) 12 q4.1.toNatClampNeg x1) 13 q4.1.toNatClampNeg x2) 4 (gI (sA (sA (sA q4.2 11 q4.1.toNatClampNeg x0) 12 q4.1.toNatClampNeg x1) 13 q4.1.toNatClampNeg x2) 4)) 4)) hx hb htg in_M hown hK hP 0 mo_0 rfl 15 (by decide) (htg _ k_f_M_147) (fun _ h9 => h9) rfl d_M_custom_105 ?_
            obtain rfl := Option.some.inj hf
            exact W.iret hx hb hr0 (fun t ht _ => ⟨⟨rfl, by rw [ht]; exact hP⟩, hS.F ht⟩) hS.2.2 d_M_custom_108 hlk
          · have hf := if_t hf c
            refine lv_aload_n hx hb d_M_custom_88 rfl (lv_at hl 1 rfl) ?_
            refine va_get (D := D) (v := .int (gI (sA (sA (sA q4.2 11 q4.1.toNatClampNeg x0) 12 q4.1.toNatClampNeg x1) 13 q4.1.toNatClampNeg x2) 4)) hx hb htg in_M hown hK hP 0 mo_0 rfl 15 (by decide) (htg _ k_f_M_147) (fun _ h9 => h9) rfl d_M_custom_89 ?_
            refine lv_iconst (v := 1) hx hb d_M_custom_92 (by decide) ?_
            refine lv_iadd hx hb d_M_custom_93 ?_
            refine lv_goto (tgt := 101) hx hb d_M_custom_94 (by decide) ?_
            refine va_put (D := D) (ty := .int) hx hb htg in_M t_M t_M_ok n_M hown hK hP (hI _) hS 0 mo_0 rfl 15 (by decide) (htg _ k_f_M_147) (fun _ h9 => h9) rfl (by decide +kernel) rfl rfl (Nat.le_of_ble_eq_true rfl) d_M_custom_101 (fun H locs hP _ hS => ?_)
            replace hP : va_P D classes (mW cI cZ cJ ao aa (sI (sA (sA (sA q4.2 11 q4.1.toNatClampNeg x0) 12 q4.1.toNatClampNeg x1) 13 q4.1.toNatClampNeg x2) 4 ((gI (sA (sA (sA q4.2 11 q4.1.toNatClampNeg x0) 12 q4.1.toNatClampNeg x1) 13 q4.1.toNatClampNeg x2) 4) + (1 : Int32)))) H := pw ms_0_pairs hP
            refine lv_aload_n hx hb d_M_custom_104 rfl (lv_at hl 1 rfl) ?_
            refine va_get (D := D) (v := .int (gI (sI (sA (sA (sA q4.2 11 q4.1.toNatClampNeg x0) 12 q4.1.toNatClampNeg x1) 13 q4.1.toNatClampNeg x2) 4 ((gI (sA (sA (sA q4.2 11 q4.1.toNatClampNeg x0) 12 q4.1.toNatClampNeg x1) 13 q4.1.toNatClampNeg x2) 4) + (1 : Int32))) 4)) hx hb htg in_M hown hK hP 0 mo_0 rfl 15 (by decide) (htg _ k_f_M_147) (fun _ h9 => h9) rfl d_M_custom_105 ?_
            obtain rfl := Option.some.inj hf
            exact W.iret hx hb hr0 (fun t ht _ => ⟨⟨rfl, by rw [ht]; exact hP⟩, hS.F ht⟩) hS.2.2 d_M_custom_108 hlk
        · have hf := if_t hf c
          refine lv_bipush (v := (-104)) hx hb d_M_custom_51 (by decide) ?_
          obtain rfl := Option.some.inj hf
          exact W.iret hx hb hr0 (fun t ht _ => ⟨⟨rfl, by rw [ht]; exact hP⟩, hS.F ht⟩) hS.2.2 d_M_custom_53 hlk
      · have hf := if_t hf c
        refine lv_bipush (v := (-102)) hx hb d_M_custom_33 (by decide) ?_
        obtain rfl := Option.some.inj hf
        exact W.iret hx hb hr0 (fun t ht _ => ⟨⟨rfl, by rw [ht]; exact hP⟩, hS.F ht⟩) hS.2.2 d_M_custom_35 hlk
theorem c_m_M_custom {l : Launch} {D : va_G} {cI cZ cJ : ClassId} {ao aa : Nat → Nat} {S : St} {x0 : Int32} {x1 : Int32} {x2 : Int32} {z : Int32 × St} (hz : m_M_custom S x0 x1 x2 = some z) : Ct l y_M_custom (.code y_M_custom b_M_custom 5 (some .int) :: gw) rm_m_M_custom D [(cI, .int), (cZ, .boolean), (cJ, .long)] (mA ao aa) (mW cI cZ cJ ao aa) [.ref (ao 0), .int x0, .int x1, .int x2] S (some (.int z.1)) z.2 :=
  Ct_of (by decide) (fun p e s m args below meth c X => w_m_M_custom X _ _ _ _ hz) (Nat.le_of_ble_eq_true rfl)
def m_M_isAny (S : St) (x0 : Int32) : Option (Int32 × St) :=
  (m_M_within S x0 (1 : Int32) (7 : Int32)).bind fun q1 =>
  if q1.1 = 0 then
    (m_M_within q1.2 x0 (10 : Int32) (19999 : Int32)).bind fun q2 =>
    if q2.1 = 0 then
      some ((0 : Int32), q2.2)
    else
      some ((1 : Int32), q2.2)
  else
    some ((1 : Int32), q1.2)
def rm_m_M_isAny : Room := { frames := 1, cells := 0, slots := 0, locals := 22 }
theorem ok_m_M_isAny : CalS y_M_isAny b_M_isAny 1 (some .boolean) 1 rm_m_M_isAny := ⟨kc_M_isAny, ks_M_isAny, ji_M, ⟨by decide, by decide, by decide +kernel⟩, rfl, rfl⟩
set_option maxHeartbeats 4000000 in
set_option maxRecDepth 100000 in
theorem w_m_M_isAny {z : Int32 × St} (X : Cx b_M_isAny 1 (some .boolean) R_M D [(cI, .int), (cZ, .boolean), (cJ, .long)] (mA ao aa) (mW cI cZ cJ ao aa) p s m args meth c) (S : St) (x0 : Int32) (hf : m_M_isAny S x0 = some z) : WX rm_m_M_isAny D (mA ao aa) (mW cI cZ cJ ao aa) p l e s m args below meth c (some (.int z.1)) z.2 0 [] 1 [(0, .int x0)] S := by
  intro H locs ls hP hS hl
  obtain ⟨hx, hb, hr0, hml, hown, htg, hlk, hK, hN, hI⟩ := id X
  unfold m_M_isAny at hf
  refine lv_iload_n hx hb d_M_isAny_0 rfl (lv_at hl 0 rfl) ?_
  refine lv_iconst (v := 1) hx hb d_M_isAny_1 (by decide) ?_
  refine lv_bipush (v := 7) hx hb d_M_isAny_2 (by decide) ?_
  obtain ⟨q1, he, hf⟩ := ob_some hf
  refine cl_Si (As := [.int x0, .int (1 : Int32), .int (7 : Int32)]) (rest := []) X (c_m_M_within he) ok_m_M_within k_m_M_112 rfl rfl hl.1 (Nat.le_of_ble_eq_true rfl) d_M_isAny_4 ⟨by decide, by decide⟩ hP hS (fun H locs hP hS => ?_)
  refine lv_if_ne (tgt := 22) hx hb d_M_isAny_7 (by decide) (fun c => ?_) (fun c => ?_)
  · have hf := if_f hf c
    refine lv_iconst (v := 1) hx hb d_M_isAny_22 (by decide) ?_
    refine lv_goto (tgt := 27) hx hb d_M_isAny_23 (by decide) ?_
    obtain rfl := Option.some.inj hf
    exact W.zret (ty := .boolean) hx hb hr0 rfl (fun t ht _ => ⟨⟨rfl, by rw [ht]; exact hP⟩, hS.F ht⟩) hS.2.2 d_M_isAny_27 hlk
  · have hf := if_t hf c
    refine lv_iload_n hx hb d_M_isAny_10 rfl (lv_at hl 0 rfl) ?_
    refine lv_bipush (v := 10) hx hb d_M_isAny_11 (by decide) ?_
    refine lv_sipush (v := 19999) hx hb d_M_isAny_13 (by decide) ?_
    obtain ⟨q2, he, hf⟩ := ob_some hf
    refine cl_Si (As := [.int x0, .int (10 : Int32), .int (19999 : Int32)]) (rest := []) X (c_m_M_within he) ok_m_M_within k_m_M_112 rfl rfl hl.1 (Nat.le_of_ble_eq_true rfl) d_M_isAny_16 ⟨by decide, by decide⟩ hP hS (fun H locs hP hS => ?_)
    refine lv_if_eq (tgt := 26) hx hb d_M_isAny_19 (by decide) (fun c => ?_) (fun c => ?_)
    · have hf := if_t hf c
      refine lv_iconst (v := 0) hx hb d_M_isAny_26 (by decide) ?_
      obtain rfl := Option.some.inj hf
      exact W.zret (ty := .boolean) hx hb hr0 rfl (fun t ht _ => ⟨⟨rfl, by rw [ht]; exact hP⟩, hS.F ht⟩) hS.2.2 d_M_isAny_27 hlk
    · have hf := if_f hf c
      refine lv_iconst (v := 1) hx hb d_M_isAny_22 (by decide) ?_
      refine lv_goto (tgt := 27) hx hb d_M_isAny_23 (by decide) ?_
      obtain rfl := Option.some.inj hf
      exact W.zret (ty := .boolean) hx hb hr0 rfl (fun t ht _ => ⟨⟨rfl, by rw [ht]; exact hP⟩, hS.F ht⟩) hS.2.2 d_M_isAny_27 hlk
theorem c_m_M_isAny {l : Launch} {D : va_G} {cI cZ cJ : ClassId} {ao aa : Nat → Nat} {S : St} {x0 : Int32} {z : Int32 × St} (hz : m_M_isAny S x0 = some z) : Ct l y_M_isAny (.code y_M_isAny b_M_isAny 1 (some .boolean) :: gw) rm_m_M_isAny D [(cI, .int), (cZ, .boolean), (cJ, .long)] (mA ao aa) (mW cI cZ cJ ao aa) [.int x0] S (some (.int z.1)) z.2 :=
  Ct_of (by decide) (fun p e s m args below meth c X => w_m_M_isAny X _ _ hz) (Nat.le_of_ble_eq_true rfl)
def m_M_word (S : St) (x0 : Int32) : Option (Int32 × St) :=
  (m_M_isAny S x0).bind fun q1 =>
  if q1.1 = 0 then
    some ((-102 : Int32), q1.2)
  else
    if (gI q1.2 5) = (60 : Int32) then
      some ((-104 : Int32), q1.2)
    else
      gd (vin (gI q1.2 5) 60) <|
      some ((gI (sI (sA q1.2 14 (gI q1.2 5).toNatClampNeg x0) 5 ((gI (sA q1.2 14 (gI q1.2 5).toNatClampNeg x0) 5) + (1 : Int32))) 5), (sI (sA q1.2 14 (gI q1.2 5).toNatClampNeg x0) 5 ((gI (sA q1.2 14 (gI q1.2 5).toNatClampNeg x0) 5) + (1 : Int32))))
def rm_m_M_word : Room := { frames := 2, cells := 0, slots := 0, locals := 42 }
theorem ok_m_M_word : CalV y_M_word b_M_word 2 (some .int) 1 rm_m_M_word := ⟨kc_M_word, ki_M_word, kl_M_word, ji_M, ⟨by decide, by decide, by decide +kernel⟩, rfl, rfl⟩
set_option maxHeartbeats 4000000 in
set_option maxRecDepth 100000 in
theorem w_m_M_word {z : Int32 × St} (X : Cx b_M_word 2 (some .int) R_M D [(cI, .int), (cZ, .boolean), (cJ, .long)] (mA ao aa) (mW cI cZ cJ ao aa) p s m args meth c) (S : St) (x0 : Int32) (hf : m_M_word S x0 = some z) : WX rm_m_M_word D (mA ao aa) (mW cI cZ cJ ao aa) p l e s m args below meth c (some (.int z.1)) z.2 0 [] 2 [(0, .ref (ao 0)), (1, .int x0)] S := by
  intro H locs ls hP hS hl
  obtain ⟨hx, hb, hr0, hml, hown, htg, hlk, hK, hN, hI⟩ := id X
  unfold m_M_word at hf
  refine lv_iload_n hx hb d_M_word_0 rfl (lv_at hl 1 rfl) ?_
  obtain ⟨q1, he, hf⟩ := ob_some hf
  refine cl_Si (As := [.int x0]) (rest := []) X (c_m_M_isAny he) ok_m_M_isAny k_m_M_154 rfl rfl hl.1 (Nat.le_of_ble_eq_true rfl) d_M_word_1 ⟨by decide, by decide⟩ hP hS (fun H locs hP hS => ?_)
  refine lv_if_ne (tgt := 10) hx hb d_M_word_4 (by decide) (fun c => ?_) (fun c => ?_)
  · have hf := if_f hf c
    refine lv_aload_n hx hb d_M_word_10 rfl (lv_at hl 0 rfl) ?_
    refine va_get (D := D) (v := .int (gI q1.2 5)) hx hb htg in_M hown hK hP 0 mo_0 rfl 19 (by decide) (htg _ k_f_M_157) (fun _ h9 => h9) rfl d_M_word_11 ?_
    refine lv_bipush (v := 60) hx hb d_M_word_14 (by decide) ?_
    refine lv_icmp_ne (tgt := 22) hx hb d_M_word_16 (by decide) (fun c => ?_) (fun c => ?_)
    · have hf := if_f hf c
      refine lv_aload_n hx hb d_M_word_22 rfl (lv_at hl 0 rfl) ?_
      refine va_get (D := D) (v := .ref (aa 14)) hx hb htg in_M hown hK hP 0 mo_0 rfl 20 (by decide) (htg _ k_f_M_53) (fun _ h9 => h9) rfl d_M_word_23 ?_
      refine lv_aload_n hx hb d_M_word_26 rfl (lv_at hl 0 rfl) ?_
      refine va_get (D := D) (v := .int (gI q1.2 5)) hx hb htg in_M hown hK hP 0 mo_0 rfl 19 (by decide) (htg _ k_f_M_157) (fun _ h9 => h9) rfl d_M_word_27 ?_
      refine lv_iload_n hx hb d_M_word_30 rfl (lv_at hl 1 rfl) ?_
      obtain ⟨hg, hf⟩ := gd_some hf
      refine va_iast hx hb hK hP (hI _) hS 15 0 ma_14 rfl (vin_in hg) d_M_word_31 (fun H locs hP _ hS => ?_)
      replace hP : va_P D classes (mW cI cZ cJ ao aa (sA q1.2 14 (gI q1.2 5).toNatClampNeg x0)) H := pw mt_14 hP
      refine lv_aload_n hx hb d_M_word_32 rfl (lv_at hl 0 rfl) ?_
      refine lv_dup hx hb d_M_word_33 rfl ?_
      refine va_get (D := D) (v := .int (gI (sA q1.2 14 (gI q1.2 5).toNatClampNeg x0) 5)) hx hb htg in_M hown hK hP 0 mo_0 rfl 19 (by decide) (htg _ k_f_M_157) (fun _ h9 => h9) rfl d_M_word_34 ?_
      refine lv_iconst (v := 1) hx hb d_M_word_37 (by decide) ?_
      refine lv_iadd hx hb d_M_word_38 ?_
      refine va_put (D := D) (ty := .int) hx hb htg in_M t_M t_M_ok n_M hown hK hP (hI _) hS 0 mo_0 rfl 19 (by decide) (htg _ k_f_M_157) (fun _ h9 => h9) rfl (by decide +kernel) rfl rfl (Nat.le_of_ble_eq_true rfl) d_M_word_39 (fun H locs hP _ hS => ?_)
      replace hP : va_P D classes (mW cI cZ cJ ao aa (sI (sA q1.2 14 (gI q1.2 5).toNatClampNeg x0) 5 ((gI (sA q1.2 14 (gI q1.2 5).toNatClampNeg x0) 5) + (1 : Int32)))) H := pw ms_0_inputMany hP
      refine lv_aload_n hx hb d_M_word_42 rfl (lv_at hl 0 rfl) ?_
      refine va_get (D := D) (v := .int (gI (sI (sA q1.2 14 (gI q1.2 5).toNatClampNeg x0) 5 ((gI (sA q1.2 14 (gI q1.2 5).toNatClampNeg x0) 5) + (1 : Int32))) 5)) hx hb htg in_M hown hK hP 0 mo_0 rfl 19 (by decide) (htg _ k_f_M_157) (fun _ h9 => h9) rfl d_M_word_43 ?_
      obtain rfl := Option.some.inj hf
      exact W.iret hx hb hr0 (fun t ht _ => ⟨⟨rfl, by rw [ht]; exact hP⟩, hS.F ht⟩) hS.2.2 d_M_word_46 hlk
    · have hf := if_t hf c
      refine lv_bipush (v := (-104)) hx hb d_M_word_19 (by decide) ?_
      obtain rfl := Option.some.inj hf
      exact W.iret hx hb hr0 (fun t ht _ => ⟨⟨rfl, by rw [ht]; exact hP⟩, hS.F ht⟩) hS.2.2 d_M_word_21 hlk
  · have hf := if_t hf c
    refine lv_bipush (v := (-102)) hx hb d_M_word_7 (by decide) ?_
    obtain rfl := Option.some.inj hf
    exact W.iret hx hb hr0 (fun t ht _ => ⟨⟨rfl, by rw [ht]; exact hP⟩, hS.F ht⟩) hS.2.2 d_M_word_9 hlk
theorem c_m_M_word {l : Launch} {D : va_G} {cI cZ cJ : ClassId} {ao aa : Nat → Nat} {S : St} {x0 : Int32} {z : Int32 × St} (hz : m_M_word S x0 = some z) : Ct l y_M_word (.code y_M_word b_M_word 2 (some .int) :: gw) rm_m_M_word D [(cI, .int), (cZ, .boolean), (cJ, .long)] (mA ao aa) (mW cI cZ cJ ao aa) [.ref (ao 0), .int x0] S (some (.int z.1)) z.2 :=
  Ct_of (by decide) (fun p e s m args below meth c X => w_m_M_word X _ _ hz) (Nat.le_of_ble_eq_true rfl)
def m_M_clear (S : St) : Option (Int32 × St) :=
  some ((gI S 5), (sI S 5 (0 : Int32)))
def rm_m_M_clear : Room := { frames := 0, cells := 0, slots := 0, locals := 0 }
theorem ok_m_M_clear : CalV y_M_clear b_M_clear 2 (some .int) 0 rm_m_M_clear := ⟨kc_M_clear, ki_M_clear, kl_M_clear, ji_M, ⟨by decide, by decide, by decide +kernel⟩, rfl, rfl⟩
set_option maxHeartbeats 4000000 in
set_option maxRecDepth 100000 in
theorem w_m_M_clear {z : Int32 × St} (X : Cx b_M_clear 2 (some .int) R_M D [(cI, .int), (cZ, .boolean), (cJ, .long)] (mA ao aa) (mW cI cZ cJ ao aa) p s m args meth c) (S : St) (hf : m_M_clear S = some z) : WX rm_m_M_clear D (mA ao aa) (mW cI cZ cJ ao aa) p l e s m args below meth c (some (.int z.1)) z.2 0 [] 2 [(0, .ref (ao 0))] S := by
  intro H locs ls hP hS hl
  obtain ⟨hx, hb, hr0, hml, hown, htg, hlk, hK, hN, hI⟩ := id X
  unfold m_M_clear at hf
  refine lv_aload_n hx hb d_M_clear_0 rfl (lv_at hl 0 rfl) ?_
  refine va_get (D := D) (v := .int (gI S 5)) hx hb htg in_M hown hK hP 0 mo_0 rfl 19 (by decide) (htg _ k_f_M_157) (fun _ h9 => h9) rfl d_M_clear_1 ?_
  refine lv_istore_n (lv' := [(1, .int (gI S 5)), (0, .ref (ao 0))]) hx hb d_M_clear_4 rfl hl (by decide) rfl (fun ls hl => ?_)
  refine lv_aload_n hx hb d_M_clear_5 rfl (lv_at hl 1 rfl) ?_
  refine lv_iconst (v := 0) hx hb d_M_clear_6 (by decide) ?_
  refine va_put (D := D) (ty := .int) hx hb htg in_M t_M t_M_ok n_M hown hK hP (hI _) hS 0 mo_0 rfl 19 (by decide) (htg _ k_f_M_157) (fun _ h9 => h9) rfl (by decide +kernel) rfl rfl (Nat.le_of_ble_eq_true rfl) d_M_clear_7 (fun H locs hP _ hS => ?_)
  replace hP : va_P D classes (mW cI cZ cJ ao aa (sI S 5 (0 : Int32))) H := pw ms_0_inputMany hP
  refine lv_iload_n hx hb d_M_clear_10 rfl (lv_at hl 0 rfl) ?_
  obtain rfl := Option.some.inj hf
  exact W.iret hx hb hr0 (fun t ht _ => ⟨⟨rfl, by rw [ht]; exact hP⟩, hS.F ht⟩) hS.2.2 d_M_clear_11 hlk
theorem c_m_M_clear {l : Launch} {D : va_G} {cI cZ cJ : ClassId} {ao aa : Nat → Nat} {S : St} {z : Int32 × St} (hz : m_M_clear S = some z) : Ct l y_M_clear (.code y_M_clear b_M_clear 2 (some .int) :: gw) rm_m_M_clear D [(cI, .int), (cZ, .boolean), (cJ, .long)] (mA ao aa) (mW cI cZ cJ ao aa) [.ref (ao 0)] S (some (.int z.1)) z.2 :=
  Ct_of (by decide) (fun p e s m args below meth c X => w_m_M_clear X _ hz) (Nat.le_of_ble_eq_true rfl)
def m_M_take_14_b2_f (k2 : St → Int32 → Int32 → Option (St)) (S : St) (x2 : Int32) (x3 : Int32) : Option (St) :=
  if x2 ≤ x3 then
    some (sI S 6 x2)
  else
    gd (vin x3 60) <|
    gd (vin x3 60) <|
    k2 (sA S 15 x3.toNatClampNeg (gA S 14 x3.toNatClampNeg)) x2 (x3 + 1)
def m_M_take_14_b2 : Nat → St → Int32 → Int32 → Option (St)
  | 0, _, _, _ => none
  | n + 1, S, x2, x3 => m_M_take_14_b2_f (m_M_take_14_b2 n) S x2 x3
def m_M_take_14 (S : St) (x0 : Int32) : Option (St) :=
  m_M_take_14_b2 fu S x0 (0 : Int32)
def rm_m_M_take_14 : Room := { frames := 0, cells := 0, slots := 0, locals := 0 }
theorem ok_m_M_take_14 : CalV y_M_take b_M_take 4 none 2 rm_m_M_take_14 := ⟨kc_M_take, ki_M_take, kl_M_take, ji_M, ⟨by decide, by decide, by decide +kernel⟩, rfl, rfl⟩
set_option maxHeartbeats 4000000 in
set_option maxRecDepth 100000 in
theorem w_m_M_take_14_b2_f {z : St} (X : Cx b_M_take 4 none R_M D [(cI, .int), (cZ, .boolean), (cJ, .long)] (mA ao aa) (mW cI cZ cJ ao aa) p s m args meth c) {k2 : St → Int32 → Int32 → Option (St)} (hk2 : ∀ (S : St) (x2 : Int32) (x3 : Int32), k2 S x2 x3 = some z → WX rm_m_M_take_14 D (mA ao aa) (mW cI cZ cJ ao aa) p l e s m args below meth c none z 2 [] 4 [(0, .ref (ao 0)), (1, .ref (aa 14)), (2, .int x2), (3, .int x3)] S) (S : St) (x2 : Int32) (x3 : Int32) (hf : m_M_take_14_b2_f k2 S x2 x3 = some z) : WX rm_m_M_take_14 D (mA ao aa) (mW cI cZ cJ ao aa) p l e s m args below meth c none z 2 [] 4 [(0, .ref (ao 0)), (1, .ref (aa 14)), (2, .int x2), (3, .int x3)] S := by
  intro H locs ls hP hS hl
  obtain ⟨hx, hb, hr0, hml, hown, htg, hlk, hK, hN, hI⟩ := id X
  unfold m_M_take_14_b2_f at hf
  refine lv_iload_n hx hb d_M_take_2 rfl (lv_at hl 3 rfl) ?_
  refine lv_iload_n hx hb d_M_take_3 rfl (lv_at hl 2 rfl) ?_
  refine lv_icmp_ge (tgt := 22) hx hb d_M_take_4 (by decide) (fun c => ?_) (fun c => ?_)
  · have hf := if_t hf c
    refine lv_aload_n hx hb d_M_take_22 rfl (lv_at hl 0 rfl) ?_
    refine lv_iload_n hx hb d_M_take_23 rfl (lv_at hl 2 rfl) ?_
    refine va_put (D := D) (ty := .int) hx hb htg in_M t_M t_M_ok n_M hown hK hP (hI _) hS 0 mo_0 rfl 22 (by decide) (htg _ k_f_M_167) (fun _ h9 => h9) rfl (by decide +kernel) rfl rfl (Nat.le_of_ble_eq_true rfl) d_M_take_24 (fun H locs hP _ hS => ?_)
    replace hP : va_P D classes (mW cI cZ cJ ao aa (sI S 6 x2)) H := pw ms_0_rowMany hP
    obtain rfl := Option.some.inj hf
    exact W.vret hx hb hr0 (fun t ht _ => ⟨⟨rfl, by rw [ht]; exact hP⟩, hS.F ht⟩) hS.2.2 d_M_take_27 hlk
  · have hf := if_f hf c
    refine lv_aload_n hx hb d_M_take_7 rfl (lv_at hl 0 rfl) ?_
    refine va_get (D := D) (v := .ref (aa 15)) hx hb htg in_M hown hK hP 0 mo_0 rfl 21 (by decide) (htg _ k_f_M_56) (fun _ h9 => h9) rfl d_M_take_8 ?_
    refine lv_iload_n hx hb d_M_take_11 rfl (lv_at hl 3 rfl) ?_
    refine lv_aload_n hx hb d_M_take_12 rfl (lv_at hl 1 rfl) ?_
    refine lv_iload_n hx hb d_M_take_13 rfl (lv_at hl 3 rfl) ?_
    obtain ⟨hg, hf⟩ := gd_some hf
    refine va_iald hx hb hK hP 15 0 ma_14 rfl (vin_in hg) d_M_take_14 ?_
    obtain ⟨hg, hf⟩ := gd_some hf
    refine va_iast hx hb hK hP (hI _) hS 16 0 ma_15 rfl (vin_in hg) d_M_take_15 (fun H locs hP _ hS => ?_)
    replace hP : va_P D classes (mW cI cZ cJ ao aa (sA S 15 x3.toNatClampNeg (gA S 14 x3.toNatClampNeg))) H := pw mt_15 hP
    refine lv_iinc (v := (x3 + 1)) (lv' := [(3, .int (x3 + 1)), (0, .ref (ao 0)), (1, .ref (aa 14)), (2, .int x2)]) hx hb d_M_take_16 hl (k := 3) rfl rfl (by decide) rfl (fun ls hl => ?_)
    refine lv_goto (tgt := 2) hx hb d_M_take_19 (by decide) ?_
    exact hk2 _ _ _ hf H locs ls hP hS (lv_sub hl [1, 2, 3, 0] rfl)
theorem w_m_M_take_14_b2 {z : St} (X : Cx b_M_take 4 none R_M D [(cI, .int), (cZ, .boolean), (cJ, .long)] (mA ao aa) (mW cI cZ cJ ao aa) p s m args meth c) : ∀ (n : Nat) (S : St) (x2 : Int32) (x3 : Int32), m_M_take_14_b2 n S x2 x3 = some z → WX rm_m_M_take_14 D (mA ao aa) (mW cI cZ cJ ao aa) p l e s m args below meth c none z 2 [] 4 [(0, .ref (ao 0)), (1, .ref (aa 14)), (2, .int x2), (3, .int x3)] S
  | 0, _, _, _, hf => ns hf
  | n + 1, _, _, _, hf => w_m_M_take_14_b2_f X (w_m_M_take_14_b2 X n) _ _ _ hf
set_option maxHeartbeats 4000000 in
set_option maxRecDepth 100000 in
theorem w_m_M_take_14 {z : St} (X : Cx b_M_take 4 none R_M D [(cI, .int), (cZ, .boolean), (cJ, .long)] (mA ao aa) (mW cI cZ cJ ao aa) p s m args meth c) (S : St) (x0 : Int32) (hf : m_M_take_14 S x0 = some z) : WX rm_m_M_take_14 D (mA ao aa) (mW cI cZ cJ ao aa) p l e s m args below meth c none z 0 [] 4 [(0, .ref (ao 0)), (1, .ref (aa 14)), (2, .int x0)] S := by
  intro H locs ls hP hS hl
  obtain ⟨hx, hb, hr0, hml, hown, htg, hlk, hK, hN, hI⟩ := id X
  unfold m_M_take_14 at hf
  refine lv_iconst (v := 0) hx hb d_M_take_0 (by decide) ?_
  refine lv_istore_n (lv' := [(3, .int (0 : Int32)), (0, .ref (ao 0)), (1, .ref (aa 14)), (2, .int x0)]) hx hb d_M_take_1 rfl hl (by decide) rfl (fun ls hl => ?_)
  exact w_m_M_take_14_b2 X _ _ _ _ hf H locs ls hP hS (lv_sub hl [1, 2, 3, 0] rfl)
theorem c_m_M_take_14 {l : Launch} {D : va_G} {cI cZ cJ : ClassId} {ao aa : Nat → Nat} {S : St} {x0 : Int32} {z : St} (hz : m_M_take_14 S x0 = some z) : Ct l y_M_take (.code y_M_take b_M_take 4 none :: gw) rm_m_M_take_14 D [(cI, .int), (cZ, .boolean), (cJ, .long)] (mA ao aa) (mW cI cZ cJ ao aa) [.ref (ao 0), .ref (aa 14), .int x0] S none z :=
  Ct_of (by decide) (fun p e s m args below meth c X => w_m_M_take_14 X _ _ hz) (Nat.le_of_ble_eq_true rfl)
def m_M_isHeld (S : St) (x0 : Int32) : Option (Int32 × St) :=
  gd (vin x0 40) <|
  if ((gA S 8 x0.toNatClampNeg) &&& (6 : Int32)) = 0 then
    some ((0 : Int32), S)
  else
    some ((1 : Int32), S)
def rm_m_M_isHeld : Room := { frames := 0, cells := 0, slots := 0, locals := 0 }
theorem ok_m_M_isHeld : CalV y_M_isHeld b_M_isHeld 2 (some .boolean) 1 rm_m_M_isHeld := ⟨kc_M_isHeld, ki_M_isHeld, kl_M_isHeld, ji_M, ⟨by decide, by decide, by decide +kernel⟩, rfl, rfl⟩
set_option maxHeartbeats 4000000 in
set_option maxRecDepth 100000 in
theorem w_m_M_isHeld {z : Int32 × St} (X : Cx b_M_isHeld 2 (some .boolean) R_M D [(cI, .int), (cZ, .boolean), (cJ, .long)] (mA ao aa) (mW cI cZ cJ ao aa) p s m args meth c) (S : St) (x0 : Int32) (hf : m_M_isHeld S x0 = some z) : WX rm_m_M_isHeld D (mA ao aa) (mW cI cZ cJ ao aa) p l e s m args below meth c (some (.int z.1)) z.2 0 [] 2 [(0, .ref (ao 0)), (1, .int x0)] S := by
  intro H locs ls hP hS hl
  obtain ⟨hx, hb, hr0, hml, hown, htg, hlk, hK, hN, hI⟩ := id X
  unfold m_M_isHeld at hf
  refine lv_aload_n hx hb d_M_isHeld_0 rfl (lv_at hl 0 rfl) ?_
  refine va_get (D := D) (v := .ref (aa 8)) hx hb htg in_M hown hK hP 0 mo_0 rfl 12 (by decide) (htg _ k_f_M_35) (fun _ h9 => h9) rfl d_M_isHeld_1 ?_
  refine lv_iload_n hx hb d_M_isHeld_4 rfl (lv_at hl 1 rfl) ?_
  obtain ⟨hg, hf⟩ := gd_some hf
  refine va_iald hx hb hK hP 9 0 ma_8 rfl (vin_in hg) d_M_isHeld_5 ?_
  refine lv_bipush (v := 6) hx hb d_M_isHeld_6 (by decide) ?_
  refine lv_iand hx hb d_M_isHeld_8 ?_
  refine lv_if_eq (tgt := 16) hx hb d_M_isHeld_9 (by decide) (fun c => ?_) (fun c => ?_)
  · have hf := if_t hf c
    refine lv_iconst (v := 0) hx hb d_M_isHeld_16 (by decide) ?_
    obtain rfl := Option.some.inj hf
    exact W.zret (ty := .boolean) hx hb hr0 rfl (fun t ht _ => ⟨⟨rfl, by rw [ht]; exact hP⟩, hS.F ht⟩) hS.2.2 d_M_isHeld_17 hlk
  · have hf := if_f hf c
    refine lv_iconst (v := 1) hx hb d_M_isHeld_12 (by decide) ?_
    refine lv_goto (tgt := 17) hx hb d_M_isHeld_13 (by decide) ?_
    obtain rfl := Option.some.inj hf
    exact W.zret (ty := .boolean) hx hb hr0 rfl (fun t ht _ => ⟨⟨rfl, by rw [ht]; exact hP⟩, hS.F ht⟩) hS.2.2 d_M_isHeld_17 hlk
theorem c_m_M_isHeld {l : Launch} {D : va_G} {cI cZ cJ : ClassId} {ao aa : Nat → Nat} {S : St} {x0 : Int32} {z : Int32 × St} (hz : m_M_isHeld S x0 = some z) : Ct l y_M_isHeld (.code y_M_isHeld b_M_isHeld 2 (some .boolean) :: gw) rm_m_M_isHeld D [(cI, .int), (cZ, .boolean), (cJ, .long)] (mA ao aa) (mW cI cZ cJ ao aa) [.ref (ao 0), .int x0] S (some (.int z.1)) z.2 :=
  Ct_of (by decide) (fun p e s m args below meth c X => w_m_M_isHeld X _ _ hz) (Nat.le_of_ble_eq_true rfl)
def m_M_isInScope (S : St) (x0 : Int32) : Option (Int32 × St) :=
  gd (vin x0 40) <|
  if ((gA S 8 x0.toNatClampNeg) &&& (1 : Int32)) = 0 then
    (m_M_isHeld S x0).bind fun q1 =>
    if q1.1 = 0 then
      some ((0 : Int32), q1.2)
    else
      some ((1 : Int32), q1.2)
  else
    some ((1 : Int32), S)
def rm_m_M_isInScope : Room := { frames := 1, cells := 0, slots := 0, locals := 21 }
theorem ok_m_M_isInScope : CalV y_M_isInScope b_M_isInScope 2 (some .boolean) 1 rm_m_M_isInScope := ⟨kc_M_isInScope, ki_M_isInScope, kl_M_isInScope, ji_M, ⟨by decide, by decide, by decide +kernel⟩, rfl, rfl⟩
set_option maxHeartbeats 4000000 in
set_option maxRecDepth 100000 in
theorem w_m_M_isInScope {z : Int32 × St} (X : Cx b_M_isInScope 2 (some .boolean) R_M D [(cI, .int), (cZ, .boolean), (cJ, .long)] (mA ao aa) (mW cI cZ cJ ao aa) p s m args meth c) (S : St) (x0 : Int32) (hf : m_M_isInScope S x0 = some z) : WX rm_m_M_isInScope D (mA ao aa) (mW cI cZ cJ ao aa) p l e s m args below meth c (some (.int z.1)) z.2 0 [] 2 [(0, .ref (ao 0)), (1, .int x0)] S := by
  intro H locs ls hP hS hl
  obtain ⟨hx, hb, hr0, hml, hown, htg, hlk, hK, hN, hI⟩ := id X
  unfold m_M_isInScope at hf
  refine lv_aload_n hx hb d_M_isInScope_0 rfl (lv_at hl 0 rfl) ?_
  refine va_get (D := D) (v := .ref (aa 8)) hx hb htg in_M hown hK hP 0 mo_0 rfl 12 (by decide) (htg _ k_f_M_35) (fun _ h9 => h9) rfl d_M_isInScope_1 ?_
  refine lv_iload_n hx hb d_M_isInScope_4 rfl (lv_at hl 1 rfl) ?_
  obtain ⟨hg, hf⟩ := gd_some hf
  refine va_iald hx hb hK hP 9 0 ma_8 rfl (vin_in hg) d_M_isInScope_5 ?_
  refine lv_iconst (v := 1) hx hb d_M_isInScope_6 (by decide) ?_
  refine lv_iand hx hb d_M_isInScope_7 ?_
  refine lv_if_ne (tgt := 19) hx hb d_M_isInScope_8 (by decide) (fun c => ?_) (fun c => ?_)
  · have hf := if_f hf c
    refine lv_iconst (v := 1) hx hb d_M_isInScope_19 (by decide) ?_
    refine lv_goto (tgt := 24) hx hb d_M_isInScope_20 (by decide) ?_
    obtain rfl := Option.some.inj hf
    exact W.zret (ty := .boolean) hx hb hr0 rfl (fun t ht _ => ⟨⟨rfl, by rw [ht]; exact hP⟩, hS.F ht⟩) hS.2.2 d_M_isInScope_24 hlk
  · have hf := if_t hf c
    refine lv_aload_n hx hb d_M_isInScope_11 rfl (lv_at hl 0 rfl) ?_
    refine lv_iload_n hx hb d_M_isInScope_12 rfl (lv_at hl 1 rfl) ?_
    obtain ⟨q1, he, hf⟩ := ob_some hf
    refine cl_Vi (As := [.int x0]) (rest := []) X (c_m_M_isHeld he) ok_m_M_isHeld k_m_M_160 (va_recv hK hP rfl mo_0) rfl rfl hl.1 (Nat.le_of_ble_eq_true rfl) d_M_isInScope_13 ⟨by decide, by decide⟩ hP hS (fun H locs hP hS => ?_)
    refine lv_if_eq (tgt := 23) hx hb d_M_isInScope_16 (by decide) (fun c => ?_) (fun c => ?_)
    · have hf := if_t hf c
      refine lv_iconst (v := 0) hx hb d_M_isInScope_23 (by decide) ?_
      obtain rfl := Option.some.inj hf
      exact W.zret (ty := .boolean) hx hb hr0 rfl (fun t ht _ => ⟨⟨rfl, by rw [ht]; exact hP⟩, hS.F ht⟩) hS.2.2 d_M_isInScope_24 hlk
    · have hf := if_f hf c
      refine lv_iconst (v := 1) hx hb d_M_isInScope_19 (by decide) ?_
      refine lv_goto (tgt := 24) hx hb d_M_isInScope_20 (by decide) ?_
      obtain rfl := Option.some.inj hf
      exact W.zret (ty := .boolean) hx hb hr0 rfl (fun t ht _ => ⟨⟨rfl, by rw [ht]; exact hP⟩, hS.F ht⟩) hS.2.2 d_M_isInScope_24 hlk
theorem c_m_M_isInScope {l : Launch} {D : va_G} {cI cZ cJ : ClassId} {ao aa : Nat → Nat} {S : St} {x0 : Int32} {z : Int32 × St} (hz : m_M_isInScope S x0 = some z) : Ct l y_M_isInScope (.code y_M_isInScope b_M_isInScope 2 (some .boolean) :: gw) rm_m_M_isInScope D [(cI, .int), (cZ, .boolean), (cJ, .long)] (mA ao aa) (mW cI cZ cJ ao aa) [.ref (ao 0), .int x0] S (some (.int z.1)) z.2 :=
  Ct_of (by decide) (fun p e s m args below meth c X => w_m_M_isInScope X _ _ hz) (Nat.le_of_ble_eq_true rfl)
def m_M_phrase_b91 (k12 : St → Int32 → Int32 → Option (Int32 × St)) (k19 : St → Int32 → Int32 → Int32 → Option (Int32 × St)) (S : St) (x1 : Int32) (x2 : Int32) (x3 : Int32) (s0 : Int64) : Option (Int32 × St) :=
  k19 (sL S 0 s0) x1 x2 (x3 + 1)
def m_M_phrase_b70 (k12 : St → Int32 → Int32 → Option (Int32 × St)) (k19 : St → Int32 → Int32 → Int32 → Option (Int32 × St)) (S : St) (x1 : Int32) (x2 : Int32) (x3 : Int32) (x4 : Int32) : Option (Int32 × St) :=
  if x4 = 0 then
    m_M_phrase_b91 k12 k19 S x1 x2 x3 (gL S 0)
  else
    m_M_phrase_b91 k12 k19 S x1 x2 x3 ((gL S 0) ||| ((1 : Int64) <<< (x3.toInt64 &&& 63)))
def m_M_phrase_b37_f (k12 : St → Int32 → Int32 → Option (Int32 × St)) (k19 : St → Int32 → Int32 → Int32 → Option (Int32 × St)) (k37 : St → Int32 → Int32 → Int32 → Int32 → Int32 → Option (Int32 × St)) (S : St) (x1 : Int32) (x2 : Int32) (x3 : Int32) (x4 : Int32) (x5 : Int32) : Option (Int32 × St) :=
  if (x1 + x2) ≤ x5 then
    m_M_phrase_b70 k12 k19 S x1 x2 x3 x4
  else
    if x4 = 0 then
      m_M_phrase_b70 k12 k19 S x1 x2 x3 x4
    else
      gd (vin x5 60) <|
      (m_M_hasName S x3 (gA S 15 x5.toNatClampNeg)).bind fun q2 =>
      k37 q2.2 x1 x2 x3 q2.1 (x5 + 1)
def m_M_phrase_b37 (k12 : St → Int32 → Int32 → Option (Int32 × St)) (k19 : St → Int32 → Int32 → Int32 → Option (Int32 × St)) : Nat → St → Int32 → Int32 → Int32 → Int32 → Int32 → Option (Int32 × St)
  | 0, _, _, _, _, _, _ => none
  | n + 1, S, x1, x2, x3, x4, x5 => m_M_phrase_b37_f k12 k19 (m_M_phrase_b37 k12 k19 n) S x1 x2 x3 x4 x5
def m_M_phrase_b19_f (k12 : St → Int32 → Int32 → Option (Int32 × St)) (k19 : St → Int32 → Int32 → Int32 → Option (Int32 × St)) (S : St) (x1 : Int32) (x2 : Int32) (x3 : Int32) : Option (Int32 × St) :=
  if (gI S 3) ≤ x3 then
    if (lg_cmp (gL S 0) (0 : Int64)) = 0 then
      k12 S x1 (x2 + (-1))
    else
      some (x2, S)
  else
    (m_M_isInScope S x3).bind fun q1 =>
    m_M_phrase_b37 k12 k19 fu q1.2 x1 x2 x3 q1.1 x1
def m_M_phrase_b19 (k12 : St → Int32 → Int32 → Option (Int32 × St)) : Nat → St → Int32 → Int32 → Int32 → Option (Int32 × St)
  | 0, _, _, _, _ => none
  | n + 1, S, x1, x2, x3 => m_M_phrase_b19_f k12 (m_M_phrase_b19 k12 n) S x1 x2 x3
def m_M_phrase_b12_f (k12 : St → Int32 → Int32 → Option (Int32 × St)) (S : St) (x1 : Int32) (x2 : Int32) : Option (Int32 × St) :=
  if x2 < (1 : Int32) then
    some ((0 : Int32), S)
  else
    m_M_phrase_b19 k12 fu S x1 x2 (0 : Int32)
def m_M_phrase_b12 : Nat → St → Int32 → Int32 → Option (Int32 × St)
  | 0, _, _, _ => none
  | n + 1, S, x1, x2 => m_M_phrase_b12_f (m_M_phrase_b12 n) S x1 x2
def m_M_phrase (S : St) (x0 : Int32) : Option (Int32 × St) :=
  m_M_phrase_b12 fu (sL S 0 (0 : Int64)) x0 ((gI (sL S 0 (0 : Int64)) 6) - x0)
def rm_m_M_phrase : Room := { frames := 2, cells := 0, slots := 0, locals := 42 }
theorem ok_m_M_phrase : CalV y_M_phrase b_M_phrase 6 (some .int) 1 rm_m_M_phrase := ⟨kc_M_phrase, ki_M_phrase, kl_M_phrase, ji_M, ⟨by decide, by decide, by decide +kernel⟩, rfl, rfl⟩
set_option maxHeartbeats 4000000 in
set_option maxRecDepth 100000 in
theorem w_m_M_phrase_b91 {z : Int32 × St} (X : Cx b_M_phrase 6 (some .int) R_M D [(cI, .int), (cZ, .boolean), (cJ, .long)] (mA ao aa) (mW cI cZ cJ ao aa) p s m args meth c) {k12 : St → Int32 → Int32 → Option (Int32 × St)} (hk12 : ∀ (S : St) (x1 : Int32) (x2 : Int32), k12 S x1 x2 = some z → WX rm_m_M_phrase D (mA ao aa) (mW cI cZ cJ ao aa) p l e s m args below meth c (some (.int z.1)) z.2 12 [] 6 [(0, .ref (ao 0)), (1, .int x1), (2, .int x2)] S) {k19 : St → Int32 → Int32 → Int32 → Option (Int32 × St)} (hk19 : ∀ (S : St) (x1 : Int32) (x2 : Int32) (x3 : Int32), k19 S x1 x2 x3 = some z → WX rm_m_M_phrase D (mA ao aa) (mW cI cZ cJ ao aa) p l e s m args below meth c (some (.int z.1)) z.2 19 [] 6 [(0, .ref (ao 0)), (1, .int x1), (2, .int x2), (3, .int x3)] S) (S : St) (x1 : Int32) (x2 : Int32) (x3 : Int32) (s0 : Int64) (hf : m_M_phrase_b91 k12 k19 S x1 x2 x3 s0 = some z) : WX rm_m_M_phrase D (mA ao aa) (mW cI cZ cJ ao aa) p l e s m args below meth c (some (.int z.1)) z.2 91 [.long s0, .ref (ao 0)] 6 [(0, .ref (ao 0)), (1, .int x1), (2, .int x2), (3, .int x3)] S := by
  intro H locs ls hP hS hl
  obtain ⟨hx, hb, hr0, hml, hown, htg, hlk, hK, hN, hI⟩ := id X
  unfold m_M_phrase_b91 at hf
  refine va_put (D := D) (ty := .long) hx hb htg in_M t_M t_M_ok n_M hown hK hP (hI _) hS 0 mo_0 rfl 23 (by decide) (htg _ k_f_M_170) (fun _ h9 => h9) rfl (by decide +kernel) rfl rfl (Nat.le_of_ble_eq_true rfl) d_M_phrase_91 (fun H locs hP _ hS => ?_)
  replace hP : va_P D classes (mW cI cZ cJ ao aa (sL S 0 s0)) H := pw ms_0_phraseThings hP
  refine lv_iinc (v := (x3 + 1)) (lv' := [(3, .int (x3 + 1)), (0, .ref (ao 0)), (1, .int x1), (2, .int x2)]) hx hb d_M_phrase_94 hl (k := 3) rfl rfl (by decide) rfl (fun ls hl => ?_)
  refine lv_goto (tgt := 19) hx hb d_M_phrase_97 (by decide) ?_
  exact hk19 _ _ _ _ hf H locs ls hP hS (lv_sub hl [1, 2, 3, 0] rfl)
set_option maxHeartbeats 4000000 in
set_option maxRecDepth 100000 in
theorem w_m_M_phrase_b70 {z : Int32 × St} (X : Cx b_M_phrase 6 (some .int) R_M D [(cI, .int), (cZ, .boolean), (cJ, .long)] (mA ao aa) (mW cI cZ cJ ao aa) p s m args meth c) {k12 : St → Int32 → Int32 → Option (Int32 × St)} (hk12 : ∀ (S : St) (x1 : Int32) (x2 : Int32), k12 S x1 x2 = some z → WX rm_m_M_phrase D (mA ao aa) (mW cI cZ cJ ao aa) p l e s m args below meth c (some (.int z.1)) z.2 12 [] 6 [(0, .ref (ao 0)), (1, .int x1), (2, .int x2)] S) {k19 : St → Int32 → Int32 → Int32 → Option (Int32 × St)} (hk19 : ∀ (S : St) (x1 : Int32) (x2 : Int32) (x3 : Int32), k19 S x1 x2 x3 = some z → WX rm_m_M_phrase D (mA ao aa) (mW cI cZ cJ ao aa) p l e s m args below meth c (some (.int z.1)) z.2 19 [] 6 [(0, .ref (ao 0)), (1, .int x1), (2, .int x2), (3, .int x3)] S) (S : St) (x1 : Int32) (x2 : Int32) (x3 : Int32) (x4 : Int32) (hf : m_M_phrase_b70 k12 k19 S x1 x2 x3 x4 = some z) : WX rm_m_M_phrase D (mA ao aa) (mW cI cZ cJ ao aa) p l e s m args below meth c (some (.int z.1)) z.2 70 [] 6 [(0, .ref (ao 0)), (1, .int x1), (2, .int x2), (3, .int x3), (4, .int x4)] S := by
  intro H locs ls hP hS hl
  obtain ⟨hx, hb, hr0, hml, hown, htg, hlk, hK, hN, hI⟩ := id X
  unfold m_M_phrase_b70 at hf
  refine lv_aload_n hx hb d_M_phrase_70 rfl (lv_at hl 0 rfl) ?_
  refine lv_iload hx hb d_M_phrase_71 (lv_at hl 4 rfl) ?_
  refine lv_if_eq (tgt := 87) hx hb d_M_phrase_73 (by decide) (fun c => ?_) (fun c => ?_)
  · have hf := if_t hf c
    refine lv_aload_n hx hb d_M_phrase_87 rfl (lv_at hl 0 rfl) ?_
    refine va_get (D := D) (v := .long (gL S 0)) hx hb htg in_M hown hK hP 0 mo_0 rfl 23 (by decide) (htg _ k_f_M_170) (fun _ h9 => h9) rfl d_M_phrase_88 ?_
    exact w_m_M_phrase_b91 X hk12 hk19 _ _ _ _ _ hf H locs ls hP hS (lv_sub hl [0, 1, 2, 3] rfl)
  · have hf := if_f hf c
    refine lv_aload_n hx hb d_M_phrase_76 rfl (lv_at hl 0 rfl) ?_
    refine va_get (D := D) (v := .long (gL S 0)) hx hb htg in_M hown hK hP 0 mo_0 rfl 23 (by decide) (htg _ k_f_M_170) (fun _ h9 => h9) rfl d_M_phrase_77 ?_
    refine lv_lconst (v := 1) hx hb d_M_phrase_80 (by decide) ?_
    refine lv_iload_n hx hb d_M_phrase_81 rfl (lv_at hl 3 rfl) ?_
    refine lv_lshl hx hb d_M_phrase_82 rfl ?_
    refine lv_lor hx hb d_M_phrase_83 ?_
    refine lv_goto (tgt := 91) hx hb d_M_phrase_84 (by decide) ?_
    exact w_m_M_phrase_b91 X hk12 hk19 _ _ _ _ _ hf H locs ls hP hS (lv_sub hl [0, 1, 2, 3] rfl)
set_option maxHeartbeats 4000000 in
set_option maxRecDepth 100000 in
theorem w_m_M_phrase_b37_f {z : Int32 × St} (X : Cx b_M_phrase 6 (some .int) R_M D [(cI, .int), (cZ, .boolean), (cJ, .long)] (mA ao aa) (mW cI cZ cJ ao aa) p s m args meth c) {k12 : St → Int32 → Int32 → Option (Int32 × St)} (hk12 : ∀ (S : St) (x1 : Int32) (x2 : Int32), k12 S x1 x2 = some z → WX rm_m_M_phrase D (mA ao aa) (mW cI cZ cJ ao aa) p l e s m args below meth c (some (.int z.1)) z.2 12 [] 6 [(0, .ref (ao 0)), (1, .int x1), (2, .int x2)] S) {k19 : St → Int32 → Int32 → Int32 → Option (Int32 × St)} (hk19 : ∀ (S : St) (x1 : Int32) (x2 : Int32) (x3 : Int32), k19 S x1 x2 x3 = some z → WX rm_m_M_phrase D (mA ao aa) (mW cI cZ cJ ao aa) p l e s m args below meth c (some (.int z.1)) z.2 19 [] 6 [(0, .ref (ao 0)), (1, .int x1), (2, .int x2), (3, .int x3)] S) {k37 : St → Int32 → Int32 → Int32 → Int32 → Int32 → Option (Int32 × St)} (hk37 : ∀ (S : St) (x1 : Int32) (x2 : Int32) (x3 : Int32) (x4 : Int32) (x5 : Int32), k37 S x1 x2 x3 x4 x5 = some z → WX rm_m_M_phrase D (mA ao aa) (mW cI cZ cJ ao aa) p l e s m args below meth c (some (.int z.1)) z.2 37 [] 6 [(0, .ref (ao 0)), (1, .int x1), (2, .int x2), (3, .int x3), (4, .int x4), (5, .int x5)] S) (S : St) (x1 : Int32) (x2 : Int32) (x3 : Int32) (x4 : Int32) (x5 : Int32) (hf : m_M_phrase_b37_f k12 k19 k37 S x1 x2 x3 x4 x5 = some z) : WX rm_m_M_phrase D (mA ao aa) (mW cI cZ cJ ao aa) p l e s m args below meth c (some (.int z.1)) z.2 37 [] 6 [(0, .ref (ao 0)), (1, .int x1), (2, .int x2), (3, .int x3), (4, .int x4), (5, .int x5)] S := by
  intro H locs ls hP hS hl
  obtain ⟨hx, hb, hr0, hml, hown, htg, hlk, hK, hN, hI⟩ := id X
  unfold m_M_phrase_b37_f at hf
  refine lv_iload hx hb d_M_phrase_37 (lv_at hl 5 rfl) ?_
  refine lv_iload_n hx hb d_M_phrase_39 rfl (lv_at hl 1 rfl) ?_
  refine lv_iload_n hx hb d_M_phrase_40 rfl (lv_at hl 2 rfl) ?_
  refine lv_iadd hx hb d_M_phrase_41 ?_
  refine lv_icmp_ge (tgt := 70) hx hb d_M_phrase_42 (by decide) (fun c => ?_) (fun c => ?_)
  · have hf := if_t hf c
    exact w_m_M_phrase_b70 X hk12 hk19 _ _ _ _ _ hf H locs ls hP hS (lv_sub hl [0, 1, 2, 3, 4] rfl)
  · have hf := if_f hf c
    refine lv_iload hx hb d_M_phrase_45 (lv_at hl 4 rfl) ?_
    refine lv_if_eq (tgt := 70) hx hb d_M_phrase_47 (by decide) (fun c => ?_) (fun c => ?_)
    · have hf := if_t hf c
      exact w_m_M_phrase_b70 X hk12 hk19 _ _ _ _ _ hf H locs ls hP hS (lv_sub hl [0, 1, 2, 3, 4] rfl)
    · have hf := if_f hf c
      refine lv_aload_n hx hb d_M_phrase_50 rfl (lv_at hl 0 rfl) ?_
      refine lv_iload_n hx hb d_M_phrase_51 rfl (lv_at hl 3 rfl) ?_
      refine lv_aload_n hx hb d_M_phrase_52 rfl (lv_at hl 0 rfl) ?_
      refine va_get (D := D) (v := .ref (aa 15)) hx hb htg in_M hown hK hP 0 mo_0 rfl 21 (by decide) (htg _ k_f_M_56) (fun _ h9 => h9) rfl d_M_phrase_53 ?_
      refine lv_iload hx hb d_M_phrase_56 (lv_at hl 5 rfl) ?_
      obtain ⟨hg, hf⟩ := gd_some hf
      refine va_iald hx hb hK hP 16 0 ma_15 rfl (vin_in hg) d_M_phrase_58 ?_
      obtain ⟨q2, he, hf⟩ := ob_some hf
      refine cl_Vi (As := [.int x3, .int (gA S 15 x5.toNatClampNeg)]) (rest := []) X (c_m_M_hasName he) ok_m_M_hasName k_m_M_143 (va_recv hK hP rfl mo_0) rfl rfl hl.1 (Nat.le_of_ble_eq_true rfl) d_M_phrase_59 ⟨by decide, by decide⟩ hP hS (fun H locs hP hS => ?_)
      refine lv_istore (lv' := [(4, .int q2.1), (0, .ref (ao 0)), (1, .int x1), (2, .int x2), (3, .int x3), (5, .int x5)]) hx hb d_M_phrase_62 hl (by decide) rfl (fun ls hl => ?_)
      refine lv_iinc (v := (x5 + 1)) (lv' := [(5, .int (x5 + 1)), (4, .int q2.1), (0, .ref (ao 0)), (1, .int x1), (2, .int x2), (3, .int x3)]) hx hb d_M_phrase_64 hl (k := 5) rfl rfl (by decide) rfl (fun ls hl => ?_)
      refine lv_goto (tgt := 37) hx hb d_M_phrase_67 (by decide) ?_
      exact hk37 _ _ _ _ _ _ hf H locs ls hP hS (lv_sub hl [2, 3, 4, 5, 1, 0] rfl)
theorem w_m_M_phrase_b37 {z : Int32 × St} (X : Cx b_M_phrase 6 (some .int) R_M D [(cI, .int), (cZ, .boolean), (cJ, .long)] (mA ao aa) (mW cI cZ cJ ao aa) p s m args meth c) {k12 : St → Int32 → Int32 → Option (Int32 × St)} (hk12 : ∀ (S : St) (x1 : Int32) (x2 : Int32), k12 S x1 x2 = some z → WX rm_m_M_phrase D (mA ao aa) (mW cI cZ cJ ao aa) p l e s m args below meth c (some (.int z.1)) z.2 12 [] 6 [(0, .ref (ao 0)), (1, .int x1), (2, .int x2)] S) {k19 : St → Int32 → Int32 → Int32 → Option (Int32 × St)} (hk19 : ∀ (S : St) (x1 : Int32) (x2 : Int32) (x3 : Int32), k19 S x1 x2 x3 = some z → WX rm_m_M_phrase D (mA ao aa) (mW cI cZ cJ ao aa) p l e s m args below meth c (some (.int z.1)) z.2 19 [] 6 [(0, .ref (ao 0)), (1, .int x1), (2, .int x2), (3, .int x3)] S) : ∀ (n : Nat) (S : St) (x1 : Int32) (x2 : Int32) (x3 : Int32) (x4 : Int32) (x5 : Int32), m_M_phrase_b37 k12 k19 n S x1 x2 x3 x4 x5 = some z → WX rm_m_M_phrase D (mA ao aa) (mW cI cZ cJ ao aa) p l e s m args below meth c (some (.int z.1)) z.2 37 [] 6 [(0, .ref (ao 0)), (1, .int x1), (2, .int x2), (3, .int x3), (4, .int x4), (5, .int x5)] S
  | 0, _, _, _, _, _, _, hf => ns hf
  | n + 1, _, _, _, _, _, _, hf => w_m_M_phrase_b37_f X hk12 hk19 (w_m_M_phrase_b37 X hk12 hk19 n) _ _ _ _ _ _ hf
set_option maxHeartbeats 4000000 in
set_option maxRecDepth 100000 in
theorem w_m_M_phrase_b19_f {z : Int32 × St} (X : Cx b_M_phrase 6 (some .int) R_M D [(cI, .int), (cZ, .boolean), (cJ, .long)] (mA ao aa) (mW cI cZ cJ ao aa) p s m args meth c) {k12 : St → Int32 → Int32 → Option (Int32 × St)} (hk12 : ∀ (S : St) (x1 : Int32) (x2 : Int32), k12 S x1 x2 = some z → WX rm_m_M_phrase D (mA ao aa) (mW cI cZ cJ ao aa) p l e s m args below meth c (some (.int z.1)) z.2 12 [] 6 [(0, .ref (ao 0)), (1, .int x1), (2, .int x2)] S) {k19 : St → Int32 → Int32 → Int32 → Option (Int32 × St)} (hk19 : ∀ (S : St) (x1 : Int32) (x2 : Int32) (x3 : Int32), k19 S x1 x2 x3 = some z → WX rm_m_M_phrase D (mA ao aa) (mW cI cZ cJ ao aa) p l e s m args below meth c (some (.int z.1)) z.2 19 [] 6 [(0, .ref (ao 0)), (1, .int x1), (2, .int x2), (3, .int x3)] S) (S : St) (x1 : Int32) (x2 : Int32) (x3 : Int32) (hf : m_M_phrase_b19_f k12 k19 S x1 x2 x3 = some z) : WX rm_m_M_phrase D (mA ao aa) (mW cI cZ cJ ao aa) p l e s m args below meth c (some (.int z.1)) z.2 19 [] 6 [(0, .ref (ao 0)), (1, .int x1), (2, .int x2), (3, .int x3)] S := by
  intro H locs ls hP hS hl
  obtain ⟨hx, hb, hr0, hml, hown, htg, hlk, hK, hN, hI⟩ := id X
  unfold m_M_phrase_b19_f at hf
  refine lv_iload_n hx hb d_M_phrase_19 rfl (lv_at hl 3 rfl) ?_
  refine lv_aload_n hx hb d_M_phrase_20 rfl (lv_at hl 0 rfl) ?_
  refine va_get (D := D) (v := .int (gI S 3)) hx hb htg in_M hown hK hP 0 mo_0 rfl 11 (by decide) (htg _ k_f_M_140) (fun _ h9 => h9) rfl d_M_phrase_21 ?_
  refine lv_icmp_ge (tgt := 100) hx hb d_M_phrase_24 (by decide) (fun c => ?_) (fun c => ?_)
  · have hf := if_t hf c
    refine lv_aload_n hx hb d_M_phrase_100 rfl (lv_at hl 0 rfl) ?_
    refine va_get (D := D) (v := .long (gL S 0)) hx hb htg in_M hown hK hP 0 mo_0 rfl 23 (by decide) (htg _ k_f_M_170) (fun _ h9 => h9) rfl d_M_phrase_101 ?_
    refine lv_lconst (v := 0) hx hb d_M_phrase_104 (by decide) ?_
    refine W.lcmp hx hb d_M_phrase_105 ?_
    refine lv_if_eq (tgt := 111) hx hb d_M_phrase_106 (by decide) (fun c => ?_) (fun c => ?_)
    · have hf := if_t hf c
      refine lv_iinc (v := (x2 + (-1))) (lv' := [(2, .int (x2 + (-1))), (0, .ref (ao 0)), (1, .int x1), (3, .int x3)]) hx hb d_M_phrase_111 hl (k := 2) rfl rfl (by decide) rfl (fun ls hl => ?_)
      refine lv_goto (tgt := 12) hx hb d_M_phrase_114 (by decide) ?_
      exact hk12 _ _ _ hf H locs ls hP hS (lv_sub hl [1, 2, 0] rfl)
    · have hf := if_f hf c
      refine lv_iload_n hx hb d_M_phrase_109 rfl (lv_at hl 2 rfl) ?_
      obtain rfl := Option.some.inj hf
      exact W.iret hx hb hr0 (fun t ht _ => ⟨⟨rfl, by rw [ht]; exact hP⟩, hS.F ht⟩) hS.2.2 d_M_phrase_110 hlk
  · have hf := if_f hf c
    refine lv_aload_n hx hb d_M_phrase_27 rfl (lv_at hl 0 rfl) ?_
    refine lv_iload_n hx hb d_M_phrase_28 rfl (lv_at hl 3 rfl) ?_
    obtain ⟨q1, he, hf⟩ := ob_some hf
    refine cl_Vi (As := [.int x3]) (rest := []) X (c_m_M_isInScope he) ok_m_M_isInScope k_m_M_174 (va_recv hK hP rfl mo_0) rfl rfl hl.1 (Nat.le_of_ble_eq_true rfl) d_M_phrase_29 ⟨by decide, by decide⟩ hP hS (fun H locs hP hS => ?_)
    refine lv_istore (lv' := [(4, .int q1.1), (0, .ref (ao 0)), (1, .int x1), (2, .int x2), (3, .int x3)]) hx hb d_M_phrase_32 hl (by decide) rfl (fun ls hl => ?_)
    refine lv_iload_n hx hb d_M_phrase_34 rfl (lv_at hl 2 rfl) ?_
    refine lv_istore (lv' := [(5, .int x1), (4, .int q1.1), (0, .ref (ao 0)), (1, .int x1), (2, .int x2), (3, .int x3)]) hx hb d_M_phrase_35 hl (by decide) rfl (fun ls hl => ?_)
    exact w_m_M_phrase_b37 X hk12 hk19 _ _ _ _ _ _ _ hf H locs ls hP hS (lv_sub hl [2, 3, 4, 5, 1, 0] rfl)
theorem w_m_M_phrase_b19 {z : Int32 × St} (X : Cx b_M_phrase 6 (some .int) R_M D [(cI, .int), (cZ, .boolean), (cJ, .long)] (mA ao aa) (mW cI cZ cJ ao aa) p s m args meth c) {k12 : St → Int32 → Int32 → Option (Int32 × St)} (hk12 : ∀ (S : St) (x1 : Int32) (x2 : Int32), k12 S x1 x2 = some z → WX rm_m_M_phrase D (mA ao aa) (mW cI cZ cJ ao aa) p l e s m args below meth c (some (.int z.1)) z.2 12 [] 6 [(0, .ref (ao 0)), (1, .int x1), (2, .int x2)] S) : ∀ (n : Nat) (S : St) (x1 : Int32) (x2 : Int32) (x3 : Int32), m_M_phrase_b19 k12 n S x1 x2 x3 = some z → WX rm_m_M_phrase D (mA ao aa) (mW cI cZ cJ ao aa) p l e s m args below meth c (some (.int z.1)) z.2 19 [] 6 [(0, .ref (ao 0)), (1, .int x1), (2, .int x2), (3, .int x3)] S
  | 0, _, _, _, _, hf => ns hf
  | n + 1, _, _, _, _, hf => w_m_M_phrase_b19_f X hk12 (w_m_M_phrase_b19 X hk12 n) _ _ _ _ hf
set_option maxHeartbeats 4000000 in
set_option maxRecDepth 100000 in
theorem w_m_M_phrase_b12_f {z : Int32 × St} (X : Cx b_M_phrase 6 (some .int) R_M D [(cI, .int), (cZ, .boolean), (cJ, .long)] (mA ao aa) (mW cI cZ cJ ao aa) p s m args meth c) {k12 : St → Int32 → Int32 → Option (Int32 × St)} (hk12 : ∀ (S : St) (x1 : Int32) (x2 : Int32), k12 S x1 x2 = some z → WX rm_m_M_phrase D (mA ao aa) (mW cI cZ cJ ao aa) p l e s m args below meth c (some (.int z.1)) z.2 12 [] 6 [(0, .ref (ao 0)), (1, .int x1), (2, .int x2)] S) (S : St) (x1 : Int32) (x2 : Int32) (hf : m_M_phrase_b12_f k12 S x1 x2 = some z) : WX rm_m_M_phrase D (mA ao aa) (mW cI cZ cJ ao aa) p l e s m args below meth c (some (.int z.1)) z.2 12 [] 6 [(0, .ref (ao 0)), (1, .int x1), (2, .int x2)] S := by
  intro H locs ls hP hS hl
  obtain ⟨hx, hb, hr0, hml, hown, htg, hlk, hK, hN, hI⟩ := id X
  unfold m_M_phrase_b12_f at hf
  refine lv_iload_n hx hb d_M_phrase_12 rfl (lv_at hl 2 rfl) ?_
  refine lv_iconst (v := 1) hx hb d_M_phrase_13 (by decide) ?_
  refine lv_icmp_lt (tgt := 117) hx hb d_M_phrase_14 (by decide) (fun c => ?_) (fun c => ?_)
  · have hf := if_t hf c
    refine lv_iconst (v := 0) hx hb d_M_phrase_117 (by decide) ?_
    obtain rfl := Option.some.inj hf
    exact W.iret hx hb hr0 (fun t ht _ => ⟨⟨rfl, by rw [ht]; exact hP⟩, hS.F ht⟩) hS.2.2 d_M_phrase_118 hlk
  · have hf := if_f hf c
    refine lv_iconst (v := 0) hx hb d_M_phrase_17 (by decide) ?_
    refine lv_istore_n (lv' := [(3, .int (0 : Int32)), (0, .ref (ao 0)), (1, .int x1), (2, .int x2)]) hx hb d_M_phrase_18 rfl hl (by decide) rfl (fun ls hl => ?_)
    exact w_m_M_phrase_b19 X hk12 _ _ _ _ _ hf H locs ls hP hS (lv_sub hl [1, 2, 3, 0] rfl)
theorem w_m_M_phrase_b12 {z : Int32 × St} (X : Cx b_M_phrase 6 (some .int) R_M D [(cI, .int), (cZ, .boolean), (cJ, .long)] (mA ao aa) (mW cI cZ cJ ao aa) p s m args meth c) : ∀ (n : Nat) (S : St) (x1 : Int32) (x2 : Int32), m_M_phrase_b12 n S x1 x2 = some z → WX rm_m_M_phrase D (mA ao aa) (mW cI cZ cJ ao aa) p l e s m args below meth c (some (.int z.1)) z.2 12 [] 6 [(0, .ref (ao 0)), (1, .int x1), (2, .int x2)] S
  | 0, _, _, _, hf => ns hf
  | n + 1, _, _, _, hf => w_m_M_phrase_b12_f X (w_m_M_phrase_b12 X n) _ _ _ hf
set_option maxHeartbeats 4000000 in
set_option maxRecDepth 100000 in
theorem w_m_M_phrase {z : Int32 × St} (X : Cx b_M_phrase 6 (some .int) R_M D [(cI, .int), (cZ, .boolean), (cJ, .long)] (mA ao aa) (mW cI cZ cJ ao aa) p s m args meth c) (S : St) (x0 : Int32) (hf : m_M_phrase S x0 = some z) : WX rm_m_M_phrase D (mA ao aa) (mW cI cZ cJ ao aa) p l e s m args below meth c (some (.int z.1)) z.2 0 [] 6 [(0, .ref (ao 0)), (1, .int x0)] S := by
  intro H locs ls hP hS hl
  obtain ⟨hx, hb, hr0, hml, hown, htg, hlk, hK, hN, hI⟩ := id X
  unfold m_M_phrase at hf
  refine lv_aload_n hx hb d_M_phrase_0 rfl (lv_at hl 0 rfl) ?_
  refine lv_lconst (v := 0) hx hb d_M_phrase_1 (by decide) ?_
  refine va_put (D := D) (ty := .long) hx hb htg in_M t_M t_M_ok n_M hown hK hP (hI _) hS 0 mo_0 rfl 23 (by decide) (htg _ k_f_M_170) (fun _ h9 => h9) rfl (by decide +kernel) rfl rfl (Nat.le_of_ble_eq_true rfl) d_M_phrase_2 (fun H locs hP _ hS => ?_)
  replace hP : va_P D classes (mW cI cZ cJ ao aa (sL S 0 (0 : Int64))) H := pw ms_0_phraseThings hP
  refine lv_aload_n hx hb d_M_phrase_5 rfl (lv_at hl 0 rfl) ?_
  refine va_get (D := D) (v := .int (gI (sL S 0 (0 : Int64)) 6)) hx hb htg in_M hown hK hP 0 mo_0 rfl 22 (by decide) (htg _ k_f_M_167) (fun _ h9 => h9) rfl d_M_phrase_6 ?_
  refine lv_iload_n hx hb d_M_phrase_9 rfl (lv_at hl 1 rfl) ?_
  refine lv_isub hx hb d_M_phrase_10 ?_
  refine lv_istore_n (lv' := [(2, .int ((gI (sL S 0 (0 : Int64)) 6) - x0)), (0, .ref (ao 0)), (1, .int x0)]) hx hb d_M_phrase_11 rfl hl (by decide) rfl (fun ls hl => ?_)
  exact w_m_M_phrase_b12 X _ _ _ _ hf H locs ls hP hS (lv_sub hl [1, 2, 0] rfl)
theorem c_m_M_phrase {l : Launch} {D : va_G} {cI cZ cJ : ClassId} {ao aa : Nat → Nat} {S : St} {x0 : Int32} {z : Int32 × St} (hz : m_M_phrase S x0 = some z) : Ct l y_M_phrase (.code y_M_phrase b_M_phrase 6 (some .int) :: gw) rm_m_M_phrase D [(cI, .int), (cZ, .boolean), (cJ, .long)] (mA ao aa) (mW cI cZ cJ ao aa) [.ref (ao 0), .int x0] S (some (.int z.1)) z.2 :=
  Ct_of (by decide) (fun p e s m args below meth c X => w_m_M_phrase X _ _ hz) (Nat.le_of_ble_eq_true rfl)
def m_M_has (S : St) (w0 : Int64) (x1 : Int32) : Option (Int32 × St) :=
  if (lg_cmp ((w0 >>> (x1.toInt64 &&& 63)) &&& (1 : Int64)) (1 : Int64)) = 0 then
    some ((1 : Int32), S)
  else
    some ((0 : Int32), S)
def rm_m_M_has : Room := { frames := 0, cells := 0, slots := 0, locals := 0 }
theorem ok_m_M_has : CalS y_M_has b_M_has 3 (some .boolean) 2 rm_m_M_has := ⟨kc_M_has, ks_M_has, ji_M, ⟨by decide, by decide, by decide +kernel⟩, rfl, rfl⟩
set_option maxHeartbeats 4000000 in
set_option maxRecDepth 100000 in
theorem w_m_M_has {z : Int32 × St} (X : Cx b_M_has 3 (some .boolean) R_M D [(cI, .int), (cZ, .boolean), (cJ, .long)] (mA ao aa) (mW cI cZ cJ ao aa) p s m args meth c) (S : St) (w0 : Int64) (x1 : Int32) (hf : m_M_has S w0 x1 = some z) : WX rm_m_M_has D (mA ao aa) (mW cI cZ cJ ao aa) p l e s m args below meth c (some (.int z.1)) z.2 0 [] 3 [(0, .long w0), (2, .int x1)] S := by
  intro H locs ls hP hS hl
  obtain ⟨hx, hb, hr0, hml, hown, htg, hlk, hK, hN, hI⟩ := id X
  unfold m_M_has at hf
  refine lv_lload_n hx hb d_M_has_0 rfl (lv_at hl 0 rfl) ?_
  refine lv_iload_n hx hb d_M_has_1 rfl (lv_at hl 1 rfl) ?_
  refine lv_lshr hx hb d_M_has_2 rfl ?_
  refine lv_lconst (v := 1) hx hb d_M_has_3 (by decide) ?_
  refine lv_land hx hb d_M_has_4 ?_
  refine lv_lconst (v := 1) hx hb d_M_has_5 (by decide) ?_
  refine W.lcmp hx hb d_M_has_6 ?_
  refine lv_if_ne (tgt := 14) hx hb d_M_has_7 (by decide) (fun c => ?_) (fun c => ?_)
  · have hf := if_f hf c
    refine lv_iconst (v := 0) hx hb d_M_has_14 (by decide) ?_
    obtain rfl := Option.some.inj hf
    exact W.zret (ty := .boolean) hx hb hr0 rfl (fun t ht _ => ⟨⟨rfl, by rw [ht]; exact hP⟩, hS.F ht⟩) hS.2.2 d_M_has_15 hlk
  · have hf := if_t hf c
    refine lv_iconst (v := 1) hx hb d_M_has_10 (by decide) ?_
    refine lv_goto (tgt := 15) hx hb d_M_has_11 (by decide) ?_
    obtain rfl := Option.some.inj hf
    exact W.zret (ty := .boolean) hx hb hr0 rfl (fun t ht _ => ⟨⟨rfl, by rw [ht]; exact hP⟩, hS.F ht⟩) hS.2.2 d_M_has_15 hlk
theorem c_m_M_has {l : Launch} {D : va_G} {cI cZ cJ : ClassId} {ao aa : Nat → Nat} {S : St} {w0 : Int64} {x1 : Int32} {z : Int32 × St} (hz : m_M_has S w0 x1 = some z) : Ct l y_M_has (.code y_M_has b_M_has 3 (some .boolean) :: gw) rm_m_M_has D [(cI, .int), (cZ, .boolean), (cJ, .long)] (mA ao aa) (mW cI cZ cJ ao aa) [.long w0, .int x1] S (some (.int z.1)) z.2 :=
  Ct_of (by decide) (fun p e s m args below meth c X => w_m_M_has X _ _ _ hz) (Nat.le_of_ble_eq_true rfl)
def m_M_manyOf_b29 (k5 : St → Int64 → Int32 → Int32 → Option (Int32 × St)) (S : St) (w1 : Int64) (x4 : Int32) (s0 : Int32) (s1 : Int32) : Option (Int32 × St) :=
  k5 S w1 (s1 + s0) (x4 + 1)
def m_M_manyOf_b5_f (k5 : St → Int64 → Int32 → Int32 → Option (Int32 × St)) (S : St) (w1 : Int64) (x3 : Int32) (x4 : Int32) : Option (Int32 × St) :=
  if (gI S 3) ≤ x4 then
    some (x3, S)
  else
    (m_M_has S w1 x4).bind fun q1 =>
    if q1.1 = 0 then
      m_M_manyOf_b29 k5 q1.2 w1 x4 (0 : Int32) x3
    else
      m_M_manyOf_b29 k5 q1.2 w1 x4 (1 : Int32) x3
def m_M_manyOf_b5 : Nat → St → Int64 → Int32 → Int32 → Option (Int32 × St)
  | 0, _, _, _, _ => none
  | n + 1, S, w1, x3, x4 => m_M_manyOf_b5_f (m_M_manyOf_b5 n) S w1 x3 x4
def m_M_manyOf (S : St) (w0 : Int64) : Option (Int32 × St) :=
  m_M_manyOf_b5 fu S w0 (0 : Int32) (0 : Int32)
def rm_m_M_manyOf : Room := { frames := 1, cells := 0, slots := 0, locals := 22 }
theorem ok_m_M_manyOf : CalV y_M_manyOf b_M_manyOf 5 (some .int) 1 rm_m_M_manyOf := ⟨kc_M_manyOf, ki_M_manyOf, kl_M_manyOf, ji_M, ⟨by decide, by decide, by decide +kernel⟩, rfl, rfl⟩
set_option maxHeartbeats 4000000 in
set_option maxRecDepth 100000 in
theorem w_m_M_manyOf_b29 {z : Int32 × St} (X : Cx b_M_manyOf 5 (some .int) R_M D [(cI, .int), (cZ, .boolean), (cJ, .long)] (mA ao aa) (mW cI cZ cJ ao aa) p s m args meth c) {k5 : St → Int64 → Int32 → Int32 → Option (Int32 × St)} (hk5 : ∀ (S : St) (w1 : Int64) (x3 : Int32) (x4 : Int32), k5 S w1 x3 x4 = some z → WX rm_m_M_manyOf D (mA ao aa) (mW cI cZ cJ ao aa) p l e s m args below meth c (some (.int z.1)) z.2 5 [] 5 [(0, .ref (ao 0)), (1, .long w1), (3, .int x3), (4, .int x4)] S) (S : St) (w1 : Int64) (x4 : Int32) (s0 : Int32) (s1 : Int32) (hf : m_M_manyOf_b29 k5 S w1 x4 s0 s1 = some z) : WX rm_m_M_manyOf D (mA ao aa) (mW cI cZ cJ ao aa) p l e s m args below meth c (some (.int z.1)) z.2 29 [.int s0, .int s1] 5 [(0, .ref (ao 0)), (1, .long w1), (4, .int x4)] S := by
  intro H locs ls hP hS hl
  obtain ⟨hx, hb, hr0, hml, hown, htg, hlk, hK, hN, hI⟩ := id X
  unfold m_M_manyOf_b29 at hf
  refine lv_iadd hx hb d_M_manyOf_29 ?_
  refine lv_istore_n (lv' := [(3, .int (s1 + s0)), (0, .ref (ao 0)), (1, .long w1), (4, .int x4)]) hx hb d_M_manyOf_30 rfl hl (by decide) rfl (fun ls hl => ?_)
  refine lv_iinc (v := (x4 + 1)) (lv' := [(4, .int (x4 + 1)), (3, .int (s1 + s0)), (0, .ref (ao 0)), (1, .long w1)]) hx hb d_M_manyOf_31 hl (k := 3) rfl rfl (by decide) rfl (fun ls hl => ?_)
  refine lv_goto (tgt := 5) hx hb d_M_manyOf_34 (by decide) ?_
  exact hk5 _ _ _ _ hf H locs ls hP hS (lv_sub hl [2, 3, 1, 0] rfl)
set_option maxHeartbeats 4000000 in
set_option maxRecDepth 100000 in
theorem w_m_M_manyOf_b5_f {z : Int32 × St} (X : Cx b_M_manyOf 5 (some .int) R_M D [(cI, .int), (cZ, .boolean), (cJ, .long)] (mA ao aa) (mW cI cZ cJ ao aa) p s m args meth c) {k5 : St → Int64 → Int32 → Int32 → Option (Int32 × St)} (hk5 : ∀ (S : St) (w1 : Int64) (x3 : Int32) (x4 : Int32), k5 S w1 x3 x4 = some z → WX rm_m_M_manyOf D (mA ao aa) (mW cI cZ cJ ao aa) p l e s m args below meth c (some (.int z.1)) z.2 5 [] 5 [(0, .ref (ao 0)), (1, .long w1), (3, .int x3), (4, .int x4)] S) (S : St) (w1 : Int64) (x3 : Int32) (x4 : Int32) (hf : m_M_manyOf_b5_f k5 S w1 x3 x4 = some z) : WX rm_m_M_manyOf D (mA ao aa) (mW cI cZ cJ ao aa) p l e s m args below meth c (some (.int z.1)) z.2 5 [] 5 [(0, .ref (ao 0)), (1, .long w1), (3, .int x3), (4, .int x4)] S := by
  intro H locs ls hP hS hl
  obtain ⟨hx, hb, hr0, hml, hown, htg, hlk, hK, hN, hI⟩ := id X
  unfold m_M_manyOf_b5_f at hf
  refine lv_iload hx hb d_M_manyOf_5 (lv_at hl 3 rfl) ?_
  refine lv_aload_n hx hb d_M_manyOf_7 rfl (lv_at hl 0 rfl) ?_
  refine va_get (D := D) (v := .int (gI S 3)) hx hb htg in_M hown hK hP 0 mo_0 rfl 11 (by decide) (htg _ k_f_M_140) (fun _ h9 => h9) rfl d_M_manyOf_8 ?_
  refine lv_icmp_ge (tgt := 37) hx hb d_M_manyOf_11 (by decide) (fun c => ?_) (fun c => ?_)
  · have hf := if_t hf c
    refine lv_iload_n hx hb d_M_manyOf_37 rfl (lv_at hl 2 rfl) ?_
    obtain rfl := Option.some.inj hf
    exact W.iret hx hb hr0 (fun t ht _ => ⟨⟨rfl, by rw [ht]; exact hP⟩, hS.F ht⟩) hS.2.2 d_M_manyOf_38 hlk
  · have hf := if_f hf c
    refine lv_iload_n hx hb d_M_manyOf_14 rfl (lv_at hl 2 rfl) ?_
    refine lv_lload_n hx hb d_M_manyOf_15 rfl (lv_at hl 1 rfl) ?_
    refine lv_iload hx hb d_M_manyOf_16 (lv_at hl 3 rfl) ?_
    obtain ⟨q1, he, hf⟩ := ob_some hf
    refine cl_Si (As := [.long w1, .int x4]) (rest := [.int x3]) X (c_m_M_has he) ok_m_M_has k_m_M_163 rfl rfl hl.1 (Nat.le_of_ble_eq_true rfl) d_M_manyOf_18 ⟨by decide, by decide⟩ hP hS (fun H locs hP hS => ?_)
    refine lv_if_eq (tgt := 28) hx hb d_M_manyOf_21 (by decide) (fun c => ?_) (fun c => ?_)
    · have hf := if_t hf c
      refine lv_iconst (v := 0) hx hb d_M_manyOf_28 (by decide) ?_
      exact w_m_M_manyOf_b29 X hk5 _ _ _ _ _ hf H locs ls hP hS (lv_sub hl [0, 1, 3] rfl)
    · have hf := if_f hf c
      refine lv_iconst (v := 1) hx hb d_M_manyOf_24 (by decide) ?_
      refine lv_goto (tgt := 29) hx hb d_M_manyOf_25 (by decide) ?_
      exact w_m_M_manyOf_b29 X hk5 _ _ _ _ _ hf H locs ls hP hS (lv_sub hl [0, 1, 3] rfl)
theorem w_m_M_manyOf_b5 {z : Int32 × St} (X : Cx b_M_manyOf 5 (some .int) R_M D [(cI, .int), (cZ, .boolean), (cJ, .long)] (mA ao aa) (mW cI cZ cJ ao aa) p s m args meth c) : ∀ (n : Nat) (S : St) (w1 : Int64) (x3 : Int32) (x4 : Int32), m_M_manyOf_b5 n S w1 x3 x4 = some z → WX rm_m_M_manyOf D (mA ao aa) (mW cI cZ cJ ao aa) p l e s m args below meth c (some (.int z.1)) z.2 5 [] 5 [(0, .ref (ao 0)), (1, .long w1), (3, .int x3), (4, .int x4)] S
  | 0, _, _, _, _, hf => ns hf
  | n + 1, _, _, _, _, hf => w_m_M_manyOf_b5_f X (w_m_M_manyOf_b5 X n) _ _ _ _ hf
set_option maxHeartbeats 4000000 in
set_option maxRecDepth 100000 in
theorem w_m_M_manyOf {z : Int32 × St} (X : Cx b_M_manyOf 5 (some .int) R_M D [(cI, .int), (cZ, .boolean), (cJ, .long)] (mA ao aa) (mW cI cZ cJ ao aa) p s m args meth c) (S : St) (w0 : Int64) (hf : m_M_manyOf S w0 = some z) : WX rm_m_M_manyOf D (mA ao aa) (mW cI cZ cJ ao aa) p l e s m args below meth c (some (.int z.1)) z.2 0 [] 5 [(0, .ref (ao 0)), (1, .long w0)] S := by
  intro H locs ls hP hS hl
  obtain ⟨hx, hb, hr0, hml, hown, htg, hlk, hK, hN, hI⟩ := id X
  unfold m_M_manyOf at hf
  refine lv_iconst (v := 0) hx hb d_M_manyOf_0 (by decide) ?_
  refine lv_istore_n (lv' := [(3, .int (0 : Int32)), (0, .ref (ao 0)), (1, .long w0)]) hx hb d_M_manyOf_1 rfl hl (by decide) rfl (fun ls hl => ?_)
  refine lv_iconst (v := 0) hx hb d_M_manyOf_2 (by decide) ?_
  refine lv_istore (lv' := [(4, .int (0 : Int32)), (3, .int (0 : Int32)), (0, .ref (ao 0)), (1, .long w0)]) hx hb d_M_manyOf_3 hl (by decide) rfl (fun ls hl => ?_)
  exact w_m_M_manyOf_b5 X _ _ _ _ _ hf H locs ls hP hS (lv_sub hl [2, 3, 1, 0] rfl)
theorem c_m_M_manyOf {l : Launch} {D : va_G} {cI cZ cJ : ClassId} {ao aa : Nat → Nat} {S : St} {w0 : Int64} {z : Int32 × St} (hz : m_M_manyOf S w0 = some z) : Ct l y_M_manyOf (.code y_M_manyOf b_M_manyOf 5 (some .int) :: gw) rm_m_M_manyOf D [(cI, .int), (cZ, .boolean), (cJ, .long)] (mA ao aa) (mW cI cZ cJ ao aa) [.ref (ao 0), .long w0] S (some (.int z.1)) z.2 :=
  Ct_of (by decide) (fun p e s m args below meth c X => w_m_M_manyOf X _ _ hz) (Nat.le_of_ble_eq_true rfl)
def m_M_thingOf_b35 (k6 : St → Int64 → Int32 → Int32 → Option (Int32 × St)) (S : St) (w1 : Int64) (x4 : Int32) (x5 : Int32) : Option (Int32 × St) :=
  k6 S w1 x4 (x5 + 1)
def m_M_thingOf_b6_f (k6 : St → Int64 → Int32 → Int32 → Option (Int32 × St)) (S : St) (w1 : Int64) (x4 : Int32) (x5 : Int32) : Option (Int32 × St) :=
  if (gI S 3) ≤ x5 then
    some ((-1 : Int32), S)
  else
    (m_M_has S w1 x5).bind fun q1 =>
    if q1.1 = 0 then
      m_M_thingOf_b35 k6 q1.2 w1 x4 x5
    else
      if x4 = 0 then
        some (x5, q1.2)
      else
        m_M_thingOf_b35 k6 q1.2 w1 (x4 + (-1)) x5
def m_M_thingOf_b6 : Nat → St → Int64 → Int32 → Int32 → Option (Int32 × St)
  | 0, _, _, _, _ => none
  | n + 1, S, w1, x4, x5 => m_M_thingOf_b6_f (m_M_thingOf_b6 n) S w1 x4 x5
def m_M_thingOf (S : St) (w0 : Int64) (x1 : Int32) : Option (Int32 × St) :=
  m_M_thingOf_b6 fu S w0 x1 (0 : Int32)
def rm_m_M_thingOf : Room := { frames := 1, cells := 0, slots := 0, locals := 22 }
theorem ok_m_M_thingOf : CalV y_M_thingOf b_M_thingOf 6 (some .int) 2 rm_m_M_thingOf := ⟨kc_M_thingOf, ki_M_thingOf, kl_M_thingOf, ji_M, ⟨by decide, by decide, by decide +kernel⟩, rfl, rfl⟩
set_option maxHeartbeats 4000000 in
set_option maxRecDepth 100000 in
theorem w_m_M_thingOf_b35 {z : Int32 × St} (X : Cx b_M_thingOf 6 (some .int) R_M D [(cI, .int), (cZ, .boolean), (cJ, .long)] (mA ao aa) (mW cI cZ cJ ao aa) p s m args meth c) {k6 : St → Int64 → Int32 → Int32 → Option (Int32 × St)} (hk6 : ∀ (S : St) (w1 : Int64) (x4 : Int32) (x5 : Int32), k6 S w1 x4 x5 = some z → WX rm_m_M_thingOf D (mA ao aa) (mW cI cZ cJ ao aa) p l e s m args below meth c (some (.int z.1)) z.2 6 [] 6 [(0, .ref (ao 0)), (1, .long w1), (4, .int x4), (5, .int x5)] S) (S : St) (w1 : Int64) (x4 : Int32) (x5 : Int32) (hf : m_M_thingOf_b35 k6 S w1 x4 x5 = some z) : WX rm_m_M_thingOf D (mA ao aa) (mW cI cZ cJ ao aa) p l e s m args below meth c (some (.int z.1)) z.2 35 [] 6 [(0, .ref (ao 0)), (1, .long w1), (4, .int x4), (5, .int x5)] S := by
  intro H locs ls hP hS hl
  obtain ⟨hx, hb, hr0, hml, hown, htg, hlk, hK, hN, hI⟩ := id X
  unfold m_M_thingOf_b35 at hf
  refine lv_iinc (v := (x5 + 1)) (lv' := [(5, .int (x5 + 1)), (0, .ref (ao 0)), (1, .long w1), (4, .int x4)]) hx hb d_M_thingOf_35 hl (k := 3) rfl rfl (by decide) rfl (fun ls hl => ?_)
  refine lv_goto (tgt := 6) hx hb d_M_thingOf_38 (by decide) ?_
  exact hk6 _ _ _ _ hf H locs ls hP hS (lv_sub hl [1, 2, 3, 0] rfl)
set_option maxHeartbeats 4000000 in
set_option maxRecDepth 100000 in
theorem w_m_M_thingOf_b6_f {z : Int32 × St} (X : Cx b_M_thingOf 6 (some .int) R_M D [(cI, .int), (cZ, .boolean), (cJ, .long)] (mA ao aa) (mW cI cZ cJ ao aa) p s m args meth c) {k6 : St → Int64 → Int32 → Int32 → Option (Int32 × St)} (hk6 : ∀ (S : St) (w1 : Int64) (x4 : Int32) (x5 : Int32), k6 S w1 x4 x5 = some z → WX rm_m_M_thingOf D (mA ao aa) (mW cI cZ cJ ao aa) p l e s m args below meth c (some (.int z.1)) z.2 6 [] 6 [(0, .ref (ao 0)), (1, .long w1), (4, .int x4), (5, .int x5)] S) (S : St) (w1 : Int64) (x4 : Int32) (x5 : Int32) (hf : m_M_thingOf_b6_f k6 S w1 x4 x5 = some z) : WX rm_m_M_thingOf D (mA ao aa) (mW cI cZ cJ ao aa) p l e s m args below meth c (some (.int z.1)) z.2 6 [] 6 [(0, .ref (ao 0)), (1, .long w1), (4, .int x4), (5, .int x5)] S := by
  intro H locs ls hP hS hl
  obtain ⟨hx, hb, hr0, hml, hown, htg, hlk, hK, hN, hI⟩ := id X
  unfold m_M_thingOf_b6_f at hf
  refine lv_iload hx hb d_M_thingOf_6 (lv_at hl 3 rfl) ?_
  refine lv_aload_n hx hb d_M_thingOf_8 rfl (lv_at hl 0 rfl) ?_
  refine va_get (D := D) (v := .int (gI S 3)) hx hb htg in_M hown hK hP 0 mo_0 rfl 11 (by decide) (htg _ k_f_M_140) (fun _ h9 => h9) rfl d_M_thingOf_9 ?_
  refine lv_icmp_ge (tgt := 41) hx hb d_M_thingOf_12 (by decide) (fun c => ?_) (fun c => ?_)
  · have hf := if_t hf c
    refine lv_iconst (v := (-1)) hx hb d_M_thingOf_41 (by decide) ?_
    obtain rfl := Option.some.inj hf
    exact W.iret hx hb hr0 (fun t ht _ => ⟨⟨rfl, by rw [ht]; exact hP⟩, hS.F ht⟩) hS.2.2 d_M_thingOf_42 hlk
  · have hf := if_f hf c
    refine lv_lload_n hx hb d_M_thingOf_15 rfl (lv_at hl 1 rfl) ?_
    refine lv_iload hx hb d_M_thingOf_16 (lv_at hl 3 rfl) ?_
    obtain ⟨q1, he, hf⟩ := ob_some hf
    refine cl_Si (As := [.long w1, .int x5]) (rest := []) X (c_m_M_has he) ok_m_M_has k_m_M_163 rfl rfl hl.1 (Nat.le_of_ble_eq_true rfl) d_M_thingOf_18 ⟨by decide, by decide⟩ hP hS (fun H locs hP hS => ?_)
    refine lv_if_eq (tgt := 35) hx hb d_M_thingOf_21 (by decide) (fun c => ?_) (fun c => ?_)
    · have hf := if_t hf c
      exact w_m_M_thingOf_b35 X hk6 _ _ _ _ hf H locs ls hP hS (lv_sub hl [0, 1, 2, 3] rfl)
    · have hf := if_f hf c
      refine lv_iload hx hb d_M_thingOf_24 (lv_at hl 2 rfl) ?_
      refine lv_if_ne (tgt := 32) hx hb d_M_thingOf_26 (by decide) (fun c => ?_) (fun c => ?_)
      · have hf := if_f hf c
        refine lv_iinc (v := (x4 + (-1))) (lv' := [(4, .int (x4 + (-1))), (0, .ref (ao 0)), (1, .long w1), (5, .int x5)]) hx hb d_M_thingOf_32 hl (k := 2) rfl rfl (by decide) rfl (fun ls hl => ?_)
        exact w_m_M_thingOf_b35 X hk6 _ _ _ _ hf H locs ls hP hS (lv_sub hl [1, 2, 0, 3] rfl)
      · have hf := if_t hf c
        refine lv_iload hx hb d_M_thingOf_29 (lv_at hl 3 rfl) ?_
        obtain rfl := Option.some.inj hf
        exact W.iret hx hb hr0 (fun t ht _ => ⟨⟨rfl, by rw [ht]; exact hP⟩, hS.F ht⟩) hS.2.2 d_M_thingOf_31 hlk
theorem w_m_M_thingOf_b6 {z : Int32 × St} (X : Cx b_M_thingOf 6 (some .int) R_M D [(cI, .int), (cZ, .boolean), (cJ, .long)] (mA ao aa) (mW cI cZ cJ ao aa) p s m args meth c) : ∀ (n : Nat) (S : St) (w1 : Int64) (x4 : Int32) (x5 : Int32), m_M_thingOf_b6 n S w1 x4 x5 = some z → WX rm_m_M_thingOf D (mA ao aa) (mW cI cZ cJ ao aa) p l e s m args below meth c (some (.int z.1)) z.2 6 [] 6 [(0, .ref (ao 0)), (1, .long w1), (4, .int x4), (5, .int x5)] S
  | 0, _, _, _, _, hf => ns hf
  | n + 1, _, _, _, _, hf => w_m_M_thingOf_b6_f X (w_m_M_thingOf_b6 X n) _ _ _ _ hf
set_option maxHeartbeats 4000000 in
set_option maxRecDepth 100000 in
theorem w_m_M_thingOf {z : Int32 × St} (X : Cx b_M_thingOf 6 (some .int) R_M D [(cI, .int), (cZ, .boolean), (cJ, .long)] (mA ao aa) (mW cI cZ cJ ao aa) p s m args meth c) (S : St) (w0 : Int64) (x1 : Int32) (hf : m_M_thingOf S w0 x1 = some z) : WX rm_m_M_thingOf D (mA ao aa) (mW cI cZ cJ ao aa) p l e s m args below meth c (some (.int z.1)) z.2 0 [] 6 [(0, .ref (ao 0)), (1, .long w0), (3, .int x1)] S := by
  intro H locs ls hP hS hl
  obtain ⟨hx, hb, hr0, hml, hown, htg, hlk, hK, hN, hI⟩ := id X
  unfold m_M_thingOf at hf
  refine lv_iload_n hx hb d_M_thingOf_0 rfl (lv_at hl 2 rfl) ?_
  refine lv_istore (lv' := [(4, .int x1), (0, .ref (ao 0)), (1, .long w0), (3, .int x1)]) hx hb d_M_thingOf_1 hl (by decide) rfl (fun ls hl => ?_)
  refine lv_iconst (v := 0) hx hb d_M_thingOf_3 (by decide) ?_
  refine lv_istore (lv' := [(5, .int (0 : Int32)), (4, .int x1), (0, .ref (ao 0)), (1, .long w0), (3, .int x1)]) hx hb d_M_thingOf_4 hl (by decide) rfl (fun ls hl => ?_)
  exact w_m_M_thingOf_b6 X _ _ _ _ _ hf H locs ls hP hS (lv_sub hl [2, 3, 1, 0] rfl)
theorem c_m_M_thingOf {l : Launch} {D : va_G} {cI cZ cJ : ClassId} {ao aa : Nat → Nat} {S : St} {w0 : Int64} {x1 : Int32} {z : Int32 × St} (hz : m_M_thingOf S w0 x1 = some z) : Ct l y_M_thingOf (.code y_M_thingOf b_M_thingOf 6 (some .int) :: gw) rm_m_M_thingOf D [(cI, .int), (cZ, .boolean), (cJ, .long)] (mA ao aa) (mW cI cZ cJ ao aa) [.ref (ao 0), .long w0, .int x1] S (some (.int z.1)) z.2 :=
  Ct_of (by decide) (fun p e s m args below meth c X => w_m_M_thingOf X _ _ _ hz) (Nat.le_of_ble_eq_true rfl)
def m_M_isCreature (S : St) (x0 : Int32) : Option (Int32 × St) :=
  gd (vin x0 40) <|
  if ((gA S 8 x0.toNatClampNeg) &&& (8 : Int32)) = 0 then
    some ((0 : Int32), S)
  else
    some ((1 : Int32), S)
def rm_m_M_isCreature : Room := { frames := 0, cells := 0, slots := 0, locals := 0 }
theorem ok_m_M_isCreature : CalV y_M_isCreature b_M_isCreature 2 (some .boolean) 1 rm_m_M_isCreature := ⟨kc_M_isCreature, ki_M_isCreature, kl_M_isCreature, ji_M, ⟨by decide, by decide, by decide +kernel⟩, rfl, rfl⟩
set_option maxHeartbeats 4000000 in
set_option maxRecDepth 100000 in
theorem w_m_M_isCreature {z : Int32 × St} (X : Cx b_M_isCreature 2 (some .boolean) R_M D [(cI, .int), (cZ, .boolean), (cJ, .long)] (mA ao aa) (mW cI cZ cJ ao aa) p s m args meth c) (S : St) (x0 : Int32) (hf : m_M_isCreature S x0 = some z) : WX rm_m_M_isCreature D (mA ao aa) (mW cI cZ cJ ao aa) p l e s m args below meth c (some (.int z.1)) z.2 0 [] 2 [(0, .ref (ao 0)), (1, .int x0)] S := by
  intro H locs ls hP hS hl
  obtain ⟨hx, hb, hr0, hml, hown, htg, hlk, hK, hN, hI⟩ := id X
  unfold m_M_isCreature at hf
  refine lv_aload_n hx hb d_M_isCreature_0 rfl (lv_at hl 0 rfl) ?_
  refine va_get (D := D) (v := .ref (aa 8)) hx hb htg in_M hown hK hP 0 mo_0 rfl 12 (by decide) (htg _ k_f_M_35) (fun _ h9 => h9) rfl d_M_isCreature_1 ?_
  refine lv_iload_n hx hb d_M_isCreature_4 rfl (lv_at hl 1 rfl) ?_
  obtain ⟨hg, hf⟩ := gd_some hf
  refine va_iald hx hb hK hP 9 0 ma_8 rfl (vin_in hg) d_M_isCreature_5 ?_
  refine lv_bipush (v := 8) hx hb d_M_isCreature_6 (by decide) ?_
  refine lv_iand hx hb d_M_isCreature_8 ?_
  refine lv_if_eq (tgt := 16) hx hb d_M_isCreature_9 (by decide) (fun c => ?_) (fun c => ?_)
  · have hf := if_t hf c
    refine lv_iconst (v := 0) hx hb d_M_isCreature_16 (by decide) ?_
    obtain rfl := Option.some.inj hf
    exact W.zret (ty := .boolean) hx hb hr0 rfl (fun t ht _ => ⟨⟨rfl, by rw [ht]; exact hP⟩, hS.F ht⟩) hS.2.2 d_M_isCreature_17 hlk
  · have hf := if_f hf c
    refine lv_iconst (v := 1) hx hb d_M_isCreature_12 (by decide) ?_
    refine lv_goto (tgt := 17) hx hb d_M_isCreature_13 (by decide) ?_
    obtain rfl := Option.some.inj hf
    exact W.zret (ty := .boolean) hx hb hr0 rfl (fun t ht _ => ⟨⟨rfl, by rw [ht]; exact hP⟩, hS.F ht⟩) hS.2.2 d_M_isCreature_17 hlk
theorem c_m_M_isCreature {l : Launch} {D : va_G} {cI cZ cJ : ClassId} {ao aa : Nat → Nat} {S : St} {x0 : Int32} {z : Int32 × St} (hz : m_M_isCreature S x0 = some z) : Ct l y_M_isCreature (.code y_M_isCreature b_M_isCreature 2 (some .boolean) :: gw) rm_m_M_isCreature D [(cI, .int), (cZ, .boolean), (cJ, .long)] (mA ao aa) (mW cI cZ cJ ao aa) [.ref (ao 0), .int x0] S (some (.int z.1)) z.2 :=
  Ct_of (by decide) (fun p e s m args below meth c X => w_m_M_isCreature X _ _ hz) (Nat.le_of_ble_eq_true rfl)
def m_M_stands (S : St) (x0 : Int32) (x1 : Int32) : Option (Int32 × St) :=
  if (gI S 6) ≤ x0 then
    some ((0 : Int32), S)
  else
    gd (vin x0 60) <|
    if (gA S 15 x0.toNatClampNeg) = x1 then
      some ((1 : Int32), S)
    else
      some ((0 : Int32), S)
def rm_m_M_stands : Room := { frames := 0, cells := 0, slots := 0, locals := 0 }
theorem ok_m_M_stands : CalV y_M_stands b_M_stands 3 (some .boolean) 2 rm_m_M_stands := ⟨kc_M_stands, ki_M_stands, kl_M_stands, ji_M, ⟨by decide, by decide, by decide +kernel⟩, rfl, rfl⟩
set_option maxHeartbeats 4000000 in
set_option maxRecDepth 100000 in
theorem w_m_M_stands {z : Int32 × St} (X : Cx b_M_stands 3 (some .boolean) R_M D [(cI, .int), (cZ, .boolean), (cJ, .long)] (mA ao aa) (mW cI cZ cJ ao aa) p s m args meth c) (S : St) (x0 : Int32) (x1 : Int32) (hf : m_M_stands S x0 x1 = some z) : WX rm_m_M_stands D (mA ao aa) (mW cI cZ cJ ao aa) p l e s m args below meth c (some (.int z.1)) z.2 0 [] 3 [(0, .ref (ao 0)), (1, .int x0), (2, .int x1)] S := by
  intro H locs ls hP hS hl
  obtain ⟨hx, hb, hr0, hml, hown, htg, hlk, hK, hN, hI⟩ := id X
  unfold m_M_stands at hf
  refine lv_iload_n hx hb d_M_stands_0 rfl (lv_at hl 1 rfl) ?_
  refine lv_aload_n hx hb d_M_stands_1 rfl (lv_at hl 0 rfl) ?_
  refine va_get (D := D) (v := .int (gI S 6)) hx hb htg in_M hown hK hP 0 mo_0 rfl 22 (by decide) (htg _ k_f_M_167) (fun _ h9 => h9) rfl d_M_stands_2 ?_
  refine lv_icmp_ge (tgt := 22) hx hb d_M_stands_5 (by decide) (fun c => ?_) (fun c => ?_)
  · have hf := if_t hf c
    refine lv_iconst (v := 0) hx hb d_M_stands_22 (by decide) ?_
    obtain rfl := Option.some.inj hf
    exact W.zret (ty := .boolean) hx hb hr0 rfl (fun t ht _ => ⟨⟨rfl, by rw [ht]; exact hP⟩, hS.F ht⟩) hS.2.2 d_M_stands_23 hlk
  · have hf := if_f hf c
    refine lv_aload_n hx hb d_M_stands_8 rfl (lv_at hl 0 rfl) ?_
    refine va_get (D := D) (v := .ref (aa 15)) hx hb htg in_M hown hK hP 0 mo_0 rfl 21 (by decide) (htg _ k_f_M_56) (fun _ h9 => h9) rfl d_M_stands_9 ?_
    refine lv_iload_n hx hb d_M_stands_12 rfl (lv_at hl 1 rfl) ?_
    obtain ⟨hg, hf⟩ := gd_some hf
    refine va_iald hx hb hK hP 16 0 ma_15 rfl (vin_in hg) d_M_stands_13 ?_
    refine lv_iload_n hx hb d_M_stands_14 rfl (lv_at hl 2 rfl) ?_
    refine lv_icmp_ne (tgt := 22) hx hb d_M_stands_15 (by decide) (fun c => ?_) (fun c => ?_)
    · have hf := if_f hf c
      refine lv_iconst (v := 0) hx hb d_M_stands_22 (by decide) ?_
      obtain rfl := Option.some.inj hf
      exact W.zret (ty := .boolean) hx hb hr0 rfl (fun t ht _ => ⟨⟨rfl, by rw [ht]; exact hP⟩, hS.F ht⟩) hS.2.2 d_M_stands_23 hlk
    · have hf := if_t hf c
      refine lv_iconst (v := 1) hx hb d_M_stands_18 (by decide) ?_
      refine lv_goto (tgt := 23) hx hb d_M_stands_19 (by decide) ?_
      obtain rfl := Option.some.inj hf
      exact W.zret (ty := .boolean) hx hb hr0 rfl (fun t ht _ => ⟨⟨rfl, by rw [ht]; exact hP⟩, hS.F ht⟩) hS.2.2 d_M_stands_23 hlk
theorem c_m_M_stands {l : Launch} {D : va_G} {cI cZ cJ : ClassId} {ao aa : Nat → Nat} {S : St} {x0 : Int32} {x1 : Int32} {z : Int32 × St} (hz : m_M_stands S x0 x1 = some z) : Ct l y_M_stands (.code y_M_stands b_M_stands 3 (some .boolean) :: gw) rm_m_M_stands D [(cI, .int), (cZ, .boolean), (cJ, .long)] (mA ao aa) (mW cI cZ cJ ao aa) [.ref (ao 0), .int x0, .int x1] S (some (.int z.1)) z.2 :=
  Ct_of (by decide) (fun p e s m args below meth c X => w_m_M_stands X _ _ _ hz) (Nat.le_of_ble_eq_true rfl)
def m_M_off_b2_f (k2 : St → Int32 → Int32 → Option (St)) (S : St) (x1 : Int32) (x2 : Int32) : Option (St) :=
  if (gI S 5) ≤ x2 then
    some (sI S 5 ((gI S 5) - x1))
  else
    gd (vin x2 60) <|
    gd (vin (x2 - x1) 60) <|
    k2 (sA S 14 (x2 - x1).toNatClampNeg (gA S 14 x2.toNatClampNeg)) x1 (x2 + 1)
def m_M_off_b2 : Nat → St → Int32 → Int32 → Option (St)
  | 0, _, _, _ => none
  | n + 1, S, x1, x2 => m_M_off_b2_f (m_M_off_b2 n) S x1 x2
def m_M_off (S : St) (x0 : Int32) : Option (St) :=
  m_M_off_b2 fu S x0 x0
def rm_m_M_off : Room := { frames := 0, cells := 0, slots := 0, locals := 0 }
theorem ok_m_M_off : CalV y_M_off b_M_off 3 none 1 rm_m_M_off := ⟨kc_M_off, ki_M_off, kl_M_off, ji_M, ⟨by decide, by decide, by decide +kernel⟩, rfl, rfl⟩
set_option maxHeartbeats 4000000 in
set_option maxRecDepth 100000 in
theorem w_m_M_off_b2_f {z : St} (X : Cx b_M_off 3 none R_M D [(cI, .int), (cZ, .boolean), (cJ, .long)] (mA ao aa) (mW cI cZ cJ ao aa) p s m args meth c) {k2 : St → Int32 → Int32 → Option (St)} (hk2 : ∀ (S : St) (x1 : Int32) (x2 : Int32), k2 S x1 x2 = some z → WX rm_m_M_off D (mA ao aa) (mW cI cZ cJ ao aa) p l e s m args below meth c none z 2 [] 3 [(0, .ref (ao 0)), (1, .int x1), (2, .int x2)] S) (S : St) (x1 : Int32) (x2 : Int32) (hf : m_M_off_b2_f k2 S x1 x2 = some z) : WX rm_m_M_off D (mA ao aa) (mW cI cZ cJ ao aa) p l e s m args below meth c none z 2 [] 3 [(0, .ref (ao 0)), (1, .int x1), (2, .int x2)] S := by
  intro H locs ls hP hS hl
  obtain ⟨hx, hb, hr0, hml, hown, htg, hlk, hK, hN, hI⟩ := id X
  unfold m_M_off_b2_f at hf
  refine lv_iload_n hx hb d_M_off_2 rfl (lv_at hl 2 rfl) ?_
  refine lv_aload_n hx hb d_M_off_3 rfl (lv_at hl 0 rfl) ?_
  refine va_get (D := D) (v := .int (gI S 5)) hx hb htg in_M hown hK hP 0 mo_0 rfl 19 (by decide) (htg _ k_f_M_157) (fun _ h9 => h9) rfl d_M_off_4 ?_
  refine lv_icmp_ge (tgt := 30) hx hb d_M_off_7 (by decide) (fun c => ?_) (fun c => ?_)
  · have hf := if_t hf c
    refine lv_aload_n hx hb d_M_off_30 rfl (lv_at hl 0 rfl) ?_
    refine lv_dup hx hb d_M_off_31 rfl ?_
    refine va_get (D := D) (v := .int (gI S 5)) hx hb htg in_M hown hK hP 0 mo_0 rfl 19 (by decide) (htg _ k_f_M_157) (fun _ h9 => h9) rfl d_M_off_32 ?_
    refine lv_iload_n hx hb d_M_off_35 rfl (lv_at hl 1 rfl) ?_
    refine lv_isub hx hb d_M_off_36 ?_
    refine va_put (D := D) (ty := .int) hx hb htg in_M t_M t_M_ok n_M hown hK hP (hI _) hS 0 mo_0 rfl 19 (by decide) (htg _ k_f_M_157) (fun _ h9 => h9) rfl (by decide +kernel) rfl rfl (Nat.le_of_ble_eq_true rfl) d_M_off_37 (fun H locs hP _ hS => ?_)
    replace hP : va_P D classes (mW cI cZ cJ ao aa (sI S 5 ((gI S 5) - x1))) H := pw ms_0_inputMany hP
    obtain rfl := Option.some.inj hf
    exact W.vret hx hb hr0 (fun t ht _ => ⟨⟨rfl, by rw [ht]; exact hP⟩, hS.F ht⟩) hS.2.2 d_M_off_40 hlk
  · have hf := if_f hf c
    refine lv_aload_n hx hb d_M_off_10 rfl (lv_at hl 0 rfl) ?_
    refine va_get (D := D) (v := .ref (aa 14)) hx hb htg in_M hown hK hP 0 mo_0 rfl 20 (by decide) (htg _ k_f_M_53) (fun _ h9 => h9) rfl d_M_off_11 ?_
    refine lv_iload_n hx hb d_M_off_14 rfl (lv_at hl 2 rfl) ?_
    refine lv_iload_n hx hb d_M_off_15 rfl (lv_at hl 1 rfl) ?_
    refine lv_isub hx hb d_M_off_16 ?_
    refine lv_aload_n hx hb d_M_off_17 rfl (lv_at hl 0 rfl) ?_
    refine va_get (D := D) (v := .ref (aa 14)) hx hb htg in_M hown hK hP 0 mo_0 rfl 20 (by decide) (htg _ k_f_M_53) (fun _ h9 => h9) rfl d_M_off_18 ?_
    refine lv_iload_n hx hb d_M_off_21 rfl (lv_at hl 2 rfl) ?_
    obtain ⟨hg, hf⟩ := gd_some hf
    refine va_iald hx hb hK hP 15 0 ma_14 rfl (vin_in hg) d_M_off_22 ?_
    obtain ⟨hg, hf⟩ := gd_some hf
    refine va_iast hx hb hK hP (hI _) hS 15 0 ma_14 rfl (vin_in hg) d_M_off_23 (fun H locs hP _ hS => ?_)
    replace hP : va_P D classes (mW cI cZ cJ ao aa (sA S 14 (x2 - x1).toNatClampNeg (gA S 14 x2.toNatClampNeg))) H := pw mt_14 hP
    refine lv_iinc (v := (x2 + 1)) (lv' := [(2, .int (x2 + 1)), (0, .ref (ao 0)), (1, .int x1)]) hx hb d_M_off_24 hl (k := 2) rfl rfl (by decide) rfl (fun ls hl => ?_)
    refine lv_goto (tgt := 2) hx hb d_M_off_27 (by decide) ?_
    exact hk2 _ _ _ hf H locs ls hP hS (lv_sub hl [1, 2, 0] rfl)
theorem w_m_M_off_b2 {z : St} (X : Cx b_M_off 3 none R_M D [(cI, .int), (cZ, .boolean), (cJ, .long)] (mA ao aa) (mW cI cZ cJ ao aa) p s m args meth c) : ∀ (n : Nat) (S : St) (x1 : Int32) (x2 : Int32), m_M_off_b2 n S x1 x2 = some z → WX rm_m_M_off D (mA ao aa) (mW cI cZ cJ ao aa) p l e s m args below meth c none z 2 [] 3 [(0, .ref (ao 0)), (1, .int x1), (2, .int x2)] S
  | 0, _, _, _, hf => ns hf
  | n + 1, _, _, _, hf => w_m_M_off_b2_f X (w_m_M_off_b2 X n) _ _ _ hf
set_option maxHeartbeats 4000000 in
set_option maxRecDepth 100000 in
theorem w_m_M_off {z : St} (X : Cx b_M_off 3 none R_M D [(cI, .int), (cZ, .boolean), (cJ, .long)] (mA ao aa) (mW cI cZ cJ ao aa) p s m args meth c) (S : St) (x0 : Int32) (hf : m_M_off S x0 = some z) : WX rm_m_M_off D (mA ao aa) (mW cI cZ cJ ao aa) p l e s m args below meth c none z 0 [] 3 [(0, .ref (ao 0)), (1, .int x0)] S := by
  intro H locs ls hP hS hl
  obtain ⟨hx, hb, hr0, hml, hown, htg, hlk, hK, hN, hI⟩ := id X
  unfold m_M_off at hf
  refine lv_iload_n hx hb d_M_off_0 rfl (lv_at hl 1 rfl) ?_
  refine lv_istore_n (lv' := [(2, .int x0), (0, .ref (ao 0)), (1, .int x0)]) hx hb d_M_off_1 rfl hl (by decide) rfl (fun ls hl => ?_)
  exact w_m_M_off_b2 X _ _ _ _ hf H locs ls hP hS (lv_sub hl [1, 2, 0] rfl)
theorem c_m_M_off {l : Launch} {D : va_G} {cI cZ cJ : ClassId} {ao aa : Nat → Nat} {S : St} {x0 : Int32} {z : St} (hz : m_M_off S x0 = some z) : Ct l y_M_off (.code y_M_off b_M_off 3 none :: gw) rm_m_M_off D [(cI, .int), (cZ, .boolean), (cJ, .long)] (mA ao aa) (mW cI cZ cJ ao aa) [.ref (ao 0), .int x0] S none z :=
  Ct_of (by decide) (fun p e s m args below meth c X => w_m_M_off X _ _ hz) (Nat.le_of_ble_eq_true rfl)
def m_M_order (S : St) : Option (St) :=
  (m_M_take_14 S (gI S 5)).bind fun q1 =>
  (m_M_phrase q1 (0 : Int32)).bind fun q2 =>
  if q2.1 ≤ 0 then
    some (sI q2.2 15 (-1 : Int32))
  else
    (m_M_manyOf (sI q2.2 15 (-1 : Int32)) (gL (sI q2.2 15 (-1 : Int32)) 0)).bind fun q3 =>
    if q3.1 = (1 : Int32) then
      (m_M_thingOf q3.2 (gL q3.2 0) (0 : Int32)).bind fun q4 =>
      (m_M_isCreature q4.2 q4.1).bind fun q5 =>
      if q5.1 = 0 then
        some q5.2
      else
        (m_M_stands q5.2 q2.1 (7 : Int32)).bind fun q6 =>
        if q6.1 = 0 then
          some q6.2
        else
          if (gI q6.2 5) ≤ (q2.1 + (1 : Int32)) then
            some q6.2
          else
            (m_M_thingOf q6.2 (gL q6.2 0) (0 : Int32)).bind fun q7 =>
            (m_M_off (sI q7.2 15 q7.1) (q2.1 + (1 : Int32))).bind fun q8 =>
            some q8
    else
      some q3.2
def rm_m_M_order : Room := { frames := 3, cells := 0, slots := 0, locals := 67 }
theorem ok_m_M_order : CalV y_M_order b_M_order 2 none 0 rm_m_M_order := ⟨kc_M_order, ki_M_order, kl_M_order, ji_M, ⟨by decide, by decide, by decide +kernel⟩, rfl, rfl⟩
set_option maxHeartbeats 4000000 in
set_option maxRecDepth 100000 in
theorem w_m_M_order {z : St} (X : Cx b_M_order 2 none R_M D [(cI, .int), (cZ, .boolean), (cJ, .long)] (mA ao aa) (mW cI cZ cJ ao aa) p s m args meth c) (S : St) (hf : m_M_order S = some z) : WX rm_m_M_order D (mA ao aa) (mW cI cZ cJ ao aa) p l e s m args below meth c none z 0 [] 2 [(0, .ref (ao 0))] S := by
  intro H locs ls hP hS hl
  obtain ⟨hx, hb, hr0, hml, hown, htg, hlk, hK, hN, hI⟩ := id X
  unfold m_M_order at hf
  refine lv_aload_n hx hb d_M_order_0 rfl (lv_at hl 0 rfl) ?_
  refine lv_aload_n hx hb d_M_order_1 rfl (lv_at hl 0 rfl) ?_
  refine va_get (D := D) (v := .ref (aa 14)) hx hb htg in_M hown hK hP 0 mo_0 rfl 20 (by decide) (htg _ k_f_M_53) (fun _ h9 => h9) rfl d_M_order_2 ?_
  refine lv_aload_n hx hb d_M_order_5 rfl (lv_at hl 0 rfl) ?_
  refine va_get (D := D) (v := .int (gI S 5)) hx hb htg in_M hown hK hP 0 mo_0 rfl 19 (by decide) (htg _ k_f_M_157) (fun _ h9 => h9) rfl d_M_order_6 ?_
  obtain ⟨q1, he, hf⟩ := ob_some hf
  refine cl_Vv (As := [.ref (aa 14), .int (gI S 5)]) (rest := []) X (c_m_M_take_14 he) ok_m_M_take_14 k_m_M_275 (va_recv hK hP rfl mo_0) rfl rfl hl.1 (Nat.le_of_ble_eq_true rfl) d_M_order_9 ⟨by decide, by decide⟩ hP hS (fun H locs hP hS => ?_)
  refine lv_aload_n hx hb d_M_order_12 rfl (lv_at hl 0 rfl) ?_
  refine lv_iconst (v := 0) hx hb d_M_order_13 (by decide) ?_
  obtain ⟨q2, he, hf⟩ := ob_some hf
  refine cl_Vi (As := [.int (0 : Int32)]) (rest := []) X (c_m_M_phrase he) ok_m_M_phrase k_m_M_229 (va_recv hK hP rfl mo_0) rfl rfl hl.1 (Nat.le_of_ble_eq_true rfl) d_M_order_14 ⟨by decide, by decide⟩ hP hS (fun H locs hP hS => ?_)
  refine lv_istore_n (lv' := [(1, .int q2.1), (0, .ref (ao 0))]) hx hb d_M_order_17 rfl hl (by decide) rfl (fun ls hl => ?_)
  refine lv_aload_n hx hb d_M_order_18 rfl (lv_at hl 1 rfl) ?_
  refine lv_iconst (v := (-1)) hx hb d_M_order_19 (by decide) ?_
  refine va_put (D := D) (ty := .int) hx hb htg in_M t_M t_M_ok n_M hown hK hP (hI _) hS 0 mo_0 rfl 42 (by decide) (htg _ k_f_M_103) (fun _ h9 => h9) rfl (by decide +kernel) rfl rfl (Nat.le_of_ble_eq_true rfl) d_M_order_20 (fun H locs hP _ hS => ?_)
  replace hP : va_P D classes (mW cI cZ cJ ao aa (sI q2.2 15 (-1 : Int32))) H := pw ms_0_toWhom hP
  refine lv_iload_n hx hb d_M_order_23 rfl (lv_at hl 0 rfl) ?_
  refine lv_if_le (tgt := 95) hx hb d_M_order_24 (by decide) (fun c => ?_) (fun c => ?_)
  · have hf := if_t hf c
    obtain rfl := Option.some.inj hf
    exact W.vret hx hb hr0 (fun t ht _ => ⟨⟨rfl, by rw [ht]; exact hP⟩, hS.F ht⟩) hS.2.2 d_M_order_95 hlk
  · have hf := if_f hf c
    refine lv_aload_n hx hb d_M_order_27 rfl (lv_at hl 1 rfl) ?_
    refine lv_aload_n hx hb d_M_order_28 rfl (lv_at hl 1 rfl) ?_
    refine va_get (D := D) (v := .long (gL (sI q2.2 15 (-1 : Int32)) 0)) hx hb htg in_M hown hK hP 0 mo_0 rfl 23 (by decide) (htg _ k_f_M_170) (fun _ h9 => h9) rfl d_M_order_29 ?_
    obtain ⟨q3, he, hf⟩ := ob_some hf
    refine cl_Vi (As := [.long (gL (sI q2.2 15 (-1 : Int32)) 0)]) (rest := []) X (c_m_M_manyOf he) ok_m_M_manyOf k_m_M_238 (va_recv hK hP rfl mo_0) rfl rfl hl.1 (Nat.le_of_ble_eq_true rfl) d_M_order_32 ⟨by decide, by decide⟩ hP hS (fun H locs hP hS => ?_)
    refine lv_iconst (v := 1) hx hb d_M_order_35 (by decide) ?_
    refine lv_icmp_ne (tgt := 95) hx hb d_M_order_36 (by decide) (fun c => ?_) (fun c => ?_)
    · have hf := if_f hf c
      obtain rfl := Option.some.inj hf
      exact W.vret hx hb hr0 (fun t ht _ => ⟨⟨rfl, by rw [ht]; exact hP⟩, hS.F ht⟩) hS.2.2 d_M_order_95 hlk
    · have hf := if_t hf c
      refine lv_aload_n hx hb d_M_order_39 rfl (lv_at hl 1 rfl) ?_
      refine lv_aload_n hx hb d_M_order_40 rfl (lv_at hl 1 rfl) ?_
      refine lv_aload_n hx hb d_M_order_41 rfl (lv_at hl 1 rfl) ?_
      refine va_get (D := D) (v := .long (gL q3.2 0)) hx hb htg in_M hown hK hP 0 mo_0 rfl 23 (by decide) (htg _ k_f_M_170) (fun _ h9 => h9) rfl d_M_order_42 ?_
      refine lv_iconst (v := 0) hx hb d_M_order_45 (by decide) ?_
      obtain ⟨q4, he, hf⟩ := ob_some hf
      refine cl_Vi (As := [.long (gL q3.2 0), .int (0 : Int32)]) (rest := [.ref (ao 0)]) X (c_m_M_thingOf he) ok_m_M_thingOf k_m_M_262 (va_recv hK hP rfl mo_0) rfl rfl hl.1 (Nat.le_of_ble_eq_true rfl) d_M_order_46 ⟨by decide, by decide⟩ hP hS (fun H locs hP hS => ?_)
      obtain ⟨q5, he, hf⟩ := ob_some hf
      refine cl_Vi (As := [.int q4.1]) (rest := []) X (c_m_M_isCreature he) ok_m_M_isCreature k_m_M_235 (va_recv hK hP rfl mo_0) rfl rfl hl.1 (Nat.le_of_ble_eq_true rfl) d_M_order_49 ⟨by decide, by decide⟩ hP hS (fun H locs hP hS => ?_)
      refine lv_if_eq (tgt := 95) hx hb d_M_order_52 (by decide) (fun c => ?_) (fun c => ?_)
      · have hf := if_t hf c
        obtain rfl := Option.some.inj hf
        exact W.vret hx hb hr0 (fun t ht _ => ⟨⟨rfl, by rw [ht]; exact hP⟩, hS.F ht⟩) hS.2.2 d_M_order_95 hlk
      · have hf := if_f hf c
        refine lv_aload_n hx hb d_M_order_55 rfl (lv_at hl 1 rfl) ?_
        refine lv_iload_n hx hb d_M_order_56 rfl (lv_at hl 0 rfl) ?_
        refine lv_bipush (v := 7) hx hb d_M_order_57 (by decide) ?_
        obtain ⟨q6, he, hf⟩ := ob_some hf
        refine cl_Vi (As := [.int q2.1, .int (7 : Int32)]) (rest := []) X (c_m_M_stands he) ok_m_M_stands k_m_M_177 (va_recv hK hP rfl mo_0) rfl rfl hl.1 (Nat.le_of_ble_eq_true rfl) d_M_order_59 ⟨by decide, by decide⟩ hP hS (fun H locs hP hS => ?_)
        refine lv_if_eq (tgt := 95) hx hb d_M_order_62 (by decide) (fun c => ?_) (fun c => ?_)
        · have hf := if_t hf c
          obtain rfl := Option.some.inj hf
          exact W.vret hx hb hr0 (fun t ht _ => ⟨⟨rfl, by rw [ht]; exact hP⟩, hS.F ht⟩) hS.2.2 d_M_order_95 hlk
        · have hf := if_f hf c
          refine lv_iload_n hx hb d_M_order_65 rfl (lv_at hl 0 rfl) ?_
          refine lv_iconst (v := 1) hx hb d_M_order_66 (by decide) ?_
          refine lv_iadd hx hb d_M_order_67 ?_
          refine lv_aload_n hx hb d_M_order_68 rfl (lv_at hl 1 rfl) ?_
          refine va_get (D := D) (v := .int (gI q6.2 5)) hx hb htg in_M hown hK hP 0 mo_0 rfl 19 (by decide) (htg _ k_f_M_157) (fun _ h9 => h9) rfl d_M_order_69 ?_
          refine lv_icmp_ge (tgt := 95) hx hb d_M_order_72 (by decide) (fun c => ?_) (fun c => ?_)
          · have hf := if_t hf c
            obtain rfl := Option.some.inj hf
            exact W.vret hx hb hr0 (fun t ht _ => ⟨⟨rfl, by rw [ht]; exact hP⟩, hS.F ht⟩) hS.2.2 d_M_order_95 hlk
          · have hf := if_f hf c
            refine lv_aload_n hx hb d_M_order_75 rfl (lv_at hl 1 rfl) ?_
            refine lv_aload_n hx hb d_M_order_76 rfl (lv_at hl 1 rfl) ?_
            refine lv_aload_n hx hb d_M_order_77 rfl (lv_at hl 1 rfl) ?_
            refine va_get (D := D) (v := .long (gL q6.2 0)) hx hb htg in_M hown hK hP 0 mo_0 rfl 23 (by decide) (htg _ k_f_M_170) (fun _ h9 => h9) rfl d_M_order_78 ?_
            refine lv_iconst (v := 0) hx hb d_M_order_81 (by decide) ?_
            obtain ⟨q7, he, hf⟩ := ob_some hf
            refine cl_Vi (As := [.long (gL q6.2 0), .int (0 : Int32)]) (rest := [.ref (ao 0)]) X (c_m_M_thingOf he) ok_m_M_thingOf k_m_M_262 (va_recv hK hP rfl mo_0) rfl rfl hl.1 (Nat.le_of_ble_eq_true rfl) d_M_order_82 ⟨by decide, by decide⟩ hP hS (fun H locs hP hS => ?_)
            refine va_put (D := D) (ty := .int) hx hb htg in_M t_M t_M_ok n_M hown hK hP (hI _) hS 0 mo_0 rfl 42 (by decide) (htg _ k_f_M_103) (fun _ h9 => h9) rfl (by decide +kernel) rfl rfl (Nat.le_of_ble_eq_true rfl) d_M_order_85 (fun H locs hP _ hS => ?_)
            replace hP : va_P D classes (mW cI cZ cJ ao aa (sI q7.2 15 q7.1)) H := pw ms_0_toWhom hP
            refine lv_aload_n hx hb d_M_order_88 rfl (lv_at hl 1 rfl) ?_
            refine lv_iload_n hx hb d_M_order_89 rfl (lv_at hl 0 rfl) ?_
            refine lv_iconst (v := 1) hx hb d_M_order_90 (by decide) ?_
            refine lv_iadd hx hb d_M_order_91 ?_
            obtain ⟨q8, he, hf⟩ := ob_some hf
            refine cl_Vv (As := [.int (q2.1 + (1 : Int32))]) (rest := []) X (c_m_M_off he) ok_m_M_off k_m_M_299 (va_recv hK hP rfl mo_0) rfl rfl hl.1 (Nat.le_of_ble_eq_true rfl) d_M_order_92 ⟨by decide, by decide⟩ hP hS (fun H locs hP hS => ?_)
            obtain rfl := Option.some.inj hf
            exact W.vret hx hb hr0 (fun t ht _ => ⟨⟨rfl, by rw [ht]; exact hP⟩, hS.F ht⟩) hS.2.2 d_M_order_95 hlk
theorem c_m_M_order {l : Launch} {D : va_G} {cI cZ cJ : ClassId} {ao aa : Nat → Nat} {S : St} {z : St} (hz : m_M_order S = some z) : Ct l y_M_order (.code y_M_order b_M_order 2 none :: gw) rm_m_M_order D [(cI, .int), (cZ, .boolean), (cJ, .long)] (mA ao aa) (mW cI cZ cJ ao aa) [.ref (ao 0)] S none z :=
  Ct_of (by decide) (fun p e s m args below meth c X => w_m_M_order X _ hz) (Nat.le_of_ble_eq_true rfl)
def m_M_begins (S : St) : Option (St) :=
  some (sI (sI (sI S 17 (1 : Int32)) 21 (0 : Int32)) 22 (0 : Int32))
def rm_m_M_begins : Room := { frames := 0, cells := 0, slots := 0, locals := 0 }
theorem ok_m_M_begins : CalV y_M_begins b_M_begins 1 none 0 rm_m_M_begins := ⟨kc_M_begins, ki_M_begins, kl_M_begins, ji_M, ⟨by decide, by decide, by decide +kernel⟩, rfl, rfl⟩
set_option maxHeartbeats 4000000 in
set_option maxRecDepth 100000 in
theorem w_m_M_begins {z : St} (X : Cx b_M_begins 1 none R_M D [(cI, .int), (cZ, .boolean), (cJ, .long)] (mA ao aa) (mW cI cZ cJ ao aa) p s m args meth c) (S : St) (hf : m_M_begins S = some z) : WX rm_m_M_begins D (mA ao aa) (mW cI cZ cJ ao aa) p l e s m args below meth c none z 0 [] 1 [(0, .ref (ao 0))] S := by
  intro H locs ls hP hS hl
  obtain ⟨hx, hb, hr0, hml, hown, htg, hlk, hK, hN, hI⟩ := id X
  unfold m_M_begins at hf
  refine lv_aload_n hx hb d_M_begins_0 rfl (lv_at hl 0 rfl) ?_
  refine lv_iconst (v := 1) hx hb d_M_begins_1 (by decide) ?_
  refine va_put (D := D) (ty := .boolean) hx hb htg in_M t_M t_M_ok n_M hown hK hP (hI _) hS 0 mo_0 rfl 47 (by decide) (htg _ k_f_M_296) (fun _ h9 => h9) rfl (by decide +kernel) rfl rfl (Nat.le_of_ble_eq_true rfl) d_M_begins_2 (fun H locs hP _ hS => ?_)
  replace hP : va_P D classes (mW cI cZ cJ ao aa (sI S 17 (1 : Int32))) H := pw ms_0_isAnswered hP
  refine lv_aload_n hx hb d_M_begins_5 rfl (lv_at hl 0 rfl) ?_
  refine lv_iconst (v := 0) hx hb d_M_begins_6 (by decide) ?_
  refine va_put (D := D) (ty := .int) hx hb htg in_M t_M t_M_ok n_M hown hK hP (hI _) hS 0 mo_0 rfl 51 (by decide) (htg _ k_f_M_293) (fun _ h9 => h9) rfl (by decide +kernel) rfl rfl (Nat.le_of_ble_eq_true rfl) d_M_begins_7 (fun H locs hP _ hS => ?_)
  replace hP : va_P D classes (mW cI cZ cJ ao aa (sI (sI S 17 (1 : Int32)) 21 (0 : Int32))) H := pw ms_0_askedKind hP
  refine lv_aload_n hx hb d_M_begins_10 rfl (lv_at hl 0 rfl) ?_
  refine lv_iconst (v := 0) hx hb d_M_begins_11 (by decide) ?_
  refine va_put (D := D) (ty := .boolean) hx hb htg in_M t_M t_M_ok n_M hown hK hP (hI _) hS 0 mo_0 rfl 52 (by decide) (htg _ k_f_M_286) (fun _ h9 => h9) rfl (by decide +kernel) rfl rfl (Nat.le_of_ble_eq_true rfl) d_M_begins_12 (fun H locs hP _ hS => ?_)
  replace hP : va_P D classes (mW cI cZ cJ ao aa (sI (sI (sI S 17 (1 : Int32)) 21 (0 : Int32)) 22 (0 : Int32))) H := pw ms_0_hasAction hP
  obtain rfl := Option.some.inj hf
  exact W.vret hx hb hr0 (fun t ht _ => ⟨⟨rfl, by rw [ht]; exact hP⟩, hS.F ht⟩) hS.2.2 d_M_begins_15 hlk
theorem c_m_M_begins {l : Launch} {D : va_G} {cI cZ cJ : ClassId} {ao aa : Nat → Nat} {S : St} {z : St} (hz : m_M_begins S = some z) : Ct l y_M_begins (.code y_M_begins b_M_begins 1 none :: gw) rm_m_M_begins D [(cI, .int), (cZ, .boolean), (cJ, .long)] (mA ao aa) (mW cI cZ cJ ao aa) [.ref (ao 0)] S none z :=
  Ct_of (by decide) (fun p e s m args below meth c X => w_m_M_begins X _ hz) (Nat.le_of_ble_eq_true rfl)
def m_M_take_24_b2_f (k2 : St → Int32 → Int32 → Option (St)) (S : St) (x2 : Int32) (x3 : Int32) : Option (St) :=
  if x2 ≤ x3 then
    some (sI S 6 x2)
  else
    gd (vin x3 60) <|
    gd (vin x3 60) <|
    k2 (sA S 15 x3.toNatClampNeg (gA S 24 x3.toNatClampNeg)) x2 (x3 + 1)
def m_M_take_24_b2 : Nat → St → Int32 → Int32 → Option (St)
  | 0, _, _, _ => none
  | n + 1, S, x2, x3 => m_M_take_24_b2_f (m_M_take_24_b2 n) S x2 x3
def m_M_take_24 (S : St) (x0 : Int32) : Option (St) :=
  m_M_take_24_b2 fu S x0 (0 : Int32)
def rm_m_M_take_24 : Room := { frames := 0, cells := 0, slots := 0, locals := 0 }
theorem ok_m_M_take_24 : CalV y_M_take b_M_take 4 none 2 rm_m_M_take_24 := ⟨kc_M_take, ki_M_take, kl_M_take, ji_M, ⟨by decide, by decide, by decide +kernel⟩, rfl, rfl⟩
set_option maxHeartbeats 4000000 in
set_option maxRecDepth 100000 in
theorem w_m_M_take_24_b2_f {z : St} (X : Cx b_M_take 4 none R_M D [(cI, .int), (cZ, .boolean), (cJ, .long)] (mA ao aa) (mW cI cZ cJ ao aa) p s m args meth c) {k2 : St → Int32 → Int32 → Option (St)} (hk2 : ∀ (S : St) (x2 : Int32) (x3 : Int32), k2 S x2 x3 = some z → WX rm_m_M_take_24 D (mA ao aa) (mW cI cZ cJ ao aa) p l e s m args below meth c none z 2 [] 4 [(0, .ref (ao 0)), (1, .ref (aa 24)), (2, .int x2), (3, .int x3)] S) (S : St) (x2 : Int32) (x3 : Int32) (hf : m_M_take_24_b2_f k2 S x2 x3 = some z) : WX rm_m_M_take_24 D (mA ao aa) (mW cI cZ cJ ao aa) p l e s m args below meth c none z 2 [] 4 [(0, .ref (ao 0)), (1, .ref (aa 24)), (2, .int x2), (3, .int x3)] S := by
  intro H locs ls hP hS hl
  obtain ⟨hx, hb, hr0, hml, hown, htg, hlk, hK, hN, hI⟩ := id X
  unfold m_M_take_24_b2_f at hf
  refine lv_iload_n hx hb d_M_take_2 rfl (lv_at hl 3 rfl) ?_
  refine lv_iload_n hx hb d_M_take_3 rfl (lv_at hl 2 rfl) ?_
  refine lv_icmp_ge (tgt := 22) hx hb d_M_take_4 (by decide) (fun c => ?_) (fun c => ?_)
  · have hf := if_t hf c
    refine lv_aload_n hx hb d_M_take_22 rfl (lv_at hl 0 rfl) ?_
    refine lv_iload_n hx hb d_M_take_23 rfl (lv_at hl 2 rfl) ?_
    refine va_put (D := D) (ty := .int) hx hb htg in_M t_M t_M_ok n_M hown hK hP (hI _) hS 0 mo_0 rfl 22 (by decide) (htg _ k_f_M_167) (fun _ h9 => h9) rfl (by decide +kernel) rfl rfl (Nat.le_of_ble_eq_true rfl) d_M_take_24 (fun H locs hP _ hS => ?_)
    replace hP : va_P D classes (mW cI cZ cJ ao aa (sI S 6 x2)) H := pw ms_0_rowMany hP
    obtain rfl := Option.some.inj hf
    exact W.vret hx hb hr0 (fun t ht _ => ⟨⟨rfl, by rw [ht]; exact hP⟩, hS.F ht⟩) hS.2.2 d_M_take_27 hlk
  · have hf := if_f hf c
    refine lv_aload_n hx hb d_M_take_7 rfl (lv_at hl 0 rfl) ?_
    refine va_get (D := D) (v := .ref (aa 15)) hx hb htg in_M hown hK hP 0 mo_0 rfl 21 (by decide) (htg _ k_f_M_56) (fun _ h9 => h9) rfl d_M_take_8 ?_
    refine lv_iload_n hx hb d_M_take_11 rfl (lv_at hl 3 rfl) ?_
    refine lv_aload_n hx hb d_M_take_12 rfl (lv_at hl 1 rfl) ?_
    refine lv_iload_n hx hb d_M_take_13 rfl (lv_at hl 3 rfl) ?_
    obtain ⟨hg, hf⟩ := gd_some hf
    refine va_iald hx hb hK hP 25 0 ma_24 rfl (vin_in hg) d_M_take_14 ?_
    obtain ⟨hg, hf⟩ := gd_some hf
    refine va_iast hx hb hK hP (hI _) hS 16 0 ma_15 rfl (vin_in hg) d_M_take_15 (fun H locs hP _ hS => ?_)
    replace hP : va_P D classes (mW cI cZ cJ ao aa (sA S 15 x3.toNatClampNeg (gA S 24 x3.toNatClampNeg))) H := pw mt_15 hP
    refine lv_iinc (v := (x3 + 1)) (lv' := [(3, .int (x3 + 1)), (0, .ref (ao 0)), (1, .ref (aa 24)), (2, .int x2)]) hx hb d_M_take_16 hl (k := 3) rfl rfl (by decide) rfl (fun ls hl => ?_)
    refine lv_goto (tgt := 2) hx hb d_M_take_19 (by decide) ?_
    exact hk2 _ _ _ hf H locs ls hP hS (lv_sub hl [1, 2, 3, 0] rfl)
theorem w_m_M_take_24_b2 {z : St} (X : Cx b_M_take 4 none R_M D [(cI, .int), (cZ, .boolean), (cJ, .long)] (mA ao aa) (mW cI cZ cJ ao aa) p s m args meth c) : ∀ (n : Nat) (S : St) (x2 : Int32) (x3 : Int32), m_M_take_24_b2 n S x2 x3 = some z → WX rm_m_M_take_24 D (mA ao aa) (mW cI cZ cJ ao aa) p l e s m args below meth c none z 2 [] 4 [(0, .ref (ao 0)), (1, .ref (aa 24)), (2, .int x2), (3, .int x3)] S
  | 0, _, _, _, hf => ns hf
  | n + 1, _, _, _, hf => w_m_M_take_24_b2_f X (w_m_M_take_24_b2 X n) _ _ _ hf
set_option maxHeartbeats 4000000 in
set_option maxRecDepth 100000 in
theorem w_m_M_take_24 {z : St} (X : Cx b_M_take 4 none R_M D [(cI, .int), (cZ, .boolean), (cJ, .long)] (mA ao aa) (mW cI cZ cJ ao aa) p s m args meth c) (S : St) (x0 : Int32) (hf : m_M_take_24 S x0 = some z) : WX rm_m_M_take_24 D (mA ao aa) (mW cI cZ cJ ao aa) p l e s m args below meth c none z 0 [] 4 [(0, .ref (ao 0)), (1, .ref (aa 24)), (2, .int x0)] S := by
  intro H locs ls hP hS hl
  obtain ⟨hx, hb, hr0, hml, hown, htg, hlk, hK, hN, hI⟩ := id X
  unfold m_M_take_24 at hf
  refine lv_iconst (v := 0) hx hb d_M_take_0 (by decide) ?_
  refine lv_istore_n (lv' := [(3, .int (0 : Int32)), (0, .ref (ao 0)), (1, .ref (aa 24)), (2, .int x0)]) hx hb d_M_take_1 rfl hl (by decide) rfl (fun ls hl => ?_)
  exact w_m_M_take_24_b2 X _ _ _ _ hf H locs ls hP hS (lv_sub hl [1, 2, 3, 0] rfl)
theorem c_m_M_take_24 {l : Launch} {D : va_G} {cI cZ cJ : ClassId} {ao aa : Nat → Nat} {S : St} {x0 : Int32} {z : St} (hz : m_M_take_24 S x0 = some z) : Ct l y_M_take (.code y_M_take b_M_take 4 none :: gw) rm_m_M_take_24 D [(cI, .int), (cZ, .boolean), (cJ, .long)] (mA ao aa) (mW cI cZ cJ ao aa) [.ref (ao 0), .ref (aa 24), .int x0] S none z :=
  Ct_of (by decide) (fun p e s m args below meth c X => w_m_M_take_24 X _ _ hz) (Nat.le_of_ble_eq_true rfl)
end

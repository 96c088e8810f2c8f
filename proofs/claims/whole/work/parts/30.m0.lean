section
variable {p : Program} {l : Launch} {e : Env} {s : State} {m : MethodId} {args : Array Value} {below : List Frame} {meth : Method} {c : Code} {D : va_G} {cI cZ cJ : ClassId} {ao aa : Nat → Nat}
def m_M_within (S : St) (x0 : Int32) (x1 : Int32) (x2 : Int32) : Option (Int32 × St) :=
  if x0 < x1 then
    some ((0 : Int32), S)
  else
    if x2 < x0 then
      some ((0 : Int32), S)
    else
      some ((1 : Int32), S)
def rm_m_M_within : Room := { frames := 0, cells := 0, slots := 0, locals := 0 }
theorem ok_m_M_within : CalS y_M_within b_M_within 3 (some .boolean) 3 rm_m_M_within := ⟨kc_M_within, ks_M_within, ji_M, ⟨by decide, by decide, by decide +kernel⟩, rfl, rfl⟩
set_option maxHeartbeats 4000000 in
set_option maxRecDepth 100000 in
theorem w_m_M_within {z : Int32 × St} (X : Cx b_M_within 3 (some .boolean) R_M D [(cI, .int), (cZ, .boolean), (cJ, .long)] (mA ao aa) (mW cI cZ cJ ao aa) p s m args meth c) (S : St) (x0 : Int32) (x1 : Int32) (x2 : Int32) (hf : m_M_within S x0 x1 x2 = some z) : WX rm_m_M_within D (mA ao aa) (mW cI cZ cJ ao aa) p l e s m args below meth c (some (.int z.1)) z.2 0 [] 3 [(0, .int x0), (1, .int x1), (2, .int x2)] S := by
  intro H locs ls hP hS hl
  obtain ⟨hx, hb, hr0, hml, hown, htg, hlk, hK, hN, hI⟩ := id X
  unfold m_M_within at hf
  refine lv_iload_n hx hb d_M_within_0 rfl (lv_at hl 0 rfl) ?_
  refine lv_iload_n hx hb d_M_within_1 rfl (lv_at hl 1 rfl) ?_
  refine lv_icmp_lt (tgt := 14) hx hb d_M_within_2 (by decide) (fun c => ?_) (fun c => ?_)
  · have hf := if_t hf c
    refine lv_iconst (v := 0) hx hb d_M_within_14 (by decide) ?_
    obtain rfl := Option.some.inj hf
    exact W.zret (ty := .boolean) hx hb hr0 rfl (fun t ht _ => ⟨⟨rfl, by rw [ht]; exact hP⟩, hS.F ht⟩) hS.2.2 d_M_within_15 hlk
  · have hf := if_f hf c
    refine lv_iload_n hx hb d_M_within_5 rfl (lv_at hl 0 rfl) ?_
    refine lv_iload_n hx hb d_M_within_6 rfl (lv_at hl 2 rfl) ?_
    refine lv_icmp_gt (tgt := 14) hx hb d_M_within_7 (by decide) (fun c => ?_) (fun c => ?_)
    · have hf := if_t hf c
      refine lv_iconst (v := 0) hx hb d_M_within_14 (by decide) ?_
      obtain rfl := Option.some.inj hf
      exact W.zret (ty := .boolean) hx hb hr0 rfl (fun t ht _ => ⟨⟨rfl, by rw [ht]; exact hP⟩, hS.F ht⟩) hS.2.2 d_M_within_15 hlk
    · have hf := if_f hf c
      refine lv_iconst (v := 1) hx hb d_M_within_10 (by decide) ?_
      refine lv_goto (tgt := 15) hx hb d_M_within_11 (by decide) ?_
      obtain rfl := Option.some.inj hf
      exact W.zret (ty := .boolean) hx hb hr0 rfl (fun t ht _ => ⟨⟨rfl, by rw [ht]; exact hP⟩, hS.F ht⟩) hS.2.2 d_M_within_15 hlk
theorem c_m_M_within {l : Launch} {D : va_G} {cI cZ cJ : ClassId} {ao aa : Nat → Nat} {S : St} {x0 : Int32} {x1 : Int32} {x2 : Int32} {z : Int32 × St} (hz : m_M_within S x0 x1 x2 = some z) : Ct l y_M_within (.code y_M_within b_M_within 3 (some .boolean) :: gw) rm_m_M_within D [(cI, .int), (cZ, .boolean), (cJ, .long)] (mA ao aa) (mW cI cZ cJ ao aa) [.int x0, .int x1, .int x2] S (some (.int z.1)) z.2 :=
  Ct_of (by decide) (fun p e s m args below meth c X => w_m_M_within X _ _ _ _ hz) (Nat.le_of_ble_eq_true rfl)
def m_M_isPlain (S : St) (x0 : Int32) : Option (Int32 × St) :=
  (m_M_within S x0 (10 : Int32) (9999 : Int32)).bind fun q1 =>
  gd (isB q1.1) <|
  some (q1.1, q1.2)
def rm_m_M_isPlain : Room := { frames := 1, cells := 0, slots := 0, locals := 22 }
theorem ok_m_M_isPlain : CalS y_M_isPlain b_M_isPlain 1 (some .boolean) 1 rm_m_M_isPlain := ⟨kc_M_isPlain, ks_M_isPlain, ji_M, ⟨by decide, by decide, by decide +kernel⟩, rfl, rfl⟩
set_option maxHeartbeats 4000000 in
set_option maxRecDepth 100000 in
theorem w_m_M_isPlain {z : Int32 × St} (X : Cx b_M_isPlain 1 (some .boolean) R_M D [(cI, .int), (cZ, .boolean), (cJ, .long)] (mA ao aa) (mW cI cZ cJ ao aa) p s m args meth c) (S : St) (x0 : Int32) (hf : m_M_isPlain S x0 = some z) : WX rm_m_M_isPlain D (mA ao aa) (mW cI cZ cJ ao aa) p l e s m args below meth c (some (.int z.1)) z.2 0 [] 1 [(0, .int x0)] S := by
  intro H locs ls hP hS hl
  obtain ⟨hx, hb, hr0, hml, hown, htg, hlk, hK, hN, hI⟩ := id X
  unfold m_M_isPlain at hf
  refine lv_iload_n hx hb d_M_isPlain_0 rfl (lv_at hl 0 rfl) ?_
  refine lv_bipush (v := 10) hx hb d_M_isPlain_1 (by decide) ?_
  refine lv_sipush (v := 9999) hx hb d_M_isPlain_3 (by decide) ?_
  obtain ⟨q1, he, hf⟩ := ob_some hf
  refine cl_Si (As := [.int x0, .int (10 : Int32), .int (9999 : Int32)]) (rest := []) X (c_m_M_within he) ok_m_M_within k_m_M_112 rfl rfl hl.1 (Nat.le_of_ble_eq_true rfl) d_M_isPlain_6 ⟨by decide, by decide⟩ hP hS (fun H locs hP hS => ?_)
  obtain ⟨hg, hf⟩ := gd_some hf
  obtain rfl := Option.some.inj hf
  exact W.zret (ty := .boolean) hx hb hr0 (isB_n hg) (fun t ht _ => ⟨⟨rfl, by rw [ht]; exact hP⟩, hS.F ht⟩) hS.2.2 d_M_isPlain_9 hlk
theorem c_m_M_isPlain {l : Launch} {D : va_G} {cI cZ cJ : ClassId} {ao aa : Nat → Nat} {S : St} {x0 : Int32} {z : Int32 × St} (hz : m_M_isPlain S x0 = some z) : Ct l y_M_isPlain (.code y_M_isPlain b_M_isPlain 1 (some .boolean) :: gw) rm_m_M_isPlain D [(cI, .int), (cZ, .boolean), (cJ, .long)] (mA ao aa) (mW cI cZ cJ ao aa) [.int x0] S (some (.int z.1)) z.2 :=
  Ct_of (by decide) (fun p e s m args below meth c X => w_m_M_isPlain X _ _ hz) (Nat.le_of_ble_eq_true rfl)
def m_M_verbBy_b2_f (k2 : St → Int32 → Int32 → Option (Int32 × St)) (S : St) (x1 : Int32) (x2 : Int32) : Option (Int32 × St) :=
  if (gI S 1) ≤ x2 then
    some ((-1 : Int32), S)
  else
    gd (vin x2 60) <|
    if (gA S 0 x2.toNatClampNeg) = x1 then
      gd (vin x2 60) <|
      some ((gA S 1 x2.toNatClampNeg), S)
    else
      k2 S x1 (x2 + 1)
def m_M_verbBy_b2 : Nat → St → Int32 → Int32 → Option (Int32 × St)
  | 0, _, _, _ => none
  | n + 1, S, x1, x2 => m_M_verbBy_b2_f (m_M_verbBy_b2 n) S x1 x2
def m_M_verbBy (S : St) (x0 : Int32) : Option (Int32 × St) :=
  m_M_verbBy_b2 fu S x0 (0 : Int32)
def rm_m_M_verbBy : Room := { frames := 0, cells := 0, slots := 0, locals := 0 }
theorem ok_m_M_verbBy : CalV y_M_verbBy b_M_verbBy 3 (some .int) 1 rm_m_M_verbBy := ⟨kc_M_verbBy, ki_M_verbBy, kl_M_verbBy, ji_M, ⟨by decide, by decide, by decide +kernel⟩, rfl, rfl⟩
set_option maxHeartbeats 4000000 in
set_option maxRecDepth 100000 in
theorem w_m_M_verbBy_b2_f {z : Int32 × St} (X : Cx b_M_verbBy 3 (some .int) R_M D [(cI, .int), (cZ, .boolean), (cJ, .long)] (mA ao aa) (mW cI cZ cJ ao aa) p s m args meth c) {k2 : St → Int32 → Int32 → Option (Int32 × St)} (hk2 : ∀ (S : St) (x1 : Int32) (x2 : Int32), k2 S x1 x2 = some z → WX rm_m_M_verbBy D (mA ao aa) (mW cI cZ cJ ao aa) p l e s m args below meth c (some (.int z.1)) z.2 2 [] 3 [(0, .ref (ao 0)), (1, .int x1), (2, .int x2)] S) (S : St) (x1 : Int32) (x2 : Int32) (hf : m_M_verbBy_b2_f k2 S x1 x2 = some z) : WX rm_m_M_verbBy D (mA ao aa) (mW cI cZ cJ ao aa) p l e s m args below meth c (some (.int z.1)) z.2 2 [] 3 [(0, .ref (ao 0)), (1, .int x1), (2, .int x2)] S := by
  intro H locs ls hP hS hl
  obtain ⟨hx, hb, hr0, hml, hown, htg, hlk, hK, hN, hI⟩ := id X
  unfold m_M_verbBy_b2_f at hf
  refine lv_iload_n hx hb d_M_verbBy_2 rfl (lv_at hl 2 rfl) ?_
  refine lv_aload_n hx hb d_M_verbBy_3 rfl (lv_at hl 0 rfl) ?_
  refine va_get (D := D) (v := .int (gI S 1)) hx hb htg in_M hown hK hP 0 mo_0 rfl 1 (by decide) (htg _ k_f_M_116) (fun _ h9 => h9) rfl d_M_verbBy_4 ?_
  refine lv_icmp_ge (tgt := 33) hx hb d_M_verbBy_7 (by decide) (fun c => ?_) (fun c => ?_)
  · have hf := if_t hf c
    refine lv_iconst (v := (-1)) hx hb d_M_verbBy_33 (by decide) ?_
    obtain rfl := Option.some.inj hf
    exact W.iret hx hb hr0 (fun t ht _ => ⟨⟨rfl, by rw [ht]; exact hP⟩, hS.F ht⟩) hS.2.2 d_M_verbBy_34 hlk
  · have hf := if_f hf c
    refine lv_aload_n hx hb d_M_verbBy_10 rfl (lv_at hl 0 rfl) ?_
    refine va_get (D := D) (v := .ref (aa 0)) hx hb htg in_M hown hK hP 0 mo_0 rfl 2 (by decide) (htg _ k_f_M_7) (fun _ h9 => h9) rfl d_M_verbBy_11 ?_
    refine lv_iload_n hx hb d_M_verbBy_14 rfl (lv_at hl 2 rfl) ?_
    obtain ⟨hg, hf⟩ := gd_some hf
    refine va_iald hx hb hK hP 1 0 ma_0 rfl (vin_in hg) d_M_verbBy_15 ?_
    refine lv_iload_n hx hb d_M_verbBy_16 rfl (lv_at hl 1 rfl) ?_
    refine lv_icmp_ne (tgt := 27) hx hb d_M_verbBy_17 (by decide) (fun c => ?_) (fun c => ?_)
    · have hf := if_f hf c
      refine lv_iinc (v := (x2 + 1)) (lv' := [(2, .int (x2 + 1)), (0, .ref (ao 0)), (1, .int x1)]) hx hb d_M_verbBy_27 hl (k := 2) rfl rfl (by decide) rfl (fun ls hl => ?_)
      refine lv_goto (tgt := 2) hx hb d_M_verbBy_30 (by decide) ?_
      exact hk2 _ _ _ hf H locs ls hP hS (lv_sub hl [1, 2, 0] rfl)
    · have hf := if_t hf c
      refine lv_aload_n hx hb d_M_verbBy_20 rfl (lv_at hl 0 rfl) ?_
      refine va_get (D := D) (v := .ref (aa 1)) hx hb htg in_M hown hK hP 0 mo_0 rfl 3 (by decide) (htg _ k_f_M_13) (fun _ h9 => h9) rfl d_M_verbBy_21 ?_
      refine lv_iload_n hx hb d_M_verbBy_24 rfl (lv_at hl 2 rfl) ?_
      obtain ⟨hg, hf⟩ := gd_some hf
      refine va_iald hx hb hK hP 2 0 ma_1 rfl (vin_in hg) d_M_verbBy_25 ?_
      obtain rfl := Option.some.inj hf
      exact W.iret hx hb hr0 (fun t ht _ => ⟨⟨rfl, by rw [ht]; exact hP⟩, hS.F ht⟩) hS.2.2 d_M_verbBy_26 hlk
theorem w_m_M_verbBy_b2 {z : Int32 × St} (X : Cx b_M_verbBy 3 (some .int) R_M D [(cI, .int), (cZ, .boolean), (cJ, .long)] (mA ao aa) (mW cI cZ cJ ao aa) p s m args meth c) : ∀ (n : Nat) (S : St) (x1 : Int32) (x2 : Int32), m_M_verbBy_b2 n S x1 x2 = some z → WX rm_m_M_verbBy D (mA ao aa) (mW cI cZ cJ ao aa) p l e s m args below meth c (some (.int z.1)) z.2 2 [] 3 [(0, .ref (ao 0)), (1, .int x1), (2, .int x2)] S
  | 0, _, _, _, hf => ns hf
  | n + 1, _, _, _, hf => w_m_M_verbBy_b2_f X (w_m_M_verbBy_b2 X n) _ _ _ hf
set_option maxHeartbeats 4000000 in
set_option maxRecDepth 100000 in
theorem w_m_M_verbBy {z : Int32 × St} (X : Cx b_M_verbBy 3 (some .int) R_M D [(cI, .int), (cZ, .boolean), (cJ, .long)] (mA ao aa) (mW cI cZ cJ ao aa) p s m args meth c) (S : St) (x0 : Int32) (hf : m_M_verbBy S x0 = some z) : WX rm_m_M_verbBy D (mA ao aa) (mW cI cZ cJ ao aa) p l e s m args below meth c (some (.int z.1)) z.2 0 [] 3 [(0, .ref (ao 0)), (1, .int x0)] S := by
  intro H locs ls hP hS hl
  obtain ⟨hx, hb, hr0, hml, hown, htg, hlk, hK, hN, hI⟩ := id X
  unfold m_M_verbBy at hf
  refine lv_iconst (v := 0) hx hb d_M_verbBy_0 (by decide) ?_
  refine lv_istore_n (lv' := [(2, .int (0 : Int32)), (0, .ref (ao 0)), (1, .int x0)]) hx hb d_M_verbBy_1 rfl hl (by decide) rfl (fun ls hl => ?_)
  exact w_m_M_verbBy_b2 X _ _ _ _ hf H locs ls hP hS (lv_sub hl [1, 2, 0] rfl)
theorem c_m_M_verbBy {l : Launch} {D : va_G} {cI cZ cJ : ClassId} {ao aa : Nat → Nat} {S : St} {x0 : Int32} {z : Int32 × St} (hz : m_M_verbBy S x0 = some z) : Ct l y_M_verbBy (.code y_M_verbBy b_M_verbBy 3 (some .int) :: gw) rm_m_M_verbBy D [(cI, .int), (cZ, .boolean), (cJ, .long)] (mA ao aa) (mW cI cZ cJ ao aa) [.ref (ao 0), .int x0] S (some (.int z.1)) z.2 :=
  Ct_of (by decide) (fun p e s m args below meth c X => w_m_M_verbBy X _ _ hz) (Nat.le_of_ble_eq_true rfl)
def m_M_isOfVerb (S : St) (x0 : Int32) (x1 : Int32) : Option (St) :=
  gd (vin (gI S 1) 60) <|
  gd (vin (gI (sA S 0 (gI S 1).toNatClampNeg x1) 1) 60) <|
  some (sI (sA (sA S 0 (gI S 1).toNatClampNeg x1) 1 (gI (sA S 0 (gI S 1).toNatClampNeg x1) 1).toNatClampNeg x0) 1 ((gI (sA (sA S 0 (gI S 1).toNatClampNeg x1) 1 (gI (sA S 0 (gI S 1).toNatClampNeg x1) 1).toNatClampNeg x0) 1) + (1 : Int32)))
def rm_m_M_isOfVerb : Room := { frames := 0, cells := 0, slots := 0, locals := 0 }
theorem ok_m_M_isOfVerb : CalV y_M_isOfVerb b_M_isOfVerb 3 none 2 rm_m_M_isOfVerb := ⟨kc_M_isOfVerb, ki_M_isOfVerb, kl_M_isOfVerb, ji_M, ⟨by decide, by decide, by decide +kernel⟩, rfl, rfl⟩
set_option maxHeartbeats 4000000 in
set_option maxRecDepth 100000 in
theorem w_m_M_isOfVerb {z : St} (X : Cx b_M_isOfVerb 3 none R_M D [(cI, .int), (cZ, .boolean), (cJ, .long)] (mA ao aa) (mW cI cZ cJ ao aa) p s m args meth c) (S : St) (x0 : Int32) (x1 : Int32) (hf : m_M_isOfVerb S x0 x1 = some z) : WX rm_m_M_isOfVerb D (mA ao aa) (mW cI cZ cJ ao aa) p l e s m args below meth c none z 0 [] 3 [(0, .ref (ao 0)), (1, .int x0), (2, .int x1)] S := by
  intro H locs ls hP hS hl
  obtain ⟨hx, hb, hr0, hml, hown, htg, hlk, hK, hN, hI⟩ := id X
  unfold m_M_isOfVerb at hf
  refine lv_aload_n hx hb d_M_isOfVerb_0 rfl (lv_at hl 0 rfl) ?_
  refine va_get (D := D) (v := .ref (aa 0)) hx hb htg in_M hown hK hP 0 mo_0 rfl 2 (by decide) (htg _ k_f_M_7) (fun _ h9 => h9) rfl d_M_isOfVerb_1 ?_
  refine lv_aload_n hx hb d_M_isOfVerb_4 rfl (lv_at hl 0 rfl) ?_
  refine va_get (D := D) (v := .int (gI S 1)) hx hb htg in_M hown hK hP 0 mo_0 rfl 1 (by decide) (htg _ k_f_M_116) (fun _ h9 => h9) rfl d_M_isOfVerb_5 ?_
  refine lv_iload_n hx hb d_M_isOfVerb_8 rfl (lv_at hl 2 rfl) ?_
  obtain ⟨hg, hf⟩ := gd_some hf
  refine va_iast hx hb hK hP (hI _) hS 1 0 ma_0 rfl (vin_in hg) d_M_isOfVerb_9 (fun H locs hP _ hS => ?_)
  replace hP : va_P D classes (mW cI cZ cJ ao aa (sA S 0 (gI S 1).toNatClampNeg x1)) H := pw mt_0 hP
  refine lv_aload_n hx hb d_M_isOfVerb_10 rfl (lv_at hl 0 rfl) ?_
  refine va_get (D := D) (v := .ref (aa 1)) hx hb htg in_M hown hK hP 0 mo_0 rfl 3 (by decide) (htg _ k_f_M_13) (fun _ h9 => h9) rfl d_M_isOfVerb_11 ?_
  refine lv_aload_n hx hb d_M_isOfVerb_14 rfl (lv_at hl 0 rfl) ?_
  refine va_get (D := D) (v := .int (gI (sA S 0 (gI S 1).toNatClampNeg x1) 1)) hx hb htg in_M hown hK hP 0 mo_0 rfl 1 (by decide) (htg _ k_f_M_116) (fun _ h9 => h9) rfl d_M_isOfVerb_15 ?_
  refine lv_iload_n hx hb d_M_isOfVerb_18 rfl (lv_at hl 1 rfl) ?_
  obtain ⟨hg, hf⟩ := gd_some hf
  refine va_iast hx hb hK hP (hI _) hS 2 0 ma_1 rfl (vin_in hg) d_M_isOfVerb_19 (fun H locs hP _ hS => ?_)
  replace hP : va_P D classes (mW cI cZ cJ ao aa (sA (sA S 0 (gI S 1).toNatClampNeg x1) 1 (gI (sA S 0 (gI S 1).toNatClampNeg x1) 1).toNatClampNeg x0)) H := pw mt_1 hP
  refine lv_aload_n hx hb d_M_isOfVerb_20 rfl (lv_at hl 0 rfl) ?_
  refine lv_dup hx hb d_M_isOfVerb_21 rfl ?_
  refine va_get (D := D) (v := .int (gI (sA (sA S 0 (gI S 1).toNatClampNeg x1) 1 (gI (sA S 0 (gI S 1).toNatClampNeg x1) 1).toNatClampNeg x0) 1)) hx hb htg in_M hown hK hP 0 mo_0 rfl 1 (by decide) (htg _ k_f_M_116) (fun _ h9 => h9) rfl d_M_isOfVerb_22 ?_
  refine lv_iconst (v := 1) hx hb d_M_isOfVerb_25 (by decide) ?_
  refine lv_iadd hx hb d_M_isOfVerb_26 ?_
  refine va_put (D := D) (ty := .int) hx hb htg in_M t_M t_M_ok n_M hown hK hP (hI _) hS 0 mo_0 rfl 1 (by decide) (htg _ k_f_M_116) (fun _ h9 => h9) rfl (by decide +kernel) rfl rfl (Nat.le_of_ble_eq_true rfl) d_M_isOfVerb_27 (fun H locs hP _ hS => ?_)
  replace hP : va_P D classes (mW cI cZ cJ ao aa (sI (sA (sA S 0 (gI S 1).toNatClampNeg x1) 1 (gI (sA S 0 (gI S 1).toNatClampNeg x1) 1).toNatClampNeg x0) 1 ((gI (sA (sA S 0 (gI S 1).toNatClampNeg x1) 1 (gI (sA S 0 (gI S 1).toNatClampNeg x1) 1).toNatClampNeg x0) 1) + (1 : Int32)))) H := pw ms_0_verbWords hP
  obtain rfl := Option.some.inj hf
  exact W.vret hx hb hr0 (fun t ht _ => ⟨⟨rfl, by rw [ht]; exact hP⟩, hS.F ht⟩) hS.2.2 d_M_isOfVerb_30 hlk
theorem c_m_M_isOfVerb {l : Launch} {D : va_G} {cI cZ cJ : ClassId} {ao aa : Nat → Nat} {S : St} {x0 : Int32} {x1 : Int32} {z : St} (hz : m_M_isOfVerb S x0 x1 = some z) : Ct l y_M_isOfVerb (.code y_M_isOfVerb b_M_isOfVerb 3 none :: gw) rm_m_M_isOfVerb D [(cI, .int), (cZ, .boolean), (cJ, .long)] (mA ao aa) (mW cI cZ cJ ao aa) [.ref (ao 0), .int x0, .int x1] S none z :=
  Ct_of (by decide) (fun p e s m args below meth c X => w_m_M_isOfVerb X _ _ _ hz) (Nat.le_of_ble_eq_true rfl)
def m_M_verb (S : St) (x0 : Int32) : Option (Int32 × St) :=
  (m_M_isPlain S x0).bind fun q1 =>
  if q1.1 = 0 then
    some ((-102 : Int32), q1.2)
  else
    (m_M_verbBy q1.2 x0).bind fun q2 =>
    if q2.1 = (-1 : Int32) then
      if (gI q2.2 0) = (20 : Int32) then
        some ((-104 : Int32), q2.2)
      else
        if (gI q2.2 1) = (60 : Int32) then
          some ((-104 : Int32), q2.2)
        else
          (m_M_isOfVerb q2.2 (gI q2.2 0) x0).bind fun q3 =>
          some (((gI (sI q3 0 ((gI q3 0) + (1 : Int32))) 0) - (1 : Int32)), (sI q3 0 ((gI q3 0) + (1 : Int32))))
    else
      some ((-102 : Int32), q2.2)
def rm_m_M_verb : Room := { frames := 2, cells := 0, slots := 0, locals := 42 }
theorem ok_m_M_verb : CalV y_M_verb b_M_verb 2 (some .int) 1 rm_m_M_verb := ⟨kc_M_verb, ki_M_verb, kl_M_verb, ji_M, ⟨by decide, by decide, by decide +kernel⟩, rfl, rfl⟩
set_option maxHeartbeats 4000000 in
set_option maxRecDepth 100000 in
theorem w_m_M_verb {z : Int32 × St} (X : Cx b_M_verb 2 (some .int) R_M D [(cI, .int), (cZ, .boolean), (cJ, .long)] (mA ao aa) (mW cI cZ cJ ao aa) p s m args meth c) (S : St) (x0 : Int32) (hf : m_M_verb S x0 = some z) : WX rm_m_M_verb D (mA ao aa) (mW cI cZ cJ ao aa) p l e s m args below meth c (some (.int z.1)) z.2 0 [] 2 [(0, .ref (ao 0)), (1, .int x0)] S := by
  intro H locs ls hP hS hl
  obtain ⟨hx, hb, hr0, hml, hown, htg, hlk, hK, hN, hI⟩ := id X
  unfold m_M_verb at hf
  refine lv_iload_n hx hb d_M_verb_0 rfl (lv_at hl 1 rfl) ?_
  obtain ⟨q1, he, hf⟩ := ob_some hf
  refine cl_Si (As := [.int x0]) (rest := []) X (c_m_M_isPlain he) ok_m_M_isPlain k_m_M_119 rfl rfl hl.1 (Nat.le_of_ble_eq_true rfl) d_M_verb_1 ⟨by decide, by decide⟩ hP hS (fun H locs hP hS => ?_)
  refine lv_if_eq (tgt := 16) hx hb d_M_verb_4 (by decide) (fun c => ?_) (fun c => ?_)
  · have hf := if_t hf c
    refine lv_bipush (v := (-102)) hx hb d_M_verb_16 (by decide) ?_
    obtain rfl := Option.some.inj hf
    exact W.iret hx hb hr0 (fun t ht _ => ⟨⟨rfl, by rw [ht]; exact hP⟩, hS.F ht⟩) hS.2.2 d_M_verb_18 hlk
  · have hf := if_f hf c
    refine lv_aload_n hx hb d_M_verb_7 rfl (lv_at hl 0 rfl) ?_
    refine lv_iload_n hx hb d_M_verb_8 rfl (lv_at hl 1 rfl) ?_
    obtain ⟨q2, he, hf⟩ := ob_some hf
    refine cl_Vi (As := [.int x0]) (rest := []) X (c_m_M_verbBy he) ok_m_M_verbBy k_m_M_123 (va_recv hK hP rfl mo_0) rfl rfl hl.1 (Nat.le_of_ble_eq_true rfl) d_M_verb_9 ⟨by decide, by decide⟩ hP hS (fun H locs hP hS => ?_)
    refine lv_iconst (v := (-1)) hx hb d_M_verb_12 (by decide) ?_
    refine lv_icmp_eq (tgt := 19) hx hb d_M_verb_13 (by decide) (fun c => ?_) (fun c => ?_)
    · have hf := if_t hf c
      refine lv_aload_n hx hb d_M_verb_19 rfl (lv_at hl 0 rfl) ?_
      refine va_get (D := D) (v := .int (gI q2.2 0)) hx hb htg in_M hown hK hP 0 mo_0 rfl 0 (by decide) (htg _ k_f_M_127) (fun _ h9 => h9) rfl d_M_verb_20 ?_
      refine lv_bipush (v := 20) hx hb d_M_verb_23 (by decide) ?_
      refine lv_icmp_eq (tgt := 37) hx hb d_M_verb_25 (by decide) (fun c => ?_) (fun c => ?_)
      · have hf := if_t hf c
        refine lv_bipush (v := (-104)) hx hb d_M_verb_37 (by decide) ?_
        obtain rfl := Option.some.inj hf
        exact W.iret hx hb hr0 (fun t ht _ => ⟨⟨rfl, by rw [ht]; exact hP⟩, hS.F ht⟩) hS.2.2 d_M_verb_39 hlk
      · have hf := if_f hf c
        refine lv_aload_n hx hb d_M_verb_28 rfl (lv_at hl 0 rfl) ?_
        refine va_get (D := D) (v := .int (gI q2.2 1)) hx hb htg in_M hown hK hP 0 mo_0 rfl 1 (by decide) (htg _ k_f_M_116) (fun _ h9 => h9) rfl d_M_verb_29 ?_
        refine lv_bipush (v := 60) hx hb d_M_verb_32 (by decide) ?_
        refine lv_icmp_ne (tgt := 40) hx hb d_M_verb_34 (by decide) (fun c => ?_) (fun c => ?_)
        · have hf := if_f hf c
          refine lv_aload_n hx hb d_M_verb_40 rfl (lv_at hl 0 rfl) ?_
          refine lv_aload_n hx hb d_M_verb_41 rfl (lv_at hl 0 rfl) ?_
          refine va_get (D := D) (v := .int (gI q2.2 0)) hx hb htg in_M hown hK hP 0 mo_0 rfl 0 (by decide) (htg _ k_f_M_127) (fun _ h9 => h9) rfl d_M_verb_42 ?_
          refine lv_iload_n hx hb d_M_verb_45 rfl (lv_at hl 1 rfl) ?_
          obtain ⟨q3, he, hf⟩ := ob_some hf
          refine cl_Vv (As := [.int (gI q2.2 0), .int x0]) (rest := []) X (c_m_M_isOfVerb he) ok_m_M_isOfVerb k_m_M_130 (va_recv hK hP rfl mo_0) rfl rfl hl.1 (Nat.le_of_ble_eq_true rfl) d_M_verb_46 ⟨by decide, by decide⟩ hP hS (fun H locs hP hS => ?_)
          refine lv_aload_n hx hb d_M_verb_49 rfl (lv_at hl 0 rfl) ?_
          refine lv_dup hx hb d_M_verb_50 rfl ?_
          refine va_get (D := D) (v := .int (gI q3 0)) hx hb htg in_M hown hK hP 0 mo_0 rfl 0 (by decide) (htg _ k_f_M_127) (fun _ h9 => h9) rfl d_M_verb_51 ?_
          refine lv_iconst (v := 1) hx hb d_M_verb_54 (by decide) ?_
          refine lv_iadd hx hb d_M_verb_55 ?_
          refine va_put (D := D) (ty := .int) hx hb htg in_M t_M t_M_ok n_M hown hK hP (hI _) hS 0 mo_0 rfl 0 (by decide) (htg _ k_f_M_127) (fun _ h9 => h9) rfl (by decide +kernel) rfl rfl (Nat.le_of_ble_eq_true rfl) d_M_verb_56 (fun H locs hP _ hS => ?_)
          replace hP : va_P D classes (mW cI cZ cJ ao aa (sI q3 0 ((gI q3 0) + (1 : Int32)))) H := pw ms_0_verbs hP
          refine lv_aload_n hx hb d_M_verb_59 rfl (lv_at hl 0 rfl) ?_
          refine va_get (D := D) (v := .int (gI (sI q3 0 ((gI q3 0) + (1 : Int32))) 0)) hx hb htg in_M hown hK hP 0 mo_0 rfl 0 (by decide) (htg _ k_f_M_127) (fun _ h9 => h9) rfl d_M_verb_60 ?_
          refine lv_iconst (v := 1) hx hb d_M_verb_63 (by decide) ?_
          refine lv_isub hx hb d_M_verb_64 ?_
          obtain rfl := Option.some.inj hf
          exact W.iret hx hb hr0 (fun t ht _ => ⟨⟨rfl, by rw [ht]; exact hP⟩, hS.F ht⟩) hS.2.2 d_M_verb_65 hlk
        · have hf := if_t hf c
          refine lv_bipush (v := (-104)) hx hb d_M_verb_37 (by decide) ?_
          obtain rfl := Option.some.inj hf
          exact W.iret hx hb hr0 (fun t ht _ => ⟨⟨rfl, by rw [ht]; exact hP⟩, hS.F ht⟩) hS.2.2 d_M_verb_39 hlk
    · have hf := if_f hf c
      refine lv_bipush (v := (-102)) hx hb d_M_verb_16 (by decide) ?_
      obtain rfl := Option.some.inj hf
      exact W.iret hx hb hr0 (fun t ht _ => ⟨⟨rfl, by rw [ht]; exact hP⟩, hS.F ht⟩) hS.2.2 d_M_verb_18 hlk
theorem c_m_M_verb {l : Launch} {D : va_G} {cI cZ cJ : ClassId} {ao aa : Nat → Nat} {S : St} {x0 : Int32} {z : Int32 × St} (hz : m_M_verb S x0 = some z) : Ct l y_M_verb (.code y_M_verb b_M_verb 2 (some .int) :: gw) rm_m_M_verb D [(cI, .int), (cZ, .boolean), (cJ, .long)] (mA ao aa) (mW cI cZ cJ ao aa) [.ref (ao 0), .int x0] S (some (.int z.1)) z.2 :=
  Ct_of (by decide) (fun p e s m args below meth c X => w_m_M_verb X _ _ hz) (Nat.le_of_ble_eq_true rfl)
def m_M_like_b85 (k59 : St → Int32 → Int32 → Int32 → Option (Int32 × St)) (S : St) (x1 : Int32) (x4 : Int32) (s0 : Int32) (s1 : Int32) : Option (Int32 × St) :=
  k59 S x1 (s1 + s0) (x4 + 1)
def m_M_like_b59_f (k59 : St → Int32 → Int32 → Int32 → Option (Int32 × St)) (S : St) (x1 : Int32) (x3 : Int32) (x4 : Int32) : Option (Int32 × St) :=
  if (gI S 1) ≤ x4 then
    some (x3, S)
  else
    gd (vin x4 60) <|
    if (gA S 1 x4.toNatClampNeg) = x1 then
      m_M_like_b85 k59 S x1 x4 (1 : Int32) x3
    else
      m_M_like_b85 k59 S x1 x4 (0 : Int32) x3
def m_M_like_b59 : Nat → St → Int32 → Int32 → Int32 → Option (Int32 × St)
  | 0, _, _, _, _ => none
  | n + 1, S, x1, x3, x4 => m_M_like_b59_f (m_M_like_b59 n) S x1 x3 x4
def m_M_like (S : St) (x0 : Int32) (x1 : Int32) : Option (Int32 × St) :=
  (m_M_within S x0 (0 : Int32) ((gI S 0) - (1 : Int32))).bind fun q1 =>
  if q1.1 = 0 then
    some ((-101 : Int32), q1.2)
  else
    (m_M_isPlain q1.2 x1).bind fun q2 =>
    if q2.1 = 0 then
      some ((-102 : Int32), q2.2)
    else
      (m_M_verbBy q2.2 x1).bind fun q3 =>
      if q3.1 = (-1 : Int32) then
        if (gI q3.2 1) = (60 : Int32) then
          some ((-104 : Int32), q3.2)
        else
          (m_M_isOfVerb q3.2 x0 x1).bind fun q4 =>
          m_M_like_b59 fu q4 x0 (0 : Int32) (0 : Int32)
      else
        some ((-102 : Int32), q3.2)
def rm_m_M_like : Room := { frames := 2, cells := 0, slots := 0, locals := 42 }
theorem ok_m_M_like : CalV y_M_like b_M_like 5 (some .int) 2 rm_m_M_like := ⟨kc_M_like, ki_M_like, kl_M_like, ji_M, ⟨by decide, by decide, by decide +kernel⟩, rfl, rfl⟩
set_option maxHeartbeats 4000000 in
set_option maxRecDepth 100000 in
theorem w_m_M_like_b85 {z : Int32 × St} (X : Cx b_M_like 5 (some .int) R_M D [(cI, .int), (cZ, .boolean), (cJ, .long)] (mA ao aa) (mW cI cZ cJ ao aa) p s m args meth c) {k59 : St → Int32 → Int32 → Int32 → Option (Int32 × St)} (hk59 : ∀ (S : St) (x1 : Int32) (x3 : Int32) (x4 : Int32), k59 S x1 x3 x4 = some z → WX rm_m_M_like D (mA ao aa) (mW cI cZ cJ ao aa) p l e s m args below meth c (some (.int z.1)) z.2 59 [] 5 [(0, .ref (ao 0)), (1, .int x1), (3, .int x3), (4, .int x4)] S) (S : St) (x1 : Int32) (x4 : Int32) (s0 : Int32) (s1 : Int32) (hf : m_M_like_b85 k59 S x1 x4 s0 s1 = some z) : WX rm_m_M_like D (mA ao aa) (mW cI cZ cJ ao aa) p l e s m args below meth c (some (.int z.1)) z.2 85 [.int s0, .int s1] 5 [(0, .ref (ao 0)), (1, .int x1), (4, .int x4)] S := by
  intro H locs ls hP hS hl
  obtain ⟨hx, hb, hr0, hml, hown, htg, hlk, hK, hN, hI⟩ := id X
  unfold m_M_like_b85 at hf
  refine lv_iadd hx hb d_M_like_85 ?_
  refine lv_istore_n (lv' := [(3, .int (s1 + s0)), (0, .ref (ao 0)), (1, .int x1), (4, .int x4)]) hx hb d_M_like_86 rfl hl (by decide) rfl (fun ls hl => ?_)
  refine lv_iinc (v := (x4 + 1)) (lv' := [(4, .int (x4 + 1)), (3, .int (s1 + s0)), (0, .ref (ao 0)), (1, .int x1)]) hx hb d_M_like_87 hl (k := 3) rfl rfl (by decide) rfl (fun ls hl => ?_)
  refine lv_goto (tgt := 59) hx hb d_M_like_90 (by decide) ?_
  exact hk59 _ _ _ _ hf H locs ls hP hS (lv_sub hl [2, 3, 1, 0] rfl)
set_option maxHeartbeats 4000000 in
set_option maxRecDepth 100000 in
theorem w_m_M_like_b59_f {z : Int32 × St} (X : Cx b_M_like 5 (some .int) R_M D [(cI, .int), (cZ, .boolean), (cJ, .long)] (mA ao aa) (mW cI cZ cJ ao aa) p s m args meth c) {k59 : St → Int32 → Int32 → Int32 → Option (Int32 × St)} (hk59 : ∀ (S : St) (x1 : Int32) (x3 : Int32) (x4 : Int32), k59 S x1 x3 x4 = some z → WX rm_m_M_like D (mA ao aa) (mW cI cZ cJ ao aa) p l e s m args below meth c (some (.int z.1)) z.2 59 [] 5 [(0, .ref (ao 0)), (1, .int x1), (3, .int x3), (4, .int x4)] S) (S : St) (x1 : Int32) (x3 : Int32) (x4 : Int32) (hf : m_M_like_b59_f k59 S x1 x3 x4 = some z) : WX rm_m_M_like D (mA ao aa) (mW cI cZ cJ ao aa) p l e s m args below meth c (some (.int z.1)) z.2 59 [] 5 [(0, .ref (ao 0)), (1, .int x1), (3, .int x3), (4, .int x4)] S := by
  intro H locs ls hP hS hl
  obtain ⟨hx, hb, hr0, hml, hown, htg, hlk, hK, hN, hI⟩ := id X
  unfold m_M_like_b59_f at hf
  refine lv_iload hx hb d_M_like_59 (lv_at hl 3 rfl) ?_
  refine lv_aload_n hx hb d_M_like_61 rfl (lv_at hl 0 rfl) ?_
  refine va_get (D := D) (v := .int (gI S 1)) hx hb htg in_M hown hK hP 0 mo_0 rfl 1 (by decide) (htg _ k_f_M_116) (fun _ h9 => h9) rfl d_M_like_62 ?_
  refine lv_icmp_ge (tgt := 93) hx hb d_M_like_65 (by decide) (fun c => ?_) (fun c => ?_)
  · have hf := if_t hf c
    refine lv_iload_n hx hb d_M_like_93 rfl (lv_at hl 2 rfl) ?_
    obtain rfl := Option.some.inj hf
    exact W.iret hx hb hr0 (fun t ht _ => ⟨⟨rfl, by rw [ht]; exact hP⟩, hS.F ht⟩) hS.2.2 d_M_like_94 hlk
  · have hf := if_f hf c
    refine lv_iload_n hx hb d_M_like_68 rfl (lv_at hl 2 rfl) ?_
    refine lv_aload_n hx hb d_M_like_69 rfl (lv_at hl 0 rfl) ?_
    refine va_get (D := D) (v := .ref (aa 1)) hx hb htg in_M hown hK hP 0 mo_0 rfl 3 (by decide) (htg _ k_f_M_13) (fun _ h9 => h9) rfl d_M_like_70 ?_
    refine lv_iload hx hb d_M_like_73 (lv_at hl 3 rfl) ?_
    obtain ⟨hg, hf⟩ := gd_some hf
    refine va_iald hx hb hK hP 2 0 ma_1 rfl (vin_in hg) d_M_like_75 ?_
    refine lv_iload_n hx hb d_M_like_76 rfl (lv_at hl 1 rfl) ?_
    refine lv_icmp_ne (tgt := 84) hx hb d_M_like_77 (by decide) (fun c => ?_) (fun c => ?_)
    · have hf := if_f hf c
      refine lv_iconst (v := 0) hx hb d_M_like_84 (by decide) ?_
      exact w_m_M_like_b85 X hk59 _ _ _ _ _ hf H locs ls hP hS (lv_sub hl [0, 1, 3] rfl)
    · have hf := if_t hf c
      refine lv_iconst (v := 1) hx hb d_M_like_80 (by decide) ?_
      refine lv_goto (tgt := 85) hx hb d_M_like_81 (by decide) ?_
      exact w_m_M_like_b85 X hk59 _ _ _ _ _ hf H locs ls hP hS (lv_sub hl [0, 1, 3] rfl)
theorem w_m_M_like_b59 {z : Int32 × St} (X : Cx b_M_like 5 (some .int) R_M D [(cI, .int), (cZ, .boolean), (cJ, .long)] (mA ao aa) (mW cI cZ cJ ao aa) p s m args meth c) : ∀ (n : Nat) (S : St) (x1 : Int32) (x3 : Int32) (x4 : Int32), m_M_like_b59 n S x1 x3 x4 = some z → WX rm_m_M_like D (mA ao aa) (mW cI cZ cJ ao aa) p l e s m args below meth c (some (.int z.1)) z.2 59 [] 5 [(0, .ref (ao 0)), (1, .int x1), (3, .int x3), (4, .int x4)] S
  | 0, _, _, _, _, hf => ns hf
  | n + 1, _, _, _, _, hf => w_m_M_like_b59_f X (w_m_M_like_b59 X n) _ _ _ _ hf
set_option maxHeartbeats 4000000 in
set_option maxRecDepth 100000 in
theorem w_m_M_like {z : Int32 × St} (X : Cx b_M_like 5 (some .int) R_M D [(cI, .int), (cZ, .boolean), (cJ, .long)] (mA ao aa) (mW cI cZ cJ ao aa) p s m args meth c) (S : St) (x0 : Int32) (x1 : Int32) (hf : m_M_like S x0 x1 = some z) : WX rm_m_M_like D (mA ao aa) (mW cI cZ cJ ao aa) p l e s m args below meth c (some (.int z.1)) z.2 0 [] 5 [(0, .ref (ao 0)), (1, .int x0), (2, .int x1)] S := by
  intro H locs ls hP hS hl
  obtain ⟨hx, hb, hr0, hml, hown, htg, hlk, hK, hN, hI⟩ := id X
  unfold m_M_like at hf
  refine lv_iload_n hx hb d_M_like_0 rfl (lv_at hl 1 rfl) ?_
  refine lv_iconst (v := 0) hx hb d_M_like_1 (by decide) ?_
  refine lv_aload_n hx hb d_M_like_2 rfl (lv_at hl 0 rfl) ?_
  refine va_get (D := D) (v := .int (gI S 0)) hx hb htg in_M hown hK hP 0 mo_0 rfl 0 (by decide) (htg _ k_f_M_127) (fun _ h9 => h9) rfl d_M_like_3 ?_
  refine lv_iconst (v := 1) hx hb d_M_like_6 (by decide) ?_
  refine lv_isub hx hb d_M_like_7 ?_
  obtain ⟨q1, he, hf⟩ := ob_some hf
  refine cl_Si (As := [.int x0, .int (0 : Int32), .int ((gI S 0) - (1 : Int32))]) (rest := []) X (c_m_M_within he) ok_m_M_within k_m_M_112 rfl rfl hl.1 (Nat.le_of_ble_eq_true rfl) d_M_like_8 ⟨by decide, by decide⟩ hP hS (fun H locs hP hS => ?_)
  refine lv_if_ne (tgt := 17) hx hb d_M_like_11 (by decide) (fun c => ?_) (fun c => ?_)
  · have hf := if_f hf c
    refine lv_iload_n hx hb d_M_like_17 rfl (lv_at hl 2 rfl) ?_
    obtain ⟨q2, he, hf⟩ := ob_some hf
    refine cl_Si (As := [.int x1]) (rest := []) X (c_m_M_isPlain he) ok_m_M_isPlain k_m_M_119 rfl rfl hl.1 (Nat.le_of_ble_eq_true rfl) d_M_like_18 ⟨by decide, by decide⟩ hP hS (fun H locs hP hS => ?_)
    refine lv_if_eq (tgt := 33) hx hb d_M_like_21 (by decide) (fun c => ?_) (fun c => ?_)
    · have hf := if_t hf c
      refine lv_bipush (v := (-102)) hx hb d_M_like_33 (by decide) ?_
      obtain rfl := Option.some.inj hf
      exact W.iret hx hb hr0 (fun t ht _ => ⟨⟨rfl, by rw [ht]; exact hP⟩, hS.F ht⟩) hS.2.2 d_M_like_35 hlk
    · have hf := if_f hf c
      refine lv_aload_n hx hb d_M_like_24 rfl (lv_at hl 0 rfl) ?_
      refine lv_iload_n hx hb d_M_like_25 rfl (lv_at hl 2 rfl) ?_
      obtain ⟨q3, he, hf⟩ := ob_some hf
      refine cl_Vi (As := [.int x1]) (rest := []) X (c_m_M_verbBy he) ok_m_M_verbBy k_m_M_123 (va_recv hK hP rfl mo_0) rfl rfl hl.1 (Nat.le_of_ble_eq_true rfl) d_M_like_26 ⟨by decide, by decide⟩ hP hS (fun H locs hP hS => ?_)
      refine lv_iconst (v := (-1)) hx hb d_M_like_29 (by decide) ?_
      refine lv_icmp_eq (tgt := 36) hx hb d_M_like_30 (by decide) (fun c => ?_) (fun c => ?_)
      · have hf := if_t hf c
        refine lv_aload_n hx hb d_M_like_36 rfl (lv_at hl 0 rfl) ?_
        refine va_get (D := D) (v := .int (gI q3.2 1)) hx hb htg in_M hown hK hP 0 mo_0 rfl 1 (by decide) (htg _ k_f_M_116) (fun _ h9 => h9) rfl d_M_like_37 ?_
        refine lv_bipush (v := 60) hx hb d_M_like_40 (by decide) ?_
        refine lv_icmp_ne (tgt := 48) hx hb d_M_like_42 (by decide) (fun c => ?_) (fun c => ?_)
        · have hf := if_f hf c
          refine lv_aload_n hx hb d_M_like_48 rfl (lv_at hl 0 rfl) ?_
          refine lv_iload_n hx hb d_M_like_49 rfl (lv_at hl 1 rfl) ?_
          refine lv_iload_n hx hb d_M_like_50 rfl (lv_at hl 2 rfl) ?_
          obtain ⟨q4, he, hf⟩ := ob_some hf
          refine cl_Vv (As := [.int x0, .int x1]) (rest := []) X (c_m_M_isOfVerb he) ok_m_M_isOfVerb k_m_M_130 (va_recv hK hP rfl mo_0) rfl rfl hl.1 (Nat.le_of_ble_eq_true rfl) d_M_like_51 ⟨by decide, by decide⟩ hP hS (fun H locs hP hS => ?_)
          refine lv_iconst (v := 0) hx hb d_M_like_54 (by decide) ?_
          refine lv_istore_n (lv' := [(3, .int (0 : Int32)), (0, .ref (ao 0)), (1, .int x0), (2, .int x1)]) hx hb d_M_like_55 rfl hl (by decide) rfl (fun ls hl => ?_)
          refine lv_iconst (v := 0) hx hb d_M_like_56 (by decide) ?_
          refine lv_istore (lv' := [(4, .int (0 : Int32)), (3, .int (0 : Int32)), (0, .ref (ao 0)), (1, .int x0), (2, .int x1)]) hx hb d_M_like_57 hl (by decide) rfl (fun ls hl => ?_)
          exact w_m_M_like_b59 X _ _ _ _ _ hf H locs ls hP hS (lv_sub hl [2, 3, 1, 0] rfl)
        · have hf := if_t hf c
          refine lv_bipush (v := (-104)) hx hb d_M_like_45 (by decide) ?_
          obtain rfl := Option.some.inj hf
          exact W.iret hx hb hr0 (fun t ht _ => ⟨⟨rfl, by rw [ht]; exact hP⟩, hS.F ht⟩) hS.2.2 d_M_like_47 hlk
      · have hf := if_f hf c
        refine lv_bipush (v := (-102)) hx hb d_M_like_33 (by decide) ?_
        obtain rfl := Option.some.inj hf
        exact W.iret hx hb hr0 (fun t ht _ => ⟨⟨rfl, by rw [ht]; exact hP⟩, hS.F ht⟩) hS.2.2 d_M_like_35 hlk
  · have hf := if_t hf c
    refine lv_bipush (v := (-101)) hx hb d_M_like_14 (by decide) ?_
    obtain rfl := Option.some.inj hf
    exact W.iret hx hb hr0 (fun t ht _ => ⟨⟨rfl, by rw [ht]; exact hP⟩, hS.F ht⟩) hS.2.2 d_M_like_16 hlk
theorem c_m_M_like {l : Launch} {D : va_G} {cI cZ cJ : ClassId} {ao aa : Nat → Nat} {S : St} {x0 : Int32} {x1 : Int32} {z : Int32 × St} (hz : m_M_like S x0 x1 = some z) : Ct l y_M_like (.code y_M_like b_M_like 5 (some .int) :: gw) rm_m_M_like D [(cI, .int), (cZ, .boolean), (cJ, .long)] (mA ao aa) (mW cI cZ cJ ao aa) [.ref (ao 0), .int x0, .int x1] S (some (.int z.1)) z.2 :=
  Ct_of (by decide) (fun p e s m args below meth c X => w_m_M_like X _ _ _ hz) (Nat.le_of_ble_eq_true rfl)
def m_M_line (S : St) (x0 : Int32) (x1 : Int32) (x2 : Int32) : Option (Int32 × St) :=
  (m_M_within S x0 (0 : Int32) ((gI S 0) - (1 : Int32))).bind fun q1 =>
  if q1.1 = 0 then
    some ((-101 : Int32), q1.2)
  else
    (m_M_within q1.2 x1 (1 : Int32) (9999 : Int32)).bind fun q2 =>
    if q2.1 = 0 then
      some ((-102 : Int32), q2.2)
    else
      if (gI q2.2 2) = (60 : Int32) then
        some ((-104 : Int32), q2.2)
      else
        gd (vin (gI q2.2 2) 60) <|
        gd (vin (gI (sA q2.2 2 (gI q2.2 2).toNatClampNeg x0) 2) 60) <|
        gd (vin (gI (sA (sA q2.2 2 (gI q2.2 2).toNatClampNeg x0) 3 (gI (sA q2.2 2 (gI q2.2 2).toNatClampNeg x0) 2).toNatClampNeg x1) 2) 60) <|
        gd (vin (gI (sA (sA (sA q2.2 2 (gI q2.2 2).toNatClampNeg x0) 3 (gI (sA q2.2 2 (gI q2.2 2).toNatClampNeg x0) 2).toNatClampNeg x1) 4 (gI (sA (sA q2.2 2 (gI q2.2 2).toNatClampNeg x0) 3 (gI (sA q2.2 2 (gI q2.2 2).toNatClampNeg x0) 2).toNatClampNeg x1) 2).toNatClampNeg (vp_nar .boolean x2)) 2) 60) <|
        some (((gI (sI (sA (sA (sA (sA q2.2 2 (gI q2.2 2).toNatClampNeg x0) 3 (gI (sA q2.2 2 (gI q2.2 2).toNatClampNeg x0) 2).toNatClampNeg x1) 4 (gI (sA (sA q2.2 2 (gI q2.2 2).toNatClampNeg x0) 3 (gI (sA q2.2 2 (gI q2.2 2).toNatClampNeg x0) 2).toNatClampNeg x1) 2).toNatClampNeg (vp_nar .boolean x2)) 5 (gI (sA (sA (sA q2.2 2 (gI q2.2 2).toNatClampNeg x0) 3 (gI (sA q2.2 2 (gI q2.2 2).toNatClampNeg x0) 2).toNatClampNeg x1) 4 (gI (sA (sA q2.2 2 (gI q2.2 2).toNatClampNeg x0) 3 (gI (sA q2.2 2 (gI q2.2 2).toNatClampNeg x0) 2).toNatClampNeg x1) 2).toNatClampNeg (vp_nar .boolean x2)) 2).toNatClampNeg (0 : Int32)) 2 ((gI (sA (sA (sA (sA q2.2 2 (gI q2.2 2).toNatClampNeg x0) 3 (gI (sA q2.2 2 (gI q2.2 2).toNatClampNeg x0) 2).toNatClampNeg x1) 4 (gI (sA (sA q2.2 2 (gI q2.2 2).toNatClampNeg x0) 3 (gI (sA q2.2 2 (gI q2.2 2).toNatClampNeg x0) 2).toNatClampNeg x1) 2).toNatClampNeg (vp_nar .boolean x2)) 5 (gI (sA (sA (sA q2.2 2 (gI q2.2 2).toNatClampNeg x0) 3 (gI (sA q2.2 2 (gI q2.2 2).toNatClampNeg x0) 2).toNatClampNeg x1) 4 (gI (sA (sA q2.2 2 (gI q2.2 2).toNatClampNeg x0) 3 (gI (sA q2.2 2 (gI q2.2 2).toNatClampNeg x0) 2).toNatClampNeg x1) 2).toNatClampNeg (vp_nar .boolean x2)) 2).toNatClampNeg (0 : Int32)) 2) + (1 : Int32))) 2) - (1 : Int32)), (sI (sA (sA (sA (sA q2.2 2 (gI q2.2 2).toNatClampNeg x0) 3 (gI (sA q2.2 2 (gI q2.2 2).toNatClampNeg x0) 2).toNatClampNeg x1) 4 (gI (sA (sA q2.2 2 (gI q2.2 2).toNatClampNeg x0) 3 (gI (sA q2.2 2 (gI q2.2 2).toNatClampNeg x0) 2).toNatClampNeg x1) 2).toNatClampNeg (vp_nar .boolean x2)) 5 (gI (sA (sA (sA q2.2 2 (gI q2.2 2).toNatClampNeg x0) 3 (gI (sA q2.2 2 (gI q2.2 2).toNatClampNeg x0) 2).toNatClampNeg x1) 4 (gI (sA (sA q2.2 2 (gI q2.2 2).toNatClampNeg x0) 3 (gI (sA q2.2 2 (gI q2.2 2).toNatClampNeg x0) 2).toNatClampNeg x1) 2).toNatClampNeg (vp_nar .boolean x2)) 2).toNatClampNeg (0 : Int32)) 2 ((gI (sA (sA (sA (sA q2.2 2 (gI q2.2 2).toNatClampNeg x0) 3 (gI (sA q2.2 2 (gI q2.2 2).toNatClampNeg x0) 2).toNatClampNeg x1) 4 (gI (sA (sA q2.2 2 (gI q2.2 2).toNatClampNeg x0) 3 (gI (sA q2.2 2 (gI q2.2 2).toNatClampNeg x0) 2).toNatClampNeg x1) 2).toNatClampNeg (vp_nar .boolean x2)) 5 (gI (sA (sA (sA q2.2 2 (gI q2.2 2).toNatClampNeg x0) 3 (gI (sA q2.2 2 (gI q2.2 2).toNatClampNeg x0) 2).toNatClampNeg x1) 4 (gI (sA (sA q2.2 2 (gI q2.2 2).toNatClampNeg x0) 3 (gI (sA q2.2 2 (gI q2.2 2).toNatClampNeg x0) 2).toNatClampNeg x1) 2).toNatClampNeg (vp_nar .boolean x2)) 2).toNatClampNeg (0 : Int32)) 2) + (1 : Int32))))
def rm_m_M_line : Room := { frames := 1, cells := 0, slots := 0, locals := 22 }
theorem ok_m_M_line : CalV y_M_line b_M_line 4 (some .int) 3 rm_m_M_line := ⟨kc_M_line, ki_M_line, kl_M_line, ji_M, ⟨by decide, by decide, by decide +kernel⟩, rfl, rfl⟩
set_option maxHeartbeats 4000000 in
set_option maxRecDepth 100000 in
theorem w_m_M_line {z : Int32 × St} (X : Cx b_M_line 4 (some .int) R_M D [(cI, .int), (cZ, .boolean), (cJ, .long)] (mA ao aa) (mW cI cZ cJ ao aa) p s m args meth c) (S : St) (x0 : Int32) (x1 : Int32) (x2 : Int32) (hf : m_M_line S x0 x1 x2 = some z) : WX rm_m_M_line D (mA ao aa) (mW cI cZ cJ ao aa) p l e s m args below meth c (some (.int z.1)) z.2 0 [] 4 [(0, .ref (ao 0)), (1, .int x0), (2, .int x1), (3, .int x2)] S := by
  intro H locs ls hP hS hl
  obtain ⟨hx, hb, hr0, hml, hown, htg, hlk, hK, hN, hI⟩ := id X
  unfold m_M_line at hf
  refine lv_iload_n hx hb d_M_line_0 rfl (lv_at hl 1 rfl) ?_
  refine lv_iconst (v := 0) hx hb d_M_line_1 (by decide) ?_
  refine lv_aload_n hx hb d_M_line_2 rfl (lv_at hl 0 rfl) ?_
  refine va_get (D := D) (v := .int (gI S 0)) hx hb htg in_M hown hK hP 0 mo_0 rfl 0 (by decide) (htg _ k_f_M_127) (fun _ h9 => h9) rfl d_M_line_3 ?_
  refine lv_iconst (v := 1) hx hb d_M_line_6 (by decide) ?_
  refine lv_isub hx hb d_M_line_7 ?_
  obtain ⟨q1, he, hf⟩ := ob_some hf
  refine cl_Si (As := [.int x0, .int (0 : Int32), .int ((gI S 0) - (1 : Int32))]) (rest := []) X (c_m_M_within he) ok_m_M_within k_m_M_112 rfl rfl hl.1 (Nat.le_of_ble_eq_true rfl) d_M_line_8 ⟨by decide, by decide⟩ hP hS (fun H locs hP hS => ?_)
  refine lv_if_ne (tgt := 17) hx hb d_M_line_11 (by decide) (fun c => ?_) (fun c => ?_)
  · have hf := if_f hf c
    refine lv_iload_n hx hb d_M_line_17 rfl (lv_at hl 2 rfl) ?_
    refine lv_iconst (v := 1) hx hb d_M_line_18 (by decide) ?_
    refine lv_sipush (v := 9999) hx hb d_M_line_19 (by decide) ?_
    obtain ⟨q2, he, hf⟩ := ob_some hf
    refine cl_Si (As := [.int x1, .int (1 : Int32), .int (9999 : Int32)]) (rest := []) X (c_m_M_within he) ok_m_M_within k_m_M_112 rfl rfl hl.1 (Nat.le_of_ble_eq_true rfl) d_M_line_22 ⟨by decide, by decide⟩ hP hS (fun H locs hP hS => ?_)
    refine lv_if_ne (tgt := 31) hx hb d_M_line_25 (by decide) (fun c => ?_) (fun c => ?_)
    · have hf := if_f hf c
      refine lv_aload_n hx hb d_M_line_31 rfl (lv_at hl 0 rfl) ?_
      refine va_get (D := D) (v := .int (gI q2.2 2)) hx hb htg in_M hown hK hP 0 mo_0 rfl 4 (by decide) (htg _ k_f_M_134) (fun _ h9 => h9) rfl d_M_line_32 ?_
      refine lv_bipush (v := 60) hx hb d_M_line_35 (by decide) ?_
      refine lv_icmp_ne (tgt := 43) hx hb d_M_line_37 (by decide) (fun c => ?_) (fun c => ?_)
      · have hf := if_f hf c
        refine lv_aload_n hx hb d_M_line_43 rfl (lv_at hl 0 rfl) ?_
        refine va_get (D := D) (v := .ref (aa 2)) hx hb htg in_M hown hK hP 0 mo_0 rfl 5 (by decide) (htg _ k_f_M_16) (fun _ h9 => h9) rfl d_M_line_44 ?_
        refine lv_aload_n hx hb d_M_line_47 rfl (lv_at hl 0 rfl) ?_
        refine va_get (D := D) (v := .int (gI q2.2 2)) hx hb htg in_M hown hK hP 0 mo_0 rfl 4 (by decide) (htg _ k_f_M_134) (fun _ h9 => h9) rfl d_M_line_48 ?_
        refine lv_iload_n hx hb d_M_line_51 rfl (lv_at hl 1 rfl) ?_
        obtain ⟨hg, hf⟩ := gd_some hf
        refine va_iast hx hb hK hP (hI _) hS 3 0 ma_2 rfl (vin_in hg) d_M_line_52 (fun H locs hP _ hS => ?_)
        replace hP : va_P D classes (mW cI cZ cJ ao aa (sA q2.2 2 (gI q2.2 2).toNatClampNeg x0)) H := pw mt_2 hP
        refine lv_aload_n hx hb d_M_line_53 rfl (lv_at hl 0 rfl) ?_
        refine va_get (D := D) (v := .ref (aa 3)) hx hb htg in_M hown hK hP 0 mo_0 rfl 6 (by decide) (htg _ k_f_M_19) (fun _ h9 => h9) rfl d_M_line_54 ?_
        refine lv_aload_n hx hb d_M_line_57 rfl (lv_at hl 0 rfl) ?_
        refine va_get (D := D) (v := .int (gI (sA q2.2 2 (gI q2.2 2).toNatClampNeg x0) 2)) hx hb htg in_M hown hK hP 0 mo_0 rfl 4 (by decide) (htg _ k_f_M_134) (fun _ h9 => h9) rfl d_M_line_58 ?_
        refine lv_iload_n hx hb d_M_line_61 rfl (lv_at hl 2 rfl) ?_
        obtain ⟨hg, hf⟩ := gd_some hf
        refine va_iast hx hb hK hP (hI _) hS 4 0 ma_3 rfl (vin_in hg) d_M_line_62 (fun H locs hP _ hS => ?_)
        replace hP : va_P D classes (mW cI cZ cJ ao aa (sA (sA q2.2 2 (gI q2.2 2).toNatClampNeg x0) 3 (gI (sA q2.2 2 (gI q2.2 2).toNatClampNeg x0) 2).toNatClampNeg x1)) H := pw mt_3 hP
        refine lv_aload_n hx hb d_M_line_63 rfl (lv_at hl 0 rfl) ?_
        refine va_get (D := D) (v := .ref (aa 4)) hx hb htg in_M hown hK hP 0 mo_0 rfl 7 (by decide) (htg _ k_f_M_22) (fun _ h9 => h9) rfl d_M_line_64 ?_
        refine lv_aload_n hx hb d_M_line_67 rfl (lv_at hl 0 rfl) ?_
        refine va_get (D := D) (v := .int (gI (sA (sA q2.2 2 (gI q2.2 2).toNatClampNeg x0) 3 (gI (sA q2.2 2 (gI q2.2 2).toNatClampNeg x0) 2).toNatClampNeg x1) 2)) hx hb htg in_M hown hK hP 0 mo_0 rfl 4 (by decide) (htg _ k_f_M_134) (fun _ h9 => h9) rfl d_M_line_68 ?_
        refine lv_iload_n hx hb d_M_line_71 rfl (lv_at hl 3 rfl) ?_
        obtain ⟨hg, hf⟩ := gd_some hf
        refine va_zast hx hb hK hP (hI _) hS 5 1 ma_4 rfl (vin_in hg) d_M_line_72 (fun H locs hP _ hS => ?_)
        replace hP : va_P D classes (mW cI cZ cJ ao aa (sA (sA (sA q2.2 2 (gI q2.2 2).toNatClampNeg x0) 3 (gI (sA q2.2 2 (gI q2.2 2).toNatClampNeg x0) 2).toNatClampNeg x1) 4 (gI (sA (sA q2.2 2 (gI q2.2 2).toNatClampNeg x0) 3 (gI (sA q2.2 2 (gI q2.2 2).toNatClampNeg x0) 2).toNatClampNeg x1) 2).toNatClampNeg (vp_nar .boolean x2))) H := pw mt_4 hP
        refine lv_aload_n hx hb d_M_line_73 rfl (lv_at hl 0 rfl) ?_
        refine va_get (D := D) (v := .ref (aa 5)) hx hb htg in_M hown hK hP 0 mo_0 rfl 8 (by decide) (htg _ k_f_M_26) (fun _ h9 => h9) rfl d_M_line_74 ?_
        refine lv_aload_n hx hb d_M_line_77 rfl (lv_at hl 0 rfl) ?_
        refine va_get (D := D) (v := .int (gI (sA (sA (sA q2.2 2 (gI q2.2 2).toNatClampNeg x0) 3 (gI (sA q2.2 2 (gI q2.2 2).toNatClampNeg x0) 2).toNatClampNeg x1) 4 (gI (sA (sA q2.2 2 (gI q2.2 2).toNatClampNeg x0) 3 (gI (sA q2.2 2 (gI q2.2 2).toNatClampNeg x0) 2).toNatClampNeg x1) 2).toNatClampNeg (vp_nar .boolean x2)) 2)) hx hb htg in_M hown hK hP 0 mo_0 rfl 4 (by decide) (htg _ k_f_M_134) (fun _ h9 => h9) rfl d_M_line_78 ?_
        refine lv_iconst (v := 0) hx hb d_M_line_81 (by decide) ?_
        obtain ⟨hg, hf⟩ := gd_some hf
        refine va_iast hx hb hK hP (hI _) hS 6 0 ma_5 rfl (vin_in hg) d_M_line_82 (fun H locs hP _ hS => ?_)
        replace hP : va_P D classes (mW cI cZ cJ ao aa (sA (sA (sA (sA q2.2 2 (gI q2.2 2).toNatClampNeg x0) 3 (gI (sA q2.2 2 (gI q2.2 2).toNatClampNeg x0) 2).toNatClampNeg x1) 4 (gI (sA (sA q2.2 2 (gI q2.2 2).toNatClampNeg x0) 3 (gI (sA q2.2 2 (gI q2.2 2).toNatClampNeg x0) 2).toNatClampNeg x1) 2).toNatClampNeg (vp_nar .boolean x2)) 5 (gI (sA (sA (sA q2.2 2 (gI q2.2 2).toNatClampNeg x0) 3 (gI (sA q2.2 2 (gI q2.2 2).toNatClampNeg x0) 2).toNatClampNeg x1) 4 (gI (sA (sA q2.2 2 (gI q2.2 2).toNatClampNeg x0) 3 (gI (sA q2.2 2 (gI q2.2 2).toNatClampNeg x0) 2).toNatClampNeg x1) 2).toNatClampNeg (vp_nar .boolean x2)) 2).toNatClampNeg (0 : Int32))) H := pw mt_5 hP
        refine lv_aload_n hx hb d_M_line_83 rfl (lv_at hl 0 rfl) ?_
        refine lv_dup hx hb d_M_line_84 rfl ?_
        refine va_get (D := D) (v := .int (gI (sA (sA (sA (sA q2.2 2 (gI q2.2 2).toNatClampNeg x0) 3 (gI (sA q2.2 2 (gI q2.2 2).toNatClampNeg x0) 2).toNatClampNeg x1) 4 (gI (sA (sA q2.2 2 (gI q2.2 2).toNatClampNeg x0) 3 (gI (sA q2.2 2 (gI q2.2 2).toNatClampNeg x0) 2).toNatClampNeg x1) 2).toNatClampNeg (vp_nar .boolean x2)) 5 (gI (sA (sA (sA q2.2 2 (gI q2.2 2).toNatClampNeg x0) 3 (gI (sA q2.2 2 (gI q2.2 2).toNatClampNeg x0) 2).toNatClampNeg x1) 4 (gI (sA (sA q2.2 2 (gI q2.2 2).toNatClampNeg x0) 3 (gI (sA q2.2 2 (gI q2.2 2).toNatClampNeg x0) 2).toNatClampNeg x1) 2).toNatClampNeg (vp_nar .boolean x2)) 2).toNatClampNeg (0 : Int32)) 2)) hx hb htg in_M hown hK hP 0 mo_0 rfl 4 (by decide) (htg _ k_f_M_134) (fun _ h9 => h9) rfl d_M_line_85 ?_
        refine lv_iconst (v := 1) hx hb d_M_line_88 (by decide) ?_
        refine lv_iadd hx hb d_M_line_89 ?_
        refine va_put (D := D) (ty := .int) hx hb htg in_M t_M t_M_ok n_M hown hK hP (hI _) hS 0 mo_0 rfl 4 (by decide) (htg _ k_f_M_134) (fun _ h9 => h9) rfl (by decide +kernel) rfl rfl (Nat.le_of_ble_eq_true rfl) d_M_line_90 (fun H locs hP _ hS => ?_)
        replace hP : va_P D classes (mW cI cZ cJ ao aa (sI (sA (sA (sA (sA q2.2 2 (gI q2.2 2).toNatClampNeg x0) 3 (gI (sA q2.2 2 (gI q2.2 2).toNatClampNeg x0) 2).toNatClampNeg x1) 4 (gI (sA (sA q2.2 2 (gI q2.2 2).toNatClampNeg x0) 3 (gI (sA q2.2 2 (gI q2.2 2).toNatClampNeg x0) 2).toNatClampNeg x1) 2).toNatClampNeg (vp_nar .boolean x2)) 5 (gI (sA (sA (sA q2.2 2 (gI q2.2 2).toNatClampNeg x0) 3 (gI (sA q2.2 2 (gI q2.2 2).toNatClampNeg x0) 2).toNatClampNeg x1) 4 (gI (sA (sA q2.2 2 (gI q2.2 2).toNatClampNeg x0) 3 (gI (sA q2.2 2 (gI q2.2 2).toNatClampNeg x0) 2).toNatClampNeg x1) 2).toNatClampNeg (vp_nar .boolean x2)) 2).toNatClampNeg (0 : Int32)) 2 ((gI (sA (sA (sA (sA q2.2 2 (gI q2.2 2).toNatClampNeg x0) 3 (gI (sA q2.2 2 (gI q2.2 2).toNatClampNeg x0) 2).toNatClampNeg x1) 4 (gI (sA (sA q2.2 2 (gI q2.2 2).toNatClampNeg x0) 3 (gI (sA q2.2 2 (gI q2.2 2).toNatClampNeg x0) 2).toNatClampNeg x1) 2).toNatClampNeg (vp_nar .boolean x2)) 5 (gI (sA (sA (sA q2.2 2 (gI q2.2 2).toNatClampNeg x0) 3 (gI (sA q2.2 2 (gI q2.2 2).toNatClampNeg x0) 2).toNatClampNeg x1) 4 (gI (sA (sA q2.2 2 (gI q2.2 2).toNatClampNeg x0) 3 (gI (sA q2.2 2 (gI q2.2 2).toNatClampNeg x0) 2).toNatClampNeg x1) 2).toNatClampNeg (vp_nar .boolean x2)) 2).toNatClampNeg (0 : Int32)) 2) + (1 : Int32)))) H := pw ms_0_lines hP
        refine lv_aload_n hx hb d_M_line_93 rfl (lv_at hl 0 rfl) ?_
        refine va_get (D := D) (v := .int (gI (sI (sA (sA (sA (sA q2.2 2 (gI q2.2 2).toNatClampNeg x0) 3 (gI (sA q2.2 2 (gI q2.2 2).toNatClampNeg x0) 2).toNatClampNeg x1) 4 (gI (sA (sA q2.2 2 (gI q2.2 2).toNatClampNeg x0) 3 (gI (sA q2.2 2 (gI q2.2 2).toNatClampNeg x0) 2).toNatClampNeg x1) 2).toNatClampNeg (vp_nar .boolean x2)) 5 (gI (sA (sA (sA q2.2 2 (gI q2.2 2).toNatClampNeg x0) 3 (gI (sA q2.2 2 (gI q2.2 2).toNatClampNeg x0) 2).toNatClampNeg x1) 4 (gI (sA (sA q2.2 2 (gI q2.2 2).toNatClampNeg x0) 3 (gI (sA q2.2 2 (gI q2.2 2).toNatClampNeg x0) 2).toNatClampNeg x1) 2).toNatClampNeg (vp_nar .boolean x2)) 2).toNatClampNeg (0 : Int32)) 2 ((gI (sA (sA (sA (sA q2.2 2 (gI q2.2 2).toNatClampNeg x0) 3 (gI (sA q2.2 2 (gI q2.2 2).toNatClampNeg x0) 2).toNatClampNeg x1) 4 (gI (sA (sA q2.2 2 (gI q2.2 2).toNatClampNeg x0) 3 (gI (sA q2.2 2 (gI q2.2 2).toNatClampNeg x0) 2).toNatClampNeg x1) 2).toNatClampNeg (vp_nar .boolean x2)) 5 (gI (sA (sA (sA q2.2 2 (gI q2.2 2).toNatClampNeg x0) 3 (gI (sA q2.2 2 (gI q2.2 2).toNatClampNeg x0) 2).toNatClampNeg x1) 4 (gI (sA (sA q2.2 2 (gI q2.2 2).toNatClampNeg x0) 3 (gI (sA q2.2 2 (gI q2.2 2).toNatClampNeg x0) 2).toNatClampNeg x1) 2).toNatClampNeg (vp_nar .boolean x2)) 2).toNatClampNeg (0 : Int32)) 2) + (1 : Int32))) 2)) hx hb htg in_M hown hK hP 0 mo_0 rfl 4 (by decide) (htg _ k_f_M_134) (fun _ h9 => h9) rfl d_M_line_94 ?_
        refine lv_iconst (v := 1) hx hb d_M_line_97 (by decide) ?_
        refine lv_isub hx hb d_M_line_98 ?_
        obtain rfl := Option.some.inj hf
        exact W.iret hx hb hr0 (fun t ht _ => ⟨⟨rfl, by rw [ht]; exact hP⟩, hS.F ht⟩) hS.2.2 d_M_line_99 hlk
      · have hf := if_t hf c
        refine lv_bipush (v := (-104)) hx hb d_M_line_40 (by decide) ?_
        obtain rfl := Option.some.inj hf
        exact W.iret hx hb hr0 (fun t ht _ => ⟨⟨rfl, by rw [ht]; exact hP⟩, hS.F ht⟩) hS.2.2 d_M_line_42 hlk
    · have hf := if_t hf c
      refine lv_bipush (v := (-102)) hx hb d_M_line_28 (by decide) ?_
      obtain rfl := Option.some.inj hf
      exact W.iret hx hb hr0 (fun t ht _ => ⟨⟨rfl, by rw [ht]; exact hP⟩, hS.F ht⟩) hS.2.2 d_M_line_30 hlk
  · have hf := if_t hf c
    refine lv_bipush (v := (-101)) hx hb d_M_line_14 (by decide) ?_
    obtain rfl := Option.some.inj hf
    exact W.iret hx hb hr0 (fun t ht _ => ⟨⟨rfl, by rw [ht]; exact hP⟩, hS.F ht⟩) hS.2.2 d_M_line_16 hlk
theorem c_m_M_line {l : Launch} {D : va_G} {cI cZ cJ : ClassId} {ao aa : Nat → Nat} {S : St} {x0 : Int32} {x1 : Int32} {x2 : Int32} {z : Int32 × St} (hz : m_M_line S x0 x1 x2 = some z) : Ct l y_M_line (.code y_M_line b_M_line 4 (some .int) :: gw) rm_m_M_line D [(cI, .int), (cZ, .boolean), (cJ, .long)] (mA ao aa) (mW cI cZ cJ ao aa) [.ref (ao 0), .int x0, .int x1, .int x2] S (some (.int z.1)) z.2 :=
  Ct_of (by decide) (fun p e s m args below meth c X => w_m_M_line X _ _ _ _ hz) (Nat.le_of_ble_eq_true rfl)
def m_M_isSlot (S : St) (x0 : Int32) : Option (Int32 × St) :=
  if x0 < (2 : Int32) then
    some ((0 : Int32), S)
  else
    some ((1 : Int32), S)
def rm_m_M_isSlot : Room := { frames := 0, cells := 0, slots := 0, locals := 0 }
theorem ok_m_M_isSlot : CalS y_M_isSlot b_M_isSlot 1 (some .boolean) 1 rm_m_M_isSlot := ⟨kc_M_isSlot, ks_M_isSlot, ji_M, ⟨by decide, by decide, by decide +kernel⟩, rfl, rfl⟩
set_option maxHeartbeats 4000000 in
set_option maxRecDepth 100000 in
theorem w_m_M_isSlot {z : Int32 × St} (X : Cx b_M_isSlot 1 (some .boolean) R_M D [(cI, .int), (cZ, .boolean), (cJ, .long)] (mA ao aa) (mW cI cZ cJ ao aa) p s m args meth c) (S : St) (x0 : Int32) (hf : m_M_isSlot S x0 = some z) : WX rm_m_M_isSlot D (mA ao aa) (mW cI cZ cJ ao aa) p l e s m args below meth c (some (.int z.1)) z.2 0 [] 1 [(0, .int x0)] S := by
  intro H locs ls hP hS hl
  obtain ⟨hx, hb, hr0, hml, hown, htg, hlk, hK, hN, hI⟩ := id X
  unfold m_M_isSlot at hf
  refine lv_iload_n hx hb d_M_isSlot_0 rfl (lv_at hl 0 rfl) ?_
  refine lv_iconst (v := 2) hx hb d_M_isSlot_1 (by decide) ?_
  refine lv_icmp_lt (tgt := 9) hx hb d_M_isSlot_2 (by decide) (fun c => ?_) (fun c => ?_)
  · have hf := if_t hf c
    refine lv_iconst (v := 0) hx hb d_M_isSlot_9 (by decide) ?_
    obtain rfl := Option.some.inj hf
    exact W.zret (ty := .boolean) hx hb hr0 rfl (fun t ht _ => ⟨⟨rfl, by rw [ht]; exact hP⟩, hS.F ht⟩) hS.2.2 d_M_isSlot_10 hlk
  · have hf := if_f hf c
    refine lv_iconst (v := 1) hx hb d_M_isSlot_5 (by decide) ?_
    refine lv_goto (tgt := 10) hx hb d_M_isSlot_6 (by decide) ?_
    obtain rfl := Option.some.inj hf
    exact W.zret (ty := .boolean) hx hb hr0 rfl (fun t ht _ => ⟨⟨rfl, by rw [ht]; exact hP⟩, hS.F ht⟩) hS.2.2 d_M_isSlot_10 hlk
theorem c_m_M_isSlot {l : Launch} {D : va_G} {cI cZ cJ : ClassId} {ao aa : Nat → Nat} {S : St} {x0 : Int32} {z : Int32 × St} (hz : m_M_isSlot S x0 = some z) : Ct l y_M_isSlot (.code y_M_isSlot b_M_isSlot 1 (some .boolean) :: gw) rm_m_M_isSlot D [(cI, .int), (cZ, .boolean), (cJ, .long)] (mA ao aa) (mW cI cZ cJ ao aa) [.int x0] S (some (.int z.1)) z.2 :=
  Ct_of (by decide) (fun p e s m args below meth c X => w_m_M_isSlot X _ _ hz) (Nat.le_of_ble_eq_true rfl)
def m_M_token_b181 (S : St) (x1 : Int32) (x2 : Int32) (x3 : Int32) (x4 : Int32) : Option (Int32 × St) :=
  if x4 = (8 : Int32) then
    some ((-104 : Int32), S)
  else
    gd (vin (((8 : Int32) * x1) + x4) 480) <|
    gd (vin (((8 : Int32) * x1) + x4) 480) <|
    gd (vin x1 60) <|
    gd (vin x1 60) <|
    some ((x4 + (1 : Int32)), (sA (sA (sA S 6 (((8 : Int32) * x1) + x4).toNatClampNeg x2) 7 (((8 : Int32) * x1) + x4).toNatClampNeg x3) 5 x1.toNatClampNeg ((gA (sA (sA S 6 (((8 : Int32) * x1) + x4).toNatClampNeg x2) 7 (((8 : Int32) * x1) + x4).toNatClampNeg x3) 5 x1.toNatClampNeg) + (1 : Int32))))
def m_M_token_b167 (S : St) (x1 : Int32) (x2 : Int32) (x3 : Int32) (x4 : Int32) (x5 : Int32) : Option (Int32 × St) :=
  if x5 = (9 : Int32) then
    if x2 = 0 then
      m_M_token_b181 S x1 x2 x3 x4
    else
      some ((-103 : Int32), S)
  else
    m_M_token_b181 S x1 x2 x3 x4
def m_M_token_b154 (S : St) (x1 : Int32) (x2 : Int32) (x3 : Int32) (x4 : Int32) (x5 : Int32) (x6 : Int32) : Option (Int32 × St) :=
  (m_M_isSlot S x2).bind fun q3 =>
  if q3.1 = 0 then
    m_M_token_b167 q3.2 x1 x2 x3 x4 x5
  else
    if x6 = (2 : Int32) then
      some ((-103 : Int32), q3.2)
    else
      m_M_token_b167 q3.2 x1 x2 x3 x4 x5
def m_M_token_b129 (k97 : St → Int32 → Int32 → Int32 → Int32 → Int32 → Int32 → Int32 → Option (Int32 × St)) (S : St) (x1 : Int32) (x2 : Int32) (x3 : Int32) (x4 : Int32) (x5 : Int32) (x7 : Int32) (s0 : Int32) (s1 : Int32) : Option (Int32 × St) :=
  k97 S x1 x2 x3 x4 x5 (s1 + s0) (x7 + 1)
def m_M_token_b97_f (k97 : St → Int32 → Int32 → Int32 → Int32 → Int32 → Int32 → Int32 → Option (Int32 × St)) (S : St) (x1 : Int32) (x2 : Int32) (x3 : Int32) (x4 : Int32) (x5 : Int32) (x6 : Int32) (x7 : Int32) : Option (Int32 × St) :=
  if x4 ≤ x7 then
    if x2 = (1 : Int32) then
      if x5 = 0 then
        m_M_token_b154 S x1 x2 x3 x4 x5 x6
      else
        if x5 = (1 : Int32) then
          m_M_token_b154 S x1 x2 x3 x4 x5 x6
        else
          some ((-103 : Int32), S)
    else
      m_M_token_b154 S x1 x2 x3 x4 x5 x6
  else
    gd (vin (((8 : Int32) * x1) + x7) 480) <|
    (m_M_isSlot S (gA S 6 (((8 : Int32) * x1) + x7).toNatClampNeg)).bind fun q4 =>
    if q4.1 = 0 then
      m_M_token_b129 k97 q4.2 x1 x2 x3 x4 x5 x7 (0 : Int32) x6
    else
      m_M_token_b129 k97 q4.2 x1 x2 x3 x4 x5 x7 (1 : Int32) x6
def m_M_token_b97 : Nat → St → Int32 → Int32 → Int32 → Int32 → Int32 → Int32 → Int32 → Option (Int32 × St)
  | 0, _, _, _, _, _, _, _, _ => none
  | n + 1, S, x1, x2, x3, x4, x5, x6, x7 => m_M_token_b97_f (m_M_token_b97 n) S x1 x2 x3 x4 x5 x6 x7
def m_M_token_b89 (S : St) (x1 : Int32) (x2 : Int32) (x3 : Int32) (x4 : Int32) (s0 : Int32) : Option (Int32 × St) :=
  m_M_token_b97 fu S x1 x2 x3 x4 s0 (0 : Int32) (0 : Int32)
def m_M_token_b58 (S : St) (x1 : Int32) (x2 : Int32) (x3 : Int32) : Option (Int32 × St) :=
  gd (vin x1 60) <|
  if (gA S 5 x1.toNatClampNeg) = 0 then
    m_M_token_b89 S x1 x2 x3 (gA S 5 x1.toNatClampNeg) (-1 : Int32)
  else
    gd (vin ((((8 : Int32) * x1) + (gA S 5 x1.toNatClampNeg)) - (1 : Int32)) 480) <|
    m_M_token_b89 S x1 x2 x3 (gA S 5 x1.toNatClampNeg) (gA S 6 ((((8 : Int32) * x1) + (gA S 5 x1.toNatClampNeg)) - (1 : Int32)).toNatClampNeg)
def m_M_token_b39 (S : St) (x1 : Int32) (x2 : Int32) (x3 : Int32) : Option (Int32 × St) :=
  if x2 = (11 : Int32) then
    (m_M_within S x3 (0 : Int32) (9 : Int32)).bind fun q5 =>
    if q5.1 = 0 then
      some ((-102 : Int32), q5.2)
    else
      m_M_token_b58 q5.2 x1 x2 x3
  else
    m_M_token_b58 S x1 x2 x3
def m_M_token (S : St) (x0 : Int32) (x1 : Int32) (x2 : Int32) : Option (Int32 × St) :=
  (m_M_within S x0 (0 : Int32) ((gI S 2) - (1 : Int32))).bind fun q1 =>
  if q1.1 = 0 then
    some ((-101 : Int32), q1.2)
  else
    (m_M_within q1.2 x1 (0 : Int32) (11 : Int32)).bind fun q2 =>
    if q2.1 = 0 then
      some ((-102 : Int32), q2.2)
    else
      if (1 : Int32) < x1 then
        m_M_token_b39 q2.2 x0 x1 x2
      else
        (m_M_isPlain q2.2 x2).bind fun q6 =>
        if q6.1 = 0 then
          some ((-102 : Int32), q6.2)
        else
          m_M_token_b39 q6.2 x0 x1 x2
def rm_m_M_token : Room := { frames := 2, cells := 0, slots := 0, locals := 42 }
theorem ok_m_M_token : CalV y_M_token b_M_token 8 (some .int) 3 rm_m_M_token := ⟨kc_M_token, ki_M_token, kl_M_token, ji_M, ⟨by decide, by decide, by decide +kernel⟩, rfl, rfl⟩
set_option maxHeartbeats 4000000 in
set_option maxRecDepth 100000 in
theorem w_m_M_token_b181 {z : Int32 × St} (X : Cx b_M_token 8 (some .int) R_M D [(cI, .int), (cZ, .boolean), (cJ, .long)] (mA ao aa) (mW cI cZ cJ ao aa) p s m args meth c) (S : St) (x1 : Int32) (x2 : Int32) (x3 : Int32) (x4 : Int32) (hf : m_M_token_b181 S x1 x2 x3 x4 = some z) : WX rm_m_M_token D (mA ao aa) (mW cI cZ cJ ao aa) p l e s m args below meth c (some (.int z.1)) z.2 181 [] 8 [(0, .ref (ao 0)), (1, .int x1), (2, .int x2), (3, .int x3), (4, .int x4)] S := by
  intro H locs ls hP hS hl
  obtain ⟨hx, hb, hr0, hml, hown, htg, hlk, hK, hN, hI⟩ := id X
  unfold m_M_token_b181 at hf
  refine lv_iload hx hb d_M_token_181 (lv_at hl 4 rfl) ?_
  refine lv_bipush (v := 8) hx hb d_M_token_183 (by decide) ?_
  refine lv_icmp_ne (tgt := 191) hx hb d_M_token_185 (by decide) (fun c => ?_) (fun c => ?_)
  · have hf := if_f hf c
    refine lv_aload_n hx hb d_M_token_191 rfl (lv_at hl 0 rfl) ?_
    refine va_get (D := D) (v := .ref (aa 6)) hx hb htg in_M hown hK hP 0 mo_0 rfl 9 (by decide) (htg _ k_f_M_29) (fun _ h9 => h9) rfl d_M_token_192 ?_
    refine lv_bipush (v := 8) hx hb d_M_token_195 (by decide) ?_
    refine lv_iload_n hx hb d_M_token_197 rfl (lv_at hl 1 rfl) ?_
    refine lv_imul hx hb d_M_token_198 ?_
    refine lv_iload hx hb d_M_token_199 (lv_at hl 4 rfl) ?_
    refine lv_iadd hx hb d_M_token_201 ?_
    refine lv_iload_n hx hb d_M_token_202 rfl (lv_at hl 2 rfl) ?_
    obtain ⟨hg, hf⟩ := gd_some hf
    refine va_iast hx hb hK hP (hI _) hS 7 0 ma_6 rfl (vin_in hg) d_M_token_203 (fun H locs hP _ hS => ?_)
    replace hP : va_P D classes (mW cI cZ cJ ao aa (sA S 6 (((8 : Int32) * x1) + x4).toNatClampNeg x2)) H := pw mt_6 hP
    refine lv_aload_n hx hb d_M_token_204 rfl (lv_at hl 0 rfl) ?_
    refine va_get (D := D) (v := .ref (aa 7)) hx hb htg in_M hown hK hP 0 mo_0 rfl 10 (by decide) (htg _ k_f_M_32) (fun _ h9 => h9) rfl d_M_token_205 ?_
    refine lv_bipush (v := 8) hx hb d_M_token_208 (by decide) ?_
    refine lv_iload_n hx hb d_M_token_210 rfl (lv_at hl 1 rfl) ?_
    refine lv_imul hx hb d_M_token_211 ?_
    refine lv_iload hx hb d_M_token_212 (lv_at hl 4 rfl) ?_
    refine lv_iadd hx hb d_M_token_214 ?_
    refine lv_iload_n hx hb d_M_token_215 rfl (lv_at hl 3 rfl) ?_
    obtain ⟨hg, hf⟩ := gd_some hf
    refine va_iast hx hb hK hP (hI _) hS 8 0 ma_7 rfl (vin_in hg) d_M_token_216 (fun H locs hP _ hS => ?_)
    replace hP : va_P D classes (mW cI cZ cJ ao aa (sA (sA S 6 (((8 : Int32) * x1) + x4).toNatClampNeg x2) 7 (((8 : Int32) * x1) + x4).toNatClampNeg x3)) H := pw mt_7 hP
    refine lv_aload_n hx hb d_M_token_217 rfl (lv_at hl 0 rfl) ?_
    refine va_get (D := D) (v := .ref (aa 5)) hx hb htg in_M hown hK hP 0 mo_0 rfl 8 (by decide) (htg _ k_f_M_26) (fun _ h9 => h9) rfl d_M_token_218 ?_
    refine lv_iload_n hx hb d_M_token_221 rfl (lv_at hl 1 rfl) ?_
    refine lv_dup2_11 hx hb d_M_token_222 rfl rfl ?_
    obtain ⟨hg, hf⟩ := gd_some hf
    refine va_iald hx hb hK hP 6 0 ma_5 rfl (vin_in hg) d_M_token_223 ?_
    refine lv_iconst (v := 1) hx hb d_M_token_224 (by decide) ?_
    refine lv_iadd hx hb d_M_token_225 ?_
    obtain ⟨hg, hf⟩ := gd_some hf
    refine va_iast hx hb hK hP (hI _) hS 6 0 ma_5 rfl (vin_in hg) d_M_token_226 (fun H locs hP _ hS => ?_)
    replace hP : va_P D classes (mW cI cZ cJ ao aa (sA (sA (sA S 6 (((8 : Int32) * x1) + x4).toNatClampNeg x2) 7 (((8 : Int32) * x1) + x4).toNatClampNeg x3) 5 x1.toNatClampNeg ((gA (sA (sA S 6 (((8 : Int32) * x1) + x4).toNatClampNeg x2) 7 (((8 : Int32) * x1) + x4).toNatClampNeg x3) 5 x1.toNatClampNeg) + (1 : Int32)))) H := pw mt_5 hP
    refine lv_iload hx hb d_M_token_227 (lv_at hl 4 rfl) ?_
    refine lv_iconst (v := 1) hx hb d_M_token_229 (by decide) ?_
    refine lv_iadd hx hb d_M_token_230 ?_
    obtain rfl := Option.some.inj hf
    exact W.iret hx hb hr0 (fun t ht _ => ⟨⟨rfl, by rw [ht]; exact hP⟩, hS.F ht⟩) hS.2.2 d_M_token_231 hlk
  · have hf := if_t hf c
    refine lv_bipush (v := (-104)) hx hb d_M_token_188 (by decide) ?_
    obtain rfl := Option.some.inj hf
    exact W.iret hx hb hr0 (fun t ht _ => ⟨⟨rfl, by rw [ht]; exact hP⟩, hS.F ht⟩) hS.2.2 d_M_token_190 hlk
set_option maxHeartbeats 4000000 in
set_option maxRecDepth 100000 in
theorem w_m_M_token_b167 {z : Int32 × St} (X : Cx b_M_token 8 (some .int) R_M D [(cI, .int), (cZ, .boolean), (cJ, .long)] (mA ao aa) (mW cI cZ cJ ao aa) p s m args meth c) (S : St) (x1 : Int32) (x2 : Int32) (x3 : Int32) (x4 : Int32) (x5 : Int32) (hf : m_M_token_b167 S x1 x2 x3 x4 x5 = some z) : WX rm_m_M_token D (mA ao aa) (mW cI cZ cJ ao aa) p l e s m args below meth c (some (.int z.1)) z.2 167 [] 8 [(0, .ref (ao 0)), (1, .int x1), (2, .int x2), (3, .int x3), (4, .int x4), (5, .int x5)] S := by
  intro H locs ls hP hS hl
  obtain ⟨hx, hb, hr0, hml, hown, htg, hlk, hK, hN, hI⟩ := id X
  unfold m_M_token_b167 at hf
  refine lv_iload hx hb d_M_token_167 (lv_at hl 5 rfl) ?_
  refine lv_bipush (v := 9) hx hb d_M_token_169 (by decide) ?_
  refine lv_icmp_ne (tgt := 181) hx hb d_M_token_171 (by decide) (fun c => ?_) (fun c => ?_)
  · have hf := if_f hf c
    exact w_m_M_token_b181 X _ _ _ _ _ hf H locs ls hP hS (lv_sub hl [0, 1, 2, 3, 4] rfl)
  · have hf := if_t hf c
    refine lv_iload_n hx hb d_M_token_174 rfl (lv_at hl 2 rfl) ?_
    refine lv_if_eq (tgt := 181) hx hb d_M_token_175 (by decide) (fun c => ?_) (fun c => ?_)
    · have hf := if_t hf c
      exact w_m_M_token_b181 X _ _ _ _ _ hf H locs ls hP hS (lv_sub hl [0, 1, 2, 3, 4] rfl)
    · have hf := if_f hf c
      refine lv_bipush (v := (-103)) hx hb d_M_token_178 (by decide) ?_
      obtain rfl := Option.some.inj hf
      exact W.iret hx hb hr0 (fun t ht _ => ⟨⟨rfl, by rw [ht]; exact hP⟩, hS.F ht⟩) hS.2.2 d_M_token_180 hlk
set_option maxHeartbeats 4000000 in
set_option maxRecDepth 100000 in
theorem w_m_M_token_b154 {z : Int32 × St} (X : Cx b_M_token 8 (some .int) R_M D [(cI, .int), (cZ, .boolean), (cJ, .long)] (mA ao aa) (mW cI cZ cJ ao aa) p s m args meth c) (S : St) (x1 : Int32) (x2 : Int32) (x3 : Int32) (x4 : Int32) (x5 : Int32) (x6 : Int32) (hf : m_M_token_b154 S x1 x2 x3 x4 x5 x6 = some z) : WX rm_m_M_token D (mA ao aa) (mW cI cZ cJ ao aa) p l e s m args below meth c (some (.int z.1)) z.2 154 [] 8 [(0, .ref (ao 0)), (1, .int x1), (2, .int x2), (3, .int x3), (4, .int x4), (5, .int x5), (6, .int x6)] S := by
  intro H locs ls hP hS hl
  obtain ⟨hx, hb, hr0, hml, hown, htg, hlk, hK, hN, hI⟩ := id X
  unfold m_M_token_b154 at hf
  refine lv_iload_n hx hb d_M_token_154 rfl (lv_at hl 2 rfl) ?_
  obtain ⟨q3, he, hf⟩ := ob_some hf
  refine cl_Si (As := [.int x2]) (rest := []) X (c_m_M_isSlot he) ok_m_M_isSlot k_m_M_137 rfl rfl hl.1 (Nat.le_of_ble_eq_true rfl) d_M_token_155 ⟨by decide, by decide⟩ hP hS (fun H locs hP hS => ?_)
  refine lv_if_eq (tgt := 167) hx hb d_M_token_158 (by decide) (fun c => ?_) (fun c => ?_)
  · have hf := if_t hf c
    exact w_m_M_token_b167 X _ _ _ _ _ _ hf H locs ls hP hS (lv_sub hl [0, 1, 2, 3, 4, 5] rfl)
  · have hf := if_f hf c
    refine lv_iload hx hb d_M_token_161 (lv_at hl 6 rfl) ?_
    refine lv_iconst (v := 2) hx hb d_M_token_163 (by decide) ?_
    refine lv_icmp_eq (tgt := 178) hx hb d_M_token_164 (by decide) (fun c => ?_) (fun c => ?_)
    · have hf := if_t hf c
      refine lv_bipush (v := (-103)) hx hb d_M_token_178 (by decide) ?_
      obtain rfl := Option.some.inj hf
      exact W.iret hx hb hr0 (fun t ht _ => ⟨⟨rfl, by rw [ht]; exact hP⟩, hS.F ht⟩) hS.2.2 d_M_token_180 hlk
    · have hf := if_f hf c
      exact w_m_M_token_b167 X _ _ _ _ _ _ hf H locs ls hP hS (lv_sub hl [0, 1, 2, 3, 4, 5] rfl)
set_option maxHeartbeats 4000000 in
set_option maxRecDepth 100000 in
theorem w_m_M_token_b129 {z : Int32 × St} (X : Cx b_M_token 8 (some .int) R_M D [(cI, .int), (cZ, .boolean), (cJ, .long)] (mA ao aa) (mW cI cZ cJ ao aa) p s m args meth c) {k97 : St → Int32 → Int32 → Int32 → Int32 → Int32 → Int32 → Int32 → Option (Int32 × St)} (hk97 : ∀ (S : St) (x1 : Int32) (x2 : Int32) (x3 : Int32) (x4 : Int32) (x5 : Int32) (x6 : Int32) (x7 : Int32), k97 S x1 x2 x3 x4 x5 x6 x7 = some z → WX rm_m_M_token D (mA ao aa) (mW cI cZ cJ ao aa) p l e s m args below meth c (some (.int z.1)) z.2 97 [] 8 [(0, .ref (ao 0)), (1, .int x1), (2, .int x2), (3, .int x3), (4, .int x4), (5, .int x5), (6, .int x6), (7, .int x7)] S) (S : St) (x1 : Int32) (x2 : Int32) (x3 : Int32) (x4 : Int32) (x5 : Int32) (x7 : Int32) (s0 : Int32) (s1 : Int32) (hf : m_M_token_b129 k97 S x1 x2 x3 x4 x5 x7 s0 s1 = some z) : WX rm_m_M_token D (mA ao aa) (mW cI cZ cJ ao aa) p l e s m args below meth c (some (.int z.1)) z.2 129 [.int s0, .int s1] 8 [(0, .ref (ao 0)), (1, .int x1), (2, .int x2), (3, .int x3), (4, .int x4), (5, .int x5), (7, .int x7)] S := by
  intro H locs ls hP hS hl
  obtain ⟨hx, hb, hr0, hml, hown, htg, hlk, hK, hN, hI⟩ := id X
  unfold m_M_token_b129 at hf
  refine lv_iadd hx hb d_M_token_129 ?_
  refine lv_istore (lv' := [(6, .int (s1 + s0)), (0, .ref (ao 0)), (1, .int x1), (2, .int x2), (3, .int x3), (4, .int x4), (5, .int x5), (7, .int x7)]) hx hb d_M_token_130 hl (by decide) rfl (fun ls hl => ?_)
  refine lv_iinc (v := (x7 + 1)) (lv' := [(7, .int (x7 + 1)), (6, .int (s1 + s0)), (0, .ref (ao 0)), (1, .int x1), (2, .int x2), (3, .int x3), (4, .int x4), (5, .int x5)]) hx hb d_M_token_132 hl (k := 7) rfl rfl (by decide) rfl (fun ls hl => ?_)
  refine lv_goto (tgt := 97) hx hb d_M_token_135 (by decide) ?_
  exact hk97 _ _ _ _ _ _ _ _ hf H locs ls hP hS (lv_sub hl [2, 3, 4, 5, 6, 7, 1, 0] rfl)
set_option maxHeartbeats 4000000 in
set_option maxRecDepth 100000 in
theorem w_m_M_token_b97_f {z : Int32 × St} (X : Cx b_M_token 8 (some .int) R_M D [(cI, .int), (cZ, .boolean), (cJ, .long)] (mA ao aa) (mW cI cZ cJ ao aa) p s m args meth c) {k97 : St → Int32 → Int32 → Int32 → Int32 → Int32 → Int32 → Int32 → Option (Int32 × St)} (hk97 : ∀ (S : St) (x1 : Int32) (x2 : Int32) (x3 : Int32) (x4 : Int32) (x5 : Int32) (x6 : Int32) (x7 : Int32), k97 S x1 x2 x3 x4 x5 x6 x7 = some z → WX rm_m_M_token D (mA ao aa) (mW cI cZ cJ ao aa) p l e s m args below meth c (some (.int z.1)) z.2 97 [] 8 [(0, .ref (ao 0)), (1, .int x1), (2, .int x2), (3, .int x3), (4, .int x4), (5, .int x5), (6, .int x6), (7, .int x7)] S) (S : St) (x1 : Int32) (x2 : Int32) (x3 : Int32) (x4 : Int32) (x5 : Int32) (x6 : Int32) (x7 : Int32) (hf : m_M_token_b97_f k97 S x1 x2 x3 x4 x5 x6 x7 = some z) : WX rm_m_M_token D (mA ao aa) (mW cI cZ cJ ao aa) p l e s m args below meth c (some (.int z.1)) z.2 97 [] 8 [(0, .ref (ao 0)), (1, .int x1), (2, .int x2), (3, .int x3), (4, .int x4), (5, .int x5), (6, .int x6), (7, .int x7)] S := by
  intro H locs ls hP hS hl
  obtain ⟨hx, hb, hr0, hml, hown, htg, hlk, hK, hN, hI⟩ := id X
  unfold m_M_token_b97_f at hf
  refine lv_iload hx hb d_M_token_97 (lv_at hl 7 rfl) ?_
  refine lv_iload hx hb d_M_token_99 (lv_at hl 4 rfl) ?_
  refine lv_icmp_ge (tgt := 138) hx hb d_M_token_101 (by decide) (fun c => ?_) (fun c => ?_)
  · have hf := if_t hf c
    refine lv_iload_n hx hb d_M_token_138 rfl (lv_at hl 2 rfl) ?_
    refine lv_iconst (v := 1) hx hb d_M_token_139 (by decide) ?_
    refine lv_icmp_ne (tgt := 154) hx hb d_M_token_140 (by decide) (fun c => ?_) (fun c => ?_)
    · have hf := if_f hf c
      exact w_m_M_token_b154 X _ _ _ _ _ _ _ hf H locs ls hP hS (lv_sub hl [0, 1, 2, 3, 4, 5, 6] rfl)
    · have hf := if_t hf c
      refine lv_iload hx hb d_M_token_143 (lv_at hl 5 rfl) ?_
      refine lv_if_eq (tgt := 154) hx hb d_M_token_145 (by decide) (fun c => ?_) (fun c => ?_)
      · have hf := if_t hf c
        exact w_m_M_token_b154 X _ _ _ _ _ _ _ hf H locs ls hP hS (lv_sub hl [0, 1, 2, 3, 4, 5, 6] rfl)
      · have hf := if_f hf c
        refine lv_iload hx hb d_M_token_148 (lv_at hl 5 rfl) ?_
        refine lv_iconst (v := 1) hx hb d_M_token_150 (by decide) ?_
        refine lv_icmp_ne (tgt := 178) hx hb d_M_token_151 (by decide) (fun c => ?_) (fun c => ?_)
        · have hf := if_f hf c
          refine lv_bipush (v := (-103)) hx hb d_M_token_178 (by decide) ?_
          obtain rfl := Option.some.inj hf
          exact W.iret hx hb hr0 (fun t ht _ => ⟨⟨rfl, by rw [ht]; exact hP⟩, hS.F ht⟩) hS.2.2 d_M_token_180 hlk
        · have hf := if_t hf c
          exact w_m_M_token_b154 X _ _ _ _ _ _ _ hf H locs ls hP hS (lv_sub hl [0, 1, 2, 3, 4, 5, 6] rfl)
  · have hf := if_f hf c
    refine lv_iload hx hb d_M_token_104 (lv_at hl 6 rfl) ?_
    refine lv_aload_n hx hb d_M_token_106 rfl (lv_at hl 0 rfl) ?_
    refine va_get (D := D) (v := .ref (aa 6)) hx hb htg in_M hown hK hP 0 mo_0 rfl 9 (by decide) (htg _ k_f_M_29) (fun _ h9 => h9) rfl d_M_token_107 ?_
    refine lv_bipush (v := 8) hx hb d_M_token_110 (by decide) ?_
    refine lv_iload_n hx hb d_M_token_112 rfl (lv_at hl 1 rfl) ?_
    refine lv_imul hx hb d_M_token_113 ?_
    refine lv_iload hx hb d_M_token_114 (lv_at hl 7 rfl) ?_
    refine lv_iadd hx hb d_M_token_116 ?_
    obtain ⟨hg, hf⟩ := gd_some hf
    refine va_iald hx hb hK hP 7 0 ma_6 rfl (vin_in hg) d_M_token_117 ?_
    obtain ⟨q4, he, hf⟩ := ob_some hf
    refine cl_Si (As := [.int (gA S 6 (((8 : Int32) * x1) + x7).toNatClampNeg)]) (rest := [.int x6]) X (c_m_M_isSlot he) ok_m_M_isSlot k_m_M_137 rfl rfl hl.1 (Nat.le_of_ble_eq_true rfl) d_M_token_118 ⟨by decide, by decide⟩ hP hS (fun H locs hP hS => ?_)
    refine lv_if_eq (tgt := 128) hx hb d_M_token_121 (by decide) (fun c => ?_) (fun c => ?_)
    · have hf := if_t hf c
      refine lv_iconst (v := 0) hx hb d_M_token_128 (by decide) ?_
      exact w_m_M_token_b129 X hk97 _ _ _ _ _ _ _ _ _ hf H locs ls hP hS (lv_sub hl [0, 1, 2, 3, 4, 5, 7] rfl)
    · have hf := if_f hf c
      refine lv_iconst (v := 1) hx hb d_M_token_124 (by decide) ?_
      refine lv_goto (tgt := 129) hx hb d_M_token_125 (by decide) ?_
      exact w_m_M_token_b129 X hk97 _ _ _ _ _ _ _ _ _ hf H locs ls hP hS (lv_sub hl [0, 1, 2, 3, 4, 5, 7] rfl)
theorem w_m_M_token_b97 {z : Int32 × St} (X : Cx b_M_token 8 (some .int) R_M D [(cI, .int), (cZ, .boolean), (cJ, .long)] (mA ao aa) (mW cI cZ cJ ao aa) p s m args meth c) : ∀ (n : Nat) (S : St) (x1 : Int32) (x2 : Int32) (x3 : Int32) (x4 : Int32) (x5 : Int32) (x6 : Int32) (x7 : Int32), m_M_token_b97 n S x1 x2 x3 x4 x5 x6 x7 = some z → WX rm_m_M_token D (mA ao aa) (mW cI cZ cJ ao aa) p l e s m args below meth c (some (.int z.1)) z.2 97 [] 8 [(0, .ref (ao 0)), (1, .int x1), (2, .int x2), (3, .int x3), (4, .int x4), (5, .int x5), (6, .int x6), (7, .int x7)] S
  | 0, _, _, _, _, _, _, _, _, hf => ns hf
  | n + 1, _, _, _, _, _, _, _, _, hf => w_m_M_token_b97_f X (w_m_M_token_b97 X n) _ _ _ _ _ _ _ _ hf
set_option maxHeartbeats 4000000 in
set_option maxRecDepth 100000 in
theorem w_m_M_token_b89 {z : Int32 × St} (X : Cx b_M_token 8 (some .int) R_M D [(cI, .int), (cZ, .boolean), (cJ, .long)] (mA ao aa) (mW cI cZ cJ ao aa) p s m args meth c) (S : St) (x1 : Int32) (x2 : Int32) (x3 : Int32) (x4 : Int32) (s0 : Int32) (hf : m_M_token_b89 S x1 x2 x3 x4 s0 = some z) : WX rm_m_M_token D (mA ao aa) (mW cI cZ cJ ao aa) p l e s m args below meth c (some (.int z.1)) z.2 89 [.int s0] 8 [(0, .ref (ao 0)), (1, .int x1), (2, .int x2), (3, .int x3), (4, .int x4)] S := by
  intro H locs ls hP hS hl
  obtain ⟨hx, hb, hr0, hml, hown, htg, hlk, hK, hN, hI⟩ := id X
  unfold m_M_token_b89 at hf
  refine lv_istore (lv' := [(5, .int s0), (0, .ref (ao 0)), (1, .int x1), (2, .int x2), (3, .int x3), (4, .int x4)]) hx hb d_M_token_89 hl (by decide) rfl (fun ls hl => ?_)
  refine lv_iconst (v := 0) hx hb d_M_token_91 (by decide) ?_
  refine lv_istore (lv' := [(6, .int (0 : Int32)), (5, .int s0), (0, .ref (ao 0)), (1, .int x1), (2, .int x2), (3, .int x3), (4, .int x4)]) hx hb d_M_token_92 hl (by decide) rfl (fun ls hl => ?_)
  refine lv_iconst (v := 0) hx hb d_M_token_94 (by decide) ?_
  refine lv_istore (lv' := [(7, .int (0 : Int32)), (6, .int (0 : Int32)), (5, .int s0), (0, .ref (ao 0)), (1, .int x1), (2, .int x2), (3, .int x3), (4, .int x4)]) hx hb d_M_token_95 hl (by decide) rfl (fun ls hl => ?_)
  exact w_m_M_token_b97 X _ _ _ _ _ _ _ _ _ hf H locs ls hP hS (lv_sub hl [3, 4, 5, 6, 7, 2, 1, 0] rfl)
set_option maxHeartbeats 4000000 in
set_option maxRecDepth 100000 in
theorem w_m_M_token_b58 {z : Int32 × St} (X : Cx b_M_token 8 (some .int) R_M D [(cI, .int), (cZ, .boolean), (cJ, .long)] (mA ao aa) (mW cI cZ cJ ao aa) p s m args meth c) (S : St) (x1 : Int32) (x2 : Int32) (x3 : Int32) (hf : m_M_token_b58 S x1 x2 x3 = some z) : WX rm_m_M_token D (mA ao aa) (mW cI cZ cJ ao aa) p l e s m args below meth c (some (.int z.1)) z.2 58 [] 8 [(0, .ref (ao 0)), (1, .int x1), (2, .int x2), (3, .int x3)] S := by
  intro H locs ls hP hS hl
  obtain ⟨hx, hb, hr0, hml, hown, htg, hlk, hK, hN, hI⟩ := id X
  unfold m_M_token_b58 at hf
  refine lv_aload_n hx hb d_M_token_58 rfl (lv_at hl 0 rfl) ?_
  refine va_get (D := D) (v := .ref (aa 5)) hx hb htg in_M hown hK hP 0 mo_0 rfl 8 (by decide) (htg _ k_f_M_26) (fun _ h9 => h9) rfl d_M_token_59 ?_
  refine lv_iload_n hx hb d_M_token_62 rfl (lv_at hl 1 rfl) ?_
  obtain ⟨hg, hf⟩ := gd_some hf
  refine va_iald hx hb hK hP 6 0 ma_5 rfl (vin_in hg) d_M_token_63 ?_
  refine lv_istore (lv' := [(4, .int (gA S 5 x1.toNatClampNeg)), (0, .ref (ao 0)), (1, .int x1), (2, .int x2), (3, .int x3)]) hx hb d_M_token_64 hl (by decide) rfl (fun ls hl => ?_)
  refine lv_iload hx hb d_M_token_66 (lv_at hl 0 rfl) ?_
  refine lv_if_ne (tgt := 75) hx hb d_M_token_68 (by decide) (fun c => ?_) (fun c => ?_)
  · have hf := if_f hf c
    refine lv_aload_n hx hb d_M_token_75 rfl (lv_at hl 1 rfl) ?_
    refine va_get (D := D) (v := .ref (aa 6)) hx hb htg in_M hown hK hP 0 mo_0 rfl 9 (by decide) (htg _ k_f_M_29) (fun _ h9 => h9) rfl d_M_token_76 ?_
    refine lv_bipush (v := 8) hx hb d_M_token_79 (by decide) ?_
    refine lv_iload_n hx hb d_M_token_81 rfl (lv_at hl 2 rfl) ?_
    refine lv_imul hx hb d_M_token_82 ?_
    refine lv_iload hx hb d_M_token_83 (lv_at hl 0 rfl) ?_
    refine lv_iadd hx hb d_M_token_85 ?_
    refine lv_iconst (v := 1) hx hb d_M_token_86 (by decide) ?_
    refine lv_isub hx hb d_M_token_87 ?_
    obtain ⟨hg, hf⟩ := gd_some hf
    refine va_iald hx hb hK hP 7 0 ma_6 rfl (vin_in hg) d_M_token_88 ?_
    exact w_m_M_token_b89 X _ _ _ _ _ _ hf H locs ls hP hS (lv_sub hl [1, 2, 3, 4, 0] rfl)
  · have hf := if_t hf c
    refine lv_iconst (v := (-1)) hx hb d_M_token_71 (by decide) ?_
    refine lv_goto (tgt := 89) hx hb d_M_token_72 (by decide) ?_
    exact w_m_M_token_b89 X _ _ _ _ _ _ hf H locs ls hP hS (lv_sub hl [1, 2, 3, 4, 0] rfl)
set_option maxHeartbeats 4000000 in
set_option maxRecDepth 100000 in
theorem w_m_M_token_b39 {z : Int32 × St} (X : Cx b_M_token 8 (some .int) R_M D [(cI, .int), (cZ, .boolean), (cJ, .long)] (mA ao aa) (mW cI cZ cJ ao aa) p s m args meth c) (S : St) (x1 : Int32) (x2 : Int32) (x3 : Int32) (hf : m_M_token_b39 S x1 x2 x3 = some z) : WX rm_m_M_token D (mA ao aa) (mW cI cZ cJ ao aa) p l e s m args below meth c (some (.int z.1)) z.2 39 [] 8 [(0, .ref (ao 0)), (1, .int x1), (2, .int x2), (3, .int x3)] S := by
  intro H locs ls hP hS hl
  obtain ⟨hx, hb, hr0, hml, hown, htg, hlk, hK, hN, hI⟩ := id X
  unfold m_M_token_b39 at hf
  refine lv_iload_n hx hb d_M_token_39 rfl (lv_at hl 2 rfl) ?_
  refine lv_bipush (v := 11) hx hb d_M_token_40 (by decide) ?_
  refine lv_icmp_ne (tgt := 58) hx hb d_M_token_42 (by decide) (fun c => ?_) (fun c => ?_)
  · have hf := if_f hf c
    exact w_m_M_token_b58 X _ _ _ _ hf H locs ls hP hS (lv_sub hl [0, 1, 2, 3] rfl)
  · have hf := if_t hf c
    refine lv_iload_n hx hb d_M_token_45 rfl (lv_at hl 3 rfl) ?_
    refine lv_iconst (v := 0) hx hb d_M_token_46 (by decide) ?_
    refine lv_bipush (v := 9) hx hb d_M_token_47 (by decide) ?_
    obtain ⟨q5, he, hf⟩ := ob_some hf
    refine cl_Si (As := [.int x3, .int (0 : Int32), .int (9 : Int32)]) (rest := []) X (c_m_M_within he) ok_m_M_within k_m_M_112 rfl rfl hl.1 (Nat.le_of_ble_eq_true rfl) d_M_token_49 ⟨by decide, by decide⟩ hP hS (fun H locs hP hS => ?_)
    refine lv_if_ne (tgt := 58) hx hb d_M_token_52 (by decide) (fun c => ?_) (fun c => ?_)
    · have hf := if_f hf c
      exact w_m_M_token_b58 X _ _ _ _ hf H locs ls hP hS (lv_sub hl [0, 1, 2, 3] rfl)
    · have hf := if_t hf c
      refine lv_bipush (v := (-102)) hx hb d_M_token_55 (by decide) ?_
      obtain rfl := Option.some.inj hf
      exact W.iret hx hb hr0 (fun t ht _ => ⟨⟨rfl, by rw [ht]; exact hP⟩, hS.F ht⟩) hS.2.2 d_M_token_57 hlk
set_option maxHeartbeats 4000000 in
set_option maxRecDepth 100000 in
theorem w_m_M_token {z : Int32 × St} (X : Cx b_M_token 8 (some .int) R_M D [(cI, .int), (cZ, .boolean), (cJ, .long)] (mA ao aa) (mW cI cZ cJ ao aa) p s m args meth c) (S : St) (x0 : Int32) (x1 : Int32) (x2 : Int32) (hf : m_M_token S x0 x1 x2 = some z) : WX rm_m_M_token D (mA ao aa) (mW cI cZ cJ ao aa) p l e s m args below meth c (some (.int z.1)) z.2 0 [] 8 [(0, .ref (ao 0)), (1, .int x0), (2, .int x1), (3, .int x2)] S := by
  intro H locs ls hP hS hl
  obtain ⟨hx, hb, hr0, hml, hown, htg, hlk, hK, hN, hI⟩ := id X
  unfold m_M_token at hf
  refine lv_iload_n hx hb d_M_token_0 rfl (lv_at hl 1 rfl) ?_
  refine lv_iconst (v := 0) hx hb d_M_token_1 (by decide) ?_
  refine lv_aload_n hx hb d_M_token_2 rfl (lv_at hl 0 rfl) ?_
  refine va_get (D := D) (v := .int (gI S 2)) hx hb htg in_M hown hK hP 0 mo_0 rfl 4 (by decide) (htg _ k_f_M_134) (fun _ h9 => h9) rfl d_M_token_3 ?_
  refine lv_iconst (v := 1) hx hb d_M_token_6 (by decide) ?_
  refine lv_isub hx hb d_M_token_7 ?_
  obtain ⟨q1, he, hf⟩ := ob_some hf
  refine cl_Si (As := [.int x0, .int (0 : Int32), .int ((gI S 2) - (1 : Int32))]) (rest := []) X (c_m_M_within he) ok_m_M_within k_m_M_112 rfl rfl hl.1 (Nat.le_of_ble_eq_true rfl) d_M_token_8 ⟨by decide, by decide⟩ hP hS (fun H locs hP hS => ?_)
  refine lv_if_ne (tgt := 17) hx hb d_M_token_11 (by decide) (fun c => ?_) (fun c => ?_)
  · have hf := if_f hf c
    refine lv_iload_n hx hb d_M_token_17 rfl (lv_at hl 2 rfl) ?_
    refine lv_iconst (v := 0) hx hb d_M_token_18 (by decide) ?_
    refine lv_bipush (v := 11) hx hb d_M_token_19 (by decide) ?_
    obtain ⟨q2, he, hf⟩ := ob_some hf
    refine cl_Si (As := [.int x1, .int (0 : Int32), .int (11 : Int32)]) (rest := []) X (c_m_M_within he) ok_m_M_within k_m_M_112 rfl rfl hl.1 (Nat.le_of_ble_eq_true rfl) d_M_token_21 ⟨by decide, by decide⟩ hP hS (fun H locs hP hS => ?_)
    refine lv_if_eq (tgt := 55) hx hb d_M_token_24 (by decide) (fun c => ?_) (fun c => ?_)
    · have hf := if_t hf c
      refine lv_bipush (v := (-102)) hx hb d_M_token_55 (by decide) ?_
      obtain rfl := Option.some.inj hf
      exact W.iret hx hb hr0 (fun t ht _ => ⟨⟨rfl, by rw [ht]; exact hP⟩, hS.F ht⟩) hS.2.2 d_M_token_57 hlk
    · have hf := if_f hf c
      refine lv_iload_n hx hb d_M_token_27 rfl (lv_at hl 2 rfl) ?_
      refine lv_iconst (v := 1) hx hb d_M_token_28 (by decide) ?_
      refine lv_icmp_gt (tgt := 39) hx hb d_M_token_29 (by decide) (fun c => ?_) (fun c => ?_)
      · have hf := if_t hf c
        exact w_m_M_token_b39 X _ _ _ _ hf H locs ls hP hS (lv_sub hl [0, 1, 2, 3] rfl)
      · have hf := if_f hf c
        refine lv_iload_n hx hb d_M_token_32 rfl (lv_at hl 3 rfl) ?_
        obtain ⟨q6, he, hf⟩ := ob_some hf
        refine cl_Si (As := [.int x2]) (rest := []) X (c_m_M_isPlain he) ok_m_M_isPlain k_m_M_119 rfl rfl hl.1 (Nat.le_of_ble_eq_true rfl) d_M_token_33 ⟨by decide, by decide⟩ hP hS (fun H locs hP hS => ?_)
        refine lv_if_eq (tgt := 55) hx hb d_M_token_36 (by decide) (fun c => ?_) (fun c => ?_)
        · have hf := if_t hf c
          refine lv_bipush (v := (-102)) hx hb d_M_token_55 (by decide) ?_
          obtain rfl := Option.some.inj hf
          exact W.iret hx hb hr0 (fun t ht _ => ⟨⟨rfl, by rw [ht]; exact hP⟩, hS.F ht⟩) hS.2.2 d_M_token_57 hlk
        · have hf := if_f hf c
          exact w_m_M_token_b39 X _ _ _ _ hf H locs ls hP hS (lv_sub hl [0, 1, 2, 3] rfl)
  · have hf := if_t hf c
    refine lv_bipush (v := (-101)) hx hb d_M_token_14 (by decide) ?_
    obtain rfl := Option.some.inj hf
    exact W.iret hx hb hr0 (fun t ht _ => ⟨⟨rfl, by rw [ht]; exact hP⟩, hS.F ht⟩) hS.2.2 d_M_token_16 hlk
theorem c_m_M_token {l : Launch} {D : va_G} {cI cZ cJ : ClassId} {ao aa : Nat → Nat} {S : St} {x0 : Int32} {x1 : Int32} {x2 : Int32} {z : Int32 × St} (hz : m_M_token S x0 x1 x2 = some z) : Ct l y_M_token (.code y_M_token b_M_token 8 (some .int) :: gw) rm_m_M_token D [(cI, .int), (cZ, .boolean), (cJ, .long)] (mA ao aa) (mW cI cZ cJ ao aa) [.ref (ao 0), .int x0, .int x1, .int x2] S (some (.int z.1)) z.2 :=
  Ct_of (by decide) (fun p e s m args below meth c X => w_m_M_token X _ _ _ _ hz) (Nat.le_of_ble_eq_true rfl)
def m_M_thing (S : St) (x0 : Int32) : Option (Int32 × St) :=
  (m_M_within S x0 (0 : Int32) (15 : Int32)).bind fun q1 =>
  if q1.1 = 0 then
    some ((-102 : Int32), q1.2)
  else
    if (gI q1.2 3) = (40 : Int32) then
      some ((-104 : Int32), q1.2)
    else
      gd (vin (gI q1.2 3) 40) <|
      gd (vin (gI (sA q1.2 8 (gI q1.2 3).toNatClampNeg x0) 3) 40) <|
      some (((gI (sI (sA (sA q1.2 8 (gI q1.2 3).toNatClampNeg x0) 9 (gI (sA q1.2 8 (gI q1.2 3).toNatClampNeg x0) 3).toNatClampNeg (0 : Int32)) 3 ((gI (sA (sA q1.2 8 (gI q1.2 3).toNatClampNeg x0) 9 (gI (sA q1.2 8 (gI q1.2 3).toNatClampNeg x0) 3).toNatClampNeg (0 : Int32)) 3) + (1 : Int32))) 3) - (1 : Int32)), (sI (sA (sA q1.2 8 (gI q1.2 3).toNatClampNeg x0) 9 (gI (sA q1.2 8 (gI q1.2 3).toNatClampNeg x0) 3).toNatClampNeg (0 : Int32)) 3 ((gI (sA (sA q1.2 8 (gI q1.2 3).toNatClampNeg x0) 9 (gI (sA q1.2 8 (gI q1.2 3).toNatClampNeg x0) 3).toNatClampNeg (0 : Int32)) 3) + (1 : Int32))))
def rm_m_M_thing : Room := { frames := 1, cells := 0, slots := 0, locals := 22 }
theorem ok_m_M_thing : CalV y_M_thing b_M_thing 2 (some .int) 1 rm_m_M_thing := ⟨kc_M_thing, ki_M_thing, kl_M_thing, ji_M, ⟨by decide, by decide, by decide +kernel⟩, rfl, rfl⟩
set_option maxHeartbeats 4000000 in
set_option maxRecDepth 100000 in
theorem w_m_M_thing {z : Int32 × St} (X : Cx b_M_thing 2 (some .int) R_M D [(cI, .int), (cZ, .boolean), (cJ, .long)] (mA ao aa) (mW cI cZ cJ ao aa) p s m args meth c) (S : St) (x0 : Int32) (hf : m_M_thing S x0 = some z) : WX rm_m_M_thing D (mA ao aa) (mW cI cZ cJ ao aa) p l e s m args below meth c (some (.int z.1)) z.2 0 [] 2 [(0, .ref (ao 0)), (1, .int x0)] S := by
  intro H locs ls hP hS hl
  obtain ⟨hx, hb, hr0, hml, hown, htg, hlk, hK, hN, hI⟩ := id X
  unfold m_M_thing at hf
  refine lv_iload_n hx hb d_M_thing_0 rfl (lv_at hl 1 rfl) ?_
  refine lv_iconst (v := 0) hx hb d_M_thing_1 (by decide) ?_
  refine lv_bipush (v := 15) hx hb d_M_thing_2 (by decide) ?_
  obtain ⟨q1, he, hf⟩ := ob_some hf
  refine cl_Si (As := [.int x0, .int (0 : Int32), .int (15 : Int32)]) (rest := []) X (c_m_M_within he) ok_m_M_within k_m_M_112 rfl rfl hl.1 (Nat.le_of_ble_eq_true rfl) d_M_thing_4 ⟨by decide, by decide⟩ hP hS (fun H locs hP hS => ?_)
  refine lv_if_ne (tgt := 13) hx hb d_M_thing_7 (by decide) (fun c => ?_) (fun c => ?_)
  · have hf := if_f hf c
    refine lv_aload_n hx hb d_M_thing_13 rfl (lv_at hl 0 rfl) ?_
    refine va_get (D := D) (v := .int (gI q1.2 3)) hx hb htg in_M hown hK hP 0 mo_0 rfl 11 (by decide) (htg _ k_f_M_140) (fun _ h9 => h9) rfl d_M_thing_14 ?_
    refine lv_bipush (v := 40) hx hb d_M_thing_17 (by decide) ?_
    refine lv_icmp_ne (tgt := 25) hx hb d_M_thing_19 (by decide) (fun c => ?_) (fun c => ?_)
    · have hf := if_f hf c
      refine lv_aload_n hx hb d_M_thing_25 rfl (lv_at hl 0 rfl) ?_
      refine va_get (D := D) (v := .ref (aa 8)) hx hb htg in_M hown hK hP 0 mo_0 rfl 12 (by decide) (htg _ k_f_M_35) (fun _ h9 => h9) rfl d_M_thing_26 ?_
      refine lv_aload_n hx hb d_M_thing_29 rfl (lv_at hl 0 rfl) ?_
      refine va_get (D := D) (v := .int (gI q1.2 3)) hx hb htg in_M hown hK hP 0 mo_0 rfl 11 (by decide) (htg _ k_f_M_140) (fun _ h9 => h9) rfl d_M_thing_30 ?_
      refine lv_iload_n hx hb d_M_thing_33 rfl (lv_at hl 1 rfl) ?_
      obtain ⟨hg, hf⟩ := gd_some hf
      refine va_iast hx hb hK hP (hI _) hS 9 0 ma_8 rfl (vin_in hg) d_M_thing_34 (fun H locs hP _ hS => ?_)
      replace hP : va_P D classes (mW cI cZ cJ ao aa (sA q1.2 8 (gI q1.2 3).toNatClampNeg x0)) H := pw mt_8 hP
      refine lv_aload_n hx hb d_M_thing_35 rfl (lv_at hl 0 rfl) ?_
      refine va_get (D := D) (v := .ref (aa 9)) hx hb htg in_M hown hK hP 0 mo_0 rfl 13 (by decide) (htg _ k_f_M_38) (fun _ h9 => h9) rfl d_M_thing_36 ?_
      refine lv_aload_n hx hb d_M_thing_39 rfl (lv_at hl 0 rfl) ?_
      refine va_get (D := D) (v := .int (gI (sA q1.2 8 (gI q1.2 3).toNatClampNeg x0) 3)) hx hb htg in_M hown hK hP 0 mo_0 rfl 11 (by decide) (htg _ k_f_M_140) (fun _ h9 => h9) rfl d_M_thing_40 ?_
      refine lv_iconst (v := 0) hx hb d_M_thing_43 (by decide) ?_
      obtain ⟨hg, hf⟩ := gd_some hf
      refine va_iast hx hb hK hP (hI _) hS 10 0 ma_9 rfl (vin_in hg) d_M_thing_44 (fun H locs hP _ hS => ?_)
      replace hP : va_P D classes (mW cI cZ cJ ao aa (sA (sA q1.2 8 (gI q1.2 3).toNatClampNeg x0) 9 (gI (sA q1.2 8 (gI q1.2 3).toNatClampNeg x0) 3).toNatClampNeg (0 : Int32))) H := pw mt_9 hP
      refine lv_aload_n hx hb d_M_thing_45 rfl (lv_at hl 0 rfl) ?_
      refine lv_dup hx hb d_M_thing_46 rfl ?_
      refine va_get (D := D) (v := .int (gI (sA (sA q1.2 8 (gI q1.2 3).toNatClampNeg x0) 9 (gI (sA q1.2 8 (gI q1.2 3).toNatClampNeg x0) 3).toNatClampNeg (0 : Int32)) 3)) hx hb htg in_M hown hK hP 0 mo_0 rfl 11 (by decide) (htg _ k_f_M_140) (fun _ h9 => h9) rfl d_M_thing_47 ?_
      refine lv_iconst (v := 1) hx hb d_M_thing_50 (by decide) ?_
      refine lv_iadd hx hb d_M_thing_51 ?_
      refine va_put (D := D) (ty := .int) hx hb htg in_M t_M t_M_ok n_M hown hK hP (hI _) hS 0 mo_0 rfl 11 (by decide) (htg _ k_f_M_140) (fun _ h9 => h9) rfl (by decide +kernel) rfl rfl (Nat.le_of_ble_eq_true rfl) d_M_thing_52 (fun H locs hP _ hS => ?_)
      replace hP : va_P D classes (mW cI cZ cJ ao aa (sI (sA (sA q1.2 8 (gI q1.2 3).toNatClampNeg x0) 9 (gI (sA q1.2 8 (gI q1.2 3).toNatClampNeg x0) 3).toNatClampNeg (0 : Int32)) 3 ((gI (sA (sA q1.2 8 (gI q1.2 3).toNatClampNeg x0) 9 (gI (sA q1.2 8 (gI q1.2 3).toNatClampNeg x0) 3).toNatClampNeg (0 : Int32)) 3) + (1 : Int32)))) H := pw ms_0_things hP
      refine lv_aload_n hx hb d_M_thing_55 rfl (lv_at hl 0 rfl) ?_
      refine va_get (D := D) (v := .int (gI (sI (sA (sA q1.2 8 (gI q1.2 3).toNatClampNeg x0) 9 (gI (sA q1.2 8 (gI q1.2 3).toNatClampNeg x0) 3).toNatClampNeg (0 : Int32)) 3 ((gI (sA (sA q1.2 8 (gI q1.2 3).toNatClampNeg x0) 9 (gI (sA q1.2 8 (gI q1.2 3).toNatClampNeg x0) 3).toNatClampNeg (0 : Int32)) 3) + (1 : Int32))) 3)) hx hb htg in_M hown hK hP 0 mo_0 rfl 11 (by decide) (htg _ k_f_M_140) (fun _ h9 => h9) rfl d_M_thing_56 ?_
      refine lv_iconst (v := 1) hx hb d_M_thing_59 (by decide) ?_
      refine lv_isub hx hb d_M_thing_60 ?_
      obtain rfl := Option.some.inj hf
      exact W.iret hx hb hr0 (fun t ht _ => ⟨⟨rfl, by rw [ht]; exact hP⟩, hS.F ht⟩) hS.2.2 d_M_thing_61 hlk
    · have hf := if_t hf c
      refine lv_bipush (v := (-104)) hx hb d_M_thing_22 (by decide) ?_
      obtain rfl := Option.some.inj hf
      exact W.iret hx hb hr0 (fun t ht _ => ⟨⟨rfl, by rw [ht]; exact hP⟩, hS.F ht⟩) hS.2.2 d_M_thing_24 hlk
  · have hf := if_t hf c
    refine lv_bipush (v := (-102)) hx hb d_M_thing_10 (by decide) ?_
    obtain rfl := Option.some.inj hf
    exact W.iret hx hb hr0 (fun t ht _ => ⟨⟨rfl, by rw [ht]; exact hP⟩, hS.F ht⟩) hS.2.2 d_M_thing_12 hlk
theorem c_m_M_thing {l : Launch} {D : va_G} {cI cZ cJ : ClassId} {ao aa : Nat → Nat} {S : St} {x0 : Int32} {z : Int32 × St} (hz : m_M_thing S x0 = some z) : Ct l y_M_thing (.code y_M_thing b_M_thing 2 (some .int) :: gw) rm_m_M_thing D [(cI, .int), (cZ, .boolean), (cJ, .long)] (mA ao aa) (mW cI cZ cJ ao aa) [.ref (ao 0), .int x0] S (some (.int z.1)) z.2 :=
  Ct_of (by decide) (fun p e s m args below meth c X => w_m_M_thing X _ _ hz) (Nat.le_of_ble_eq_true rfl)
def m_M_hasName_b40 (k5 : St → Int32 → Int32 → Int32 → Int32 → Option (Int32 × St)) (S : St) (x1 : Int32) (x2 : Int32) (x4 : Int32) (s0 : Int32) : Option (Int32 × St) :=
  k5 S x1 x2 s0 (x4 + 1)
def m_M_hasName_b35 (k5 : St → Int32 → Int32 → Int32 → Int32 → Option (Int32 × St)) (S : St) (x1 : Int32) (x2 : Int32) (x4 : Int32) : Option (Int32 × St) :=
  m_M_hasName_b40 k5 S x1 x2 x4 (1 : Int32)
def m_M_hasName_b5_f (k5 : St → Int32 → Int32 → Int32 → Int32 → Option (Int32 × St)) (S : St) (x1 : Int32) (x2 : Int32) (x3 : Int32) (x4 : Int32) : Option (Int32 × St) :=
  gd (vin x1 40) <|
  if (gA S 9 x1.toNatClampNeg) ≤ x4 then
    gd (isB x3) <|
    some (x3, S)
  else
    if x3 = 0 then
      gd (vin (((4 : Int32) * x1) + x4) 160) <|
      if (gA S 10 (((4 : Int32) * x1) + x4).toNatClampNeg) = x2 then
        m_M_hasName_b35 k5 S x1 x2 x4
      else
        m_M_hasName_b40 k5 S x1 x2 x4 (0 : Int32)
    else
      m_M_hasName_b35 k5 S x1 x2 x4
def m_M_hasName_b5 : Nat → St → Int32 → Int32 → Int32 → Int32 → Option (Int32 × St)
  | 0, _, _, _, _, _ => none
  | n + 1, S, x1, x2, x3, x4 => m_M_hasName_b5_f (m_M_hasName_b5 n) S x1 x2 x3 x4
def m_M_hasName (S : St) (x0 : Int32) (x1 : Int32) : Option (Int32 × St) :=
  m_M_hasName_b5 fu S x0 x1 (0 : Int32) (0 : Int32)
def rm_m_M_hasName : Room := { frames := 0, cells := 0, slots := 0, locals := 0 }
theorem ok_m_M_hasName : CalV y_M_hasName b_M_hasName 5 (some .boolean) 2 rm_m_M_hasName := ⟨kc_M_hasName, ki_M_hasName, kl_M_hasName, ji_M, ⟨by decide, by decide, by decide +kernel⟩, rfl, rfl⟩
set_option maxHeartbeats 4000000 in
set_option maxRecDepth 100000 in
theorem w_m_M_hasName_b40 {z : Int32 × St} (X : Cx b_M_hasName 5 (some .boolean) R_M D [(cI, .int), (cZ, .boolean), (cJ, .long)] (mA ao aa) (mW cI cZ cJ ao aa) p s m args meth c) {k5 : St → Int32 → Int32 → Int32 → Int32 → Option (Int32 × St)} (hk5 : ∀ (S : St) (x1 : Int32) (x2 : Int32) (x3 : Int32) (x4 : Int32), k5 S x1 x2 x3 x4 = some z → WX rm_m_M_hasName D (mA ao aa) (mW cI cZ cJ ao aa) p l e s m args below meth c (some (.int z.1)) z.2 5 [] 5 [(0, .ref (ao 0)), (1, .int x1), (2, .int x2), (3, .int x3), (4, .int x4)] S) (S : St) (x1 : Int32) (x2 : Int32) (x4 : Int32) (s0 : Int32) (hf : m_M_hasName_b40 k5 S x1 x2 x4 s0 = some z) : WX rm_m_M_hasName D (mA ao aa) (mW cI cZ cJ ao aa) p l e s m args below meth c (some (.int z.1)) z.2 40 [.int s0] 5 [(0, .ref (ao 0)), (1, .int x1), (2, .int x2), (4, .int x4)] S := by
  intro H locs ls hP hS hl
  obtain ⟨hx, hb, hr0, hml, hown, htg, hlk, hK, hN, hI⟩ := id X
  unfold m_M_hasName_b40 at hf
  refine lv_istore_n (lv' := [(3, .int s0), (0, .ref (ao 0)), (1, .int x1), (2, .int x2), (4, .int x4)]) hx hb d_M_hasName_40 rfl hl (by decide) rfl (fun ls hl => ?_)
  refine lv_iinc (v := (x4 + 1)) (lv' := [(4, .int (x4 + 1)), (3, .int s0), (0, .ref (ao 0)), (1, .int x1), (2, .int x2)]) hx hb d_M_hasName_41 hl (k := 4) rfl rfl (by decide) rfl (fun ls hl => ?_)
  refine lv_goto (tgt := 5) hx hb d_M_hasName_44 (by decide) ?_
  exact hk5 _ _ _ _ _ hf H locs ls hP hS (lv_sub hl [2, 3, 4, 1, 0] rfl)
set_option maxHeartbeats 4000000 in
set_option maxRecDepth 100000 in
theorem w_m_M_hasName_b35 {z : Int32 × St} (X : Cx b_M_hasName 5 (some .boolean) R_M D [(cI, .int), (cZ, .boolean), (cJ, .long)] (mA ao aa) (mW cI cZ cJ ao aa) p s m args meth c) {k5 : St → Int32 → Int32 → Int32 → Int32 → Option (Int32 × St)} (hk5 : ∀ (S : St) (x1 : Int32) (x2 : Int32) (x3 : Int32) (x4 : Int32), k5 S x1 x2 x3 x4 = some z → WX rm_m_M_hasName D (mA ao aa) (mW cI cZ cJ ao aa) p l e s m args below meth c (some (.int z.1)) z.2 5 [] 5 [(0, .ref (ao 0)), (1, .int x1), (2, .int x2), (3, .int x3), (4, .int x4)] S) (S : St) (x1 : Int32) (x2 : Int32) (x4 : Int32) (hf : m_M_hasName_b35 k5 S x1 x2 x4 = some z) : WX rm_m_M_hasName D (mA ao aa) (mW cI cZ cJ ao aa) p l e s m args below meth c (some (.int z.1)) z.2 35 [] 5 [(0, .ref (ao 0)), (1, .int x1), (2, .int x2), (4, .int x4)] S := by
  intro H locs ls hP hS hl
  obtain ⟨hx, hb, hr0, hml, hown, htg, hlk, hK, hN, hI⟩ := id X
  unfold m_M_hasName_b35 at hf
  refine lv_iconst (v := 1) hx hb d_M_hasName_35 (by decide) ?_
  refine lv_goto (tgt := 40) hx hb d_M_hasName_36 (by decide) ?_
  exact w_m_M_hasName_b40 X hk5 _ _ _ _ _ hf H locs ls hP hS (lv_sub hl [0, 1, 2, 3] rfl)
set_option maxHeartbeats 4000000 in
set_option maxRecDepth 100000 in
theorem w_m_M_hasName_b5_f {z : Int32 × St} (X : Cx b_M_hasName 5 (some .boolean) R_M D [(cI, .int), (cZ, .boolean), (cJ, .long)] (mA ao aa) (mW cI cZ cJ ao aa) p s m args meth c) {k5 : St → Int32 → Int32 → Int32 → Int32 → Option (Int32 × St)} (hk5 : ∀ (S : St) (x1 : Int32) (x2 : Int32) (x3 : Int32) (x4 : Int32), k5 S x1 x2 x3 x4 = some z → WX rm_m_M_hasName D (mA ao aa) (mW cI cZ cJ ao aa) p l e s m args below meth c (some (.int z.1)) z.2 5 [] 5 [(0, .ref (ao 0)), (1, .int x1), (2, .int x2), (3, .int x3), (4, .int x4)] S) (S : St) (x1 : Int32) (x2 : Int32) (x3 : Int32) (x4 : Int32) (hf : m_M_hasName_b5_f k5 S x1 x2 x3 x4 = some z) : WX rm_m_M_hasName D (mA ao aa) (mW cI cZ cJ ao aa) p l e s m args below meth c (some (.int z.1)) z.2 5 [] 5 [(0, .ref (ao 0)), (1, .int x1), (2, .int x2), (3, .int x3), (4, .int x4)] S := by
  intro H locs ls hP hS hl
  obtain ⟨hx, hb, hr0, hml, hown, htg, hlk, hK, hN, hI⟩ := id X
  unfold m_M_hasName_b5_f at hf
  refine lv_iload hx hb d_M_hasName_5 (lv_at hl 4 rfl) ?_
  refine lv_aload_n hx hb d_M_hasName_7 rfl (lv_at hl 0 rfl) ?_
  refine va_get (D := D) (v := .ref (aa 9)) hx hb htg in_M hown hK hP 0 mo_0 rfl 13 (by decide) (htg _ k_f_M_38) (fun _ h9 => h9) rfl d_M_hasName_8 ?_
  refine lv_iload_n hx hb d_M_hasName_11 rfl (lv_at hl 1 rfl) ?_
  obtain ⟨hg, hf⟩ := gd_some hf
  refine va_iald hx hb hK hP 10 0 ma_9 rfl (vin_in hg) d_M_hasName_12 ?_
  refine lv_icmp_ge (tgt := 47) hx hb d_M_hasName_13 (by decide) (fun c => ?_) (fun c => ?_)
  · have hf := if_t hf c
    refine lv_iload_n hx hb d_M_hasName_47 rfl (lv_at hl 3 rfl) ?_
    obtain ⟨hg, hf⟩ := gd_some hf
    obtain rfl := Option.some.inj hf
    exact W.zret (ty := .boolean) hx hb hr0 (isB_n hg) (fun t ht _ => ⟨⟨rfl, by rw [ht]; exact hP⟩, hS.F ht⟩) hS.2.2 d_M_hasName_48 hlk
  · have hf := if_f hf c
    refine lv_iload_n hx hb d_M_hasName_16 rfl (lv_at hl 3 rfl) ?_
    refine lv_if_ne (tgt := 35) hx hb d_M_hasName_17 (by decide) (fun c => ?_) (fun c => ?_)
    · have hf := if_f hf c
      exact w_m_M_hasName_b35 X hk5 _ _ _ _ hf H locs ls hP hS (lv_sub hl [0, 1, 2, 4] rfl)
    · have hf := if_t hf c
      refine lv_aload_n hx hb d_M_hasName_20 rfl (lv_at hl 0 rfl) ?_
      refine va_get (D := D) (v := .ref (aa 10)) hx hb htg in_M hown hK hP 0 mo_0 rfl 14 (by decide) (htg _ k_f_M_41) (fun _ h9 => h9) rfl d_M_hasName_21 ?_
      refine lv_iconst (v := 4) hx hb d_M_hasName_24 (by decide) ?_
      refine lv_iload_n hx hb d_M_hasName_25 rfl (lv_at hl 1 rfl) ?_
      refine lv_imul hx hb d_M_hasName_26 ?_
      refine lv_iload hx hb d_M_hasName_27 (lv_at hl 4 rfl) ?_
      refine lv_iadd hx hb d_M_hasName_29 ?_
      obtain ⟨hg, hf⟩ := gd_some hf
      refine va_iald hx hb hK hP 11 0 ma_10 rfl (vin_in hg) d_M_hasName_30 ?_
      refine lv_iload_n hx hb d_M_hasName_31 rfl (lv_at hl 2 rfl) ?_
      refine lv_icmp_ne (tgt := 39) hx hb d_M_hasName_32 (by decide) (fun c => ?_) (fun c => ?_)
      · have hf := if_f hf c
        refine lv_iconst (v := 0) hx hb d_M_hasName_39 (by decide) ?_
        exact w_m_M_hasName_b40 X hk5 _ _ _ _ _ hf H locs ls hP hS (lv_sub hl [0, 1, 2, 4] rfl)
      · have hf := if_t hf c
        exact w_m_M_hasName_b35 X hk5 _ _ _ _ hf H locs ls hP hS (lv_sub hl [0, 1, 2, 4] rfl)
theorem w_m_M_hasName_b5 {z : Int32 × St} (X : Cx b_M_hasName 5 (some .boolean) R_M D [(cI, .int), (cZ, .boolean), (cJ, .long)] (mA ao aa) (mW cI cZ cJ ao aa) p s m args meth c) : ∀ (n : Nat) (S : St) (x1 : Int32) (x2 : Int32) (x3 : Int32) (x4 : Int32), m_M_hasName_b5 n S x1 x2 x3 x4 = some z → WX rm_m_M_hasName D (mA ao aa) (mW cI cZ cJ ao aa) p l e s m args below meth c (some (.int z.1)) z.2 5 [] 5 [(0, .ref (ao 0)), (1, .int x1), (2, .int x2), (3, .int x3), (4, .int x4)] S
  | 0, _, _, _, _, _, hf => ns hf
  | n + 1, _, _, _, _, _, hf => w_m_M_hasName_b5_f X (w_m_M_hasName_b5 X n) _ _ _ _ _ hf
set_option maxHeartbeats 4000000 in
set_option maxRecDepth 100000 in
theorem w_m_M_hasName {z : Int32 × St} (X : Cx b_M_hasName 5 (some .boolean) R_M D [(cI, .int), (cZ, .boolean), (cJ, .long)] (mA ao aa) (mW cI cZ cJ ao aa) p s m args meth c) (S : St) (x0 : Int32) (x1 : Int32) (hf : m_M_hasName S x0 x1 = some z) : WX rm_m_M_hasName D (mA ao aa) (mW cI cZ cJ ao aa) p l e s m args below meth c (some (.int z.1)) z.2 0 [] 5 [(0, .ref (ao 0)), (1, .int x0), (2, .int x1)] S := by
  intro H locs ls hP hS hl
  obtain ⟨hx, hb, hr0, hml, hown, htg, hlk, hK, hN, hI⟩ := id X
  unfold m_M_hasName at hf
  refine lv_iconst (v := 0) hx hb d_M_hasName_0 (by decide) ?_
  refine lv_istore_n (lv' := [(3, .int (0 : Int32)), (0, .ref (ao 0)), (1, .int x0), (2, .int x1)]) hx hb d_M_hasName_1 rfl hl (by decide) rfl (fun ls hl => ?_)
  refine lv_iconst (v := 0) hx hb d_M_hasName_2 (by decide) ?_
  refine lv_istore (lv' := [(4, .int (0 : Int32)), (3, .int (0 : Int32)), (0, .ref (ao 0)), (1, .int x0), (2, .int x1)]) hx hb d_M_hasName_3 hl (by decide) rfl (fun ls hl => ?_)
  exact w_m_M_hasName_b5 X _ _ _ _ _ _ hf H locs ls hP hS (lv_sub hl [2, 3, 4, 1, 0] rfl)
theorem c_m_M_hasName {l : Launch} {D : va_G} {cI cZ cJ : ClassId} {ao aa : Nat → Nat} {S : St} {x0 : Int32} {x1 : Int32} {z : Int32 × St} (hz : m_M_hasName S x0 x1 = some z) : Ct l y_M_hasName (.code y_M_hasName b_M_hasName 5 (some .boolean) :: gw) rm_m_M_hasName D [(cI, .int), (cZ, .boolean), (cJ, .long)] (mA ao aa) (mW cI cZ cJ ao aa) [.ref (ao 0), .int x0, .int x1] S (some (.int z.1)) z.2 :=
  Ct_of (by decide) (fun p e s m args below meth c X => w_m_M_hasName X _ _ _ hz) (Nat.le_of_ble_eq_true rfl)
def m_M_name (S : St) (x0 : Int32) (x1 : Int32) : Option (Int32 × St) :=
  (m_M_within S x0 (0 : Int32) ((gI S 3) - (1 : Int32))).bind fun q1 =>
  if q1.1 = 0 then
    some ((-101 : Int32), q1.2)
  else
    (m_M_isPlain q1.2 x1).bind fun q2 =>
    if q2.1 = 0 then
      some ((-102 : Int32), q2.2)
    else
      (m_M_hasName q2.2 x0 x1).bind fun q3 =>
      if q3.1 = 0 then
        gd (vin x0 40) <|
        if (gA q3.2 9 x0.toNatClampNeg) = (4 : Int32) then
          some ((-104 : Int32), q3.2)
        else
          gd (vin x0 40) <|
          gd (vin (((4 : Int32) * x0) + (gA q3.2 9 x0.toNatClampNeg)) 160) <|
          gd (vin x0 40) <|
          gd (vin x0 40) <|
          gd (vin x0 40) <|
          some ((gA (sA (sA q3.2 10 (((4 : Int32) * x0) + (gA q3.2 9 x0.toNatClampNeg)).toNatClampNeg x1) 9 x0.toNatClampNeg ((gA (sA q3.2 10 (((4 : Int32) * x0) + (gA q3.2 9 x0.toNatClampNeg)).toNatClampNeg x1) 9 x0.toNatClampNeg) + (1 : Int32))) 9 x0.toNatClampNeg), (sA (sA q3.2 10 (((4 : Int32) * x0) + (gA q3.2 9 x0.toNatClampNeg)).toNatClampNeg x1) 9 x0.toNatClampNeg ((gA (sA q3.2 10 (((4 : Int32) * x0) + (gA q3.2 9 x0.toNatClampNeg)).toNatClampNeg x1) 9 x0.toNatClampNeg) + (1 : Int32))))
      else
        gd (vin x0 40) <|
        some ((gA q3.2 9 x0.toNatClampNeg), q3.2)
def rm_m_M_name : Room := { frames := 2, cells := 0, slots := 0, locals := 42 }
theorem ok_m_M_name : CalV y_M_name b_M_name 3 (some .int) 2 rm_m_M_name := ⟨kc_M_name, ki_M_name, kl_M_name, ji_M, ⟨by decide, by decide, by decide +kernel⟩, rfl, rfl⟩
set_option maxHeartbeats 4000000 in
set_option maxRecDepth 100000 in
theorem w_m_M_name {z : Int32 × St} (X : Cx b_M_name 3 (some .int) R_M D [(cI, .int), (cZ, .boolean), (cJ, .long)] (mA ao aa) (mW cI cZ cJ ao aa) p s m args meth c) (S : St) (x0 : Int32) (x1 : Int32) (hf : m_M_name S x0 x1 = some z) : WX rm_m_M_name D (mA ao aa) (mW cI cZ cJ ao aa) p l e s m args below meth c (some (.int z.1)) z.2 0 [] 3 [(0, .ref (ao 0)), (1, .int x0), (2, .int x1)] S := by
  intro H locs ls hP hS hl
  obtain ⟨hx, hb, hr0, hml, hown, htg, hlk, hK, hN, hI⟩ := id X
  unfold m_M_name at hf
  refine lv_iload_n hx hb d_M_name_0 rfl (lv_at hl 1 rfl) ?_
  refine lv_iconst (v := 0) hx hb d_M_name_1 (by decide) ?_
  refine lv_aload_n hx hb d_M_name_2 rfl (lv_at hl 0 rfl) ?_
  refine va_get (D := D) (v := .int (gI S 3)) hx hb htg in_M hown hK hP 0 mo_0 rfl 11 (by decide) (htg _ k_f_M_140) (fun _ h9 => h9) rfl d_M_name_3 ?_
  refine lv_iconst (v := 1) hx hb d_M_name_6 (by decide) ?_
  refine lv_isub hx hb d_M_name_7 ?_
  obtain ⟨q1, he, hf⟩ := ob_some hf
  refine cl_Si (As := [.int x0, .int (0 : Int32), .int ((gI S 3) - (1 : Int32))]) (rest := []) X (c_m_M_within he) ok_m_M_within k_m_M_112 rfl rfl hl.1 (Nat.le_of_ble_eq_true rfl) d_M_name_8 ⟨by decide, by decide⟩ hP hS (fun H locs hP hS => ?_)
  refine lv_if_ne (tgt := 17) hx hb d_M_name_11 (by decide) (fun c => ?_) (fun c => ?_)
  · have hf := if_f hf c
    refine lv_iload_n hx hb d_M_name_17 rfl (lv_at hl 2 rfl) ?_
    obtain ⟨q2, he, hf⟩ := ob_some hf
    refine cl_Si (As := [.int x1]) (rest := []) X (c_m_M_isPlain he) ok_m_M_isPlain k_m_M_119 rfl rfl hl.1 (Nat.le_of_ble_eq_true rfl) d_M_name_18 ⟨by decide, by decide⟩ hP hS (fun H locs hP hS => ?_)
    refine lv_if_ne (tgt := 27) hx hb d_M_name_21 (by decide) (fun c => ?_) (fun c => ?_)
    · have hf := if_f hf c
      refine lv_aload_n hx hb d_M_name_27 rfl (lv_at hl 0 rfl) ?_
      refine lv_iload_n hx hb d_M_name_28 rfl (lv_at hl 1 rfl) ?_
      refine lv_iload_n hx hb d_M_name_29 rfl (lv_at hl 2 rfl) ?_
      obtain ⟨q3, he, hf⟩ := ob_some hf
      refine cl_Vi (As := [.int x0, .int x1]) (rest := []) X (c_m_M_hasName he) ok_m_M_hasName k_m_M_143 (va_recv hK hP rfl mo_0) rfl rfl hl.1 (Nat.le_of_ble_eq_true rfl) d_M_name_30 ⟨by decide, by decide⟩ hP hS (fun H locs hP hS => ?_)
      refine lv_if_eq (tgt := 43) hx hb d_M_name_33 (by decide) (fun c => ?_) (fun c => ?_)
      · have hf := if_t hf c
        refine lv_aload_n hx hb d_M_name_43 rfl (lv_at hl 0 rfl) ?_
        refine va_get (D := D) (v := .ref (aa 9)) hx hb htg in_M hown hK hP 0 mo_0 rfl 13 (by decide) (htg _ k_f_M_38) (fun _ h9 => h9) rfl d_M_name_44 ?_
        refine lv_iload_n hx hb d_M_name_47 rfl (lv_at hl 1 rfl) ?_
        obtain ⟨hg, hf⟩ := gd_some hf
        refine va_iald hx hb hK hP 10 0 ma_9 rfl (vin_in hg) d_M_name_48 ?_
        refine lv_iconst (v := 4) hx hb d_M_name_49 (by decide) ?_
        refine lv_icmp_ne (tgt := 56) hx hb d_M_name_50 (by decide) (fun c => ?_) (fun c => ?_)
        · have hf := if_f hf c
          refine lv_aload_n hx hb d_M_name_56 rfl (lv_at hl 0 rfl) ?_
          refine va_get (D := D) (v := .ref (aa 10)) hx hb htg in_M hown hK hP 0 mo_0 rfl 14 (by decide) (htg _ k_f_M_41) (fun _ h9 => h9) rfl d_M_name_57 ?_
          refine lv_iconst (v := 4) hx hb d_M_name_60 (by decide) ?_
          refine lv_iload_n hx hb d_M_name_61 rfl (lv_at hl 1 rfl) ?_
          refine lv_imul hx hb d_M_name_62 ?_
          refine lv_aload_n hx hb d_M_name_63 rfl (lv_at hl 0 rfl) ?_
          refine va_get (D := D) (v := .ref (aa 9)) hx hb htg in_M hown hK hP 0 mo_0 rfl 13 (by decide) (htg _ k_f_M_38) (fun _ h9 => h9) rfl d_M_name_64 ?_
          refine lv_iload_n hx hb d_M_name_67 rfl (lv_at hl 1 rfl) ?_
          obtain ⟨hg, hf⟩ := gd_some hf
          refine va_iald hx hb hK hP 10 0 ma_9 rfl (vin_in hg) d_M_name_68 ?_
          refine lv_iadd hx hb d_M_name_69 ?_
          refine lv_iload_n hx hb d_M_name_70 rfl (lv_at hl 2 rfl) ?_
          obtain ⟨hg, hf⟩ := gd_some hf
          refine va_iast hx hb hK hP (hI _) hS 11 0 ma_10 rfl (vin_in hg) d_M_name_71 (fun H locs hP _ hS => ?_)
          replace hP : va_P D classes (mW cI cZ cJ ao aa (sA q3.2 10 (((4 : Int32) * x0) + (gA q3.2 9 x0.toNatClampNeg)).toNatClampNeg x1)) H := pw mt_10 hP
          refine lv_aload_n hx hb d_M_name_72 rfl (lv_at hl 0 rfl) ?_
          refine va_get (D := D) (v := .ref (aa 9)) hx hb htg in_M hown hK hP 0 mo_0 rfl 13 (by decide) (htg _ k_f_M_38) (fun _ h9 => h9) rfl d_M_name_73 ?_
          refine lv_iload_n hx hb d_M_name_76 rfl (lv_at hl 1 rfl) ?_
          refine lv_dup2_11 hx hb d_M_name_77 rfl rfl ?_
          obtain ⟨hg, hf⟩ := gd_some hf
          refine va_iald hx hb hK hP 10 0 ma_9 rfl (vin_in hg) d_M_name_78 ?_
          refine lv_iconst (v := 1) hx hb d_M_name_79 (by decide) ?_
          refine lv_iadd hx hb d_M_name_80 ?_
          obtain ⟨hg, hf⟩ := gd_some hf
          refine va_iast hx hb hK hP (hI _) hS 10 0 ma_9 rfl (vin_in hg) d_M_name_81 (fun H locs hP _ hS => ?_)
          replace hP : va_P D classes (mW cI cZ cJ ao aa (sA (sA q3.2 10 (((4 : Int32) * x0) + (gA q3.2 9 x0.toNatClampNeg)).toNatClampNeg x1) 9 x0.toNatClampNeg ((gA (sA q3.2 10 (((4 : Int32) * x0) + (gA q3.2 9 x0.toNatClampNeg)).toNatClampNeg x1) 9 x0.toNatClampNeg) + (1 : Int32)))) H := pw mt_9 hP
          refine lv_aload_n hx hb d_M_name_82 rfl (lv_at hl 0 rfl) ?_
          refine va_get (D := D) (v := .ref (aa 9)) hx hb htg in_M hown hK hP 0 mo_0 rfl 13 (by decide) (htg _ k_f_M_38) (fun _ h9 => h9) rfl d_M_name_83 ?_
          refine lv_iload_n hx hb d_M_name_86 rfl (lv_at hl 1 rfl) ?_
          obtain ⟨hg, hf⟩ := gd_some hf
          refine va_iald hx hb hK hP 10 0 ma_9 rfl (vin_in hg) d_M_name_87 ?_
          obtain rfl := Option.some.inj hf
          exact W.iret hx hb hr0 (fun t ht _ => ⟨⟨rfl, by rw [ht]; exact hP⟩, hS.F ht⟩) hS.2.2 d_M_name_88 hlk
        · have hf := if_t hf c
          refine lv_bipush (v := (-104)) hx hb d_M_name_53 (by decide) ?_
          obtain rfl := Option.some.inj hf
          exact W.iret hx hb hr0 (fun t ht _ => ⟨⟨rfl, by rw [ht]; exact hP⟩, hS.F ht⟩) hS.2.2 d_M_name_55 hlk
      · have hf := if_f hf c
        refine lv_aload_n hx hb d_M_name_36 rfl (lv_at hl 0 rfl) ?_
        refine va_get (D := D) (v := .ref (aa 9)) hx hb htg in_M hown hK hP 0 mo_0 rfl 13 (by decide) (htg _ k_f_M_38) (fun _ h9 => h9) rfl d_M_name_37 ?_
        refine lv_iload_n hx hb d_M_name_40 rfl (lv_at hl 1 rfl) ?_
        obtain ⟨hg, hf⟩ := gd_some hf
        refine va_iald hx hb hK hP 10 0 ma_9 rfl (vin_in hg) d_M_name_41 ?_
        obtain rfl := Option.some.inj hf
        exact W.iret hx hb hr0 (fun t ht _ => ⟨⟨rfl, by rw [ht]; exact hP⟩, hS.F ht⟩) hS.2.2 d_M_name_42 hlk
    · have hf := if_t hf c
      refine lv_bipush (v := (-102)) hx hb d_M_name_24 (by decide) ?_
      obtain rfl := Option.some.inj hf
      exact W.iret hx hb hr0 (fun t ht _ => ⟨⟨rfl, by rw [ht]; exact hP⟩, hS.F ht⟩) hS.2.2 d_M_name_26 hlk
  · have hf := if_t hf c
    refine lv_bipush (v := (-101)) hx hb d_M_name_14 (by decide) ?_
    obtain rfl := Option.some.inj hf
    exact W.iret hx hb hr0 (fun t ht _ => ⟨⟨rfl, by rw [ht]; exact hP⟩, hS.F ht⟩) hS.2.2 d_M_name_16 hlk
theorem c_m_M_name {l : Launch} {D : va_G} {cI cZ cJ : ClassId} {ao aa : Nat → Nat} {S : St} {x0 : Int32} {x1 : Int32} {z : Int32 × St} (hz : m_M_name S x0 x1 = some z) : Ct l y_M_name (.code y_M_name b_M_name 3 (some .int) :: gw) rm_m_M_name D [(cI, .int), (cZ, .boolean), (cJ, .long)] (mA ao aa) (mW cI cZ cJ ao aa) [.ref (ao 0), .int x0, .int x1] S (some (.int z.1)) z.2 :=
  Ct_of (by decide) (fun p e s m args below meth c X => w_m_M_name X _ _ _ hz) (Nat.le_of_ble_eq_true rfl)
def m_M_flags (S : St) (x0 : Int32) (x1 : Int32) : Option (Int32 × St) :=
  (m_M_within S x0 (0 : Int32) ((gI S 3) - (1 : Int32))).bind fun q1 =>
  if q1.1 = 0 then
    some ((-101 : Int32), q1.2)
  else
    (m_M_within q1.2 x1 (0 : Int32) (15 : Int32)).bind fun q2 =>
    if q2.1 = 0 then
      some ((-102 : Int32), q2.2)
    else
      gd (vin x0 40) <|
      gd (vin x0 40) <|
      some ((gA q2.2 8 x0.toNatClampNeg), (sA q2.2 8 x0.toNatClampNeg x1))
def rm_m_M_flags : Room := { frames := 1, cells := 0, slots := 0, locals := 22 }
theorem ok_m_M_flags : CalV y_M_flags b_M_flags 4 (some .int) 2 rm_m_M_flags := ⟨kc_M_flags, ki_M_flags, kl_M_flags, ji_M, ⟨by decide, by decide, by decide +kernel⟩, rfl, rfl⟩
set_option maxHeartbeats 4000000 in
set_option maxRecDepth 100000 in
theorem w_m_M_flags {z : Int32 × St} (X : Cx b_M_flags 4 (some .int) R_M D [(cI, .int), (cZ, .boolean), (cJ, .long)] (mA ao aa) (mW cI cZ cJ ao aa) p s m args meth c) (S : St) (x0 : Int32) (x1 : Int32) (hf : m_M_flags S x0 x1 = some z) : WX rm_m_M_flags D (mA ao aa) (mW cI cZ cJ ao aa) p l e s m args below meth c (some (.int z.1)) z.2 0 [] 4 [(0, .ref (ao 0)), (1, .int x0), (2, .int x1)] S := by
  intro H locs ls hP hS hl
  obtain ⟨hx, hb, hr0, hml, hown, htg, hlk, hK, hN, hI⟩ := id X
  unfold m_M_flags at hf
  refine lv_iload_n hx hb d_M_flags_0 rfl (lv_at hl 1 rfl) ?_
  refine lv_iconst (v := 0) hx hb d_M_flags_1 (by decide) ?_
  refine lv_aload_n hx hb d_M_flags_2 rfl (lv_at hl 0 rfl) ?_
  refine va_get (D := D) (v := .int (gI S 3)) hx hb htg in_M hown hK hP 0 mo_0 rfl 11 (by decide) (htg _ k_f_M_140) (fun _ h9 => h9) rfl d_M_flags_3 ?_
  refine lv_iconst (v := 1) hx hb d_M_flags_6 (by decide) ?_
  refine lv_isub hx hb d_M_flags_7 ?_
  obtain ⟨q1, he, hf⟩ := ob_some hf
  refine cl_Si (As := [.int x0, .int (0 : Int32), .int ((gI S 3) - (1 : Int32))]) (rest := []) X (c_m_M_within he) ok_m_M_within k_m_M_112 rfl rfl hl.1 (Nat.le_of_ble_eq_true rfl) d_M_flags_8 ⟨by decide, by decide⟩ hP hS (fun H locs hP hS => ?_)
  refine lv_if_ne (tgt := 17) hx hb d_M_flags_11 (by decide) (fun c => ?_) (fun c => ?_)
  · have hf := if_f hf c
    refine lv_iload_n hx hb d_M_flags_17 rfl (lv_at hl 2 rfl) ?_
    refine lv_iconst (v := 0) hx hb d_M_flags_18 (by decide) ?_
    refine lv_bipush (v := 15) hx hb d_M_flags_19 (by decide) ?_
    obtain ⟨q2, he, hf⟩ := ob_some hf
    refine cl_Si (As := [.int x1, .int (0 : Int32), .int (15 : Int32)]) (rest := []) X (c_m_M_within he) ok_m_M_within k_m_M_112 rfl rfl hl.1 (Nat.le_of_ble_eq_true rfl) d_M_flags_21 ⟨by decide, by decide⟩ hP hS (fun H locs hP hS => ?_)
    refine lv_if_ne (tgt := 30) hx hb d_M_flags_24 (by decide) (fun c => ?_) (fun c => ?_)
    · have hf := if_f hf c
      refine lv_aload_n hx hb d_M_flags_30 rfl (lv_at hl 0 rfl) ?_
      refine va_get (D := D) (v := .ref (aa 8)) hx hb htg in_M hown hK hP 0 mo_0 rfl 12 (by decide) (htg _ k_f_M_35) (fun _ h9 => h9) rfl d_M_flags_31 ?_
      refine lv_iload_n hx hb d_M_flags_34 rfl (lv_at hl 1 rfl) ?_
      obtain ⟨hg, hf⟩ := gd_some hf
      refine va_iald hx hb hK hP 9 0 ma_8 rfl (vin_in hg) d_M_flags_35 ?_
      refine lv_istore_n (lv' := [(3, .int (gA q2.2 8 x0.toNatClampNeg)), (0, .ref (ao 0)), (1, .int x0), (2, .int x1)]) hx hb d_M_flags_36 rfl hl (by decide) rfl (fun ls hl => ?_)
      refine lv_aload_n hx hb d_M_flags_37 rfl (lv_at hl 1 rfl) ?_
      refine va_get (D := D) (v := .ref (aa 8)) hx hb htg in_M hown hK hP 0 mo_0 rfl 12 (by decide) (htg _ k_f_M_35) (fun _ h9 => h9) rfl d_M_flags_38 ?_
      refine lv_iload_n hx hb d_M_flags_41 rfl (lv_at hl 2 rfl) ?_
      refine lv_iload_n hx hb d_M_flags_42 rfl (lv_at hl 3 rfl) ?_
      obtain ⟨hg, hf⟩ := gd_some hf
      refine va_iast hx hb hK hP (hI _) hS 9 0 ma_8 rfl (vin_in hg) d_M_flags_43 (fun H locs hP _ hS => ?_)
      replace hP : va_P D classes (mW cI cZ cJ ao aa (sA q2.2 8 x0.toNatClampNeg x1)) H := pw mt_8 hP
      refine lv_iload_n hx hb d_M_flags_44 rfl (lv_at hl 0 rfl) ?_
      obtain rfl := Option.some.inj hf
      exact W.iret hx hb hr0 (fun t ht _ => ⟨⟨rfl, by rw [ht]; exact hP⟩, hS.F ht⟩) hS.2.2 d_M_flags_45 hlk
    · have hf := if_t hf c
      refine lv_bipush (v := (-102)) hx hb d_M_flags_27 (by decide) ?_
      obtain rfl := Option.some.inj hf
      exact W.iret hx hb hr0 (fun t ht _ => ⟨⟨rfl, by rw [ht]; exact hP⟩, hS.F ht⟩) hS.2.2 d_M_flags_29 hlk
  · have hf := if_t hf c
    refine lv_bipush (v := (-101)) hx hb d_M_flags_14 (by decide) ?_
    obtain rfl := Option.some.inj hf
    exact W.iret hx hb hr0 (fun t ht _ => ⟨⟨rfl, by rw [ht]; exact hP⟩, hS.F ht⟩) hS.2.2 d_M_flags_16 hlk
theorem c_m_M_flags {l : Launch} {D : va_G} {cI cZ cJ : ClassId} {ao aa : Nat → Nat} {S : St} {x0 : Int32} {x1 : Int32} {z : Int32 × St} (hz : m_M_flags S x0 x1 = some z) : Ct l y_M_flags (.code y_M_flags b_M_flags 4 (some .int) :: gw) rm_m_M_flags D [(cI, .int), (cZ, .boolean), (cJ, .long)] (mA ao aa) (mW cI cZ cJ ao aa) [.ref (ao 0), .int x0, .int x1] S (some (.int z.1)) z.2 :=
  Ct_of (by decide) (fun p e s m args below meth c X => w_m_M_flags X _ _ _ hz) (Nat.le_of_ble_eq_true rfl)
end

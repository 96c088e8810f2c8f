section
variable {p : Program} {l : Launch} {e : Env} {s : State} {m : MethodId} {args : Array Value} {below : List Frame} {meth : Method} {c : Code} {D : va_G} {cI cZ cJ : ClassId} {ao aa : Nat → Nat}
def m_M_fails (S : St) (x0 : Int32) (x1 : Int32) : Option (St) :=
  some (sI (sI S 7 x0) 8 x1)
def rm_m_M_fails : Room := { frames := 0, cells := 0, slots := 0, locals := 0 }
theorem ok_m_M_fails : CalV y_M_fails b_M_fails 3 none 2 rm_m_M_fails := ⟨kc_M_fails, ki_M_fails, kl_M_fails, ji_M, ⟨by decide, by decide, by decide +kernel⟩, rfl, rfl⟩
set_option maxHeartbeats 4000000 in
set_option maxRecDepth 100000 in
theorem w_m_M_fails {z : St} (X : Cx b_M_fails 3 none R_M D [(cI, .int), (cZ, .boolean), (cJ, .long)] (mA ao aa) (mW cI cZ cJ ao aa) p s m args meth c) (S : St) (x0 : Int32) (x1 : Int32) (hf : m_M_fails S x0 x1 = some z) : WX rm_m_M_fails D (mA ao aa) (mW cI cZ cJ ao aa) p l e s m args below meth c none z 0 [] 3 [(0, .ref (ao 0)), (1, .int x0), (2, .int x1)] S := by
  intro H locs ls hP hS hl
  obtain ⟨hx, hb, hr0, hml, hown, htg, hlk, hK, hN, hI⟩ := id X
  unfold m_M_fails at hf
  refine lv_aload_n hx hb d_M_fails_0 rfl (lv_at hl 0 rfl) ?_
  refine lv_iload_n hx hb d_M_fails_1 rfl (lv_at hl 1 rfl) ?_
  refine va_put (D := D) (ty := .int) hx hb htg in_M t_M t_M_ok n_M hown hK hP (hI _) hS 0 mo_0 rfl 24 (by decide) (htg _ k_f_M_180) (fun _ h9 => h9) rfl (by decide +kernel) rfl rfl (Nat.le_of_ble_eq_true rfl) d_M_fails_2 (fun H locs hP _ hS => ?_)
  replace hP : va_P D classes (mW cI cZ cJ ao aa (sI S 7 x0)) H := pw ms_0_error hP
  refine lv_aload_n hx hb d_M_fails_5 rfl (lv_at hl 0 rfl) ?_
  refine lv_iload_n hx hb d_M_fails_6 rfl (lv_at hl 2 rfl) ?_
  refine va_put (D := D) (ty := .int) hx hb htg in_M t_M t_M_ok n_M hown hK hP (hI _) hS 0 mo_0 rfl 25 (by decide) (htg _ k_f_M_183) (fun _ h9 => h9) rfl (by decide +kernel) rfl rfl (Nat.le_of_ble_eq_true rfl) d_M_fails_7 (fun H locs hP _ hS => ?_)
  replace hP : va_P D classes (mW cI cZ cJ ao aa (sI (sI S 7 x0) 8 x1)) H := pw ms_0_place hP
  obtain rfl := Option.some.inj hf
  exact W.vret hx hb hr0 (fun t ht _ => ⟨⟨rfl, by rw [ht]; exact hP⟩, hS.F ht⟩) hS.2.2 d_M_fails_10 hlk
theorem c_m_M_fails {l : Launch} {D : va_G} {cI cZ cJ : ClassId} {ao aa : Nat → Nat} {S : St} {x0 : Int32} {x1 : Int32} {z : St} (hz : m_M_fails S x0 x1 = some z) : Ct l y_M_fails (.code y_M_fails b_M_fails 3 none :: gw) rm_m_M_fails D [(cI, .int), (cZ, .boolean), (cJ, .long)] (mA ao aa) (mW cI cZ cJ ao aa) [.ref (ao 0), .int x0, .int x1] S none z :=
  Ct_of (by decide) (fun p e s m args below meth c X => w_m_M_fails X _ _ _ hz) (Nat.le_of_ble_eq_true rfl)
def m_M_others_b92 (k2 : St → Int32 → Option (St)) (S : St) (x1 : Int32) : Option (St) :=
  k2 S (x1 + 1)
def m_M_others_b2_f (k2 : St → Int32 → Option (St)) (S : St) (x1 : Int32) : Option (St) :=
  if (gI S 13) ≤ x1 then
    some S
  else
    if (gI S 7) = 0 then
      gd (vin x1 2) <|
      if (gA S 18 x1.toNatClampNeg) = (8 : Int32) then
        if (gI S 13) = (2 : Int32) then
          gd (vin ((1 : Int32) - x1) 2) <|
          if (5 : Int32) < (gA S 18 ((1 : Int32) - x1).toNatClampNeg) then
            m_M_others_b92 k2 S x1
          else
            gd (vin x1 2) <|
            gd (vin ((1 : Int32) - x1) 2) <|
            gd (vin x1 2) <|
            gd (vin x1 2) <|
            if (lg_cmp (gB (sB S 20 x1.toNatClampNeg ((gB S 20 x1.toNatClampNeg) &&& ((gB S 20 ((1 : Int32) - x1).toNatClampNeg) ^^^ (-1 : Int64)))) 20 x1.toNatClampNeg) (0 : Int64)) = 0 then
              gd (vin x1 2) <|
              (m_M_fails (sB S 20 x1.toNatClampNeg ((gB S 20 x1.toNatClampNeg) &&& ((gB S 20 ((1 : Int32) - x1).toNatClampNeg) ^^^ (-1 : Int64)))) (14 : Int32) (gA (sB S 20 x1.toNatClampNeg ((gB S 20 x1.toNatClampNeg) &&& ((gB S 20 ((1 : Int32) - x1).toNatClampNeg) ^^^ (-1 : Int64)))) 19 x1.toNatClampNeg)).bind fun q1 =>
              m_M_others_b92 k2 q1 x1
            else
              m_M_others_b92 k2 (sB S 20 x1.toNatClampNeg ((gB S 20 x1.toNatClampNeg) &&& ((gB S 20 ((1 : Int32) - x1).toNatClampNeg) ^^^ (-1 : Int64)))) x1
        else
          m_M_others_b92 k2 S x1
      else
        m_M_others_b92 k2 S x1
    else
      some S
def m_M_others_b2 : Nat → St → Int32 → Option (St)
  | 0, _, _ => none
  | n + 1, S, x1 => m_M_others_b2_f (m_M_others_b2 n) S x1
def m_M_others (S : St) : Option (St) :=
  m_M_others_b2 fu S (0 : Int32)
def rm_m_M_others : Room := { frames := 1, cells := 0, slots := 0, locals := 22 }
theorem ok_m_M_others : CalV y_M_others b_M_others 2 none 0 rm_m_M_others := ⟨kc_M_others, ki_M_others, kl_M_others, ji_M, ⟨by decide, by decide, by decide +kernel⟩, rfl, rfl⟩
set_option maxHeartbeats 4000000 in
set_option maxRecDepth 100000 in
theorem w_m_M_others_b92 {z : St} (X : Cx b_M_others 2 none R_M D [(cI, .int), (cZ, .boolean), (cJ, .long)] (mA ao aa) (mW cI cZ cJ ao aa) p s m args meth c) {k2 : St → Int32 → Option (St)} (hk2 : ∀ (S : St) (x1 : Int32), k2 S x1 = some z → WX rm_m_M_others D (mA ao aa) (mW cI cZ cJ ao aa) p l e s m args below meth c none z 2 [] 2 [(0, .ref (ao 0)), (1, .int x1)] S) (S : St) (x1 : Int32) (hf : m_M_others_b92 k2 S x1 = some z) : WX rm_m_M_others D (mA ao aa) (mW cI cZ cJ ao aa) p l e s m args below meth c none z 92 [] 2 [(0, .ref (ao 0)), (1, .int x1)] S := by
  intro H locs ls hP hS hl
  obtain ⟨hx, hb, hr0, hml, hown, htg, hlk, hK, hN, hI⟩ := id X
  unfold m_M_others_b92 at hf
  refine lv_iinc (v := (x1 + 1)) (lv' := [(1, .int (x1 + 1)), (0, .ref (ao 0))]) hx hb d_M_others_92 hl (k := 1) rfl rfl (by decide) rfl (fun ls hl => ?_)
  refine lv_goto (tgt := 2) hx hb d_M_others_95 (by decide) ?_
  exact hk2 _ _ hf H locs ls hP hS (lv_sub hl [1, 0] rfl)
set_option maxHeartbeats 4000000 in
set_option maxRecDepth 100000 in
theorem w_m_M_others_b2_f {z : St} (X : Cx b_M_others 2 none R_M D [(cI, .int), (cZ, .boolean), (cJ, .long)] (mA ao aa) (mW cI cZ cJ ao aa) p s m args meth c) {k2 : St → Int32 → Option (St)} (hk2 : ∀ (S : St) (x1 : Int32), k2 S x1 = some z → WX rm_m_M_others D (mA ao aa) (mW cI cZ cJ ao aa) p l e s m args below meth c none z 2 [] 2 [(0, .ref (ao 0)), (1, .int x1)] S) (S : St) (x1 : Int32) (hf : m_M_others_b2_f k2 S x1 = some z) : WX rm_m_M_others D (mA ao aa) (mW cI cZ cJ ao aa) p l e s m args below meth c none z 2 [] 2 [(0, .ref (ao 0)), (1, .int x1)] S := by
  intro H locs ls hP hS hl
  obtain ⟨hx, hb, hr0, hml, hown, htg, hlk, hK, hN, hI⟩ := id X
  unfold m_M_others_b2_f at hf
  refine lv_iload_n hx hb d_M_others_2 rfl (lv_at hl 1 rfl) ?_
  refine lv_aload_n hx hb d_M_others_3 rfl (lv_at hl 0 rfl) ?_
  refine va_get (D := D) (v := .int (gI S 13)) hx hb htg in_M hown hK hP 0 mo_0 rfl 33 (by decide) (htg _ k_f_M_186) (fun _ h9 => h9) rfl d_M_others_4 ?_
  refine lv_icmp_ge (tgt := 98) hx hb d_M_others_7 (by decide) (fun c => ?_) (fun c => ?_)
  · have hf := if_t hf c
    obtain rfl := Option.some.inj hf
    exact W.vret hx hb hr0 (fun t ht _ => ⟨⟨rfl, by rw [ht]; exact hP⟩, hS.F ht⟩) hS.2.2 d_M_others_98 hlk
  · have hf := if_f hf c
    refine lv_aload_n hx hb d_M_others_10 rfl (lv_at hl 0 rfl) ?_
    refine va_get (D := D) (v := .int (gI S 7)) hx hb htg in_M hown hK hP 0 mo_0 rfl 24 (by decide) (htg _ k_f_M_180) (fun _ h9 => h9) rfl d_M_others_11 ?_
    refine lv_if_ne (tgt := 98) hx hb d_M_others_14 (by decide) (fun c => ?_) (fun c => ?_)
    · have hf := if_f hf c
      obtain rfl := Option.some.inj hf
      exact W.vret hx hb hr0 (fun t ht _ => ⟨⟨rfl, by rw [ht]; exact hP⟩, hS.F ht⟩) hS.2.2 d_M_others_98 hlk
    · have hf := if_t hf c
      refine lv_aload_n hx hb d_M_others_17 rfl (lv_at hl 0 rfl) ?_
      refine va_get (D := D) (v := .ref (aa 18)) hx hb htg in_M hown hK hP 0 mo_0 rfl 34 (by decide) (htg _ k_f_M_65) (fun _ h9 => h9) rfl d_M_others_18 ?_
      refine lv_iload_n hx hb d_M_others_21 rfl (lv_at hl 1 rfl) ?_
      obtain ⟨hg, hf⟩ := gd_some hf
      refine va_iald hx hb hK hP 19 0 ma_18 rfl (vin_in hg) d_M_others_22 ?_
      refine lv_bipush (v := 8) hx hb d_M_others_23 (by decide) ?_
      refine lv_icmp_ne (tgt := 92) hx hb d_M_others_25 (by decide) (fun c => ?_) (fun c => ?_)
      · have hf := if_f hf c
        exact w_m_M_others_b92 X hk2 _ _ hf H locs ls hP hS (lv_sub hl [0, 1] rfl)
      · have hf := if_t hf c
        refine lv_aload_n hx hb d_M_others_28 rfl (lv_at hl 0 rfl) ?_
        refine va_get (D := D) (v := .int (gI S 13)) hx hb htg in_M hown hK hP 0 mo_0 rfl 33 (by decide) (htg _ k_f_M_186) (fun _ h9 => h9) rfl d_M_others_29 ?_
        refine lv_iconst (v := 2) hx hb d_M_others_32 (by decide) ?_
        refine lv_icmp_ne (tgt := 92) hx hb d_M_others_33 (by decide) (fun c => ?_) (fun c => ?_)
        · have hf := if_f hf c
          exact w_m_M_others_b92 X hk2 _ _ hf H locs ls hP hS (lv_sub hl [0, 1] rfl)
        · have hf := if_t hf c
          refine lv_aload_n hx hb d_M_others_36 rfl (lv_at hl 0 rfl) ?_
          refine va_get (D := D) (v := .ref (aa 18)) hx hb htg in_M hown hK hP 0 mo_0 rfl 34 (by decide) (htg _ k_f_M_65) (fun _ h9 => h9) rfl d_M_others_37 ?_
          refine lv_iconst (v := 1) hx hb d_M_others_40 (by decide) ?_
          refine lv_iload_n hx hb d_M_others_41 rfl (lv_at hl 1 rfl) ?_
          refine lv_isub hx hb d_M_others_42 ?_
          obtain ⟨hg, hf⟩ := gd_some hf
          refine va_iald hx hb hK hP 19 0 ma_18 rfl (vin_in hg) d_M_others_43 ?_
          refine lv_iconst (v := 5) hx hb d_M_others_44 (by decide) ?_
          refine lv_icmp_gt (tgt := 92) hx hb d_M_others_45 (by decide) (fun c => ?_) (fun c => ?_)
          · have hf := if_t hf c
            exact w_m_M_others_b92 X hk2 _ _ hf H locs ls hP hS (lv_sub hl [0, 1] rfl)
          · have hf := if_f hf c
            refine lv_aload_n hx hb d_M_others_48 rfl (lv_at hl 0 rfl) ?_
            refine va_get (D := D) (v := .ref (aa 20)) hx hb htg in_M hown hK hP 0 mo_0 rfl 36 (by decide) (htg _ k_f_M_71) (fun _ h9 => h9) rfl d_M_others_49 ?_
            refine lv_iload_n hx hb d_M_others_52 rfl (lv_at hl 1 rfl) ?_
            refine lv_dup2_11 hx hb d_M_others_53 rfl rfl ?_
            obtain ⟨hg, hf⟩ := gd_some hf
            refine va_lald hx hb hK hP 21 2 ma_20 rfl (vin_in hg) d_M_others_54 ?_
            refine lv_aload_n hx hb d_M_others_55 rfl (lv_at hl 0 rfl) ?_
            refine va_get (D := D) (v := .ref (aa 20)) hx hb htg in_M hown hK hP 0 mo_0 rfl 36 (by decide) (htg _ k_f_M_71) (fun _ h9 => h9) rfl d_M_others_56 ?_
            refine lv_iconst (v := 1) hx hb d_M_others_59 (by decide) ?_
            refine lv_iload_n hx hb d_M_others_60 rfl (lv_at hl 1 rfl) ?_
            refine lv_isub hx hb d_M_others_61 ?_
            obtain ⟨hg, hf⟩ := gd_some hf
            refine va_lald hx hb hK hP 21 2 ma_20 rfl (vin_in hg) d_M_others_62 ?_
            refine lv_ldc2 (v := (-1)) hx hb hown (htg _ k_cl_M_248) d_M_others_63 ?_
            refine lv_lxor hx hb d_M_others_66 ?_
            refine lv_land hx hb d_M_others_67 ?_
            obtain ⟨hg, hf⟩ := gd_some hf
            refine va_last hx hb hK hP (hI _) hS 21 2 ma_20 rfl (vin_in hg) d_M_others_68 (fun H locs hP _ hS => ?_)
            replace hP : va_P D classes (mW cI cZ cJ ao aa (sB S 20 x1.toNatClampNeg ((gB S 20 x1.toNatClampNeg) &&& ((gB S 20 ((1 : Int32) - x1).toNatClampNeg) ^^^ (-1 : Int64))))) H := pw mt_20 hP
            refine lv_aload_n hx hb d_M_others_69 rfl (lv_at hl 0 rfl) ?_
            refine va_get (D := D) (v := .ref (aa 20)) hx hb htg in_M hown hK hP 0 mo_0 rfl 36 (by decide) (htg _ k_f_M_71) (fun _ h9 => h9) rfl d_M_others_70 ?_
            refine lv_iload_n hx hb d_M_others_73 rfl (lv_at hl 1 rfl) ?_
            obtain ⟨hg, hf⟩ := gd_some hf
            refine va_lald hx hb hK hP 21 2 ma_20 rfl (vin_in hg) d_M_others_74 ?_
            refine lv_lconst (v := 0) hx hb d_M_others_75 (by decide) ?_
            refine W.lcmp hx hb d_M_others_76 ?_
            refine lv_if_ne (tgt := 92) hx hb d_M_others_77 (by decide) (fun c => ?_) (fun c => ?_)
            · have hf := if_f hf c
              exact w_m_M_others_b92 X hk2 _ _ hf H locs ls hP hS (lv_sub hl [0, 1] rfl)
            · have hf := if_t hf c
              refine lv_aload_n hx hb d_M_others_80 rfl (lv_at hl 0 rfl) ?_
              refine lv_bipush (v := 14) hx hb d_M_others_81 (by decide) ?_
              refine lv_aload_n hx hb d_M_others_83 rfl (lv_at hl 0 rfl) ?_
              refine va_get (D := D) (v := .ref (aa 19)) hx hb htg in_M hown hK hP 0 mo_0 rfl 35 (by decide) (htg _ k_f_M_68) (fun _ h9 => h9) rfl d_M_others_84 ?_
              refine lv_iload_n hx hb d_M_others_87 rfl (lv_at hl 1 rfl) ?_
              obtain ⟨hg, hf⟩ := gd_some hf
              refine va_iald hx hb hK hP 20 0 ma_19 rfl (vin_in hg) d_M_others_88 ?_
              obtain ⟨q1, he, hf⟩ := ob_some hf
              refine cl_Vv (As := [.int (14 : Int32), .int (gA (sB S 20 x1.toNatClampNeg ((gB S 20 x1.toNatClampNeg) &&& ((gB S 20 ((1 : Int32) - x1).toNatClampNeg) ^^^ (-1 : Int64)))) 19 x1.toNatClampNeg)]) (rest := []) X (c_m_M_fails he) ok_m_M_fails k_m_M_205 (va_recv hK hP rfl mo_0) rfl rfl hl.1 (Nat.le_of_ble_eq_true rfl) d_M_others_89 ⟨by decide, by decide⟩ hP hS (fun H locs hP hS => ?_)
              exact w_m_M_others_b92 X hk2 _ _ hf H locs ls hP hS (lv_sub hl [0, 1] rfl)
theorem w_m_M_others_b2 {z : St} (X : Cx b_M_others 2 none R_M D [(cI, .int), (cZ, .boolean), (cJ, .long)] (mA ao aa) (mW cI cZ cJ ao aa) p s m args meth c) : ∀ (n : Nat) (S : St) (x1 : Int32), m_M_others_b2 n S x1 = some z → WX rm_m_M_others D (mA ao aa) (mW cI cZ cJ ao aa) p l e s m args below meth c none z 2 [] 2 [(0, .ref (ao 0)), (1, .int x1)] S
  | 0, _, _, hf => ns hf
  | n + 1, _, _, hf => w_m_M_others_b2_f X (w_m_M_others_b2 X n) _ _ hf
set_option maxHeartbeats 4000000 in
set_option maxRecDepth 100000 in
theorem w_m_M_others {z : St} (X : Cx b_M_others 2 none R_M D [(cI, .int), (cZ, .boolean), (cJ, .long)] (mA ao aa) (mW cI cZ cJ ao aa) p s m args meth c) (S : St) (hf : m_M_others S = some z) : WX rm_m_M_others D (mA ao aa) (mW cI cZ cJ ao aa) p l e s m args below meth c none z 0 [] 2 [(0, .ref (ao 0))] S := by
  intro H locs ls hP hS hl
  obtain ⟨hx, hb, hr0, hml, hown, htg, hlk, hK, hN, hI⟩ := id X
  unfold m_M_others at hf
  refine lv_iconst (v := 0) hx hb d_M_others_0 (by decide) ?_
  refine lv_istore_n (lv' := [(1, .int (0 : Int32)), (0, .ref (ao 0))]) hx hb d_M_others_1 rfl hl (by decide) rfl (fun ls hl => ?_)
  exact w_m_M_others_b2 X _ _ _ hf H locs ls hP hS (lv_sub hl [1, 0] rfl)
theorem c_m_M_others {l : Launch} {D : va_G} {cI cZ cJ : ClassId} {ao aa : Nat → Nat} {S : St} {z : St} (hz : m_M_others S = some z) : Ct l y_M_others (.code y_M_others b_M_others 2 none :: gw) rm_m_M_others D [(cI, .int), (cZ, .boolean), (cJ, .long)] (mA ao aa) (mW cI cZ cJ ao aa) [.ref (ao 0)] S none z :=
  Ct_of (by decide) (fun p e s m args below meth c X => w_m_M_others X _ hz) (Nat.le_of_ble_eq_true rfl)
def m_M_slot (S : St) (x0 : Int32) (x1 : Int32) : Option (St) :=
  gd (vin (gI S 13) 2) <|
  gd (vin (gI (sA S 18 (gI S 13).toNatClampNeg x0) 13) 2) <|
  gd (vin (gI (sA (sA S 18 (gI S 13).toNatClampNeg x0) 19 (gI (sA S 18 (gI S 13).toNatClampNeg x0) 13).toNatClampNeg x1) 13) 2) <|
  some (sI (sB (sA (sA S 18 (gI S 13).toNatClampNeg x0) 19 (gI (sA S 18 (gI S 13).toNatClampNeg x0) 13).toNatClampNeg x1) 20 (gI (sA (sA S 18 (gI S 13).toNatClampNeg x0) 19 (gI (sA S 18 (gI S 13).toNatClampNeg x0) 13).toNatClampNeg x1) 13).toNatClampNeg (0 : Int64)) 13 ((gI (sB (sA (sA S 18 (gI S 13).toNatClampNeg x0) 19 (gI (sA S 18 (gI S 13).toNatClampNeg x0) 13).toNatClampNeg x1) 20 (gI (sA (sA S 18 (gI S 13).toNatClampNeg x0) 19 (gI (sA S 18 (gI S 13).toNatClampNeg x0) 13).toNatClampNeg x1) 13).toNatClampNeg (0 : Int64)) 13) + (1 : Int32)))
def rm_m_M_slot : Room := { frames := 0, cells := 0, slots := 0, locals := 0 }
theorem ok_m_M_slot : CalV y_M_slot b_M_slot 3 none 2 rm_m_M_slot := ⟨kc_M_slot, ki_M_slot, kl_M_slot, ji_M, ⟨by decide, by decide, by decide +kernel⟩, rfl, rfl⟩
set_option maxHeartbeats 4000000 in
set_option maxRecDepth 100000 in
theorem w_m_M_slot {z : St} (X : Cx b_M_slot 3 none R_M D [(cI, .int), (cZ, .boolean), (cJ, .long)] (mA ao aa) (mW cI cZ cJ ao aa) p s m args meth c) (S : St) (x0 : Int32) (x1 : Int32) (hf : m_M_slot S x0 x1 = some z) : WX rm_m_M_slot D (mA ao aa) (mW cI cZ cJ ao aa) p l e s m args below meth c none z 0 [] 3 [(0, .ref (ao 0)), (1, .int x0), (2, .int x1)] S := by
  intro H locs ls hP hS hl
  obtain ⟨hx, hb, hr0, hml, hown, htg, hlk, hK, hN, hI⟩ := id X
  unfold m_M_slot at hf
  refine lv_aload_n hx hb d_M_slot_0 rfl (lv_at hl 0 rfl) ?_
  refine va_get (D := D) (v := .ref (aa 18)) hx hb htg in_M hown hK hP 0 mo_0 rfl 34 (by decide) (htg _ k_f_M_65) (fun _ h9 => h9) rfl d_M_slot_1 ?_
  refine lv_aload_n hx hb d_M_slot_4 rfl (lv_at hl 0 rfl) ?_
  refine va_get (D := D) (v := .int (gI S 13)) hx hb htg in_M hown hK hP 0 mo_0 rfl 33 (by decide) (htg _ k_f_M_186) (fun _ h9 => h9) rfl d_M_slot_5 ?_
  refine lv_iload_n hx hb d_M_slot_8 rfl (lv_at hl 1 rfl) ?_
  obtain ⟨hg, hf⟩ := gd_some hf
  refine va_iast hx hb hK hP (hI _) hS 19 0 ma_18 rfl (vin_in hg) d_M_slot_9 (fun H locs hP _ hS => ?_)
  replace hP : va_P D classes (mW cI cZ cJ ao aa (sA S 18 (gI S 13).toNatClampNeg x0)) H := pw mt_18 hP
  refine lv_aload_n hx hb d_M_slot_10 rfl (lv_at hl 0 rfl) ?_
  refine va_get (D := D) (v := .ref (aa 19)) hx hb htg in_M hown hK hP 0 mo_0 rfl 35 (by decide) (htg _ k_f_M_68) (fun _ h9 => h9) rfl d_M_slot_11 ?_
  refine lv_aload_n hx hb d_M_slot_14 rfl (lv_at hl 0 rfl) ?_
  refine va_get (D := D) (v := .int (gI (sA S 18 (gI S 13).toNatClampNeg x0) 13)) hx hb htg in_M hown hK hP 0 mo_0 rfl 33 (by decide) (htg _ k_f_M_186) (fun _ h9 => h9) rfl d_M_slot_15 ?_
  refine lv_iload_n hx hb d_M_slot_18 rfl (lv_at hl 2 rfl) ?_
  obtain ⟨hg, hf⟩ := gd_some hf
  refine va_iast hx hb hK hP (hI _) hS 20 0 ma_19 rfl (vin_in hg) d_M_slot_19 (fun H locs hP _ hS => ?_)
  replace hP : va_P D classes (mW cI cZ cJ ao aa (sA (sA S 18 (gI S 13).toNatClampNeg x0) 19 (gI (sA S 18 (gI S 13).toNatClampNeg x0) 13).toNatClampNeg x1)) H := pw mt_19 hP
  refine lv_aload_n hx hb d_M_slot_20 rfl (lv_at hl 0 rfl) ?_
  refine va_get (D := D) (v := .ref (aa 20)) hx hb htg in_M hown hK hP 0 mo_0 rfl 36 (by decide) (htg _ k_f_M_71) (fun _ h9 => h9) rfl d_M_slot_21 ?_
  refine lv_aload_n hx hb d_M_slot_24 rfl (lv_at hl 0 rfl) ?_
  refine va_get (D := D) (v := .int (gI (sA (sA S 18 (gI S 13).toNatClampNeg x0) 19 (gI (sA S 18 (gI S 13).toNatClampNeg x0) 13).toNatClampNeg x1) 13)) hx hb htg in_M hown hK hP 0 mo_0 rfl 33 (by decide) (htg _ k_f_M_186) (fun _ h9 => h9) rfl d_M_slot_25 ?_
  refine lv_lconst (v := 0) hx hb d_M_slot_28 (by decide) ?_
  obtain ⟨hg, hf⟩ := gd_some hf
  refine va_last hx hb hK hP (hI _) hS 21 2 ma_20 rfl (vin_in hg) d_M_slot_29 (fun H locs hP _ hS => ?_)
  replace hP : va_P D classes (mW cI cZ cJ ao aa (sB (sA (sA S 18 (gI S 13).toNatClampNeg x0) 19 (gI (sA S 18 (gI S 13).toNatClampNeg x0) 13).toNatClampNeg x1) 20 (gI (sA (sA S 18 (gI S 13).toNatClampNeg x0) 19 (gI (sA S 18 (gI S 13).toNatClampNeg x0) 13).toNatClampNeg x1) 13).toNatClampNeg (0 : Int64))) H := pw mt_20 hP
  refine lv_aload_n hx hb d_M_slot_30 rfl (lv_at hl 0 rfl) ?_
  refine lv_dup hx hb d_M_slot_31 rfl ?_
  refine va_get (D := D) (v := .int (gI (sB (sA (sA S 18 (gI S 13).toNatClampNeg x0) 19 (gI (sA S 18 (gI S 13).toNatClampNeg x0) 13).toNatClampNeg x1) 20 (gI (sA (sA S 18 (gI S 13).toNatClampNeg x0) 19 (gI (sA S 18 (gI S 13).toNatClampNeg x0) 13).toNatClampNeg x1) 13).toNatClampNeg (0 : Int64)) 13)) hx hb htg in_M hown hK hP 0 mo_0 rfl 33 (by decide) (htg _ k_f_M_186) (fun _ h9 => h9) rfl d_M_slot_32 ?_
  refine lv_iconst (v := 1) hx hb d_M_slot_35 (by decide) ?_
  refine lv_iadd hx hb d_M_slot_36 ?_
  refine va_put (D := D) (ty := .int) hx hb htg in_M t_M t_M_ok n_M hown hK hP (hI _) hS 0 mo_0 rfl 33 (by decide) (htg _ k_f_M_186) (fun _ h9 => h9) rfl (by decide +kernel) rfl rfl (Nat.le_of_ble_eq_true rfl) d_M_slot_37 (fun H locs hP _ hS => ?_)
  replace hP : va_P D classes (mW cI cZ cJ ao aa (sI (sB (sA (sA S 18 (gI S 13).toNatClampNeg x0) 19 (gI (sA S 18 (gI S 13).toNatClampNeg x0) 13).toNatClampNeg x1) 20 (gI (sA (sA S 18 (gI S 13).toNatClampNeg x0) 19 (gI (sA S 18 (gI S 13).toNatClampNeg x0) 13).toNatClampNeg x1) 13).toNatClampNeg (0 : Int64)) 13 ((gI (sB (sA (sA S 18 (gI S 13).toNatClampNeg x0) 19 (gI (sA S 18 (gI S 13).toNatClampNeg x0) 13).toNatClampNeg x1) 20 (gI (sA (sA S 18 (gI S 13).toNatClampNeg x0) 19 (gI (sA S 18 (gI S 13).toNatClampNeg x0) 13).toNatClampNeg x1) 13).toNatClampNeg (0 : Int64)) 13) + (1 : Int32)))) H := pw ms_0_slotMany hP
  obtain rfl := Option.some.inj hf
  exact W.vret hx hb hr0 (fun t ht _ => ⟨⟨rfl, by rw [ht]; exact hP⟩, hS.F ht⟩) hS.2.2 d_M_slot_40 hlk
theorem c_m_M_slot {l : Launch} {D : va_G} {cI cZ cJ : ClassId} {ao aa : Nat → Nat} {S : St} {x0 : Int32} {x1 : Int32} {z : St} (hz : m_M_slot S x0 x1 = some z) : Ct l y_M_slot (.code y_M_slot b_M_slot 3 none :: gw) rm_m_M_slot D [(cI, .int), (cZ, .boolean), (cJ, .long)] (mA ao aa) (mW cI cZ cJ ao aa) [.ref (ao 0), .int x0, .int x1] S none z :=
  Ct_of (by decide) (fun p e s m args below meth c X => w_m_M_slot X _ _ _ hz) (Nat.le_of_ble_eq_true rfl)
def m_M_next_b4_f (k4 : St → Int32 → Int32 → Option (Int32 × St)) (S : St) (x1 : Int32) (x3 : Int32) : Option (Int32 × St) :=
  gd (vin x1 60) <|
  if (gA S 5 x1.toNatClampNeg) ≤ x3 then
    some (x3, S)
  else
    gd (vin (((8 : Int32) * x1) + x3) 480) <|
    if (gA S 6 (((8 : Int32) * x1) + x3).toNatClampNeg) = (1 : Int32) then
      k4 S x1 (x3 + 1)
    else
      some (x3, S)
def m_M_next_b4 : Nat → St → Int32 → Int32 → Option (Int32 × St)
  | 0, _, _, _ => none
  | n + 1, S, x1, x3 => m_M_next_b4_f (m_M_next_b4 n) S x1 x3
def m_M_next (S : St) (x0 : Int32) (x1 : Int32) : Option (Int32 × St) :=
  m_M_next_b4 fu S x0 (x1 + (1 : Int32))
def rm_m_M_next : Room := { frames := 0, cells := 0, slots := 0, locals := 0 }
theorem ok_m_M_next : CalV y_M_next b_M_next 4 (some .int) 2 rm_m_M_next := ⟨kc_M_next, ki_M_next, kl_M_next, ji_M, ⟨by decide, by decide, by decide +kernel⟩, rfl, rfl⟩
set_option maxHeartbeats 4000000 in
set_option maxRecDepth 100000 in
theorem w_m_M_next_b4_f {z : Int32 × St} (X : Cx b_M_next 4 (some .int) R_M D [(cI, .int), (cZ, .boolean), (cJ, .long)] (mA ao aa) (mW cI cZ cJ ao aa) p s m args meth c) {k4 : St → Int32 → Int32 → Option (Int32 × St)} (hk4 : ∀ (S : St) (x1 : Int32) (x3 : Int32), k4 S x1 x3 = some z → WX rm_m_M_next D (mA ao aa) (mW cI cZ cJ ao aa) p l e s m args below meth c (some (.int z.1)) z.2 4 [] 4 [(0, .ref (ao 0)), (1, .int x1), (3, .int x3)] S) (S : St) (x1 : Int32) (x3 : Int32) (hf : m_M_next_b4_f k4 S x1 x3 = some z) : WX rm_m_M_next D (mA ao aa) (mW cI cZ cJ ao aa) p l e s m args below meth c (some (.int z.1)) z.2 4 [] 4 [(0, .ref (ao 0)), (1, .int x1), (3, .int x3)] S := by
  intro H locs ls hP hS hl
  obtain ⟨hx, hb, hr0, hml, hown, htg, hlk, hK, hN, hI⟩ := id X
  unfold m_M_next_b4_f at hf
  refine lv_iload_n hx hb d_M_next_4 rfl (lv_at hl 2 rfl) ?_
  refine lv_aload_n hx hb d_M_next_5 rfl (lv_at hl 0 rfl) ?_
  refine va_get (D := D) (v := .ref (aa 5)) hx hb htg in_M hown hK hP 0 mo_0 rfl 8 (by decide) (htg _ k_f_M_26) (fun _ h9 => h9) rfl d_M_next_6 ?_
  refine lv_iload_n hx hb d_M_next_9 rfl (lv_at hl 1 rfl) ?_
  obtain ⟨hg, hf⟩ := gd_some hf
  refine va_iald hx hb hK hP 6 0 ma_5 rfl (vin_in hg) d_M_next_10 ?_
  refine lv_icmp_ge (tgt := 35) hx hb d_M_next_11 (by decide) (fun c => ?_) (fun c => ?_)
  · have hf := if_t hf c
    refine lv_iload_n hx hb d_M_next_35 rfl (lv_at hl 2 rfl) ?_
    obtain rfl := Option.some.inj hf
    exact W.iret hx hb hr0 (fun t ht _ => ⟨⟨rfl, by rw [ht]; exact hP⟩, hS.F ht⟩) hS.2.2 d_M_next_36 hlk
  · have hf := if_f hf c
    refine lv_aload_n hx hb d_M_next_14 rfl (lv_at hl 0 rfl) ?_
    refine va_get (D := D) (v := .ref (aa 6)) hx hb htg in_M hown hK hP 0 mo_0 rfl 9 (by decide) (htg _ k_f_M_29) (fun _ h9 => h9) rfl d_M_next_15 ?_
    refine lv_bipush (v := 8) hx hb d_M_next_18 (by decide) ?_
    refine lv_iload_n hx hb d_M_next_20 rfl (lv_at hl 1 rfl) ?_
    refine lv_imul hx hb d_M_next_21 ?_
    refine lv_iload_n hx hb d_M_next_22 rfl (lv_at hl 2 rfl) ?_
    refine lv_iadd hx hb d_M_next_23 ?_
    obtain ⟨hg, hf⟩ := gd_some hf
    refine va_iald hx hb hK hP 7 0 ma_6 rfl (vin_in hg) d_M_next_24 ?_
    refine lv_iconst (v := 1) hx hb d_M_next_25 (by decide) ?_
    refine lv_icmp_ne (tgt := 35) hx hb d_M_next_26 (by decide) (fun c => ?_) (fun c => ?_)
    · have hf := if_f hf c
      refine lv_iload_n hx hb d_M_next_35 rfl (lv_at hl 2 rfl) ?_
      obtain rfl := Option.some.inj hf
      exact W.iret hx hb hr0 (fun t ht _ => ⟨⟨rfl, by rw [ht]; exact hP⟩, hS.F ht⟩) hS.2.2 d_M_next_36 hlk
    · have hf := if_t hf c
      refine lv_iinc (v := (x3 + 1)) (lv' := [(3, .int (x3 + 1)), (0, .ref (ao 0)), (1, .int x1)]) hx hb d_M_next_29 hl (k := 2) rfl rfl (by decide) rfl (fun ls hl => ?_)
      refine lv_goto (tgt := 4) hx hb d_M_next_32 (by decide) ?_
      exact hk4 _ _ _ hf H locs ls hP hS (lv_sub hl [1, 2, 0] rfl)
theorem w_m_M_next_b4 {z : Int32 × St} (X : Cx b_M_next 4 (some .int) R_M D [(cI, .int), (cZ, .boolean), (cJ, .long)] (mA ao aa) (mW cI cZ cJ ao aa) p s m args meth c) : ∀ (n : Nat) (S : St) (x1 : Int32) (x3 : Int32), m_M_next_b4 n S x1 x3 = some z → WX rm_m_M_next D (mA ao aa) (mW cI cZ cJ ao aa) p l e s m args below meth c (some (.int z.1)) z.2 4 [] 4 [(0, .ref (ao 0)), (1, .int x1), (3, .int x3)] S
  | 0, _, _, _, hf => ns hf
  | n + 1, _, _, _, hf => w_m_M_next_b4_f X (w_m_M_next_b4 X n) _ _ _ hf
set_option maxHeartbeats 4000000 in
set_option maxRecDepth 100000 in
theorem w_m_M_next {z : Int32 × St} (X : Cx b_M_next 4 (some .int) R_M D [(cI, .int), (cZ, .boolean), (cJ, .long)] (mA ao aa) (mW cI cZ cJ ao aa) p s m args meth c) (S : St) (x0 : Int32) (x1 : Int32) (hf : m_M_next S x0 x1 = some z) : WX rm_m_M_next D (mA ao aa) (mW cI cZ cJ ao aa) p l e s m args below meth c (some (.int z.1)) z.2 0 [] 4 [(0, .ref (ao 0)), (1, .int x0), (2, .int x1)] S := by
  intro H locs ls hP hS hl
  obtain ⟨hx, hb, hr0, hml, hown, htg, hlk, hK, hN, hI⟩ := id X
  unfold m_M_next at hf
  refine lv_iload_n hx hb d_M_next_0 rfl (lv_at hl 2 rfl) ?_
  refine lv_iconst (v := 1) hx hb d_M_next_1 (by decide) ?_
  refine lv_iadd hx hb d_M_next_2 ?_
  refine lv_istore_n (lv' := [(3, .int (x1 + (1 : Int32))), (0, .ref (ao 0)), (1, .int x0), (2, .int x1)]) hx hb d_M_next_3 rfl hl (by decide) rfl (fun ls hl => ?_)
  exact w_m_M_next_b4 X _ _ _ _ hf H locs ls hP hS (lv_sub hl [1, 2, 0] rfl)
theorem c_m_M_next {l : Launch} {D : va_G} {cI cZ cJ : ClassId} {ao aa : Nat → Nat} {S : St} {x0 : Int32} {x1 : Int32} {z : Int32 × St} (hz : m_M_next S x0 x1 = some z) : Ct l y_M_next (.code y_M_next b_M_next 4 (some .int) :: gw) rm_m_M_next D [(cI, .int), (cZ, .boolean), (cJ, .long)] (mA ao aa) (mW cI cZ cJ ao aa) [.ref (ao 0), .int x0, .int x1] S (some (.int z.1)) z.2 :=
  Ct_of (by decide) (fun p e s m args below meth c X => w_m_M_next X _ _ _ hz) (Nat.le_of_ble_eq_true rfl)
def m_M_isOneOf_b43 (k6 : St → Int32 → Int32 → Int32 → Int32 → Int32 → Option (Int32 × St)) (S : St) (x1 : Int32) (x2 : Int32) (x3 : Int32) (x5 : Int32) (s0 : Int32) : Option (Int32 × St) :=
  k6 S x1 x2 x3 s0 (x5 + 1)
def m_M_isOneOf_b38 (k6 : St → Int32 → Int32 → Int32 → Int32 → Int32 → Option (Int32 × St)) (S : St) (x1 : Int32) (x2 : Int32) (x3 : Int32) (x5 : Int32) : Option (Int32 × St) :=
  m_M_isOneOf_b43 k6 S x1 x2 x3 x5 (1 : Int32)
def m_M_isOneOf_b6_f (k6 : St → Int32 → Int32 → Int32 → Int32 → Int32 → Option (Int32 × St)) (S : St) (x1 : Int32) (x2 : Int32) (x3 : Int32) (x4 : Int32) (x5 : Int32) : Option (Int32 × St) :=
  (m_M_next S x1 x2).bind fun q1 =>
  if q1.1 ≤ x5 then
    gd (isB x4) <|
    some (x4, q1.2)
  else
    if x4 = 0 then
      gd (vin (((8 : Int32) * x1) + x5) 480) <|
      if (gA q1.2 7 (((8 : Int32) * x1) + x5).toNatClampNeg) = x3 then
        m_M_isOneOf_b38 k6 q1.2 x1 x2 x3 x5
      else
        m_M_isOneOf_b43 k6 q1.2 x1 x2 x3 x5 (0 : Int32)
    else
      m_M_isOneOf_b38 k6 q1.2 x1 x2 x3 x5
def m_M_isOneOf_b6 : Nat → St → Int32 → Int32 → Int32 → Int32 → Int32 → Option (Int32 × St)
  | 0, _, _, _, _, _, _ => none
  | n + 1, S, x1, x2, x3, x4, x5 => m_M_isOneOf_b6_f (m_M_isOneOf_b6 n) S x1 x2 x3 x4 x5
def m_M_isOneOf (S : St) (x0 : Int32) (x1 : Int32) (x2 : Int32) : Option (Int32 × St) :=
  m_M_isOneOf_b6 fu S x0 x1 x2 (0 : Int32) x1
def rm_m_M_isOneOf : Room := { frames := 1, cells := 0, slots := 0, locals := 23 }
theorem ok_m_M_isOneOf : CalV y_M_isOneOf b_M_isOneOf 6 (some .boolean) 3 rm_m_M_isOneOf := ⟨kc_M_isOneOf, ki_M_isOneOf, kl_M_isOneOf, ji_M, ⟨by decide, by decide, by decide +kernel⟩, rfl, rfl⟩
set_option maxHeartbeats 4000000 in
set_option maxRecDepth 100000 in
theorem w_m_M_isOneOf_b43 {z : Int32 × St} (X : Cx b_M_isOneOf 6 (some .boolean) R_M D [(cI, .int), (cZ, .boolean), (cJ, .long)] (mA ao aa) (mW cI cZ cJ ao aa) p s m args meth c) {k6 : St → Int32 → Int32 → Int32 → Int32 → Int32 → Option (Int32 × St)} (hk6 : ∀ (S : St) (x1 : Int32) (x2 : Int32) (x3 : Int32) (x4 : Int32) (x5 : Int32), k6 S x1 x2 x3 x4 x5 = some z → WX rm_m_M_isOneOf D (mA ao aa) (mW cI cZ cJ ao aa) p l e s m args below meth c (some (.int z.1)) z.2 6 [] 6 [(0, .ref (ao 0)), (1, .int x1), (2, .int x2), (3, .int x3), (4, .int x4), (5, .int x5)] S) (S : St) (x1 : Int32) (x2 : Int32) (x3 : Int32) (x5 : Int32) (s0 : Int32) (hf : m_M_isOneOf_b43 k6 S x1 x2 x3 x5 s0 = some z) : WX rm_m_M_isOneOf D (mA ao aa) (mW cI cZ cJ ao aa) p l e s m args below meth c (some (.int z.1)) z.2 43 [.int s0] 6 [(0, .ref (ao 0)), (1, .int x1), (2, .int x2), (3, .int x3), (5, .int x5)] S := by
  intro H locs ls hP hS hl
  obtain ⟨hx, hb, hr0, hml, hown, htg, hlk, hK, hN, hI⟩ := id X
  unfold m_M_isOneOf_b43 at hf
  refine lv_istore (lv' := [(4, .int s0), (0, .ref (ao 0)), (1, .int x1), (2, .int x2), (3, .int x3), (5, .int x5)]) hx hb d_M_isOneOf_43 hl (by decide) rfl (fun ls hl => ?_)
  refine lv_iinc (v := (x5 + 1)) (lv' := [(5, .int (x5 + 1)), (4, .int s0), (0, .ref (ao 0)), (1, .int x1), (2, .int x2), (3, .int x3)]) hx hb d_M_isOneOf_45 hl (k := 5) rfl rfl (by decide) rfl (fun ls hl => ?_)
  refine lv_goto (tgt := 6) hx hb d_M_isOneOf_48 (by decide) ?_
  exact hk6 _ _ _ _ _ _ hf H locs ls hP hS (lv_sub hl [2, 3, 4, 5, 1, 0] rfl)
set_option maxHeartbeats 4000000 in
set_option maxRecDepth 100000 in
theorem w_m_M_isOneOf_b38 {z : Int32 × St} (X : Cx b_M_isOneOf 6 (some .boolean) R_M D [(cI, .int), (cZ, .boolean), (cJ, .long)] (mA ao aa) (mW cI cZ cJ ao aa) p s m args meth c) {k6 : St → Int32 → Int32 → Int32 → Int32 → Int32 → Option (Int32 × St)} (hk6 : ∀ (S : St) (x1 : Int32) (x2 : Int32) (x3 : Int32) (x4 : Int32) (x5 : Int32), k6 S x1 x2 x3 x4 x5 = some z → WX rm_m_M_isOneOf D (mA ao aa) (mW cI cZ cJ ao aa) p l e s m args below meth c (some (.int z.1)) z.2 6 [] 6 [(0, .ref (ao 0)), (1, .int x1), (2, .int x2), (3, .int x3), (4, .int x4), (5, .int x5)] S) (S : St) (x1 : Int32) (x2 : Int32) (x3 : Int32) (x5 : Int32) (hf : m_M_isOneOf_b38 k6 S x1 x2 x3 x5 = some z) : WX rm_m_M_isOneOf D (mA ao aa) (mW cI cZ cJ ao aa) p l e s m args below meth c (some (.int z.1)) z.2 38 [] 6 [(0, .ref (ao 0)), (1, .int x1), (2, .int x2), (3, .int x3), (5, .int x5)] S := by
  intro H locs ls hP hS hl
  obtain ⟨hx, hb, hr0, hml, hown, htg, hlk, hK, hN, hI⟩ := id X
  unfold m_M_isOneOf_b38 at hf
  refine lv_iconst (v := 1) hx hb d_M_isOneOf_38 (by decide) ?_
  refine lv_goto (tgt := 43) hx hb d_M_isOneOf_39 (by decide) ?_
  exact w_m_M_isOneOf_b43 X hk6 _ _ _ _ _ _ hf H locs ls hP hS (lv_sub hl [0, 1, 2, 3, 4] rfl)
set_option maxHeartbeats 4000000 in
set_option maxRecDepth 100000 in
theorem w_m_M_isOneOf_b6_f {z : Int32 × St} (X : Cx b_M_isOneOf 6 (some .boolean) R_M D [(cI, .int), (cZ, .boolean), (cJ, .long)] (mA ao aa) (mW cI cZ cJ ao aa) p s m args meth c) {k6 : St → Int32 → Int32 → Int32 → Int32 → Int32 → Option (Int32 × St)} (hk6 : ∀ (S : St) (x1 : Int32) (x2 : Int32) (x3 : Int32) (x4 : Int32) (x5 : Int32), k6 S x1 x2 x3 x4 x5 = some z → WX rm_m_M_isOneOf D (mA ao aa) (mW cI cZ cJ ao aa) p l e s m args below meth c (some (.int z.1)) z.2 6 [] 6 [(0, .ref (ao 0)), (1, .int x1), (2, .int x2), (3, .int x3), (4, .int x4), (5, .int x5)] S) (S : St) (x1 : Int32) (x2 : Int32) (x3 : Int32) (x4 : Int32) (x5 : Int32) (hf : m_M_isOneOf_b6_f k6 S x1 x2 x3 x4 x5 = some z) : WX rm_m_M_isOneOf D (mA ao aa) (mW cI cZ cJ ao aa) p l e s m args below meth c (some (.int z.1)) z.2 6 [] 6 [(0, .ref (ao 0)), (1, .int x1), (2, .int x2), (3, .int x3), (4, .int x4), (5, .int x5)] S := by
  intro H locs ls hP hS hl
  obtain ⟨hx, hb, hr0, hml, hown, htg, hlk, hK, hN, hI⟩ := id X
  unfold m_M_isOneOf_b6_f at hf
  refine lv_iload hx hb d_M_isOneOf_6 (lv_at hl 5 rfl) ?_
  refine lv_aload_n hx hb d_M_isOneOf_8 rfl (lv_at hl 0 rfl) ?_
  refine lv_iload_n hx hb d_M_isOneOf_9 rfl (lv_at hl 1 rfl) ?_
  refine lv_iload_n hx hb d_M_isOneOf_10 rfl (lv_at hl 2 rfl) ?_
  obtain ⟨q1, he, hf⟩ := ob_some hf
  refine cl_Vi (As := [.int x1, .int x2]) (rest := [.int x5]) X (c_m_M_next he) ok_m_M_next k_m_M_189 (va_recv hK hP rfl mo_0) rfl rfl hl.1 (Nat.le_of_ble_eq_true rfl) d_M_isOneOf_11 ⟨by decide, by decide⟩ hP hS (fun H locs hP hS => ?_)
  refine lv_icmp_ge (tgt := 51) hx hb d_M_isOneOf_14 (by decide) (fun c => ?_) (fun c => ?_)
  · have hf := if_t hf c
    refine lv_iload hx hb d_M_isOneOf_51 (lv_at hl 4 rfl) ?_
    obtain ⟨hg, hf⟩ := gd_some hf
    obtain rfl := Option.some.inj hf
    exact W.zret (ty := .boolean) hx hb hr0 (isB_n hg) (fun t ht _ => ⟨⟨rfl, by rw [ht]; exact hP⟩, hS.F ht⟩) hS.2.2 d_M_isOneOf_53 hlk
  · have hf := if_f hf c
    refine lv_iload hx hb d_M_isOneOf_17 (lv_at hl 4 rfl) ?_
    refine lv_if_ne (tgt := 38) hx hb d_M_isOneOf_19 (by decide) (fun c => ?_) (fun c => ?_)
    · have hf := if_f hf c
      exact w_m_M_isOneOf_b38 X hk6 _ _ _ _ _ hf H locs ls hP hS (lv_sub hl [0, 1, 2, 3, 5] rfl)
    · have hf := if_t hf c
      refine lv_aload_n hx hb d_M_isOneOf_22 rfl (lv_at hl 0 rfl) ?_
      refine va_get (D := D) (v := .ref (aa 7)) hx hb htg in_M hown hK hP 0 mo_0 rfl 10 (by decide) (htg _ k_f_M_32) (fun _ h9 => h9) rfl d_M_isOneOf_23 ?_
      refine lv_bipush (v := 8) hx hb d_M_isOneOf_26 (by decide) ?_
      refine lv_iload_n hx hb d_M_isOneOf_28 rfl (lv_at hl 1 rfl) ?_
      refine lv_imul hx hb d_M_isOneOf_29 ?_
      refine lv_iload hx hb d_M_isOneOf_30 (lv_at hl 5 rfl) ?_
      refine lv_iadd hx hb d_M_isOneOf_32 ?_
      obtain ⟨hg, hf⟩ := gd_some hf
      refine va_iald hx hb hK hP 8 0 ma_7 rfl (vin_in hg) d_M_isOneOf_33 ?_
      refine lv_iload_n hx hb d_M_isOneOf_34 rfl (lv_at hl 3 rfl) ?_
      refine lv_icmp_ne (tgt := 42) hx hb d_M_isOneOf_35 (by decide) (fun c => ?_) (fun c => ?_)
      · have hf := if_f hf c
        refine lv_iconst (v := 0) hx hb d_M_isOneOf_42 (by decide) ?_
        exact w_m_M_isOneOf_b43 X hk6 _ _ _ _ _ _ hf H locs ls hP hS (lv_sub hl [0, 1, 2, 3, 5] rfl)
      · have hf := if_t hf c
        exact w_m_M_isOneOf_b38 X hk6 _ _ _ _ _ hf H locs ls hP hS (lv_sub hl [0, 1, 2, 3, 5] rfl)
theorem w_m_M_isOneOf_b6 {z : Int32 × St} (X : Cx b_M_isOneOf 6 (some .boolean) R_M D [(cI, .int), (cZ, .boolean), (cJ, .long)] (mA ao aa) (mW cI cZ cJ ao aa) p s m args meth c) : ∀ (n : Nat) (S : St) (x1 : Int32) (x2 : Int32) (x3 : Int32) (x4 : Int32) (x5 : Int32), m_M_isOneOf_b6 n S x1 x2 x3 x4 x5 = some z → WX rm_m_M_isOneOf D (mA ao aa) (mW cI cZ cJ ao aa) p l e s m args below meth c (some (.int z.1)) z.2 6 [] 6 [(0, .ref (ao 0)), (1, .int x1), (2, .int x2), (3, .int x3), (4, .int x4), (5, .int x5)] S
  | 0, _, _, _, _, _, _, hf => ns hf
  | n + 1, _, _, _, _, _, _, hf => w_m_M_isOneOf_b6_f X (w_m_M_isOneOf_b6 X n) _ _ _ _ _ _ hf
set_option maxHeartbeats 4000000 in
set_option maxRecDepth 100000 in
theorem w_m_M_isOneOf {z : Int32 × St} (X : Cx b_M_isOneOf 6 (some .boolean) R_M D [(cI, .int), (cZ, .boolean), (cJ, .long)] (mA ao aa) (mW cI cZ cJ ao aa) p s m args meth c) (S : St) (x0 : Int32) (x1 : Int32) (x2 : Int32) (hf : m_M_isOneOf S x0 x1 x2 = some z) : WX rm_m_M_isOneOf D (mA ao aa) (mW cI cZ cJ ao aa) p l e s m args below meth c (some (.int z.1)) z.2 0 [] 6 [(0, .ref (ao 0)), (1, .int x0), (2, .int x1), (3, .int x2)] S := by
  intro H locs ls hP hS hl
  obtain ⟨hx, hb, hr0, hml, hown, htg, hlk, hK, hN, hI⟩ := id X
  unfold m_M_isOneOf at hf
  refine lv_iconst (v := 0) hx hb d_M_isOneOf_0 (by decide) ?_
  refine lv_istore (lv' := [(4, .int (0 : Int32)), (0, .ref (ao 0)), (1, .int x0), (2, .int x1), (3, .int x2)]) hx hb d_M_isOneOf_1 hl (by decide) rfl (fun ls hl => ?_)
  refine lv_iload_n hx hb d_M_isOneOf_3 rfl (lv_at hl 3 rfl) ?_
  refine lv_istore (lv' := [(5, .int x1), (4, .int (0 : Int32)), (0, .ref (ao 0)), (1, .int x0), (2, .int x1), (3, .int x2)]) hx hb d_M_isOneOf_4 hl (by decide) rfl (fun ls hl => ?_)
  exact w_m_M_isOneOf_b6 X _ _ _ _ _ _ _ hf H locs ls hP hS (lv_sub hl [2, 3, 4, 5, 1, 0] rfl)
theorem c_m_M_isOneOf {l : Launch} {D : va_G} {cI cZ cJ : ClassId} {ao aa : Nat → Nat} {S : St} {x0 : Int32} {x1 : Int32} {x2 : Int32} {z : Int32 × St} (hz : m_M_isOneOf S x0 x1 x2 = some z) : Ct l y_M_isOneOf (.code y_M_isOneOf b_M_isOneOf 6 (some .boolean) :: gw) rm_m_M_isOneOf D [(cI, .int), (cZ, .boolean), (cJ, .long)] (mA ao aa) (mW cI cZ cJ ao aa) [.ref (ao 0), .int x0, .int x1, .int x2] S (some (.int z.1)) z.2 :=
  Ct_of (by decide) (fun p e s m args below meth c X => w_m_M_isOneOf X _ _ _ _ hz) (Nat.le_of_ble_eq_true rfl)
def m_M_takesTopic_b56 (S : St) (x3 : Int32) (x5 : Int32) : Option (Int32 × St) :=
  gd (vin ((gI S 13) - (1 : Int32)) 2) <|
  gd (vin ((gI (sA S 21 ((gI S 13) - (1 : Int32)).toNatClampNeg x3) 13) - (1 : Int32)) 2) <|
  some (x5, (sA (sA S 21 ((gI S 13) - (1 : Int32)).toNatClampNeg x3) 22 ((gI (sA S 21 ((gI S 13) - (1 : Int32)).toNatClampNeg x3) 13) - (1 : Int32)).toNatClampNeg x5))
def m_M_takesTopic_b50 (k13 : St → Int32 → Int32 → Int32 → Int32 → Option (Int32 × St)) (S : St) (x1 : Int32) (x3 : Int32) (x4 : Int32) (x5 : Int32) : Option (Int32 × St) :=
  k13 S x1 x3 x4 (x5 + 1)
def m_M_takesTopic_b13_f (k13 : St → Int32 → Int32 → Int32 → Int32 → Option (Int32 × St)) (S : St) (x1 : Int32) (x3 : Int32) (x4 : Int32) (x5 : Int32) : Option (Int32 × St) :=
  if (gI S 6) ≤ x5 then
    m_M_takesTopic_b56 S x3 x5
  else
    gd (vin x1 60) <|
    if (gA S 5 x1.toNatClampNeg) ≤ x4 then
      m_M_takesTopic_b50 k13 S x1 x3 x4 x5
    else
      gd (vin x5 60) <|
      (m_M_isOneOf S x1 x4 (gA S 15 x5.toNatClampNeg)).bind fun q2 =>
      if q2.1 = 0 then
        m_M_takesTopic_b50 k13 q2.2 x1 x3 x4 x5
      else
        m_M_takesTopic_b56 q2.2 x3 x5
def m_M_takesTopic_b13 : Nat → St → Int32 → Int32 → Int32 → Int32 → Option (Int32 × St)
  | 0, _, _, _, _, _ => none
  | n + 1, S, x1, x3, x4, x5 => m_M_takesTopic_b13_f (m_M_takesTopic_b13 n) S x1 x3 x4 x5
def m_M_takesTopic (S : St) (x0 : Int32) (x1 : Int32) (x2 : Int32) : Option (Int32 × St) :=
  (m_M_next S x0 x1).bind fun q1 =>
  m_M_takesTopic_b13 fu q1.2 x0 x2 q1.1 (x2 + (1 : Int32))
def rm_m_M_takesTopic : Room := { frames := 2, cells := 0, slots := 0, locals := 48 }
theorem ok_m_M_takesTopic : CalV y_M_takesTopic b_M_takesTopic 6 (some .int) 3 rm_m_M_takesTopic := ⟨kc_M_takesTopic, ki_M_takesTopic, kl_M_takesTopic, ji_M, ⟨by decide, by decide, by decide +kernel⟩, rfl, rfl⟩
set_option maxHeartbeats 4000000 in
set_option maxRecDepth 100000 in
theorem w_m_M_takesTopic_b56 {z : Int32 × St} (X : Cx b_M_takesTopic 6 (some .int) R_M D [(cI, .int), (cZ, .boolean), (cJ, .long)] (mA ao aa) (mW cI cZ cJ ao aa) p s m args meth c) (S : St) (x3 : Int32) (x5 : Int32) (hf : m_M_takesTopic_b56 S x3 x5 = some z) : WX rm_m_M_takesTopic D (mA ao aa) (mW cI cZ cJ ao aa) p l e s m args below meth c (some (.int z.1)) z.2 56 [] 6 [(0, .ref (ao 0)), (3, .int x3), (5, .int x5)] S := by
  intro H locs ls hP hS hl
  obtain ⟨hx, hb, hr0, hml, hown, htg, hlk, hK, hN, hI⟩ := id X
  unfold m_M_takesTopic_b56 at hf
  refine lv_aload_n hx hb d_M_takesTopic_56 rfl (lv_at hl 0 rfl) ?_
  refine va_get (D := D) (v := .ref (aa 21)) hx hb htg in_M hown hK hP 0 mo_0 rfl 37 (by decide) (htg _ k_f_M_75) (fun _ h9 => h9) rfl d_M_takesTopic_57 ?_
  refine lv_aload_n hx hb d_M_takesTopic_60 rfl (lv_at hl 0 rfl) ?_
  refine va_get (D := D) (v := .int (gI S 13)) hx hb htg in_M hown hK hP 0 mo_0 rfl 33 (by decide) (htg _ k_f_M_186) (fun _ h9 => h9) rfl d_M_takesTopic_61 ?_
  refine lv_iconst (v := 1) hx hb d_M_takesTopic_64 (by decide) ?_
  refine lv_isub hx hb d_M_takesTopic_65 ?_
  refine lv_iload_n hx hb d_M_takesTopic_66 rfl (lv_at hl 1 rfl) ?_
  obtain ⟨hg, hf⟩ := gd_some hf
  refine va_iast hx hb hK hP (hI _) hS 22 0 ma_21 rfl (vin_in hg) d_M_takesTopic_67 (fun H locs hP _ hS => ?_)
  replace hP : va_P D classes (mW cI cZ cJ ao aa (sA S 21 ((gI S 13) - (1 : Int32)).toNatClampNeg x3)) H := pw mt_21 hP
  refine lv_aload_n hx hb d_M_takesTopic_68 rfl (lv_at hl 0 rfl) ?_
  refine va_get (D := D) (v := .ref (aa 22)) hx hb htg in_M hown hK hP 0 mo_0 rfl 38 (by decide) (htg _ k_f_M_78) (fun _ h9 => h9) rfl d_M_takesTopic_69 ?_
  refine lv_aload_n hx hb d_M_takesTopic_72 rfl (lv_at hl 0 rfl) ?_
  refine va_get (D := D) (v := .int (gI (sA S 21 ((gI S 13) - (1 : Int32)).toNatClampNeg x3) 13)) hx hb htg in_M hown hK hP 0 mo_0 rfl 33 (by decide) (htg _ k_f_M_186) (fun _ h9 => h9) rfl d_M_takesTopic_73 ?_
  refine lv_iconst (v := 1) hx hb d_M_takesTopic_76 (by decide) ?_
  refine lv_isub hx hb d_M_takesTopic_77 ?_
  refine lv_iload hx hb d_M_takesTopic_78 (lv_at hl 2 rfl) ?_
  obtain ⟨hg, hf⟩ := gd_some hf
  refine va_iast hx hb hK hP (hI _) hS 23 0 ma_22 rfl (vin_in hg) d_M_takesTopic_80 (fun H locs hP _ hS => ?_)
  replace hP : va_P D classes (mW cI cZ cJ ao aa (sA (sA S 21 ((gI S 13) - (1 : Int32)).toNatClampNeg x3) 22 ((gI (sA S 21 ((gI S 13) - (1 : Int32)).toNatClampNeg x3) 13) - (1 : Int32)).toNatClampNeg x5)) H := pw mt_22 hP
  refine lv_iload hx hb d_M_takesTopic_81 (lv_at hl 2 rfl) ?_
  obtain rfl := Option.some.inj hf
  exact W.iret hx hb hr0 (fun t ht _ => ⟨⟨rfl, by rw [ht]; exact hP⟩, hS.F ht⟩) hS.2.2 d_M_takesTopic_83 hlk
set_option maxHeartbeats 4000000 in
set_option maxRecDepth 100000 in
theorem w_m_M_takesTopic_b50 {z : Int32 × St} (X : Cx b_M_takesTopic 6 (some .int) R_M D [(cI, .int), (cZ, .boolean), (cJ, .long)] (mA ao aa) (mW cI cZ cJ ao aa) p s m args meth c) {k13 : St → Int32 → Int32 → Int32 → Int32 → Option (Int32 × St)} (hk13 : ∀ (S : St) (x1 : Int32) (x3 : Int32) (x4 : Int32) (x5 : Int32), k13 S x1 x3 x4 x5 = some z → WX rm_m_M_takesTopic D (mA ao aa) (mW cI cZ cJ ao aa) p l e s m args below meth c (some (.int z.1)) z.2 13 [] 6 [(0, .ref (ao 0)), (1, .int x1), (3, .int x3), (4, .int x4), (5, .int x5)] S) (S : St) (x1 : Int32) (x3 : Int32) (x4 : Int32) (x5 : Int32) (hf : m_M_takesTopic_b50 k13 S x1 x3 x4 x5 = some z) : WX rm_m_M_takesTopic D (mA ao aa) (mW cI cZ cJ ao aa) p l e s m args below meth c (some (.int z.1)) z.2 50 [] 6 [(0, .ref (ao 0)), (1, .int x1), (3, .int x3), (4, .int x4), (5, .int x5)] S := by
  intro H locs ls hP hS hl
  obtain ⟨hx, hb, hr0, hml, hown, htg, hlk, hK, hN, hI⟩ := id X
  unfold m_M_takesTopic_b50 at hf
  refine lv_iinc (v := (x5 + 1)) (lv' := [(5, .int (x5 + 1)), (0, .ref (ao 0)), (1, .int x1), (3, .int x3), (4, .int x4)]) hx hb d_M_takesTopic_50 hl (k := 4) rfl rfl (by decide) rfl (fun ls hl => ?_)
  refine lv_goto (tgt := 13) hx hb d_M_takesTopic_53 (by decide) ?_
  exact hk13 _ _ _ _ _ hf H locs ls hP hS (lv_sub hl [1, 2, 3, 4, 0] rfl)
set_option maxHeartbeats 4000000 in
set_option maxRecDepth 100000 in
theorem w_m_M_takesTopic_b13_f {z : Int32 × St} (X : Cx b_M_takesTopic 6 (some .int) R_M D [(cI, .int), (cZ, .boolean), (cJ, .long)] (mA ao aa) (mW cI cZ cJ ao aa) p s m args meth c) {k13 : St → Int32 → Int32 → Int32 → Int32 → Option (Int32 × St)} (hk13 : ∀ (S : St) (x1 : Int32) (x3 : Int32) (x4 : Int32) (x5 : Int32), k13 S x1 x3 x4 x5 = some z → WX rm_m_M_takesTopic D (mA ao aa) (mW cI cZ cJ ao aa) p l e s m args below meth c (some (.int z.1)) z.2 13 [] 6 [(0, .ref (ao 0)), (1, .int x1), (3, .int x3), (4, .int x4), (5, .int x5)] S) (S : St) (x1 : Int32) (x3 : Int32) (x4 : Int32) (x5 : Int32) (hf : m_M_takesTopic_b13_f k13 S x1 x3 x4 x5 = some z) : WX rm_m_M_takesTopic D (mA ao aa) (mW cI cZ cJ ao aa) p l e s m args below meth c (some (.int z.1)) z.2 13 [] 6 [(0, .ref (ao 0)), (1, .int x1), (3, .int x3), (4, .int x4), (5, .int x5)] S := by
  intro H locs ls hP hS hl
  obtain ⟨hx, hb, hr0, hml, hown, htg, hlk, hK, hN, hI⟩ := id X
  unfold m_M_takesTopic_b13_f at hf
  refine lv_iload hx hb d_M_takesTopic_13 (lv_at hl 4 rfl) ?_
  refine lv_aload_n hx hb d_M_takesTopic_15 rfl (lv_at hl 0 rfl) ?_
  refine va_get (D := D) (v := .int (gI S 6)) hx hb htg in_M hown hK hP 0 mo_0 rfl 22 (by decide) (htg _ k_f_M_167) (fun _ h9 => h9) rfl d_M_takesTopic_16 ?_
  refine lv_icmp_ge (tgt := 56) hx hb d_M_takesTopic_19 (by decide) (fun c => ?_) (fun c => ?_)
  · have hf := if_t hf c
    exact w_m_M_takesTopic_b56 X _ _ _ hf H locs ls hP hS (lv_sub hl [0, 2, 4] rfl)
  · have hf := if_f hf c
    refine lv_iload hx hb d_M_takesTopic_22 (lv_at hl 3 rfl) ?_
    refine lv_aload_n hx hb d_M_takesTopic_24 rfl (lv_at hl 0 rfl) ?_
    refine va_get (D := D) (v := .ref (aa 5)) hx hb htg in_M hown hK hP 0 mo_0 rfl 8 (by decide) (htg _ k_f_M_26) (fun _ h9 => h9) rfl d_M_takesTopic_25 ?_
    refine lv_iload_n hx hb d_M_takesTopic_28 rfl (lv_at hl 1 rfl) ?_
    obtain ⟨hg, hf⟩ := gd_some hf
    refine va_iald hx hb hK hP 6 0 ma_5 rfl (vin_in hg) d_M_takesTopic_29 ?_
    refine lv_icmp_ge (tgt := 50) hx hb d_M_takesTopic_30 (by decide) (fun c => ?_) (fun c => ?_)
    · have hf := if_t hf c
      exact w_m_M_takesTopic_b50 X hk13 _ _ _ _ _ hf H locs ls hP hS (lv_sub hl [0, 1, 2, 3, 4] rfl)
    · have hf := if_f hf c
      refine lv_aload_n hx hb d_M_takesTopic_33 rfl (lv_at hl 0 rfl) ?_
      refine lv_iload_n hx hb d_M_takesTopic_34 rfl (lv_at hl 1 rfl) ?_
      refine lv_iload hx hb d_M_takesTopic_35 (lv_at hl 3 rfl) ?_
      refine lv_aload_n hx hb d_M_takesTopic_37 rfl (lv_at hl 0 rfl) ?_
      refine va_get (D := D) (v := .ref (aa 15)) hx hb htg in_M hown hK hP 0 mo_0 rfl 21 (by decide) (htg _ k_f_M_56) (fun _ h9 => h9) rfl d_M_takesTopic_38 ?_
      refine lv_iload hx hb d_M_takesTopic_41 (lv_at hl 4 rfl) ?_
      obtain ⟨hg, hf⟩ := gd_some hf
      refine va_iald hx hb hK hP 16 0 ma_15 rfl (vin_in hg) d_M_takesTopic_43 ?_
      obtain ⟨q2, he, hf⟩ := ob_some hf
      refine cl_Vi (As := [.int x1, .int x4, .int (gA S 15 x5.toNatClampNeg)]) (rest := []) X (c_m_M_isOneOf he) ok_m_M_isOneOf k_m_M_211 (va_recv hK hP rfl mo_0) rfl rfl hl.1 (Nat.le_of_ble_eq_true rfl) d_M_takesTopic_44 ⟨by decide, by decide⟩ hP hS (fun H locs hP hS => ?_)
      refine lv_if_ne (tgt := 56) hx hb d_M_takesTopic_47 (by decide) (fun c => ?_) (fun c => ?_)
      · have hf := if_f hf c
        exact w_m_M_takesTopic_b56 X _ _ _ hf H locs ls hP hS (lv_sub hl [0, 2, 4] rfl)
      · have hf := if_t hf c
        exact w_m_M_takesTopic_b50 X hk13 _ _ _ _ _ hf H locs ls hP hS (lv_sub hl [0, 1, 2, 3, 4] rfl)
theorem w_m_M_takesTopic_b13 {z : Int32 × St} (X : Cx b_M_takesTopic 6 (some .int) R_M D [(cI, .int), (cZ, .boolean), (cJ, .long)] (mA ao aa) (mW cI cZ cJ ao aa) p s m args meth c) : ∀ (n : Nat) (S : St) (x1 : Int32) (x3 : Int32) (x4 : Int32) (x5 : Int32), m_M_takesTopic_b13 n S x1 x3 x4 x5 = some z → WX rm_m_M_takesTopic D (mA ao aa) (mW cI cZ cJ ao aa) p l e s m args below meth c (some (.int z.1)) z.2 13 [] 6 [(0, .ref (ao 0)), (1, .int x1), (3, .int x3), (4, .int x4), (5, .int x5)] S
  | 0, _, _, _, _, _, hf => ns hf
  | n + 1, _, _, _, _, _, hf => w_m_M_takesTopic_b13_f X (w_m_M_takesTopic_b13 X n) _ _ _ _ _ hf
set_option maxHeartbeats 4000000 in
set_option maxRecDepth 100000 in
theorem w_m_M_takesTopic {z : Int32 × St} (X : Cx b_M_takesTopic 6 (some .int) R_M D [(cI, .int), (cZ, .boolean), (cJ, .long)] (mA ao aa) (mW cI cZ cJ ao aa) p s m args meth c) (S : St) (x0 : Int32) (x1 : Int32) (x2 : Int32) (hf : m_M_takesTopic S x0 x1 x2 = some z) : WX rm_m_M_takesTopic D (mA ao aa) (mW cI cZ cJ ao aa) p l e s m args below meth c (some (.int z.1)) z.2 0 [] 6 [(0, .ref (ao 0)), (1, .int x0), (2, .int x1), (3, .int x2)] S := by
  intro H locs ls hP hS hl
  obtain ⟨hx, hb, hr0, hml, hown, htg, hlk, hK, hN, hI⟩ := id X
  unfold m_M_takesTopic at hf
  refine lv_aload_n hx hb d_M_takesTopic_0 rfl (lv_at hl 0 rfl) ?_
  refine lv_iload_n hx hb d_M_takesTopic_1 rfl (lv_at hl 1 rfl) ?_
  refine lv_iload_n hx hb d_M_takesTopic_2 rfl (lv_at hl 2 rfl) ?_
  obtain ⟨q1, he, hf⟩ := ob_some hf
  refine cl_Vi (As := [.int x0, .int x1]) (rest := []) X (c_m_M_next he) ok_m_M_next k_m_M_189 (va_recv hK hP rfl mo_0) rfl rfl hl.1 (Nat.le_of_ble_eq_true rfl) d_M_takesTopic_3 ⟨by decide, by decide⟩ hP hS (fun H locs hP hS => ?_)
  refine lv_istore (lv' := [(4, .int q1.1), (0, .ref (ao 0)), (1, .int x0), (2, .int x1), (3, .int x2)]) hx hb d_M_takesTopic_6 hl (by decide) rfl (fun ls hl => ?_)
  refine lv_iload_n hx hb d_M_takesTopic_8 rfl (lv_at hl 4 rfl) ?_
  refine lv_iconst (v := 1) hx hb d_M_takesTopic_9 (by decide) ?_
  refine lv_iadd hx hb d_M_takesTopic_10 ?_
  refine lv_istore (lv' := [(5, .int (x2 + (1 : Int32))), (4, .int q1.1), (0, .ref (ao 0)), (1, .int x0), (2, .int x1), (3, .int x2)]) hx hb d_M_takesTopic_11 hl (by decide) rfl (fun ls hl => ?_)
  exact w_m_M_takesTopic_b13 X _ _ _ _ _ _ hf H locs ls hP hS (lv_sub hl [2, 3, 5, 1, 0] rfl)
theorem c_m_M_takesTopic {l : Launch} {D : va_G} {cI cZ cJ : ClassId} {ao aa : Nat → Nat} {S : St} {x0 : Int32} {x1 : Int32} {x2 : Int32} {z : Int32 × St} (hz : m_M_takesTopic S x0 x1 x2 = some z) : Ct l y_M_takesTopic (.code y_M_takesTopic b_M_takesTopic 6 (some .int) :: gw) rm_m_M_takesTopic D [(cI, .int), (cZ, .boolean), (cJ, .long)] (mA ao aa) (mW cI cZ cJ ao aa) [.ref (ao 0), .int x0, .int x1, .int x2] S (some (.int z.1)) z.2 :=
  Ct_of (by decide) (fun p e s m args below meth c X => w_m_M_takesTopic X _ _ _ _ hz) (Nat.le_of_ble_eq_true rfl)
def m_M_isWorn (S : St) (x0 : Int32) : Option (Int32 × St) :=
  gd (vin x0 40) <|
  if ((gA S 8 x0.toNatClampNeg) &&& (4 : Int32)) = 0 then
    some ((0 : Int32), S)
  else
    some ((1 : Int32), S)
def rm_m_M_isWorn : Room := { frames := 0, cells := 0, slots := 0, locals := 0 }
theorem ok_m_M_isWorn : CalV y_M_isWorn b_M_isWorn 2 (some .boolean) 1 rm_m_M_isWorn := ⟨kc_M_isWorn, ki_M_isWorn, kl_M_isWorn, ji_M, ⟨by decide, by decide, by decide +kernel⟩, rfl, rfl⟩
set_option maxHeartbeats 4000000 in
set_option maxRecDepth 100000 in
theorem w_m_M_isWorn {z : Int32 × St} (X : Cx b_M_isWorn 2 (some .boolean) R_M D [(cI, .int), (cZ, .boolean), (cJ, .long)] (mA ao aa) (mW cI cZ cJ ao aa) p s m args meth c) (S : St) (x0 : Int32) (hf : m_M_isWorn S x0 = some z) : WX rm_m_M_isWorn D (mA ao aa) (mW cI cZ cJ ao aa) p l e s m args below meth c (some (.int z.1)) z.2 0 [] 2 [(0, .ref (ao 0)), (1, .int x0)] S := by
  intro H locs ls hP hS hl
  obtain ⟨hx, hb, hr0, hml, hown, htg, hlk, hK, hN, hI⟩ := id X
  unfold m_M_isWorn at hf
  refine lv_aload_n hx hb d_M_isWorn_0 rfl (lv_at hl 0 rfl) ?_
  refine va_get (D := D) (v := .ref (aa 8)) hx hb htg in_M hown hK hP 0 mo_0 rfl 12 (by decide) (htg _ k_f_M_35) (fun _ h9 => h9) rfl d_M_isWorn_1 ?_
  refine lv_iload_n hx hb d_M_isWorn_4 rfl (lv_at hl 1 rfl) ?_
  obtain ⟨hg, hf⟩ := gd_some hf
  refine va_iald hx hb hK hP 9 0 ma_8 rfl (vin_in hg) d_M_isWorn_5 ?_
  refine lv_iconst (v := 4) hx hb d_M_isWorn_6 (by decide) ?_
  refine lv_iand hx hb d_M_isWorn_7 ?_
  refine lv_if_eq (tgt := 15) hx hb d_M_isWorn_8 (by decide) (fun c => ?_) (fun c => ?_)
  · have hf := if_t hf c
    refine lv_iconst (v := 0) hx hb d_M_isWorn_15 (by decide) ?_
    obtain rfl := Option.some.inj hf
    exact W.zret (ty := .boolean) hx hb hr0 rfl (fun t ht _ => ⟨⟨rfl, by rw [ht]; exact hP⟩, hS.F ht⟩) hS.2.2 d_M_isWorn_16 hlk
  · have hf := if_f hf c
    refine lv_iconst (v := 1) hx hb d_M_isWorn_11 (by decide) ?_
    refine lv_goto (tgt := 16) hx hb d_M_isWorn_12 (by decide) ?_
    obtain rfl := Option.some.inj hf
    exact W.zret (ty := .boolean) hx hb hr0 rfl (fun t ht _ => ⟨⟨rfl, by rw [ht]; exact hP⟩, hS.F ht⟩) hS.2.2 d_M_isWorn_16 hlk
theorem c_m_M_isWorn {l : Launch} {D : va_G} {cI cZ cJ : ClassId} {ao aa : Nat → Nat} {S : St} {x0 : Int32} {z : Int32 × St} (hz : m_M_isWorn S x0 = some z) : Ct l y_M_isWorn (.code y_M_isWorn b_M_isWorn 2 (some .boolean) :: gw) rm_m_M_isWorn D [(cI, .int), (cZ, .boolean), (cJ, .long)] (mA ao aa) (mW cI cZ cJ ao aa) [.ref (ao 0), .int x0] S (some (.int z.1)) z.2 :=
  Ct_of (by decide) (fun p e s m args below meth c X => w_m_M_isWorn X _ _ hz) (Nat.le_of_ble_eq_true rfl)
def m_M_takesOne_b179 (S : St) (x2 : Int32) (x3 : Int32) (s0 : Int32) : Option (Int32 × St) :=
  (m_M_fails S s0 x2).bind fun q5 =>
  some ((x2 + x3), q5)
def m_M_takesOne_b135 (k43 : St → Int32 → Int32 → Int32 → Int64 → Int32 → Option (Int32 × St)) (S : St) (x1 : Int32) (x2 : Int32) (x3 : Int32) (x6 : Int32) (s0 : Int64) : Option (Int32 × St) :=
  k43 S x1 x2 x3 s0 (x6 + 1)
def m_M_takesOne_b133 (k43 : St → Int32 → Int32 → Int32 → Int64 → Int32 → Option (Int32 × St)) (S : St) (x1 : Int32) (x2 : Int32) (x3 : Int32) (w4 : Int64) (x6 : Int32) : Option (Int32 × St) :=
  m_M_takesOne_b135 k43 S x1 x2 x3 x6 w4
def m_M_takesOne_b104 (k43 : St → Int32 → Int32 → Int32 → Int64 → Int32 → Option (Int32 × St)) (S : St) (x1 : Int32) (x2 : Int32) (x3 : Int32) (w4 : Int64) (x6 : Int32) (s0 : Int32) : Option (Int32 × St) :=
  if s0 = 0 then
    m_M_takesOne_b133 k43 S x1 x2 x3 w4 x6
  else
    (m_M_has S (gL S 0) x6).bind fun q6 =>
    if q6.1 = 0 then
      m_M_takesOne_b133 k43 q6.2 x1 x2 x3 w4 x6
    else
      m_M_takesOne_b135 k43 q6.2 x1 x2 x3 x6 (w4 ||| ((1 : Int64) <<< (x6.toInt64 &&& 63)))
def m_M_takesOne_b99 (k43 : St → Int32 → Int32 → Int32 → Int64 → Int32 → Option (Int32 × St)) (S : St) (x1 : Int32) (x2 : Int32) (x3 : Int32) (w4 : Int64) (x6 : Int32) : Option (Int32 × St) :=
  m_M_takesOne_b104 k43 S x1 x2 x3 w4 x6 (1 : Int32)
def m_M_takesOne_b103 (k43 : St → Int32 → Int32 → Int32 → Int64 → Int32 → Option (Int32 × St)) (S : St) (x1 : Int32) (x2 : Int32) (x3 : Int32) (w4 : Int64) (x6 : Int32) : Option (Int32 × St) :=
  m_M_takesOne_b104 k43 S x1 x2 x3 w4 x6 (0 : Int32)
def m_M_takesOne_b85 (k43 : St → Int32 → Int32 → Int32 → Int64 → Int32 → Option (Int32 × St)) (S : St) (x1 : Int32) (x2 : Int32) (x3 : Int32) (w4 : Int64) (x6 : Int32) : Option (Int32 × St) :=
  if x1 = (5 : Int32) then
    (m_M_isCreature S x6).bind fun q7 =>
    if q7.1 = 0 then
      m_M_takesOne_b103 k43 q7.2 x1 x2 x3 w4 x6
    else
      m_M_takesOne_b99 k43 q7.2 x1 x2 x3 w4 x6
  else
    m_M_takesOne_b103 k43 S x1 x2 x3 w4 x6
def m_M_takesOne_b71 (k43 : St → Int32 → Int32 → Int32 → Int64 → Int32 → Option (Int32 × St)) (S : St) (x1 : Int32) (x2 : Int32) (x3 : Int32) (w4 : Int64) (x6 : Int32) : Option (Int32 × St) :=
  if x1 = (4 : Int32) then
    (m_M_isWorn S x6).bind fun q8 =>
    if q8.1 = 0 then
      m_M_takesOne_b85 k43 q8.2 x1 x2 x3 w4 x6
    else
      m_M_takesOne_b99 k43 q8.2 x1 x2 x3 w4 x6
  else
    m_M_takesOne_b85 k43 S x1 x2 x3 w4 x6
def m_M_takesOne_b43_f (k43 : St → Int32 → Int32 → Int32 → Int64 → Int32 → Option (Int32 × St)) (S : St) (x1 : Int32) (x2 : Int32) (x3 : Int32) (w4 : Int64) (x6 : Int32) : Option (Int32 × St) :=
  if (gI S 3) ≤ x6 then
    (m_M_manyOf S w4).bind fun q3 =>
    if q3.1 = 0 then
      if x1 = (3 : Int32) then
        m_M_takesOne_b179 q3.2 x2 x3 (11 : Int32)
      else
        if x1 = (4 : Int32) then
          m_M_takesOne_b179 q3.2 x2 x3 (12 : Int32)
        else
          m_M_takesOne_b179 q3.2 x2 x3 (10 : Int32)
    else
      if q3.1 ≤ (1 : Int32) then
        gd (vin ((gI q3.2 13) - (1 : Int32)) 2) <|
        gd (vin ((gI q3.2 13) - (1 : Int32)) 2) <|
        some ((x2 + x3), (sB q3.2 20 ((gI q3.2 13) - (1 : Int32)).toNatClampNeg ((gB q3.2 20 ((gI q3.2 13) - (1 : Int32)).toNatClampNeg) ||| w4)))
      else
        (m_M_fails q3.2 (15 : Int32) x2).bind fun q4 =>
        some ((x2 + x3), (sI (sL q4 1 w4) 9 (x2 + x3)))
  else
    if x1 = (2 : Int32) then
      m_M_takesOne_b99 k43 S x1 x2 x3 w4 x6
    else
      if x1 = (3 : Int32) then
        (m_M_isHeld S x6).bind fun q9 =>
        if q9.1 = 0 then
          m_M_takesOne_b71 k43 q9.2 x1 x2 x3 w4 x6
        else
          m_M_takesOne_b99 k43 q9.2 x1 x2 x3 w4 x6
      else
        m_M_takesOne_b71 k43 S x1 x2 x3 w4 x6
def m_M_takesOne_b43 : Nat → St → Int32 → Int32 → Int32 → Int64 → Int32 → Option (Int32 × St)
  | 0, _, _, _, _, _, _ => none
  | n + 1, S, x1, x2, x3, w4, x6 => m_M_takesOne_b43_f (m_M_takesOne_b43 n) S x1 x2 x3 w4 x6
def m_M_takesOne (S : St) (x0 : Int32) (x1 : Int32) : Option (Int32 × St) :=
  (m_M_stands S x1 (4 : Int32)).bind fun q1 =>
  if q1.1 = 0 then
    (m_M_phrase q1.2 x1).bind fun q2 =>
    if q2.1 = 0 then
      (m_M_fails q2.2 (7 : Int32) x1).bind fun q10 =>
      some (x1, q10)
    else
      m_M_takesOne_b43 fu q2.2 x0 x1 q2.1 (0 : Int64) (0 : Int32)
  else
    (m_M_fails q1.2 (13 : Int32) x1).bind fun q11 =>
    some (x1, q11)
def rm_m_M_takesOne : Room := { frames := 3, cells := 0, slots := 0, locals := 67 }
theorem ok_m_M_takesOne : CalV y_M_takesOne b_M_takesOne 8 (some .int) 2 rm_m_M_takesOne := ⟨kc_M_takesOne, ki_M_takesOne, kl_M_takesOne, ji_M, ⟨by decide, by decide, by decide +kernel⟩, rfl, rfl⟩
set_option maxHeartbeats 4000000 in
set_option maxRecDepth 100000 in
theorem w_m_M_takesOne_b179 {z : Int32 × St} (X : Cx b_M_takesOne 8 (some .int) R_M D [(cI, .int), (cZ, .boolean), (cJ, .long)] (mA ao aa) (mW cI cZ cJ ao aa) p s m args meth c) (S : St) (x2 : Int32) (x3 : Int32) (s0 : Int32) (hf : m_M_takesOne_b179 S x2 x3 s0 = some z) : WX rm_m_M_takesOne D (mA ao aa) (mW cI cZ cJ ao aa) p l e s m args below meth c (some (.int z.1)) z.2 179 [.int s0, .ref (ao 0)] 8 [(2, .int x2), (3, .int x3)] S := by
  intro H locs ls hP hS hl
  obtain ⟨hx, hb, hr0, hml, hown, htg, hlk, hK, hN, hI⟩ := id X
  unfold m_M_takesOne_b179 at hf
  refine lv_iload_n hx hb d_M_takesOne_179 rfl (lv_at hl 0 rfl) ?_
  obtain ⟨q5, he, hf⟩ := ob_some hf
  refine cl_Vv (As := [.int s0, .int x2]) (rest := []) X (c_m_M_fails he) ok_m_M_fails k_m_M_205 (va_recv hK hP rfl mo_0) rfl rfl hl.1 (Nat.le_of_ble_eq_true rfl) d_M_takesOne_180 ⟨by decide, by decide⟩ hP hS (fun H locs hP hS => ?_)
  refine lv_goto (tgt := 231) hx hb d_M_takesOne_183 (by decide) ?_
  refine lv_iload_n hx hb d_M_takesOne_231 rfl (lv_at hl 0 rfl) ?_
  refine lv_iload_n hx hb d_M_takesOne_232 rfl (lv_at hl 1 rfl) ?_
  refine lv_iadd hx hb d_M_takesOne_233 ?_
  obtain rfl := Option.some.inj hf
  exact W.iret hx hb hr0 (fun t ht _ => ⟨⟨rfl, by rw [ht]; exact hP⟩, hS.F ht⟩) hS.2.2 d_M_takesOne_234 hlk
set_option maxHeartbeats 4000000 in
set_option maxRecDepth 100000 in
theorem w_m_M_takesOne_b135 {z : Int32 × St} (X : Cx b_M_takesOne 8 (some .int) R_M D [(cI, .int), (cZ, .boolean), (cJ, .long)] (mA ao aa) (mW cI cZ cJ ao aa) p s m args meth c) {k43 : St → Int32 → Int32 → Int32 → Int64 → Int32 → Option (Int32 × St)} (hk43 : ∀ (S : St) (x1 : Int32) (x2 : Int32) (x3 : Int32) (w4 : Int64) (x6 : Int32), k43 S x1 x2 x3 w4 x6 = some z → WX rm_m_M_takesOne D (mA ao aa) (mW cI cZ cJ ao aa) p l e s m args below meth c (some (.int z.1)) z.2 43 [] 8 [(0, .ref (ao 0)), (1, .int x1), (2, .int x2), (3, .int x3), (4, .long w4), (6, .int x6)] S) (S : St) (x1 : Int32) (x2 : Int32) (x3 : Int32) (x6 : Int32) (s0 : Int64) (hf : m_M_takesOne_b135 k43 S x1 x2 x3 x6 s0 = some z) : WX rm_m_M_takesOne D (mA ao aa) (mW cI cZ cJ ao aa) p l e s m args below meth c (some (.int z.1)) z.2 135 [.long s0] 8 [(0, .ref (ao 0)), (1, .int x1), (2, .int x2), (3, .int x3), (6, .int x6)] S := by
  intro H locs ls hP hS hl
  obtain ⟨hx, hb, hr0, hml, hown, htg, hlk, hK, hN, hI⟩ := id X
  unfold m_M_takesOne_b135 at hf
  refine lv_lstore (lv' := [(4, .long s0), (0, .ref (ao 0)), (1, .int x1), (2, .int x2), (3, .int x3), (6, .int x6)]) hx hb d_M_takesOne_135 hl (by decide) rfl (fun ls hl => ?_)
  refine lv_iinc (v := (x6 + 1)) (lv' := [(6, .int (x6 + 1)), (4, .long s0), (0, .ref (ao 0)), (1, .int x1), (2, .int x2), (3, .int x3)]) hx hb d_M_takesOne_137 hl (k := 5) rfl rfl (by decide) rfl (fun ls hl => ?_)
  refine lv_goto (tgt := 43) hx hb d_M_takesOne_140 (by decide) ?_
  exact hk43 _ _ _ _ _ _ hf H locs ls hP hS (lv_sub hl [2, 3, 4, 5, 1, 0] rfl)
set_option maxHeartbeats 4000000 in
set_option maxRecDepth 100000 in
theorem w_m_M_takesOne_b133 {z : Int32 × St} (X : Cx b_M_takesOne 8 (some .int) R_M D [(cI, .int), (cZ, .boolean), (cJ, .long)] (mA ao aa) (mW cI cZ cJ ao aa) p s m args meth c) {k43 : St → Int32 → Int32 → Int32 → Int64 → Int32 → Option (Int32 × St)} (hk43 : ∀ (S : St) (x1 : Int32) (x2 : Int32) (x3 : Int32) (w4 : Int64) (x6 : Int32), k43 S x1 x2 x3 w4 x6 = some z → WX rm_m_M_takesOne D (mA ao aa) (mW cI cZ cJ ao aa) p l e s m args below meth c (some (.int z.1)) z.2 43 [] 8 [(0, .ref (ao 0)), (1, .int x1), (2, .int x2), (3, .int x3), (4, .long w4), (6, .int x6)] S) (S : St) (x1 : Int32) (x2 : Int32) (x3 : Int32) (w4 : Int64) (x6 : Int32) (hf : m_M_takesOne_b133 k43 S x1 x2 x3 w4 x6 = some z) : WX rm_m_M_takesOne D (mA ao aa) (mW cI cZ cJ ao aa) p l e s m args below meth c (some (.int z.1)) z.2 133 [] 8 [(0, .ref (ao 0)), (1, .int x1), (2, .int x2), (3, .int x3), (4, .long w4), (6, .int x6)] S := by
  intro H locs ls hP hS hl
  obtain ⟨hx, hb, hr0, hml, hown, htg, hlk, hK, hN, hI⟩ := id X
  unfold m_M_takesOne_b133 at hf
  refine lv_lload hx hb d_M_takesOne_133 (lv_at hl 4 rfl) ?_
  exact w_m_M_takesOne_b135 X hk43 _ _ _ _ _ _ hf H locs ls hP hS (lv_sub hl [0, 1, 2, 3, 5] rfl)
set_option maxHeartbeats 4000000 in
set_option maxRecDepth 100000 in
theorem w_m_M_takesOne_b104 {z : Int32 × St} (X : Cx b_M_takesOne 8 (some .int) R_M D [(cI, .int), (cZ, .boolean), (cJ, .long)] (mA ao aa) (mW cI cZ cJ ao aa) p s m args meth c) {k43 : St → Int32 → Int32 → Int32 → Int64 → Int32 → Option (Int32 × St)} (hk43 : ∀ (S : St) (x1 : Int32) (x2 : Int32) (x3 : Int32) (w4 : Int64) (x6 : Int32), k43 S x1 x2 x3 w4 x6 = some z → WX rm_m_M_takesOne D (mA ao aa) (mW cI cZ cJ ao aa) p l e s m args below meth c (some (.int z.1)) z.2 43 [] 8 [(0, .ref (ao 0)), (1, .int x1), (2, .int x2), (3, .int x3), (4, .long w4), (6, .int x6)] S) (S : St) (x1 : Int32) (x2 : Int32) (x3 : Int32) (w4 : Int64) (x6 : Int32) (s0 : Int32) (hf : m_M_takesOne_b104 k43 S x1 x2 x3 w4 x6 s0 = some z) : WX rm_m_M_takesOne D (mA ao aa) (mW cI cZ cJ ao aa) p l e s m args below meth c (some (.int z.1)) z.2 104 [.int s0] 8 [(0, .ref (ao 0)), (1, .int x1), (2, .int x2), (3, .int x3), (4, .long w4), (6, .int x6)] S := by
  intro H locs ls hP hS hl
  obtain ⟨hx, hb, hr0, hml, hown, htg, hlk, hK, hN, hI⟩ := id X
  unfold m_M_takesOne_b104 at hf
  refine lv_istore (lv' := [(7, .int s0), (0, .ref (ao 0)), (1, .int x1), (2, .int x2), (3, .int x3), (4, .long w4), (6, .int x6)]) hx hb d_M_takesOne_104 hl (by decide) rfl (fun ls hl => ?_)
  refine lv_iload hx hb d_M_takesOne_106 (lv_at hl 0 rfl) ?_
  refine lv_if_eq (tgt := 133) hx hb d_M_takesOne_108 (by decide) (fun c => ?_) (fun c => ?_)
  · have hf := if_t hf c
    exact w_m_M_takesOne_b133 X hk43 _ _ _ _ _ _ hf H locs ls hP hS (lv_sub hl [1, 2, 3, 4, 5, 6] rfl)
  · have hf := if_f hf c
    refine lv_aload_n hx hb d_M_takesOne_111 rfl (lv_at hl 1 rfl) ?_
    refine va_get (D := D) (v := .long (gL S 0)) hx hb htg in_M hown hK hP 0 mo_0 rfl 23 (by decide) (htg _ k_f_M_170) (fun _ h9 => h9) rfl d_M_takesOne_112 ?_
    refine lv_iload hx hb d_M_takesOne_115 (lv_at hl 6 rfl) ?_
    obtain ⟨q6, he, hf⟩ := ob_some hf
    refine cl_Si (As := [.long (gL S 0), .int x6]) (rest := []) X (c_m_M_has he) ok_m_M_has k_m_M_163 rfl rfl hl.1 (Nat.le_of_ble_eq_true rfl) d_M_takesOne_117 ⟨by decide, by decide⟩ hP hS (fun H locs hP hS => ?_)
    refine lv_if_eq (tgt := 133) hx hb d_M_takesOne_120 (by decide) (fun c => ?_) (fun c => ?_)
    · have hf := if_t hf c
      exact w_m_M_takesOne_b133 X hk43 _ _ _ _ _ _ hf H locs ls hP hS (lv_sub hl [1, 2, 3, 4, 5, 6] rfl)
    · have hf := if_f hf c
      refine lv_lload hx hb d_M_takesOne_123 (lv_at hl 5 rfl) ?_
      refine lv_lconst (v := 1) hx hb d_M_takesOne_125 (by decide) ?_
      refine lv_iload hx hb d_M_takesOne_126 (lv_at hl 6 rfl) ?_
      refine lv_lshl hx hb d_M_takesOne_128 rfl ?_
      refine lv_lor hx hb d_M_takesOne_129 ?_
      refine lv_goto (tgt := 135) hx hb d_M_takesOne_130 (by decide) ?_
      exact w_m_M_takesOne_b135 X hk43 _ _ _ _ _ _ hf H locs ls hP hS (lv_sub hl [1, 2, 3, 4, 6] rfl)
set_option maxHeartbeats 4000000 in
set_option maxRecDepth 100000 in
theorem w_m_M_takesOne_b99 {z : Int32 × St} (X : Cx b_M_takesOne 8 (some .int) R_M D [(cI, .int), (cZ, .boolean), (cJ, .long)] (mA ao aa) (mW cI cZ cJ ao aa) p s m args meth c) {k43 : St → Int32 → Int32 → Int32 → Int64 → Int32 → Option (Int32 × St)} (hk43 : ∀ (S : St) (x1 : Int32) (x2 : Int32) (x3 : Int32) (w4 : Int64) (x6 : Int32), k43 S x1 x2 x3 w4 x6 = some z → WX rm_m_M_takesOne D (mA ao aa) (mW cI cZ cJ ao aa) p l e s m args below meth c (some (.int z.1)) z.2 43 [] 8 [(0, .ref (ao 0)), (1, .int x1), (2, .int x2), (3, .int x3), (4, .long w4), (6, .int x6)] S) (S : St) (x1 : Int32) (x2 : Int32) (x3 : Int32) (w4 : Int64) (x6 : Int32) (hf : m_M_takesOne_b99 k43 S x1 x2 x3 w4 x6 = some z) : WX rm_m_M_takesOne D (mA ao aa) (mW cI cZ cJ ao aa) p l e s m args below meth c (some (.int z.1)) z.2 99 [] 8 [(0, .ref (ao 0)), (1, .int x1), (2, .int x2), (3, .int x3), (4, .long w4), (6, .int x6)] S := by
  intro H locs ls hP hS hl
  obtain ⟨hx, hb, hr0, hml, hown, htg, hlk, hK, hN, hI⟩ := id X
  unfold m_M_takesOne_b99 at hf
  refine lv_iconst (v := 1) hx hb d_M_takesOne_99 (by decide) ?_
  refine lv_goto (tgt := 104) hx hb d_M_takesOne_100 (by decide) ?_
  exact w_m_M_takesOne_b104 X hk43 _ _ _ _ _ _ _ hf H locs ls hP hS (lv_sub hl [0, 1, 2, 3, 4, 5] rfl)
set_option maxHeartbeats 4000000 in
set_option maxRecDepth 100000 in
theorem w_m_M_takesOne_b103 {z : Int32 × St} (X : Cx b_M_takesOne 8 (some .int) R_M D [(cI, .int), (cZ, .boolean), (cJ, .long)] (mA ao aa) (mW cI cZ cJ ao aa) p s m args meth c) {k43 : St → Int32 → Int32 → Int32 → Int64 → Int32 → Option (Int32 × St)} (hk43 : ∀ (S : St) (x1 : Int32) (x2 : Int32) (x3 : Int32) (w4 : Int64) (x6 : Int32), k43 S x1 x2 x3 w4 x6 = some z → WX rm_m_M_takesOne D (mA ao aa) (mW cI cZ cJ ao aa) p l e s m args below meth c (some (.int z.1)) z.2 43 [] 8 [(0, .ref (ao 0)), (1, .int x1), (2, .int x2), (3, .int x3), (4, .long w4), (6, .int x6)] S) (S : St) (x1 : Int32) (x2 : Int32) (x3 : Int32) (w4 : Int64) (x6 : Int32) (hf : m_M_takesOne_b103 k43 S x1 x2 x3 w4 x6 = some z) : WX rm_m_M_takesOne D (mA ao aa) (mW cI cZ cJ ao aa) p l e s m args below meth c (some (.int z.1)) z.2 103 [] 8 [(0, .ref (ao 0)), (1, .int x1), (2, .int x2), (3, .int x3), (4, .long w4), (6, .int x6)] S := by
  intro H locs ls hP hS hl
  obtain ⟨hx, hb, hr0, hml, hown, htg, hlk, hK, hN, hI⟩ := id X
  unfold m_M_takesOne_b103 at hf
  refine lv_iconst (v := 0) hx hb d_M_takesOne_103 (by decide) ?_
  exact w_m_M_takesOne_b104 X hk43 _ _ _ _ _ _ _ hf H locs ls hP hS (lv_sub hl [0, 1, 2, 3, 4, 5] rfl)
set_option maxHeartbeats 4000000 in
set_option maxRecDepth 100000 in
theorem w_m_M_takesOne_b85 {z : Int32 × St} (X : Cx b_M_takesOne 8 (some .int) R_M D [(cI, .int), (cZ, .boolean), (cJ, .long)] (mA ao aa) (mW cI cZ cJ ao aa) p s m args meth c) {k43 : St → Int32 → Int32 → Int32 → Int64 → Int32 → Option (Int32 × St)} (hk43 : ∀ (S : St) (x1 : Int32) (x2 : Int32) (x3 : Int32) (w4 : Int64) (x6 : Int32), k43 S x1 x2 x3 w4 x6 = some z → WX rm_m_M_takesOne D (mA ao aa) (mW cI cZ cJ ao aa) p l e s m args below meth c (some (.int z.1)) z.2 43 [] 8 [(0, .ref (ao 0)), (1, .int x1), (2, .int x2), (3, .int x3), (4, .long w4), (6, .int x6)] S) (S : St) (x1 : Int32) (x2 : Int32) (x3 : Int32) (w4 : Int64) (x6 : Int32) (hf : m_M_takesOne_b85 k43 S x1 x2 x3 w4 x6 = some z) : WX rm_m_M_takesOne D (mA ao aa) (mW cI cZ cJ ao aa) p l e s m args below meth c (some (.int z.1)) z.2 85 [] 8 [(0, .ref (ao 0)), (1, .int x1), (2, .int x2), (3, .int x3), (4, .long w4), (6, .int x6)] S := by
  intro H locs ls hP hS hl
  obtain ⟨hx, hb, hr0, hml, hown, htg, hlk, hK, hN, hI⟩ := id X
  unfold m_M_takesOne_b85 at hf
  refine lv_iload_n hx hb d_M_takesOne_85 rfl (lv_at hl 1 rfl) ?_
  refine lv_iconst (v := 5) hx hb d_M_takesOne_86 (by decide) ?_
  refine lv_icmp_ne (tgt := 103) hx hb d_M_takesOne_87 (by decide) (fun c => ?_) (fun c => ?_)
  · have hf := if_f hf c
    exact w_m_M_takesOne_b103 X hk43 _ _ _ _ _ _ hf H locs ls hP hS (lv_sub hl [0, 1, 2, 3, 4, 5] rfl)
  · have hf := if_t hf c
    refine lv_aload_n hx hb d_M_takesOne_90 rfl (lv_at hl 0 rfl) ?_
    refine lv_iload hx hb d_M_takesOne_91 (lv_at hl 5 rfl) ?_
    obtain ⟨q7, he, hf⟩ := ob_some hf
    refine cl_Vi (As := [.int x6]) (rest := []) X (c_m_M_isCreature he) ok_m_M_isCreature k_m_M_235 (va_recv hK hP rfl mo_0) rfl rfl hl.1 (Nat.le_of_ble_eq_true rfl) d_M_takesOne_93 ⟨by decide, by decide⟩ hP hS (fun H locs hP hS => ?_)
    refine lv_if_eq (tgt := 103) hx hb d_M_takesOne_96 (by decide) (fun c => ?_) (fun c => ?_)
    · have hf := if_t hf c
      exact w_m_M_takesOne_b103 X hk43 _ _ _ _ _ _ hf H locs ls hP hS (lv_sub hl [0, 1, 2, 3, 4, 5] rfl)
    · have hf := if_f hf c
      exact w_m_M_takesOne_b99 X hk43 _ _ _ _ _ _ hf H locs ls hP hS (lv_sub hl [0, 1, 2, 3, 4, 5] rfl)
set_option maxHeartbeats 4000000 in
set_option maxRecDepth 100000 in
theorem w_m_M_takesOne_b71 {z : Int32 × St} (X : Cx b_M_takesOne 8 (some .int) R_M D [(cI, .int), (cZ, .boolean), (cJ, .long)] (mA ao aa) (mW cI cZ cJ ao aa) p s m args meth c) {k43 : St → Int32 → Int32 → Int32 → Int64 → Int32 → Option (Int32 × St)} (hk43 : ∀ (S : St) (x1 : Int32) (x2 : Int32) (x3 : Int32) (w4 : Int64) (x6 : Int32), k43 S x1 x2 x3 w4 x6 = some z → WX rm_m_M_takesOne D (mA ao aa) (mW cI cZ cJ ao aa) p l e s m args below meth c (some (.int z.1)) z.2 43 [] 8 [(0, .ref (ao 0)), (1, .int x1), (2, .int x2), (3, .int x3), (4, .long w4), (6, .int x6)] S) (S : St) (x1 : Int32) (x2 : Int32) (x3 : Int32) (w4 : Int64) (x6 : Int32) (hf : m_M_takesOne_b71 k43 S x1 x2 x3 w4 x6 = some z) : WX rm_m_M_takesOne D (mA ao aa) (mW cI cZ cJ ao aa) p l e s m args below meth c (some (.int z.1)) z.2 71 [] 8 [(0, .ref (ao 0)), (1, .int x1), (2, .int x2), (3, .int x3), (4, .long w4), (6, .int x6)] S := by
  intro H locs ls hP hS hl
  obtain ⟨hx, hb, hr0, hml, hown, htg, hlk, hK, hN, hI⟩ := id X
  unfold m_M_takesOne_b71 at hf
  refine lv_iload_n hx hb d_M_takesOne_71 rfl (lv_at hl 1 rfl) ?_
  refine lv_iconst (v := 4) hx hb d_M_takesOne_72 (by decide) ?_
  refine lv_icmp_ne (tgt := 85) hx hb d_M_takesOne_73 (by decide) (fun c => ?_) (fun c => ?_)
  · have hf := if_f hf c
    exact w_m_M_takesOne_b85 X hk43 _ _ _ _ _ _ hf H locs ls hP hS (lv_sub hl [0, 1, 2, 3, 4, 5] rfl)
  · have hf := if_t hf c
    refine lv_aload_n hx hb d_M_takesOne_76 rfl (lv_at hl 0 rfl) ?_
    refine lv_iload hx hb d_M_takesOne_77 (lv_at hl 5 rfl) ?_
    obtain ⟨q8, he, hf⟩ := ob_some hf
    refine cl_Vi (As := [.int x6]) (rest := []) X (c_m_M_isWorn he) ok_m_M_isWorn k_m_M_232 (va_recv hK hP rfl mo_0) rfl rfl hl.1 (Nat.le_of_ble_eq_true rfl) d_M_takesOne_79 ⟨by decide, by decide⟩ hP hS (fun H locs hP hS => ?_)
    refine lv_if_ne (tgt := 99) hx hb d_M_takesOne_82 (by decide) (fun c => ?_) (fun c => ?_)
    · have hf := if_f hf c
      exact w_m_M_takesOne_b99 X hk43 _ _ _ _ _ _ hf H locs ls hP hS (lv_sub hl [0, 1, 2, 3, 4, 5] rfl)
    · have hf := if_t hf c
      exact w_m_M_takesOne_b85 X hk43 _ _ _ _ _ _ hf H locs ls hP hS (lv_sub hl [0, 1, 2, 3, 4, 5] rfl)
set_option maxHeartbeats 4000000 in
set_option maxRecDepth 100000 in
theorem w_m_M_takesOne_b43_f {z : Int32 × St} (X : Cx b_M_takesOne 8 (some .int) R_M D [(cI, .int), (cZ, .boolean), (cJ, .long)] (mA ao aa) (mW cI cZ cJ ao aa) p s m args meth c) {k43 : St → Int32 → Int32 → Int32 → Int64 → Int32 → Option (Int32 × St)} (hk43 : ∀ (S : St) (x1 : Int32) (x2 : Int32) (x3 : Int32) (w4 : Int64) (x6 : Int32), k43 S x1 x2 x3 w4 x6 = some z → WX rm_m_M_takesOne D (mA ao aa) (mW cI cZ cJ ao aa) p l e s m args below meth c (some (.int z.1)) z.2 43 [] 8 [(0, .ref (ao 0)), (1, .int x1), (2, .int x2), (3, .int x3), (4, .long w4), (6, .int x6)] S) (S : St) (x1 : Int32) (x2 : Int32) (x3 : Int32) (w4 : Int64) (x6 : Int32) (hf : m_M_takesOne_b43_f k43 S x1 x2 x3 w4 x6 = some z) : WX rm_m_M_takesOne D (mA ao aa) (mW cI cZ cJ ao aa) p l e s m args below meth c (some (.int z.1)) z.2 43 [] 8 [(0, .ref (ao 0)), (1, .int x1), (2, .int x2), (3, .int x3), (4, .long w4), (6, .int x6)] S := by
  intro H locs ls hP hS hl
  obtain ⟨hx, hb, hr0, hml, hown, htg, hlk, hK, hN, hI⟩ := id X
  unfold m_M_takesOne_b43_f at hf
  refine lv_iload hx hb d_M_takesOne_43 (lv_at hl 5 rfl) ?_
  refine lv_aload_n hx hb d_M_takesOne_45 rfl (lv_at hl 0 rfl) ?_
  refine va_get (D := D) (v := .int (gI S 3)) hx hb htg in_M hown hK hP 0 mo_0 rfl 11 (by decide) (htg _ k_f_M_140) (fun _ h9 => h9) rfl d_M_takesOne_46 ?_
  refine lv_icmp_ge (tgt := 143) hx hb d_M_takesOne_49 (by decide) (fun c => ?_) (fun c => ?_)
  · have hf := if_t hf c
    refine lv_aload_n hx hb d_M_takesOne_143 rfl (lv_at hl 0 rfl) ?_
    refine lv_lload hx hb d_M_takesOne_144 (lv_at hl 4 rfl) ?_
    obtain ⟨q3, he, hf⟩ := ob_some hf
    refine cl_Vi (As := [.long w4]) (rest := []) X (c_m_M_manyOf he) ok_m_M_manyOf k_m_M_238 (va_recv hK hP rfl mo_0) rfl rfl hl.1 (Nat.le_of_ble_eq_true rfl) d_M_takesOne_146 ⟨by decide, by decide⟩ hP hS (fun H locs hP hS => ?_)
    refine lv_istore (lv' := [(6, .int q3.1), (0, .ref (ao 0)), (1, .int x1), (2, .int x2), (3, .int x3), (4, .long w4)]) hx hb d_M_takesOne_149 hl (by decide) rfl (fun ls hl => ?_)
    refine lv_iload hx hb d_M_takesOne_151 (lv_at hl 0 rfl) ?_
    refine lv_if_ne (tgt := 186) hx hb d_M_takesOne_153 (by decide) (fun c => ?_) (fun c => ?_)
    · have hf := if_f hf c
      refine lv_iload hx hb d_M_takesOne_186 (lv_at hl 0 rfl) ?_
      refine lv_iconst (v := 1) hx hb d_M_takesOne_188 (by decide) ?_
      refine lv_icmp_le (tgt := 215) hx hb d_M_takesOne_189 (by decide) (fun c => ?_) (fun c => ?_)
      · have hf := if_t hf c
        refine lv_aload_n hx hb d_M_takesOne_215 rfl (lv_at hl 1 rfl) ?_
        refine va_get (D := D) (v := .ref (aa 20)) hx hb htg in_M hown hK hP 0 mo_0 rfl 36 (by decide) (htg _ k_f_M_71) (fun _ h9 => h9) rfl d_M_takesOne_216 ?_
        refine lv_aload_n hx hb d_M_takesOne_219 rfl (lv_at hl 1 rfl) ?_
        refine va_get (D := D) (v := .int (gI q3.2 13)) hx hb htg in_M hown hK hP 0 mo_0 rfl 33 (by decide) (htg _ k_f_M_186) (fun _ h9 => h9) rfl d_M_takesOne_220 ?_
        refine lv_iconst (v := 1) hx hb d_M_takesOne_223 (by decide) ?_
        refine lv_isub hx hb d_M_takesOne_224 ?_
        refine lv_dup2_11 hx hb d_M_takesOne_225 rfl rfl ?_
        obtain ⟨hg, hf⟩ := gd_some hf
        refine va_lald hx hb hK hP 21 2 ma_20 rfl (vin_in hg) d_M_takesOne_226 ?_
        refine lv_lload hx hb d_M_takesOne_227 (lv_at hl 5 rfl) ?_
        refine lv_lor hx hb d_M_takesOne_229 ?_
        obtain ⟨hg, hf⟩ := gd_some hf
        refine va_last hx hb hK hP (hI _) hS 21 2 ma_20 rfl (vin_in hg) d_M_takesOne_230 (fun H locs hP _ hS => ?_)
        replace hP : va_P D classes (mW cI cZ cJ ao aa (sB q3.2 20 ((gI q3.2 13) - (1 : Int32)).toNatClampNeg ((gB q3.2 20 ((gI q3.2 13) - (1 : Int32)).toNatClampNeg) ||| w4))) H := pw mt_20 hP
        refine lv_iload_n hx hb d_M_takesOne_231 rfl (lv_at hl 3 rfl) ?_
        refine lv_iload_n hx hb d_M_takesOne_232 rfl (lv_at hl 4 rfl) ?_
        refine lv_iadd hx hb d_M_takesOne_233 ?_
        obtain rfl := Option.some.inj hf
        exact W.iret hx hb hr0 (fun t ht _ => ⟨⟨rfl, by rw [ht]; exact hP⟩, hS.F ht⟩) hS.2.2 d_M_takesOne_234 hlk
      · have hf := if_f hf c
        refine lv_aload_n hx hb d_M_takesOne_192 rfl (lv_at hl 1 rfl) ?_
        refine lv_bipush (v := 15) hx hb d_M_takesOne_193 (by decide) ?_
        refine lv_iload_n hx hb d_M_takesOne_195 rfl (lv_at hl 3 rfl) ?_
        obtain ⟨q4, he, hf⟩ := ob_some hf
        refine cl_Vv (As := [.int (15 : Int32), .int x2]) (rest := []) X (c_m_M_fails he) ok_m_M_fails k_m_M_205 (va_recv hK hP rfl mo_0) rfl rfl hl.1 (Nat.le_of_ble_eq_true rfl) d_M_takesOne_196 ⟨by decide, by decide⟩ hP hS (fun H locs hP hS => ?_)
        refine lv_aload_n hx hb d_M_takesOne_199 rfl (lv_at hl 1 rfl) ?_
        refine lv_lload hx hb d_M_takesOne_200 (lv_at hl 5 rfl) ?_
        refine va_put (D := D) (ty := .long) hx hb htg in_M t_M t_M_ok n_M hown hK hP (hI _) hS 0 mo_0 rfl 26 (by decide) (htg _ k_f_M_242) (fun _ h9 => h9) rfl (by decide +kernel) rfl rfl (Nat.le_of_ble_eq_true rfl) d_M_takesOne_202 (fun H locs hP _ hS => ?_)
        replace hP : va_P D classes (mW cI cZ cJ ao aa (sL q4 1 w4)) H := pw ms_0_which hP
        refine lv_aload_n hx hb d_M_takesOne_205 rfl (lv_at hl 1 rfl) ?_
        refine lv_iload_n hx hb d_M_takesOne_206 rfl (lv_at hl 3 rfl) ?_
        refine lv_iload_n hx hb d_M_takesOne_207 rfl (lv_at hl 4 rfl) ?_
        refine lv_iadd hx hb d_M_takesOne_208 ?_
        refine va_put (D := D) (ty := .int) hx hb htg in_M t_M t_M_ok n_M hown hK hP (hI _) hS 0 mo_0 rfl 27 (by decide) (htg _ k_f_M_245) (fun _ h9 => h9) rfl (by decide +kernel) rfl rfl (Nat.le_of_ble_eq_true rfl) d_M_takesOne_209 (fun H locs hP _ hS => ?_)
        replace hP : va_P D classes (mW cI cZ cJ ao aa (sI (sL q4 1 w4) 9 (x2 + x3))) H := pw ms_0_phraseEnd hP
        refine lv_goto (tgt := 231) hx hb d_M_takesOne_212 (by decide) ?_
        refine lv_iload_n hx hb d_M_takesOne_231 rfl (lv_at hl 3 rfl) ?_
        refine lv_iload_n hx hb d_M_takesOne_232 rfl (lv_at hl 4 rfl) ?_
        refine lv_iadd hx hb d_M_takesOne_233 ?_
        obtain rfl := Option.some.inj hf
        exact W.iret hx hb hr0 (fun t ht _ => ⟨⟨rfl, by rw [ht]; exact hP⟩, hS.F ht⟩) hS.2.2 d_M_takesOne_234 hlk
    · have hf := if_t hf c
      refine lv_aload_n hx hb d_M_takesOne_156 rfl (lv_at hl 1 rfl) ?_
      refine lv_iload_n hx hb d_M_takesOne_157 rfl (lv_at hl 2 rfl) ?_
      refine lv_iconst (v := 3) hx hb d_M_takesOne_158 (by decide) ?_
      refine lv_icmp_ne (tgt := 167) hx hb d_M_takesOne_159 (by decide) (fun c => ?_) (fun c => ?_)
      · have hf := if_f hf c
        refine lv_iload_n hx hb d_M_takesOne_167 rfl (lv_at hl 2 rfl) ?_
        refine lv_iconst (v := 4) hx hb d_M_takesOne_168 (by decide) ?_
        refine lv_icmp_ne (tgt := 177) hx hb d_M_takesOne_169 (by decide) (fun c => ?_) (fun c => ?_)
        · have hf := if_f hf c
          refine lv_bipush (v := 10) hx hb d_M_takesOne_177 (by decide) ?_
          exact w_m_M_takesOne_b179 X _ _ _ _ hf H locs ls hP hS (lv_sub hl [3, 4] rfl)
        · have hf := if_t hf c
          refine lv_bipush (v := 12) hx hb d_M_takesOne_172 (by decide) ?_
          refine lv_goto (tgt := 179) hx hb d_M_takesOne_174 (by decide) ?_
          exact w_m_M_takesOne_b179 X _ _ _ _ hf H locs ls hP hS (lv_sub hl [3, 4] rfl)
      · have hf := if_t hf c
        refine lv_bipush (v := 11) hx hb d_M_takesOne_162 (by decide) ?_
        refine lv_goto (tgt := 179) hx hb d_M_takesOne_164 (by decide) ?_
        exact w_m_M_takesOne_b179 X _ _ _ _ hf H locs ls hP hS (lv_sub hl [3, 4] rfl)
  · have hf := if_f hf c
    refine lv_iload_n hx hb d_M_takesOne_52 rfl (lv_at hl 1 rfl) ?_
    refine lv_iconst (v := 2) hx hb d_M_takesOne_53 (by decide) ?_
    refine lv_icmp_eq (tgt := 99) hx hb d_M_takesOne_54 (by decide) (fun c => ?_) (fun c => ?_)
    · have hf := if_t hf c
      exact w_m_M_takesOne_b99 X hk43 _ _ _ _ _ _ hf H locs ls hP hS (lv_sub hl [0, 1, 2, 3, 4, 5] rfl)
    · have hf := if_f hf c
      refine lv_iload_n hx hb d_M_takesOne_57 rfl (lv_at hl 1 rfl) ?_
      refine lv_iconst (v := 3) hx hb d_M_takesOne_58 (by decide) ?_
      refine lv_icmp_ne (tgt := 71) hx hb d_M_takesOne_59 (by decide) (fun c => ?_) (fun c => ?_)
      · have hf := if_f hf c
        exact w_m_M_takesOne_b71 X hk43 _ _ _ _ _ _ hf H locs ls hP hS (lv_sub hl [0, 1, 2, 3, 4, 5] rfl)
      · have hf := if_t hf c
        refine lv_aload_n hx hb d_M_takesOne_62 rfl (lv_at hl 0 rfl) ?_
        refine lv_iload hx hb d_M_takesOne_63 (lv_at hl 5 rfl) ?_
        obtain ⟨q9, he, hf⟩ := ob_some hf
        refine cl_Vi (As := [.int x6]) (rest := []) X (c_m_M_isHeld he) ok_m_M_isHeld k_m_M_160 (va_recv hK hP rfl mo_0) rfl rfl hl.1 (Nat.le_of_ble_eq_true rfl) d_M_takesOne_65 ⟨by decide, by decide⟩ hP hS (fun H locs hP hS => ?_)
        refine lv_if_ne (tgt := 99) hx hb d_M_takesOne_68 (by decide) (fun c => ?_) (fun c => ?_)
        · have hf := if_f hf c
          exact w_m_M_takesOne_b99 X hk43 _ _ _ _ _ _ hf H locs ls hP hS (lv_sub hl [0, 1, 2, 3, 4, 5] rfl)
        · have hf := if_t hf c
          exact w_m_M_takesOne_b71 X hk43 _ _ _ _ _ _ hf H locs ls hP hS (lv_sub hl [0, 1, 2, 3, 4, 5] rfl)
theorem w_m_M_takesOne_b43 {z : Int32 × St} (X : Cx b_M_takesOne 8 (some .int) R_M D [(cI, .int), (cZ, .boolean), (cJ, .long)] (mA ao aa) (mW cI cZ cJ ao aa) p s m args meth c) : ∀ (n : Nat) (S : St) (x1 : Int32) (x2 : Int32) (x3 : Int32) (w4 : Int64) (x6 : Int32), m_M_takesOne_b43 n S x1 x2 x3 w4 x6 = some z → WX rm_m_M_takesOne D (mA ao aa) (mW cI cZ cJ ao aa) p l e s m args below meth c (some (.int z.1)) z.2 43 [] 8 [(0, .ref (ao 0)), (1, .int x1), (2, .int x2), (3, .int x3), (4, .long w4), (6, .int x6)] S
  | 0, _, _, _, _, _, _, hf => ns hf
  | n + 1, _, _, _, _, _, _, hf => w_m_M_takesOne_b43_f X (w_m_M_takesOne_b43 X n) _ _ _ _ _ _ hf
set_option maxHeartbeats 4000000 in
set_option maxRecDepth 100000 in
theorem w_m_M_takesOne {z : Int32 × St} (X : Cx b_M_takesOne 8 (some .int) R_M D [(cI, .int), (cZ, .boolean), (cJ, .long)] (mA ao aa) (mW cI cZ cJ ao aa) p s m args meth c) (S : St) (x0 : Int32) (x1 : Int32) (hf : m_M_takesOne S x0 x1 = some z) : WX rm_m_M_takesOne D (mA ao aa) (mW cI cZ cJ ao aa) p l e s m args below meth c (some (.int z.1)) z.2 0 [] 8 [(0, .ref (ao 0)), (1, .int x0), (2, .int x1)] S := by
  intro H locs ls hP hS hl
  obtain ⟨hx, hb, hr0, hml, hown, htg, hlk, hK, hN, hI⟩ := id X
  unfold m_M_takesOne at hf
  refine lv_aload_n hx hb d_M_takesOne_0 rfl (lv_at hl 0 rfl) ?_
  refine lv_iload_n hx hb d_M_takesOne_1 rfl (lv_at hl 2 rfl) ?_
  refine lv_iconst (v := 4) hx hb d_M_takesOne_2 (by decide) ?_
  obtain ⟨q1, he, hf⟩ := ob_some hf
  refine cl_Vi (As := [.int x1, .int (4 : Int32)]) (rest := []) X (c_m_M_stands he) ok_m_M_stands k_m_M_177 (va_recv hK hP rfl mo_0) rfl rfl hl.1 (Nat.le_of_ble_eq_true rfl) d_M_takesOne_3 ⟨by decide, by decide⟩ hP hS (fun H locs hP hS => ?_)
  refine lv_if_eq (tgt := 18) hx hb d_M_takesOne_6 (by decide) (fun c => ?_) (fun c => ?_)
  · have hf := if_t hf c
    refine lv_aload_n hx hb d_M_takesOne_18 rfl (lv_at hl 0 rfl) ?_
    refine lv_iload_n hx hb d_M_takesOne_19 rfl (lv_at hl 2 rfl) ?_
    obtain ⟨q2, he, hf⟩ := ob_some hf
    refine cl_Vi (As := [.int x1]) (rest := []) X (c_m_M_phrase he) ok_m_M_phrase k_m_M_229 (va_recv hK hP rfl mo_0) rfl rfl hl.1 (Nat.le_of_ble_eq_true rfl) d_M_takesOne_20 ⟨by decide, by decide⟩ hP hS (fun H locs hP hS => ?_)
    refine lv_istore_n (lv' := [(3, .int q2.1), (0, .ref (ao 0)), (1, .int x0), (2, .int x1)]) hx hb d_M_takesOne_23 rfl hl (by decide) rfl (fun ls hl => ?_)
    refine lv_iload_n hx hb d_M_takesOne_24 rfl (lv_at hl 0 rfl) ?_
    refine lv_if_ne (tgt := 37) hx hb d_M_takesOne_25 (by decide) (fun c => ?_) (fun c => ?_)
    · have hf := if_f hf c
      refine lv_lconst (v := 0) hx hb d_M_takesOne_37 (by decide) ?_
      refine lv_lstore (lv' := [(4, .long (0 : Int64)), (3, .int q2.1), (0, .ref (ao 0)), (1, .int x0), (2, .int x1)]) hx hb d_M_takesOne_38 hl (by decide) rfl (fun ls hl => ?_)
      refine lv_iconst (v := 0) hx hb d_M_takesOne_40 (by decide) ?_
      refine lv_istore (lv' := [(6, .int (0 : Int32)), (4, .long (0 : Int64)), (3, .int q2.1), (0, .ref (ao 0)), (1, .int x0), (2, .int x1)]) hx hb d_M_takesOne_41 hl (by decide) rfl (fun ls hl => ?_)
      exact w_m_M_takesOne_b43 X _ _ _ _ _ _ _ hf H locs ls hP hS (lv_sub hl [3, 4, 5, 2, 1, 0] rfl)
    · have hf := if_t hf c
      refine lv_aload_n hx hb d_M_takesOne_28 rfl (lv_at hl 1 rfl) ?_
      refine lv_bipush (v := 7) hx hb d_M_takesOne_29 (by decide) ?_
      refine lv_iload_n hx hb d_M_takesOne_31 rfl (lv_at hl 3 rfl) ?_
      obtain ⟨q10, he, hf⟩ := ob_some hf
      refine cl_Vv (As := [.int (7 : Int32), .int x1]) (rest := []) X (c_m_M_fails he) ok_m_M_fails k_m_M_205 (va_recv hK hP rfl mo_0) rfl rfl hl.1 (Nat.le_of_ble_eq_true rfl) d_M_takesOne_32 ⟨by decide, by decide⟩ hP hS (fun H locs hP hS => ?_)
      refine lv_iload_n hx hb d_M_takesOne_35 rfl (lv_at hl 3 rfl) ?_
      obtain rfl := Option.some.inj hf
      exact W.iret hx hb hr0 (fun t ht _ => ⟨⟨rfl, by rw [ht]; exact hP⟩, hS.F ht⟩) hS.2.2 d_M_takesOne_36 hlk
  · have hf := if_f hf c
    refine lv_aload_n hx hb d_M_takesOne_9 rfl (lv_at hl 0 rfl) ?_
    refine lv_bipush (v := 13) hx hb d_M_takesOne_10 (by decide) ?_
    refine lv_iload_n hx hb d_M_takesOne_12 rfl (lv_at hl 2 rfl) ?_
    obtain ⟨q11, he, hf⟩ := ob_some hf
    refine cl_Vv (As := [.int (13 : Int32), .int x1]) (rest := []) X (c_m_M_fails he) ok_m_M_fails k_m_M_205 (va_recv hK hP rfl mo_0) rfl rfl hl.1 (Nat.le_of_ble_eq_true rfl) d_M_takesOne_13 ⟨by decide, by decide⟩ hP hS (fun H locs hP hS => ?_)
    refine lv_iload_n hx hb d_M_takesOne_16 rfl (lv_at hl 2 rfl) ?_
    obtain rfl := Option.some.inj hf
    exact W.iret hx hb hr0 (fun t ht _ => ⟨⟨rfl, by rw [ht]; exact hP⟩, hS.F ht⟩) hS.2.2 d_M_takesOne_17 hlk
theorem c_m_M_takesOne {l : Launch} {D : va_G} {cI cZ cJ : ClassId} {ao aa : Nat → Nat} {S : St} {x0 : Int32} {x1 : Int32} {z : Int32 × St} (hz : m_M_takesOne S x0 x1 = some z) : Ct l y_M_takesOne (.code y_M_takesOne b_M_takesOne 8 (some .int) :: gw) rm_m_M_takesOne D [(cI, .int), (cZ, .boolean), (cJ, .long)] (mA ao aa) (mW cI cZ cJ ao aa) [.ref (ao 0), .int x0, .int x1] S (some (.int z.1)) z.2 :=
  Ct_of (by decide) (fun p e s m args below meth c X => w_m_M_takesOne X _ _ _ hz) (Nat.le_of_ble_eq_true rfl)
def m_M_joins (S : St) (x0 : Int32) : Option (Int32 × St) :=
  (m_M_stands S x0 (1 : Int32)).bind fun q1 =>
  if q1.1 = 0 then
    (m_M_stands q1.2 x0 (7 : Int32)).bind fun q2 =>
    if q2.1 = 0 then
      some ((0 : Int32), q2.2)
    else
      some ((1 : Int32), q2.2)
  else
    some ((1 : Int32), q1.2)
def rm_m_M_joins : Room := { frames := 1, cells := 0, slots := 0, locals := 22 }
theorem ok_m_M_joins : CalV y_M_joins b_M_joins 2 (some .boolean) 1 rm_m_M_joins := ⟨kc_M_joins, ki_M_joins, kl_M_joins, ji_M, ⟨by decide, by decide, by decide +kernel⟩, rfl, rfl⟩
set_option maxHeartbeats 4000000 in
set_option maxRecDepth 100000 in
theorem w_m_M_joins {z : Int32 × St} (X : Cx b_M_joins 2 (some .boolean) R_M D [(cI, .int), (cZ, .boolean), (cJ, .long)] (mA ao aa) (mW cI cZ cJ ao aa) p s m args meth c) (S : St) (x0 : Int32) (hf : m_M_joins S x0 = some z) : WX rm_m_M_joins D (mA ao aa) (mW cI cZ cJ ao aa) p l e s m args below meth c (some (.int z.1)) z.2 0 [] 2 [(0, .ref (ao 0)), (1, .int x0)] S := by
  intro H locs ls hP hS hl
  obtain ⟨hx, hb, hr0, hml, hown, htg, hlk, hK, hN, hI⟩ := id X
  unfold m_M_joins at hf
  refine lv_aload_n hx hb d_M_joins_0 rfl (lv_at hl 0 rfl) ?_
  refine lv_iload_n hx hb d_M_joins_1 rfl (lv_at hl 1 rfl) ?_
  refine lv_iconst (v := 1) hx hb d_M_joins_2 (by decide) ?_
  obtain ⟨q1, he, hf⟩ := ob_some hf
  refine cl_Vi (As := [.int x0, .int (1 : Int32)]) (rest := []) X (c_m_M_stands he) ok_m_M_stands k_m_M_177 (va_recv hK hP rfl mo_0) rfl rfl hl.1 (Nat.le_of_ble_eq_true rfl) d_M_joins_3 ⟨by decide, by decide⟩ hP hS (fun H locs hP hS => ?_)
  refine lv_if_ne (tgt := 19) hx hb d_M_joins_6 (by decide) (fun c => ?_) (fun c => ?_)
  · have hf := if_f hf c
    refine lv_iconst (v := 1) hx hb d_M_joins_19 (by decide) ?_
    refine lv_goto (tgt := 24) hx hb d_M_joins_20 (by decide) ?_
    obtain rfl := Option.some.inj hf
    exact W.zret (ty := .boolean) hx hb hr0 rfl (fun t ht _ => ⟨⟨rfl, by rw [ht]; exact hP⟩, hS.F ht⟩) hS.2.2 d_M_joins_24 hlk
  · have hf := if_t hf c
    refine lv_aload_n hx hb d_M_joins_9 rfl (lv_at hl 0 rfl) ?_
    refine lv_iload_n hx hb d_M_joins_10 rfl (lv_at hl 1 rfl) ?_
    refine lv_bipush (v := 7) hx hb d_M_joins_11 (by decide) ?_
    obtain ⟨q2, he, hf⟩ := ob_some hf
    refine cl_Vi (As := [.int x0, .int (7 : Int32)]) (rest := []) X (c_m_M_stands he) ok_m_M_stands k_m_M_177 (va_recv hK hP rfl mo_0) rfl rfl hl.1 (Nat.le_of_ble_eq_true rfl) d_M_joins_13 ⟨by decide, by decide⟩ hP hS (fun H locs hP hS => ?_)
    refine lv_if_eq (tgt := 23) hx hb d_M_joins_16 (by decide) (fun c => ?_) (fun c => ?_)
    · have hf := if_t hf c
      refine lv_iconst (v := 0) hx hb d_M_joins_23 (by decide) ?_
      obtain rfl := Option.some.inj hf
      exact W.zret (ty := .boolean) hx hb hr0 rfl (fun t ht _ => ⟨⟨rfl, by rw [ht]; exact hP⟩, hS.F ht⟩) hS.2.2 d_M_joins_24 hlk
    · have hf := if_f hf c
      refine lv_iconst (v := 1) hx hb d_M_joins_19 (by decide) ?_
      refine lv_goto (tgt := 24) hx hb d_M_joins_20 (by decide) ?_
      obtain rfl := Option.some.inj hf
      exact W.zret (ty := .boolean) hx hb hr0 rfl (fun t ht _ => ⟨⟨rfl, by rw [ht]; exact hP⟩, hS.F ht⟩) hS.2.2 d_M_joins_24 hlk
theorem c_m_M_joins {l : Launch} {D : va_G} {cI cZ cJ : ClassId} {ao aa : Nat → Nat} {S : St} {x0 : Int32} {z : Int32 × St} (hz : m_M_joins S x0 = some z) : Ct l y_M_joins (.code y_M_joins b_M_joins 2 (some .boolean) :: gw) rm_m_M_joins D [(cI, .int), (cZ, .boolean), (cJ, .long)] (mA ao aa) (mW cI cZ cJ ao aa) [.ref (ao 0), .int x0] S (some (.int z.1)) z.2 :=
  Ct_of (by decide) (fun p e s m args below meth c X => w_m_M_joins X _ _ hz) (Nat.le_of_ble_eq_true rfl)
def m_M_lacksOne (S : St) (x0 : Int32) : Option (Int32 × St) :=
  (m_M_fails S (7 : Int32) x0).bind fun q1 =>
  some (x0, q1)
def rm_m_M_lacksOne : Room := { frames := 1, cells := 0, slots := 0, locals := 22 }
theorem ok_m_M_lacksOne : CalV y_M_lacksOne b_M_lacksOne 2 (some .int) 1 rm_m_M_lacksOne := ⟨kc_M_lacksOne, ki_M_lacksOne, kl_M_lacksOne, ji_M, ⟨by decide, by decide, by decide +kernel⟩, rfl, rfl⟩
set_option maxHeartbeats 4000000 in
set_option maxRecDepth 100000 in
theorem w_m_M_lacksOne {z : Int32 × St} (X : Cx b_M_lacksOne 2 (some .int) R_M D [(cI, .int), (cZ, .boolean), (cJ, .long)] (mA ao aa) (mW cI cZ cJ ao aa) p s m args meth c) (S : St) (x0 : Int32) (hf : m_M_lacksOne S x0 = some z) : WX rm_m_M_lacksOne D (mA ao aa) (mW cI cZ cJ ao aa) p l e s m args below meth c (some (.int z.1)) z.2 0 [] 2 [(0, .ref (ao 0)), (1, .int x0)] S := by
  intro H locs ls hP hS hl
  obtain ⟨hx, hb, hr0, hml, hown, htg, hlk, hK, hN, hI⟩ := id X
  unfold m_M_lacksOne at hf
  refine lv_aload_n hx hb d_M_lacksOne_0 rfl (lv_at hl 0 rfl) ?_
  refine lv_bipush (v := 7) hx hb d_M_lacksOne_1 (by decide) ?_
  refine lv_iload_n hx hb d_M_lacksOne_3 rfl (lv_at hl 1 rfl) ?_
  obtain ⟨q1, he, hf⟩ := ob_some hf
  refine cl_Vv (As := [.int (7 : Int32), .int x0]) (rest := []) X (c_m_M_fails he) ok_m_M_fails k_m_M_205 (va_recv hK hP rfl mo_0) rfl rfl hl.1 (Nat.le_of_ble_eq_true rfl) d_M_lacksOne_4 ⟨by decide, by decide⟩ hP hS (fun H locs hP hS => ?_)
  refine lv_iload_n hx hb d_M_lacksOne_7 rfl (lv_at hl 1 rfl) ?_
  obtain rfl := Option.some.inj hf
  exact W.iret hx hb hr0 (fun t ht _ => ⟨⟨rfl, by rw [ht]; exact hP⟩, hS.F ht⟩) hS.2.2 d_M_lacksOne_8 hlk
theorem c_m_M_lacksOne {l : Launch} {D : va_G} {cI cZ cJ : ClassId} {ao aa : Nat → Nat} {S : St} {x0 : Int32} {z : Int32 × St} (hz : m_M_lacksOne S x0 = some z) : Ct l y_M_lacksOne (.code y_M_lacksOne b_M_lacksOne 2 (some .int) :: gw) rm_m_M_lacksOne D [(cI, .int), (cZ, .boolean), (cJ, .long)] (mA ao aa) (mW cI cZ cJ ao aa) [.ref (ao 0), .int x0] S (some (.int z.1)) z.2 :=
  Ct_of (by decide) (fun p e s m args below meth c X => w_m_M_lacksOne X _ _ hz) (Nat.le_of_ble_eq_true rfl)
def m_M_takesSeveral_b321 (S : St) (x2 : Int32) (x3 : Int32) (x4 : Int32) : Option (Int32 × St) :=
  if (gI S 7) = 0 then
    gd (vin x3 2) <|
    if (lg_cmp (gB S 20 x3.toNatClampNeg) (0 : Int64)) = 0 then
      (m_M_fails S (14 : Int32) x2).bind fun q3 =>
      some (x4, q3)
    else
      some (x4, S)
  else
    some (x4, S)
def m_M_takesSeveral_b316 (k259 : St → Int32 → Int32 → Int32 → Int32 → Option (Int32 × St)) (S : St) (x1 : Int32) (x2 : Int32) (x3 : Int32) (s0 : Int32) : Option (Int32 × St) :=
  k259 S x1 x2 x3 s0
def m_M_takesSeveral_b298 (k259 : St → Int32 → Int32 → Int32 → Int32 → Option (Int32 × St)) (S : St) (x1 : Int32) (x2 : Int32) (x3 : Int32) (x4 : Int32) (s0 : Int32) : Option (Int32 × St) :=
  (m_M_takesOne S s0 (x4 + (1 : Int32))).bind fun q6 =>
  m_M_takesSeveral_b316 k259 q6.2 x1 x2 x3 q6.1
def m_M_takesSeveral_b259_f (k259 : St → Int32 → Int32 → Int32 → Int32 → Option (Int32 × St)) (S : St) (x1 : Int32) (x2 : Int32) (x3 : Int32) (x4 : Int32) : Option (Int32 × St) :=
  if (gI S 7) = 0 then
    (m_M_joins S x4).bind fun q4 =>
    if q4.1 = 0 then
      m_M_takesSeveral_b321 q4.2 x2 x3 x4
    else
      if (gI q4.2 6) ≤ (x4 + (1 : Int32)) then
        (m_M_lacksOne q4.2 (x4 + (1 : Int32))).bind fun q5 =>
        m_M_takesSeveral_b316 k259 q5.2 x1 x2 x3 q5.1
      else
        if x1 = (6 : Int32) then
          m_M_takesSeveral_b298 k259 q4.2 x1 x2 x3 x4 (2 : Int32)
        else
          m_M_takesSeveral_b298 k259 q4.2 x1 x2 x3 x4 (3 : Int32)
  else
    m_M_takesSeveral_b321 S x2 x3 x4
def m_M_takesSeveral_b259 : Nat → St → Int32 → Int32 → Int32 → Int32 → Option (Int32 × St)
  | 0, _, _, _, _, _ => none
  | n + 1, S, x1, x2, x3, x4 => m_M_takesSeveral_b259_f (m_M_takesSeveral_b259 n) S x1 x2 x3 x4
def m_M_takesSeveral_b252 (S : St) (x1 : Int32) (x2 : Int32) (x3 : Int32) (x4 : Int32) (s0 : Int32) : Option (Int32 × St) :=
  (m_M_takesOne S s0 x4).bind fun q2 =>
  m_M_takesSeveral_b259 fu q2.2 x1 x2 x3 q2.1
def m_M_takesSeveral_b237 (S : St) (x2 : Int32) (x3 : Int32) (x4 : Int32) : Option (Int32 × St) :=
  m_M_takesSeveral_b321 S x2 x3 x4
def m_M_takesSeveral_b217 (k142 : St → Int32 → Int32 → Int32 → Int32 → Option (Int32 × St)) (S : St) (x2 : Int32) (x3 : Int32) (x4 : Int32) (x6 : Int32) (s0 : Int64) (s1 : Int64) (s2 : Int32) : Option (Int32 × St) :=
  gd (vin s2 2) <|
  (m_M_joins (sB S 20 s2.toNatClampNeg (s1 &&& s0)) (x4 + x6)).bind fun q8 =>
  k142 q8.2 x2 x3 (x4 + x6) q8.1
def m_M_takesSeveral_b191 (k142 : St → Int32 → Int32 → Int32 → Int32 → Option (Int32 × St)) (S : St) (x2 : Int32) (x3 : Int32) (x4 : Int32) (x6 : Int32) : Option (Int32 × St) :=
  gd (vin x3 2) <|
  if x6 = 0 then
    m_M_takesSeveral_b217 k142 S x2 x3 x4 x6 (-1 : Int64) (gB S 20 x3.toNatClampNeg) x3
  else
    m_M_takesSeveral_b217 k142 S x2 x3 x4 x6 ((gL S 0) ^^^ (-1 : Int64)) (gB S 20 x3.toNatClampNeg) x3
def m_M_takesSeveral_b176 (k142 : St → Int32 → Int32 → Int32 → Int32 → Option (Int32 × St)) (S : St) (x2 : Int32) (x3 : Int32) (x4 : Int32) (s0 : Int32) : Option (Int32 × St) :=
  if s0 = 0 then
    (m_M_fails S (7 : Int32) x4).bind fun q9 =>
    m_M_takesSeveral_b191 k142 q9 x2 x3 x4 s0
  else
    m_M_takesSeveral_b191 k142 S x2 x3 x4 s0
def m_M_takesSeveral_b142_f (k142 : St → Int32 → Int32 → Int32 → Int32 → Option (Int32 × St)) (S : St) (x2 : Int32) (x3 : Int32) (x4 : Int32) (x5 : Int32) : Option (Int32 × St) :=
  if x5 = 0 then
    m_M_takesSeveral_b237 S x2 x3 x4
  else
    if (gI S 7) = 0 then
      if (gI S 6) ≤ (x4 + 1) then
        m_M_takesSeveral_b176 k142 S x2 x3 (x4 + 1) (0 : Int32)
      else
        (m_M_phrase S (x4 + 1)).bind fun q10 =>
        m_M_takesSeveral_b176 k142 q10.2 x2 x3 (x4 + 1) q10.1
    else
      m_M_takesSeveral_b237 S x2 x3 x4
def m_M_takesSeveral_b142 : Nat → St → Int32 → Int32 → Int32 → Int32 → Option (Int32 × St)
  | 0, _, _, _, _, _ => none
  | n + 1, S, x2, x3, x4, x5 => m_M_takesSeveral_b142_f (m_M_takesSeveral_b142 n) S x2 x3 x4 x5
def m_M_takesSeveral_b123 (k23 : St → Int32 → Int32 → Int32 → Int32 → Int32 → Option (Int32 × St)) (S : St) (x1 : Int32) (x2 : Int32) (x3 : Int32) (x4 : Int32) (x5 : Int32) (s0 : Int64) (s1 : Int32) : Option (Int32 × St) :=
  gd (vin s1 2) <|
  k23 (sB S 20 s1.toNatClampNeg s0) x1 x2 x3 x4 (x5 + 1)
def m_M_takesSeveral_b91 (k23 : St → Int32 → Int32 → Int32 → Int32 → Int32 → Option (Int32 × St)) (S : St) (x1 : Int32) (x2 : Int32) (x3 : Int32) (x4 : Int32) (x5 : Int32) (s0 : Int32) : Option (Int32 × St) :=
  if s0 = 0 then
    gd (vin x3 2) <|
    m_M_takesSeveral_b123 k23 S x1 x2 x3 x4 x5 (gB S 20 x3.toNatClampNeg) x3
  else
    gd (vin x3 2) <|
    m_M_takesSeveral_b123 k23 S x1 x2 x3 x4 x5 ((gB S 20 x3.toNatClampNeg) ||| ((1 : Int64) <<< (x5.toInt64 &&& 63))) x3
def m_M_takesSeveral_b90 (k23 : St → Int32 → Int32 → Int32 → Int32 → Int32 → Option (Int32 × St)) (S : St) (x1 : Int32) (x2 : Int32) (x3 : Int32) (x4 : Int32) (x5 : Int32) : Option (Int32 × St) :=
  m_M_takesSeveral_b91 k23 S x1 x2 x3 x4 x5 (0 : Int32)
def m_M_takesSeveral_b86 (k23 : St → Int32 → Int32 → Int32 → Int32 → Int32 → Option (Int32 × St)) (S : St) (x1 : Int32) (x2 : Int32) (x3 : Int32) (x4 : Int32) (x5 : Int32) : Option (Int32 × St) :=
  m_M_takesSeveral_b91 k23 S x1 x2 x3 x4 x5 (1 : Int32)
def m_M_takesSeveral_b23_f (k23 : St → Int32 → Int32 → Int32 → Int32 → Int32 → Option (Int32 × St)) (S : St) (x1 : Int32) (x2 : Int32) (x3 : Int32) (x4 : Int32) (x5 : Int32) : Option (Int32 × St) :=
  if (gI S 3) ≤ x5 then
    (m_M_stands S (x4 + 1) (3 : Int32)).bind fun q7 =>
    m_M_takesSeveral_b142 fu q7.2 x2 x3 (x4 + 1) q7.1
  else
    (m_M_isInScope S x5).bind fun q11 =>
    if q11.1 = 0 then
      m_M_takesSeveral_b90 k23 q11.2 x1 x2 x3 x4 x5
    else
      (m_M_isCreature q11.2 x5).bind fun q12 =>
      if q12.1 = 0 then
        if x1 = (6 : Int32) then
          (m_M_isHeld q12.2 x5).bind fun q15 =>
          if q15.1 = 0 then
            m_M_takesSeveral_b86 k23 q15.2 x1 x2 x3 x4 x5
          else
            m_M_takesSeveral_b90 k23 q15.2 x1 x2 x3 x4 x5
        else
          (m_M_isHeld q12.2 x5).bind fun q13 =>
          if q13.1 = 0 then
            m_M_takesSeveral_b90 k23 q13.2 x1 x2 x3 x4 x5
          else
            (m_M_isWorn q13.2 x5).bind fun q14 =>
            if q14.1 = 0 then
              m_M_takesSeveral_b86 k23 q14.2 x1 x2 x3 x4 x5
            else
              m_M_takesSeveral_b90 k23 q14.2 x1 x2 x3 x4 x5
      else
        m_M_takesSeveral_b90 k23 q12.2 x1 x2 x3 x4 x5
def m_M_takesSeveral_b23 : Nat → St → Int32 → Int32 → Int32 → Int32 → Int32 → Option (Int32 × St)
  | 0, _, _, _, _, _, _ => none
  | n + 1, S, x1, x2, x3, x4, x5 => m_M_takesSeveral_b23_f (m_M_takesSeveral_b23 n) S x1 x2 x3 x4 x5
def m_M_takesSeveral (S : St) (x0 : Int32) (x1 : Int32) : Option (Int32 × St) :=
  (m_M_stands S x1 (4 : Int32)).bind fun q1 =>
  if q1.1 = 0 then
    if x0 = (6 : Int32) then
      m_M_takesSeveral_b252 q1.2 x0 x1 ((gI S 13) - (1 : Int32)) x1 (2 : Int32)
    else
      m_M_takesSeveral_b252 q1.2 x0 x1 ((gI S 13) - (1 : Int32)) x1 (3 : Int32)
  else
    m_M_takesSeveral_b23 fu q1.2 x0 x1 ((gI S 13) - (1 : Int32)) x1 (0 : Int32)
def rm_m_M_takesSeveral : Room := { frames := 4, cells := 0, slots := 0, locals := 94 }
theorem ok_m_M_takesSeveral : CalV y_M_takesSeveral b_M_takesSeveral 7 (some .int) 2 rm_m_M_takesSeveral := ⟨kc_M_takesSeveral, ki_M_takesSeveral, kl_M_takesSeveral, ji_M, ⟨by decide, by decide, by decide +kernel⟩, rfl, rfl⟩
set_option maxHeartbeats 4000000 in
set_option maxRecDepth 100000 in
theorem w_m_M_takesSeveral_b321 {z : Int32 × St} (X : Cx b_M_takesSeveral 7 (some .int) R_M D [(cI, .int), (cZ, .boolean), (cJ, .long)] (mA ao aa) (mW cI cZ cJ ao aa) p s m args meth c) (S : St) (x2 : Int32) (x3 : Int32) (x4 : Int32) (hf : m_M_takesSeveral_b321 S x2 x3 x4 = some z) : WX rm_m_M_takesSeveral D (mA ao aa) (mW cI cZ cJ ao aa) p l e s m args below meth c (some (.int z.1)) z.2 321 [] 7 [(0, .ref (ao 0)), (2, .int x2), (3, .int x3), (4, .int x4)] S := by
  intro H locs ls hP hS hl
  obtain ⟨hx, hb, hr0, hml, hown, htg, hlk, hK, hN, hI⟩ := id X
  unfold m_M_takesSeveral_b321 at hf
  refine lv_aload_n hx hb d_M_takesSeveral_321 rfl (lv_at hl 0 rfl) ?_
  refine va_get (D := D) (v := .int (gI S 7)) hx hb htg in_M hown hK hP 0 mo_0 rfl 24 (by decide) (htg _ k_f_M_180) (fun _ h9 => h9) rfl d_M_takesSeveral_322 ?_
  refine lv_if_ne (tgt := 346) hx hb d_M_takesSeveral_325 (by decide) (fun c => ?_) (fun c => ?_)
  · have hf := if_f hf c
    refine lv_iload hx hb d_M_takesSeveral_346 (lv_at hl 3 rfl) ?_
    obtain rfl := Option.some.inj hf
    exact W.iret hx hb hr0 (fun t ht _ => ⟨⟨rfl, by rw [ht]; exact hP⟩, hS.F ht⟩) hS.2.2 d_M_takesSeveral_348 hlk
  · have hf := if_t hf c
    refine lv_aload_n hx hb d_M_takesSeveral_328 rfl (lv_at hl 0 rfl) ?_
    refine va_get (D := D) (v := .ref (aa 20)) hx hb htg in_M hown hK hP 0 mo_0 rfl 36 (by decide) (htg _ k_f_M_71) (fun _ h9 => h9) rfl d_M_takesSeveral_329 ?_
    refine lv_iload_n hx hb d_M_takesSeveral_332 rfl (lv_at hl 2 rfl) ?_
    obtain ⟨hg, hf⟩ := gd_some hf
    refine va_lald hx hb hK hP 21 2 ma_20 rfl (vin_in hg) d_M_takesSeveral_333 ?_
    refine lv_lconst (v := 0) hx hb d_M_takesSeveral_334 (by decide) ?_
    refine W.lcmp hx hb d_M_takesSeveral_335 ?_
    refine lv_if_ne (tgt := 346) hx hb d_M_takesSeveral_336 (by decide) (fun c => ?_) (fun c => ?_)
    · have hf := if_f hf c
      refine lv_iload hx hb d_M_takesSeveral_346 (lv_at hl 3 rfl) ?_
      obtain rfl := Option.some.inj hf
      exact W.iret hx hb hr0 (fun t ht _ => ⟨⟨rfl, by rw [ht]; exact hP⟩, hS.F ht⟩) hS.2.2 d_M_takesSeveral_348 hlk
    · have hf := if_t hf c
      refine lv_aload_n hx hb d_M_takesSeveral_339 rfl (lv_at hl 0 rfl) ?_
      refine lv_bipush (v := 14) hx hb d_M_takesSeveral_340 (by decide) ?_
      refine lv_iload_n hx hb d_M_takesSeveral_342 rfl (lv_at hl 1 rfl) ?_
      obtain ⟨q3, he, hf⟩ := ob_some hf
      refine cl_Vv (As := [.int (14 : Int32), .int x2]) (rest := []) X (c_m_M_fails he) ok_m_M_fails k_m_M_205 (va_recv hK hP rfl mo_0) rfl rfl hl.1 (Nat.le_of_ble_eq_true rfl) d_M_takesSeveral_343 ⟨by decide, by decide⟩ hP hS (fun H locs hP hS => ?_)
      refine lv_iload hx hb d_M_takesSeveral_346 (lv_at hl 3 rfl) ?_
      obtain rfl := Option.some.inj hf
      exact W.iret hx hb hr0 (fun t ht _ => ⟨⟨rfl, by rw [ht]; exact hP⟩, hS.F ht⟩) hS.2.2 d_M_takesSeveral_348 hlk
set_option maxHeartbeats 4000000 in
set_option maxRecDepth 100000 in
theorem w_m_M_takesSeveral_b316 {z : Int32 × St} (X : Cx b_M_takesSeveral 7 (some .int) R_M D [(cI, .int), (cZ, .boolean), (cJ, .long)] (mA ao aa) (mW cI cZ cJ ao aa) p s m args meth c) {k259 : St → Int32 → Int32 → Int32 → Int32 → Option (Int32 × St)} (hk259 : ∀ (S : St) (x1 : Int32) (x2 : Int32) (x3 : Int32) (x4 : Int32), k259 S x1 x2 x3 x4 = some z → WX rm_m_M_takesSeveral D (mA ao aa) (mW cI cZ cJ ao aa) p l e s m args below meth c (some (.int z.1)) z.2 259 [] 7 [(0, .ref (ao 0)), (1, .int x1), (2, .int x2), (3, .int x3), (4, .int x4)] S) (S : St) (x1 : Int32) (x2 : Int32) (x3 : Int32) (s0 : Int32) (hf : m_M_takesSeveral_b316 k259 S x1 x2 x3 s0 = some z) : WX rm_m_M_takesSeveral D (mA ao aa) (mW cI cZ cJ ao aa) p l e s m args below meth c (some (.int z.1)) z.2 316 [.int s0] 7 [(0, .ref (ao 0)), (1, .int x1), (2, .int x2), (3, .int x3)] S := by
  intro H locs ls hP hS hl
  obtain ⟨hx, hb, hr0, hml, hown, htg, hlk, hK, hN, hI⟩ := id X
  unfold m_M_takesSeveral_b316 at hf
  refine lv_istore (lv' := [(4, .int s0), (0, .ref (ao 0)), (1, .int x1), (2, .int x2), (3, .int x3)]) hx hb d_M_takesSeveral_316 hl (by decide) rfl (fun ls hl => ?_)
  refine lv_goto (tgt := 259) hx hb d_M_takesSeveral_318 (by decide) ?_
  exact hk259 _ _ _ _ _ hf H locs ls hP hS (lv_sub hl [1, 2, 3, 4, 0] rfl)
set_option maxHeartbeats 4000000 in
set_option maxRecDepth 100000 in
theorem w_m_M_takesSeveral_b298 {z : Int32 × St} (X : Cx b_M_takesSeveral 7 (some .int) R_M D [(cI, .int), (cZ, .boolean), (cJ, .long)] (mA ao aa) (mW cI cZ cJ ao aa) p s m args meth c) {k259 : St → Int32 → Int32 → Int32 → Int32 → Option (Int32 × St)} (hk259 : ∀ (S : St) (x1 : Int32) (x2 : Int32) (x3 : Int32) (x4 : Int32), k259 S x1 x2 x3 x4 = some z → WX rm_m_M_takesSeveral D (mA ao aa) (mW cI cZ cJ ao aa) p l e s m args below meth c (some (.int z.1)) z.2 259 [] 7 [(0, .ref (ao 0)), (1, .int x1), (2, .int x2), (3, .int x3), (4, .int x4)] S) (S : St) (x1 : Int32) (x2 : Int32) (x3 : Int32) (x4 : Int32) (s0 : Int32) (hf : m_M_takesSeveral_b298 k259 S x1 x2 x3 x4 s0 = some z) : WX rm_m_M_takesSeveral D (mA ao aa) (mW cI cZ cJ ao aa) p l e s m args below meth c (some (.int z.1)) z.2 298 [.int s0, .ref (ao 0)] 7 [(0, .ref (ao 0)), (1, .int x1), (2, .int x2), (3, .int x3), (4, .int x4)] S := by
  intro H locs ls hP hS hl
  obtain ⟨hx, hb, hr0, hml, hown, htg, hlk, hK, hN, hI⟩ := id X
  unfold m_M_takesSeveral_b298 at hf
  refine lv_iload hx hb d_M_takesSeveral_298 (lv_at hl 4 rfl) ?_
  refine lv_iconst (v := 1) hx hb d_M_takesSeveral_300 (by decide) ?_
  refine lv_iadd hx hb d_M_takesSeveral_301 ?_
  obtain ⟨q6, he, hf⟩ := ob_some hf
  refine cl_Vi (As := [.int s0, .int (x4 + (1 : Int32))]) (rest := []) X (c_m_M_takesOne he) ok_m_M_takesOne k_m_M_217 (va_recv hK hP rfl mo_0) rfl rfl hl.1 (Nat.le_of_ble_eq_true rfl) d_M_takesSeveral_302 ⟨by decide, by decide⟩ hP hS (fun H locs hP hS => ?_)
  refine lv_goto (tgt := 316) hx hb d_M_takesSeveral_305 (by decide) ?_
  exact w_m_M_takesSeveral_b316 X hk259 _ _ _ _ _ hf H locs ls hP hS (lv_sub hl [0, 1, 2, 3] rfl)
set_option maxHeartbeats 4000000 in
set_option maxRecDepth 100000 in
theorem w_m_M_takesSeveral_b259_f {z : Int32 × St} (X : Cx b_M_takesSeveral 7 (some .int) R_M D [(cI, .int), (cZ, .boolean), (cJ, .long)] (mA ao aa) (mW cI cZ cJ ao aa) p s m args meth c) {k259 : St → Int32 → Int32 → Int32 → Int32 → Option (Int32 × St)} (hk259 : ∀ (S : St) (x1 : Int32) (x2 : Int32) (x3 : Int32) (x4 : Int32), k259 S x1 x2 x3 x4 = some z → WX rm_m_M_takesSeveral D (mA ao aa) (mW cI cZ cJ ao aa) p l e s m args below meth c (some (.int z.1)) z.2 259 [] 7 [(0, .ref (ao 0)), (1, .int x1), (2, .int x2), (3, .int x3), (4, .int x4)] S) (S : St) (x1 : Int32) (x2 : Int32) (x3 : Int32) (x4 : Int32) (hf : m_M_takesSeveral_b259_f k259 S x1 x2 x3 x4 = some z) : WX rm_m_M_takesSeveral D (mA ao aa) (mW cI cZ cJ ao aa) p l e s m args below meth c (some (.int z.1)) z.2 259 [] 7 [(0, .ref (ao 0)), (1, .int x1), (2, .int x2), (3, .int x3), (4, .int x4)] S := by
  intro H locs ls hP hS hl
  obtain ⟨hx, hb, hr0, hml, hown, htg, hlk, hK, hN, hI⟩ := id X
  unfold m_M_takesSeveral_b259_f at hf
  refine lv_aload_n hx hb d_M_takesSeveral_259 rfl (lv_at hl 0 rfl) ?_
  refine va_get (D := D) (v := .int (gI S 7)) hx hb htg in_M hown hK hP 0 mo_0 rfl 24 (by decide) (htg _ k_f_M_180) (fun _ h9 => h9) rfl d_M_takesSeveral_260 ?_
  refine lv_if_ne (tgt := 321) hx hb d_M_takesSeveral_263 (by decide) (fun c => ?_) (fun c => ?_)
  · have hf := if_f hf c
    exact w_m_M_takesSeveral_b321 X _ _ _ _ hf H locs ls hP hS (lv_sub hl [0, 2, 3, 4] rfl)
  · have hf := if_t hf c
    refine lv_aload_n hx hb d_M_takesSeveral_266 rfl (lv_at hl 0 rfl) ?_
    refine lv_iload hx hb d_M_takesSeveral_267 (lv_at hl 4 rfl) ?_
    obtain ⟨q4, he, hf⟩ := ob_some hf
    refine cl_Vi (As := [.int x4]) (rest := []) X (c_m_M_joins he) ok_m_M_joins k_m_M_220 (va_recv hK hP rfl mo_0) rfl rfl hl.1 (Nat.le_of_ble_eq_true rfl) d_M_takesSeveral_269 ⟨by decide, by decide⟩ hP hS (fun H locs hP hS => ?_)
    refine lv_if_eq (tgt := 321) hx hb d_M_takesSeveral_272 (by decide) (fun c => ?_) (fun c => ?_)
    · have hf := if_t hf c
      exact w_m_M_takesSeveral_b321 X _ _ _ _ hf H locs ls hP hS (lv_sub hl [0, 2, 3, 4] rfl)
    · have hf := if_f hf c
      refine lv_iload hx hb d_M_takesSeveral_275 (lv_at hl 4 rfl) ?_
      refine lv_iconst (v := 1) hx hb d_M_takesSeveral_277 (by decide) ?_
      refine lv_iadd hx hb d_M_takesSeveral_278 ?_
      refine lv_aload_n hx hb d_M_takesSeveral_279 rfl (lv_at hl 0 rfl) ?_
      refine va_get (D := D) (v := .int (gI q4.2 6)) hx hb htg in_M hown hK hP 0 mo_0 rfl 22 (by decide) (htg _ k_f_M_167) (fun _ h9 => h9) rfl d_M_takesSeveral_280 ?_
      refine lv_icmp_ge (tgt := 308) hx hb d_M_takesSeveral_283 (by decide) (fun c => ?_) (fun c => ?_)
      · have hf := if_t hf c
        refine lv_aload_n hx hb d_M_takesSeveral_308 rfl (lv_at hl 0 rfl) ?_
        refine lv_iload hx hb d_M_takesSeveral_309 (lv_at hl 4 rfl) ?_
        refine lv_iconst (v := 1) hx hb d_M_takesSeveral_311 (by decide) ?_
        refine lv_iadd hx hb d_M_takesSeveral_312 ?_
        obtain ⟨q5, he, hf⟩ := ob_some hf
        refine cl_Vi (As := [.int (x4 + (1 : Int32))]) (rest := []) X (c_m_M_lacksOne he) ok_m_M_lacksOne k_m_M_250 (va_recv hK hP rfl mo_0) rfl rfl hl.1 (Nat.le_of_ble_eq_true rfl) d_M_takesSeveral_313 ⟨by decide, by decide⟩ hP hS (fun H locs hP hS => ?_)
        exact w_m_M_takesSeveral_b316 X hk259 _ _ _ _ _ hf H locs ls hP hS (lv_sub hl [0, 1, 2, 3] rfl)
      · have hf := if_f hf c
        refine lv_aload_n hx hb d_M_takesSeveral_286 rfl (lv_at hl 0 rfl) ?_
        refine lv_iload_n hx hb d_M_takesSeveral_287 rfl (lv_at hl 1 rfl) ?_
        refine lv_bipush (v := 6) hx hb d_M_takesSeveral_288 (by decide) ?_
        refine lv_icmp_ne (tgt := 297) hx hb d_M_takesSeveral_290 (by decide) (fun c => ?_) (fun c => ?_)
        · have hf := if_f hf c
          refine lv_iconst (v := 3) hx hb d_M_takesSeveral_297 (by decide) ?_
          exact w_m_M_takesSeveral_b298 X hk259 _ _ _ _ _ _ hf H locs ls hP hS (lv_sub hl [0, 1, 2, 3, 4] rfl)
        · have hf := if_t hf c
          refine lv_iconst (v := 2) hx hb d_M_takesSeveral_293 (by decide) ?_
          refine lv_goto (tgt := 298) hx hb d_M_takesSeveral_294 (by decide) ?_
          exact w_m_M_takesSeveral_b298 X hk259 _ _ _ _ _ _ hf H locs ls hP hS (lv_sub hl [0, 1, 2, 3, 4] rfl)
theorem w_m_M_takesSeveral_b259 {z : Int32 × St} (X : Cx b_M_takesSeveral 7 (some .int) R_M D [(cI, .int), (cZ, .boolean), (cJ, .long)] (mA ao aa) (mW cI cZ cJ ao aa) p s m args meth c) : ∀ (n : Nat) (S : St) (x1 : Int32) (x2 : Int32) (x3 : Int32) (x4 : Int32), m_M_takesSeveral_b259 n S x1 x2 x3 x4 = some z → WX rm_m_M_takesSeveral D (mA ao aa) (mW cI cZ cJ ao aa) p l e s m args below meth c (some (.int z.1)) z.2 259 [] 7 [(0, .ref (ao 0)), (1, .int x1), (2, .int x2), (3, .int x3), (4, .int x4)] S
  | 0, _, _, _, _, _, hf => ns hf
  | n + 1, _, _, _, _, _, hf => w_m_M_takesSeveral_b259_f X (w_m_M_takesSeveral_b259 X n) _ _ _ _ _ hf
set_option maxHeartbeats 4000000 in
set_option maxRecDepth 100000 in
theorem w_m_M_takesSeveral_b252 {z : Int32 × St} (X : Cx b_M_takesSeveral 7 (some .int) R_M D [(cI, .int), (cZ, .boolean), (cJ, .long)] (mA ao aa) (mW cI cZ cJ ao aa) p s m args meth c) (S : St) (x1 : Int32) (x2 : Int32) (x3 : Int32) (x4 : Int32) (s0 : Int32) (hf : m_M_takesSeveral_b252 S x1 x2 x3 x4 s0 = some z) : WX rm_m_M_takesSeveral D (mA ao aa) (mW cI cZ cJ ao aa) p l e s m args below meth c (some (.int z.1)) z.2 252 [.int s0, .ref (ao 0)] 7 [(0, .ref (ao 0)), (1, .int x1), (2, .int x2), (3, .int x3), (4, .int x4)] S := by
  intro H locs ls hP hS hl
  obtain ⟨hx, hb, hr0, hml, hown, htg, hlk, hK, hN, hI⟩ := id X
  unfold m_M_takesSeveral_b252 at hf
  refine lv_iload hx hb d_M_takesSeveral_252 (lv_at hl 4 rfl) ?_
  obtain ⟨q2, he, hf⟩ := ob_some hf
  refine cl_Vi (As := [.int s0, .int x4]) (rest := []) X (c_m_M_takesOne he) ok_m_M_takesOne k_m_M_217 (va_recv hK hP rfl mo_0) rfl rfl hl.1 (Nat.le_of_ble_eq_true rfl) d_M_takesSeveral_254 ⟨by decide, by decide⟩ hP hS (fun H locs hP hS => ?_)
  refine lv_istore (lv' := [(4, .int q2.1), (0, .ref (ao 0)), (1, .int x1), (2, .int x2), (3, .int x3)]) hx hb d_M_takesSeveral_257 hl (by decide) rfl (fun ls hl => ?_)
  exact w_m_M_takesSeveral_b259 X _ _ _ _ _ _ hf H locs ls hP hS (lv_sub hl [1, 2, 3, 4, 0] rfl)
set_option maxHeartbeats 4000000 in
set_option maxRecDepth 100000 in
theorem w_m_M_takesSeveral_b237 {z : Int32 × St} (X : Cx b_M_takesSeveral 7 (some .int) R_M D [(cI, .int), (cZ, .boolean), (cJ, .long)] (mA ao aa) (mW cI cZ cJ ao aa) p s m args meth c) (S : St) (x2 : Int32) (x3 : Int32) (x4 : Int32) (hf : m_M_takesSeveral_b237 S x2 x3 x4 = some z) : WX rm_m_M_takesSeveral D (mA ao aa) (mW cI cZ cJ ao aa) p l e s m args below meth c (some (.int z.1)) z.2 237 [] 7 [(0, .ref (ao 0)), (2, .int x2), (3, .int x3), (4, .int x4)] S := by
  intro H locs ls hP hS hl
  obtain ⟨hx, hb, hr0, hml, hown, htg, hlk, hK, hN, hI⟩ := id X
  unfold m_M_takesSeveral_b237 at hf
  refine lv_goto (tgt := 321) hx hb d_M_takesSeveral_237 (by decide) ?_
  exact w_m_M_takesSeveral_b321 X _ _ _ _ hf H locs ls hP hS (lv_sub hl [0, 1, 2, 3] rfl)
set_option maxHeartbeats 4000000 in
set_option maxRecDepth 100000 in
theorem w_m_M_takesSeveral_b217 {z : Int32 × St} (X : Cx b_M_takesSeveral 7 (some .int) R_M D [(cI, .int), (cZ, .boolean), (cJ, .long)] (mA ao aa) (mW cI cZ cJ ao aa) p s m args meth c) {k142 : St → Int32 → Int32 → Int32 → Int32 → Option (Int32 × St)} (hk142 : ∀ (S : St) (x2 : Int32) (x3 : Int32) (x4 : Int32) (x5 : Int32), k142 S x2 x3 x4 x5 = some z → WX rm_m_M_takesSeveral D (mA ao aa) (mW cI cZ cJ ao aa) p l e s m args below meth c (some (.int z.1)) z.2 142 [] 7 [(0, .ref (ao 0)), (2, .int x2), (3, .int x3), (4, .int x4), (5, .int x5)] S) (S : St) (x2 : Int32) (x3 : Int32) (x4 : Int32) (x6 : Int32) (s0 : Int64) (s1 : Int64) (s2 : Int32) (hf : m_M_takesSeveral_b217 k142 S x2 x3 x4 x6 s0 s1 s2 = some z) : WX rm_m_M_takesSeveral D (mA ao aa) (mW cI cZ cJ ao aa) p l e s m args below meth c (some (.int z.1)) z.2 217 [.long s0, .long s1, .int s2, .ref (aa 20)] 7 [(0, .ref (ao 0)), (2, .int x2), (3, .int x3), (4, .int x4), (6, .int x6)] S := by
  intro H locs ls hP hS hl
  obtain ⟨hx, hb, hr0, hml, hown, htg, hlk, hK, hN, hI⟩ := id X
  unfold m_M_takesSeveral_b217 at hf
  refine lv_land hx hb d_M_takesSeveral_217 ?_
  obtain ⟨hg, hf⟩ := gd_some hf
  refine va_last hx hb hK hP (hI _) hS 21 2 ma_20 rfl (vin_in hg) d_M_takesSeveral_218 (fun H locs hP _ hS => ?_)
  replace hP : va_P D classes (mW cI cZ cJ ao aa (sB S 20 s2.toNatClampNeg (s1 &&& s0))) H := pw mt_20 hP
  refine lv_iload hx hb d_M_takesSeveral_219 (lv_at hl 3 rfl) ?_
  refine lv_iload hx hb d_M_takesSeveral_221 (lv_at hl 4 rfl) ?_
  refine lv_iadd hx hb d_M_takesSeveral_223 ?_
  refine lv_istore (lv' := [(4, .int (x4 + x6)), (0, .ref (ao 0)), (2, .int x2), (3, .int x3), (6, .int x6)]) hx hb d_M_takesSeveral_224 hl (by decide) rfl (fun ls hl => ?_)
  refine lv_aload_n hx hb d_M_takesSeveral_226 rfl (lv_at hl 1 rfl) ?_
  refine lv_iload hx hb d_M_takesSeveral_227 (lv_at hl 0 rfl) ?_
  obtain ⟨q8, he, hf⟩ := ob_some hf
  refine cl_Vi (As := [.int (x4 + x6)]) (rest := []) X (c_m_M_joins he) ok_m_M_joins k_m_M_220 (va_recv hK hP rfl mo_0) rfl rfl hl.1 (Nat.le_of_ble_eq_true rfl) d_M_takesSeveral_229 ⟨by decide, by decide⟩ hP hS (fun H locs hP hS => ?_)
  refine lv_istore (lv' := [(5, .int q8.1), (4, .int (x4 + x6)), (0, .ref (ao 0)), (2, .int x2), (3, .int x3), (6, .int x6)]) hx hb d_M_takesSeveral_232 hl (by decide) rfl (fun ls hl => ?_)
  refine lv_goto (tgt := 142) hx hb d_M_takesSeveral_234 (by decide) ?_
  exact hk142 _ _ _ _ _ hf H locs ls hP hS (lv_sub hl [2, 3, 4, 1, 0] rfl)
set_option maxHeartbeats 4000000 in
set_option maxRecDepth 100000 in
theorem w_m_M_takesSeveral_b191 {z : Int32 × St} (X : Cx b_M_takesSeveral 7 (some .int) R_M D [(cI, .int), (cZ, .boolean), (cJ, .long)] (mA ao aa) (mW cI cZ cJ ao aa) p s m args meth c) {k142 : St → Int32 → Int32 → Int32 → Int32 → Option (Int32 × St)} (hk142 : ∀ (S : St) (x2 : Int32) (x3 : Int32) (x4 : Int32) (x5 : Int32), k142 S x2 x3 x4 x5 = some z → WX rm_m_M_takesSeveral D (mA ao aa) (mW cI cZ cJ ao aa) p l e s m args below meth c (some (.int z.1)) z.2 142 [] 7 [(0, .ref (ao 0)), (2, .int x2), (3, .int x3), (4, .int x4), (5, .int x5)] S) (S : St) (x2 : Int32) (x3 : Int32) (x4 : Int32) (x6 : Int32) (hf : m_M_takesSeveral_b191 k142 S x2 x3 x4 x6 = some z) : WX rm_m_M_takesSeveral D (mA ao aa) (mW cI cZ cJ ao aa) p l e s m args below meth c (some (.int z.1)) z.2 191 [] 7 [(0, .ref (ao 0)), (2, .int x2), (3, .int x3), (4, .int x4), (6, .int x6)] S := by
  intro H locs ls hP hS hl
  obtain ⟨hx, hb, hr0, hml, hown, htg, hlk, hK, hN, hI⟩ := id X
  unfold m_M_takesSeveral_b191 at hf
  refine lv_aload_n hx hb d_M_takesSeveral_191 rfl (lv_at hl 0 rfl) ?_
  refine va_get (D := D) (v := .ref (aa 20)) hx hb htg in_M hown hK hP 0 mo_0 rfl 36 (by decide) (htg _ k_f_M_71) (fun _ h9 => h9) rfl d_M_takesSeveral_192 ?_
  refine lv_iload_n hx hb d_M_takesSeveral_195 rfl (lv_at hl 2 rfl) ?_
  refine lv_dup2_11 hx hb d_M_takesSeveral_196 rfl rfl ?_
  obtain ⟨hg, hf⟩ := gd_some hf
  refine va_lald hx hb hK hP 21 2 ma_20 rfl (vin_in hg) d_M_takesSeveral_197 ?_
  refine lv_iload hx hb d_M_takesSeveral_198 (lv_at hl 4 rfl) ?_
  refine lv_if_ne (tgt := 209) hx hb d_M_takesSeveral_200 (by decide) (fun c => ?_) (fun c => ?_)
  · have hf := if_f hf c
    refine lv_aload_n hx hb d_M_takesSeveral_209 rfl (lv_at hl 0 rfl) ?_
    refine va_get (D := D) (v := .long (gL S 0)) hx hb htg in_M hown hK hP 0 mo_0 rfl 23 (by decide) (htg _ k_f_M_170) (fun _ h9 => h9) rfl d_M_takesSeveral_210 ?_
    refine lv_ldc2 (v := (-1)) hx hb hown (htg _ k_cl_M_248) d_M_takesSeveral_213 ?_
    refine lv_lxor hx hb d_M_takesSeveral_216 ?_
    exact w_m_M_takesSeveral_b217 X hk142 _ _ _ _ _ _ _ _ hf H locs ls hP hS (lv_sub hl [0, 1, 2, 3, 4] rfl)
  · have hf := if_t hf c
    refine lv_ldc2 (v := (-1)) hx hb hown (htg _ k_cl_M_248) d_M_takesSeveral_203 ?_
    refine lv_goto (tgt := 217) hx hb d_M_takesSeveral_206 (by decide) ?_
    exact w_m_M_takesSeveral_b217 X hk142 _ _ _ _ _ _ _ _ hf H locs ls hP hS (lv_sub hl [0, 1, 2, 3, 4] rfl)
set_option maxHeartbeats 4000000 in
set_option maxRecDepth 100000 in
theorem w_m_M_takesSeveral_b176 {z : Int32 × St} (X : Cx b_M_takesSeveral 7 (some .int) R_M D [(cI, .int), (cZ, .boolean), (cJ, .long)] (mA ao aa) (mW cI cZ cJ ao aa) p s m args meth c) {k142 : St → Int32 → Int32 → Int32 → Int32 → Option (Int32 × St)} (hk142 : ∀ (S : St) (x2 : Int32) (x3 : Int32) (x4 : Int32) (x5 : Int32), k142 S x2 x3 x4 x5 = some z → WX rm_m_M_takesSeveral D (mA ao aa) (mW cI cZ cJ ao aa) p l e s m args below meth c (some (.int z.1)) z.2 142 [] 7 [(0, .ref (ao 0)), (2, .int x2), (3, .int x3), (4, .int x4), (5, .int x5)] S) (S : St) (x2 : Int32) (x3 : Int32) (x4 : Int32) (s0 : Int32) (hf : m_M_takesSeveral_b176 k142 S x2 x3 x4 s0 = some z) : WX rm_m_M_takesSeveral D (mA ao aa) (mW cI cZ cJ ao aa) p l e s m args below meth c (some (.int z.1)) z.2 176 [.int s0] 7 [(0, .ref (ao 0)), (2, .int x2), (3, .int x3), (4, .int x4)] S := by
  intro H locs ls hP hS hl
  obtain ⟨hx, hb, hr0, hml, hown, htg, hlk, hK, hN, hI⟩ := id X
  unfold m_M_takesSeveral_b176 at hf
  refine lv_istore (lv' := [(6, .int s0), (0, .ref (ao 0)), (2, .int x2), (3, .int x3), (4, .int x4)]) hx hb d_M_takesSeveral_176 hl (by decide) rfl (fun ls hl => ?_)
  refine lv_iload hx hb d_M_takesSeveral_178 (lv_at hl 0 rfl) ?_
  refine lv_if_ne (tgt := 191) hx hb d_M_takesSeveral_180 (by decide) (fun c => ?_) (fun c => ?_)
  · have hf := if_f hf c
    exact w_m_M_takesSeveral_b191 X hk142 _ _ _ _ _ hf H locs ls hP hS (lv_sub hl [1, 2, 3, 4, 0] rfl)
  · have hf := if_t hf c
    refine lv_aload_n hx hb d_M_takesSeveral_183 rfl (lv_at hl 1 rfl) ?_
    refine lv_bipush (v := 7) hx hb d_M_takesSeveral_184 (by decide) ?_
    refine lv_iload hx hb d_M_takesSeveral_186 (lv_at hl 4 rfl) ?_
    obtain ⟨q9, he, hf⟩ := ob_some hf
    refine cl_Vv (As := [.int (7 : Int32), .int x4]) (rest := []) X (c_m_M_fails he) ok_m_M_fails k_m_M_205 (va_recv hK hP rfl mo_0) rfl rfl hl.1 (Nat.le_of_ble_eq_true rfl) d_M_takesSeveral_188 ⟨by decide, by decide⟩ hP hS (fun H locs hP hS => ?_)
    exact w_m_M_takesSeveral_b191 X hk142 _ _ _ _ _ hf H locs ls hP hS (lv_sub hl [1, 2, 3, 4, 0] rfl)
set_option maxHeartbeats 4000000 in
set_option maxRecDepth 100000 in
theorem w_m_M_takesSeveral_b142_f {z : Int32 × St} (X : Cx b_M_takesSeveral 7 (some .int) R_M D [(cI, .int), (cZ, .boolean), (cJ, .long)] (mA ao aa) (mW cI cZ cJ ao aa) p s m args meth c) {k142 : St → Int32 → Int32 → Int32 → Int32 → Option (Int32 × St)} (hk142 : ∀ (S : St) (x2 : Int32) (x3 : Int32) (x4 : Int32) (x5 : Int32), k142 S x2 x3 x4 x5 = some z → WX rm_m_M_takesSeveral D (mA ao aa) (mW cI cZ cJ ao aa) p l e s m args below meth c (some (.int z.1)) z.2 142 [] 7 [(0, .ref (ao 0)), (2, .int x2), (3, .int x3), (4, .int x4), (5, .int x5)] S) (S : St) (x2 : Int32) (x3 : Int32) (x4 : Int32) (x5 : Int32) (hf : m_M_takesSeveral_b142_f k142 S x2 x3 x4 x5 = some z) : WX rm_m_M_takesSeveral D (mA ao aa) (mW cI cZ cJ ao aa) p l e s m args below meth c (some (.int z.1)) z.2 142 [] 7 [(0, .ref (ao 0)), (2, .int x2), (3, .int x3), (4, .int x4), (5, .int x5)] S := by
  intro H locs ls hP hS hl
  obtain ⟨hx, hb, hr0, hml, hown, htg, hlk, hK, hN, hI⟩ := id X
  unfold m_M_takesSeveral_b142_f at hf
  refine lv_iload hx hb d_M_takesSeveral_142 (lv_at hl 4 rfl) ?_
  refine lv_if_eq (tgt := 237) hx hb d_M_takesSeveral_144 (by decide) (fun c => ?_) (fun c => ?_)
  · have hf := if_t hf c
    exact w_m_M_takesSeveral_b237 X _ _ _ _ hf H locs ls hP hS (lv_sub hl [0, 1, 2, 3] rfl)
  · have hf := if_f hf c
    refine lv_aload_n hx hb d_M_takesSeveral_147 rfl (lv_at hl 0 rfl) ?_
    refine va_get (D := D) (v := .int (gI S 7)) hx hb htg in_M hown hK hP 0 mo_0 rfl 24 (by decide) (htg _ k_f_M_180) (fun _ h9 => h9) rfl d_M_takesSeveral_148 ?_
    refine lv_if_ne (tgt := 237) hx hb d_M_takesSeveral_151 (by decide) (fun c => ?_) (fun c => ?_)
    · have hf := if_f hf c
      exact w_m_M_takesSeveral_b237 X _ _ _ _ hf H locs ls hP hS (lv_sub hl [0, 1, 2, 3] rfl)
    · have hf := if_t hf c
      refine lv_iinc (v := (x4 + 1)) (lv' := [(4, .int (x4 + 1)), (0, .ref (ao 0)), (2, .int x2), (3, .int x3), (5, .int x5)]) hx hb d_M_takesSeveral_154 hl (k := 3) rfl rfl (by decide) rfl (fun ls hl => ?_)
      refine lv_iload hx hb d_M_takesSeveral_157 (lv_at hl 0 rfl) ?_
      refine lv_aload_n hx hb d_M_takesSeveral_159 rfl (lv_at hl 1 rfl) ?_
      refine va_get (D := D) (v := .int (gI S 6)) hx hb htg in_M hown hK hP 0 mo_0 rfl 22 (by decide) (htg _ k_f_M_167) (fun _ h9 => h9) rfl d_M_takesSeveral_160 ?_
      refine lv_icmp_ge (tgt := 175) hx hb d_M_takesSeveral_163 (by decide) (fun c => ?_) (fun c => ?_)
      · have hf := if_t hf c
        refine lv_iconst (v := 0) hx hb d_M_takesSeveral_175 (by decide) ?_
        exact w_m_M_takesSeveral_b176 X hk142 _ _ _ _ _ hf H locs ls hP hS (lv_sub hl [1, 2, 3, 0] rfl)
      · have hf := if_f hf c
        refine lv_aload_n hx hb d_M_takesSeveral_166 rfl (lv_at hl 1 rfl) ?_
        refine lv_iload hx hb d_M_takesSeveral_167 (lv_at hl 0 rfl) ?_
        obtain ⟨q10, he, hf⟩ := ob_some hf
        refine cl_Vi (As := [.int (x4 + 1)]) (rest := []) X (c_m_M_phrase he) ok_m_M_phrase k_m_M_229 (va_recv hK hP rfl mo_0) rfl rfl hl.1 (Nat.le_of_ble_eq_true rfl) d_M_takesSeveral_169 ⟨by decide, by decide⟩ hP hS (fun H locs hP hS => ?_)
        refine lv_goto (tgt := 176) hx hb d_M_takesSeveral_172 (by decide) ?_
        exact w_m_M_takesSeveral_b176 X hk142 _ _ _ _ _ hf H locs ls hP hS (lv_sub hl [1, 2, 3, 0] rfl)
theorem w_m_M_takesSeveral_b142 {z : Int32 × St} (X : Cx b_M_takesSeveral 7 (some .int) R_M D [(cI, .int), (cZ, .boolean), (cJ, .long)] (mA ao aa) (mW cI cZ cJ ao aa) p s m args meth c) : ∀ (n : Nat) (S : St) (x2 : Int32) (x3 : Int32) (x4 : Int32) (x5 : Int32), m_M_takesSeveral_b142 n S x2 x3 x4 x5 = some z → WX rm_m_M_takesSeveral D (mA ao aa) (mW cI cZ cJ ao aa) p l e s m args below meth c (some (.int z.1)) z.2 142 [] 7 [(0, .ref (ao 0)), (2, .int x2), (3, .int x3), (4, .int x4), (5, .int x5)] S
  | 0, _, _, _, _, _, hf => ns hf
  | n + 1, _, _, _, _, _, hf => w_m_M_takesSeveral_b142_f X (w_m_M_takesSeveral_b142 X n) _ _ _ _ _ hf
set_option maxHeartbeats 4000000 in
set_option maxRecDepth 100000 in
theorem w_m_M_takesSeveral_b123 {z : Int32 × St} (X : Cx b_M_takesSeveral 7 (some .int) R_M D [(cI, .int), (cZ, .boolean), (cJ, .long)] (mA ao aa) (mW cI cZ cJ ao aa) p s m args meth c) {k23 : St → Int32 → Int32 → Int32 → Int32 → Int32 → Option (Int32 × St)} (hk23 : ∀ (S : St) (x1 : Int32) (x2 : Int32) (x3 : Int32) (x4 : Int32) (x5 : Int32), k23 S x1 x2 x3 x4 x5 = some z → WX rm_m_M_takesSeveral D (mA ao aa) (mW cI cZ cJ ao aa) p l e s m args below meth c (some (.int z.1)) z.2 23 [] 7 [(0, .ref (ao 0)), (1, .int x1), (2, .int x2), (3, .int x3), (4, .int x4), (5, .int x5)] S) (S : St) (x1 : Int32) (x2 : Int32) (x3 : Int32) (x4 : Int32) (x5 : Int32) (s0 : Int64) (s1 : Int32) (hf : m_M_takesSeveral_b123 k23 S x1 x2 x3 x4 x5 s0 s1 = some z) : WX rm_m_M_takesSeveral D (mA ao aa) (mW cI cZ cJ ao aa) p l e s m args below meth c (some (.int z.1)) z.2 123 [.long s0, .int s1, .ref (aa 20)] 7 [(0, .ref (ao 0)), (1, .int x1), (2, .int x2), (3, .int x3), (4, .int x4), (5, .int x5)] S := by
  intro H locs ls hP hS hl
  obtain ⟨hx, hb, hr0, hml, hown, htg, hlk, hK, hN, hI⟩ := id X
  unfold m_M_takesSeveral_b123 at hf
  obtain ⟨hg, hf⟩ := gd_some hf
  refine va_last hx hb hK hP (hI _) hS 21 2 ma_20 rfl (vin_in hg) d_M_takesSeveral_123 (fun H locs hP _ hS => ?_)
  replace hP : va_P D classes (mW cI cZ cJ ao aa (sB S 20 s1.toNatClampNeg s0)) H := pw mt_20 hP
  refine lv_iinc (v := (x5 + 1)) (lv' := [(5, .int (x5 + 1)), (0, .ref (ao 0)), (1, .int x1), (2, .int x2), (3, .int x3), (4, .int x4)]) hx hb d_M_takesSeveral_124 hl (k := 5) rfl rfl (by decide) rfl (fun ls hl => ?_)
  refine lv_goto (tgt := 23) hx hb d_M_takesSeveral_127 (by decide) ?_
  exact hk23 _ _ _ _ _ _ hf H locs ls hP hS (lv_sub hl [1, 2, 3, 4, 5, 0] rfl)
set_option maxHeartbeats 4000000 in
set_option maxRecDepth 100000 in
theorem w_m_M_takesSeveral_b91 {z : Int32 × St} (X : Cx b_M_takesSeveral 7 (some .int) R_M D [(cI, .int), (cZ, .boolean), (cJ, .long)] (mA ao aa) (mW cI cZ cJ ao aa) p s m args meth c) {k23 : St → Int32 → Int32 → Int32 → Int32 → Int32 → Option (Int32 × St)} (hk23 : ∀ (S : St) (x1 : Int32) (x2 : Int32) (x3 : Int32) (x4 : Int32) (x5 : Int32), k23 S x1 x2 x3 x4 x5 = some z → WX rm_m_M_takesSeveral D (mA ao aa) (mW cI cZ cJ ao aa) p l e s m args below meth c (some (.int z.1)) z.2 23 [] 7 [(0, .ref (ao 0)), (1, .int x1), (2, .int x2), (3, .int x3), (4, .int x4), (5, .int x5)] S) (S : St) (x1 : Int32) (x2 : Int32) (x3 : Int32) (x4 : Int32) (x5 : Int32) (s0 : Int32) (hf : m_M_takesSeveral_b91 k23 S x1 x2 x3 x4 x5 s0 = some z) : WX rm_m_M_takesSeveral D (mA ao aa) (mW cI cZ cJ ao aa) p l e s m args below meth c (some (.int z.1)) z.2 91 [.int s0] 7 [(0, .ref (ao 0)), (1, .int x1), (2, .int x2), (3, .int x3), (4, .int x4), (5, .int x5)] S := by
  intro H locs ls hP hS hl
  obtain ⟨hx, hb, hr0, hml, hown, htg, hlk, hK, hN, hI⟩ := id X
  unfold m_M_takesSeveral_b91 at hf
  refine lv_istore (lv' := [(6, .int s0), (0, .ref (ao 0)), (1, .int x1), (2, .int x2), (3, .int x3), (4, .int x4), (5, .int x5)]) hx hb d_M_takesSeveral_91 hl (by decide) rfl (fun ls hl => ?_)
  refine lv_aload_n hx hb d_M_takesSeveral_93 rfl (lv_at hl 1 rfl) ?_
  refine va_get (D := D) (v := .ref (aa 20)) hx hb htg in_M hown hK hP 0 mo_0 rfl 36 (by decide) (htg _ k_f_M_71) (fun _ h9 => h9) rfl d_M_takesSeveral_94 ?_
  refine lv_iload_n hx hb d_M_takesSeveral_97 rfl (lv_at hl 4 rfl) ?_
  refine lv_iload hx hb d_M_takesSeveral_98 (lv_at hl 0 rfl) ?_
  refine lv_if_eq (tgt := 117) hx hb d_M_takesSeveral_100 (by decide) (fun c => ?_) (fun c => ?_)
  · have hf := if_t hf c
    refine lv_aload_n hx hb d_M_takesSeveral_117 rfl (lv_at hl 1 rfl) ?_
    refine va_get (D := D) (v := .ref (aa 20)) hx hb htg in_M hown hK hP 0 mo_0 rfl 36 (by decide) (htg _ k_f_M_71) (fun _ h9 => h9) rfl d_M_takesSeveral_118 ?_
    refine lv_iload_n hx hb d_M_takesSeveral_121 rfl (lv_at hl 4 rfl) ?_
    obtain ⟨hg, hf⟩ := gd_some hf
    refine va_lald hx hb hK hP 21 2 ma_20 rfl (vin_in hg) d_M_takesSeveral_122 ?_
    exact w_m_M_takesSeveral_b123 X hk23 _ _ _ _ _ _ _ _ hf H locs ls hP hS (lv_sub hl [1, 2, 3, 4, 5, 6] rfl)
  · have hf := if_f hf c
    refine lv_aload_n hx hb d_M_takesSeveral_103 rfl (lv_at hl 1 rfl) ?_
    refine va_get (D := D) (v := .ref (aa 20)) hx hb htg in_M hown hK hP 0 mo_0 rfl 36 (by decide) (htg _ k_f_M_71) (fun _ h9 => h9) rfl d_M_takesSeveral_104 ?_
    refine lv_iload_n hx hb d_M_takesSeveral_107 rfl (lv_at hl 4 rfl) ?_
    obtain ⟨hg, hf⟩ := gd_some hf
    refine va_lald hx hb hK hP 21 2 ma_20 rfl (vin_in hg) d_M_takesSeveral_108 ?_
    refine lv_lconst (v := 1) hx hb d_M_takesSeveral_109 (by decide) ?_
    refine lv_iload hx hb d_M_takesSeveral_110 (lv_at hl 6 rfl) ?_
    refine lv_lshl hx hb d_M_takesSeveral_112 rfl ?_
    refine lv_lor hx hb d_M_takesSeveral_113 ?_
    refine lv_goto (tgt := 123) hx hb d_M_takesSeveral_114 (by decide) ?_
    exact w_m_M_takesSeveral_b123 X hk23 _ _ _ _ _ _ _ _ hf H locs ls hP hS (lv_sub hl [1, 2, 3, 4, 5, 6] rfl)
set_option maxHeartbeats 4000000 in
set_option maxRecDepth 100000 in
theorem w_m_M_takesSeveral_b90 {z : Int32 × St} (X : Cx b_M_takesSeveral 7 (some .int) R_M D [(cI, .int), (cZ, .boolean), (cJ, .long)] (mA ao aa) (mW cI cZ cJ ao aa) p s m args meth c) {k23 : St → Int32 → Int32 → Int32 → Int32 → Int32 → Option (Int32 × St)} (hk23 : ∀ (S : St) (x1 : Int32) (x2 : Int32) (x3 : Int32) (x4 : Int32) (x5 : Int32), k23 S x1 x2 x3 x4 x5 = some z → WX rm_m_M_takesSeveral D (mA ao aa) (mW cI cZ cJ ao aa) p l e s m args below meth c (some (.int z.1)) z.2 23 [] 7 [(0, .ref (ao 0)), (1, .int x1), (2, .int x2), (3, .int x3), (4, .int x4), (5, .int x5)] S) (S : St) (x1 : Int32) (x2 : Int32) (x3 : Int32) (x4 : Int32) (x5 : Int32) (hf : m_M_takesSeveral_b90 k23 S x1 x2 x3 x4 x5 = some z) : WX rm_m_M_takesSeveral D (mA ao aa) (mW cI cZ cJ ao aa) p l e s m args below meth c (some (.int z.1)) z.2 90 [] 7 [(0, .ref (ao 0)), (1, .int x1), (2, .int x2), (3, .int x3), (4, .int x4), (5, .int x5)] S := by
  intro H locs ls hP hS hl
  obtain ⟨hx, hb, hr0, hml, hown, htg, hlk, hK, hN, hI⟩ := id X
  unfold m_M_takesSeveral_b90 at hf
  refine lv_iconst (v := 0) hx hb d_M_takesSeveral_90 (by decide) ?_
  exact w_m_M_takesSeveral_b91 X hk23 _ _ _ _ _ _ _ hf H locs ls hP hS (lv_sub hl [0, 1, 2, 3, 4, 5] rfl)
set_option maxHeartbeats 4000000 in
set_option maxRecDepth 100000 in
theorem w_m_M_takesSeveral_b86 {z : Int32 × St} (X : Cx b_M_takesSeveral 7 (some .int) R_M D [(cI, .int), (cZ, .boolean), (cJ, .long)] (mA ao aa) (mW cI cZ cJ ao aa) p s m args meth c) {k23 : St → Int32 → Int32 → Int32 → Int32 → Int32 → Option (Int32 × St)} (hk23 : ∀ (S : St) (x1 : Int32) (x2 : Int32) (x3 : Int32) (x4 : Int32) (x5 : Int32), k23 S x1 x2 x3 x4 x5 = some z → WX rm_m_M_takesSeveral D (mA ao aa) (mW cI cZ cJ ao aa) p l e s m args below meth c (some (.int z.1)) z.2 23 [] 7 [(0, .ref (ao 0)), (1, .int x1), (2, .int x2), (3, .int x3), (4, .int x4), (5, .int x5)] S) (S : St) (x1 : Int32) (x2 : Int32) (x3 : Int32) (x4 : Int32) (x5 : Int32) (hf : m_M_takesSeveral_b86 k23 S x1 x2 x3 x4 x5 = some z) : WX rm_m_M_takesSeveral D (mA ao aa) (mW cI cZ cJ ao aa) p l e s m args below meth c (some (.int z.1)) z.2 86 [] 7 [(0, .ref (ao 0)), (1, .int x1), (2, .int x2), (3, .int x3), (4, .int x4), (5, .int x5)] S := by
  intro H locs ls hP hS hl
  obtain ⟨hx, hb, hr0, hml, hown, htg, hlk, hK, hN, hI⟩ := id X
  unfold m_M_takesSeveral_b86 at hf
  refine lv_iconst (v := 1) hx hb d_M_takesSeveral_86 (by decide) ?_
  refine lv_goto (tgt := 91) hx hb d_M_takesSeveral_87 (by decide) ?_
  exact w_m_M_takesSeveral_b91 X hk23 _ _ _ _ _ _ _ hf H locs ls hP hS (lv_sub hl [0, 1, 2, 3, 4, 5] rfl)
set_option maxHeartbeats 4000000 in
set_option maxRecDepth 100000 in
theorem w_m_M_takesSeveral_b23_f {z : Int32 × St} (X : Cx b_M_takesSeveral 7 (some .int) R_M D [(cI, .int), (cZ, .boolean), (cJ, .long)] (mA ao aa) (mW cI cZ cJ ao aa) p s m args meth c) {k23 : St → Int32 → Int32 → Int32 → Int32 → Int32 → Option (Int32 × St)} (hk23 : ∀ (S : St) (x1 : Int32) (x2 : Int32) (x3 : Int32) (x4 : Int32) (x5 : Int32), k23 S x1 x2 x3 x4 x5 = some z → WX rm_m_M_takesSeveral D (mA ao aa) (mW cI cZ cJ ao aa) p l e s m args below meth c (some (.int z.1)) z.2 23 [] 7 [(0, .ref (ao 0)), (1, .int x1), (2, .int x2), (3, .int x3), (4, .int x4), (5, .int x5)] S) (S : St) (x1 : Int32) (x2 : Int32) (x3 : Int32) (x4 : Int32) (x5 : Int32) (hf : m_M_takesSeveral_b23_f k23 S x1 x2 x3 x4 x5 = some z) : WX rm_m_M_takesSeveral D (mA ao aa) (mW cI cZ cJ ao aa) p l e s m args below meth c (some (.int z.1)) z.2 23 [] 7 [(0, .ref (ao 0)), (1, .int x1), (2, .int x2), (3, .int x3), (4, .int x4), (5, .int x5)] S := by
  intro H locs ls hP hS hl
  obtain ⟨hx, hb, hr0, hml, hown, htg, hlk, hK, hN, hI⟩ := id X
  unfold m_M_takesSeveral_b23_f at hf
  refine lv_iload hx hb d_M_takesSeveral_23 (lv_at hl 5 rfl) ?_
  refine lv_aload_n hx hb d_M_takesSeveral_25 rfl (lv_at hl 0 rfl) ?_
  refine va_get (D := D) (v := .int (gI S 3)) hx hb htg in_M hown hK hP 0 mo_0 rfl 11 (by decide) (htg _ k_f_M_140) (fun _ h9 => h9) rfl d_M_takesSeveral_26 ?_
  refine lv_icmp_ge (tgt := 130) hx hb d_M_takesSeveral_29 (by decide) (fun c => ?_) (fun c => ?_)
  · have hf := if_t hf c
    refine lv_iinc (v := (x4 + 1)) (lv' := [(4, .int (x4 + 1)), (0, .ref (ao 0)), (1, .int x1), (2, .int x2), (3, .int x3), (5, .int x5)]) hx hb d_M_takesSeveral_130 hl (k := 4) rfl rfl (by decide) rfl (fun ls hl => ?_)
    refine lv_aload_n hx hb d_M_takesSeveral_133 rfl (lv_at hl 1 rfl) ?_
    refine lv_iload hx hb d_M_takesSeveral_134 (lv_at hl 0 rfl) ?_
    refine lv_iconst (v := 3) hx hb d_M_takesSeveral_136 (by decide) ?_
    obtain ⟨q7, he, hf⟩ := ob_some hf
    refine cl_Vi (As := [.int (x4 + 1), .int (3 : Int32)]) (rest := []) X (c_m_M_stands he) ok_m_M_stands k_m_M_177 (va_recv hK hP rfl mo_0) rfl rfl hl.1 (Nat.le_of_ble_eq_true rfl) d_M_takesSeveral_137 ⟨by decide, by decide⟩ hP hS (fun H locs hP hS => ?_)
    refine lv_istore (lv' := [(5, .int q7.1), (4, .int (x4 + 1)), (0, .ref (ao 0)), (1, .int x1), (2, .int x2), (3, .int x3)]) hx hb d_M_takesSeveral_140 hl (by decide) rfl (fun ls hl => ?_)
    exact w_m_M_takesSeveral_b142 X _ _ _ _ _ _ hf H locs ls hP hS (lv_sub hl [2, 4, 5, 1, 0] rfl)
  · have hf := if_f hf c
    refine lv_aload_n hx hb d_M_takesSeveral_32 rfl (lv_at hl 0 rfl) ?_
    refine lv_iload hx hb d_M_takesSeveral_33 (lv_at hl 5 rfl) ?_
    obtain ⟨q11, he, hf⟩ := ob_some hf
    refine cl_Vi (As := [.int x5]) (rest := []) X (c_m_M_isInScope he) ok_m_M_isInScope k_m_M_174 (va_recv hK hP rfl mo_0) rfl rfl hl.1 (Nat.le_of_ble_eq_true rfl) d_M_takesSeveral_35 ⟨by decide, by decide⟩ hP hS (fun H locs hP hS => ?_)
    refine lv_if_eq (tgt := 90) hx hb d_M_takesSeveral_38 (by decide) (fun c => ?_) (fun c => ?_)
    · have hf := if_t hf c
      exact w_m_M_takesSeveral_b90 X hk23 _ _ _ _ _ _ hf H locs ls hP hS (lv_sub hl [0, 1, 2, 3, 4, 5] rfl)
    · have hf := if_f hf c
      refine lv_aload_n hx hb d_M_takesSeveral_41 rfl (lv_at hl 0 rfl) ?_
      refine lv_iload hx hb d_M_takesSeveral_42 (lv_at hl 5 rfl) ?_
      obtain ⟨q12, he, hf⟩ := ob_some hf
      refine cl_Vi (As := [.int x5]) (rest := []) X (c_m_M_isCreature he) ok_m_M_isCreature k_m_M_235 (va_recv hK hP rfl mo_0) rfl rfl hl.1 (Nat.le_of_ble_eq_true rfl) d_M_takesSeveral_44 ⟨by decide, by decide⟩ hP hS (fun H locs hP hS => ?_)
      refine lv_if_ne (tgt := 90) hx hb d_M_takesSeveral_47 (by decide) (fun c => ?_) (fun c => ?_)
      · have hf := if_f hf c
        exact w_m_M_takesSeveral_b90 X hk23 _ _ _ _ _ _ hf H locs ls hP hS (lv_sub hl [0, 1, 2, 3, 4, 5] rfl)
      · have hf := if_t hf c
        refine lv_iload_n hx hb d_M_takesSeveral_50 rfl (lv_at hl 1 rfl) ?_
        refine lv_bipush (v := 6) hx hb d_M_takesSeveral_51 (by decide) ?_
        refine lv_icmp_ne (tgt := 68) hx hb d_M_takesSeveral_53 (by decide) (fun c => ?_) (fun c => ?_)
        · have hf := if_f hf c
          refine lv_aload_n hx hb d_M_takesSeveral_68 rfl (lv_at hl 0 rfl) ?_
          refine lv_iload hx hb d_M_takesSeveral_69 (lv_at hl 5 rfl) ?_
          obtain ⟨q13, he, hf⟩ := ob_some hf
          refine cl_Vi (As := [.int x5]) (rest := []) X (c_m_M_isHeld he) ok_m_M_isHeld k_m_M_160 (va_recv hK hP rfl mo_0) rfl rfl hl.1 (Nat.le_of_ble_eq_true rfl) d_M_takesSeveral_71 ⟨by decide, by decide⟩ hP hS (fun H locs hP hS => ?_)
          refine lv_if_eq (tgt := 90) hx hb d_M_takesSeveral_74 (by decide) (fun c => ?_) (fun c => ?_)
          · have hf := if_t hf c
            exact w_m_M_takesSeveral_b90 X hk23 _ _ _ _ _ _ hf H locs ls hP hS (lv_sub hl [0, 1, 2, 3, 4, 5] rfl)
          · have hf := if_f hf c
            refine lv_aload_n hx hb d_M_takesSeveral_77 rfl (lv_at hl 0 rfl) ?_
            refine lv_iload hx hb d_M_takesSeveral_78 (lv_at hl 5 rfl) ?_
            obtain ⟨q14, he, hf⟩ := ob_some hf
            refine cl_Vi (As := [.int x5]) (rest := []) X (c_m_M_isWorn he) ok_m_M_isWorn k_m_M_232 (va_recv hK hP rfl mo_0) rfl rfl hl.1 (Nat.le_of_ble_eq_true rfl) d_M_takesSeveral_80 ⟨by decide, by decide⟩ hP hS (fun H locs hP hS => ?_)
            refine lv_if_ne (tgt := 90) hx hb d_M_takesSeveral_83 (by decide) (fun c => ?_) (fun c => ?_)
            · have hf := if_f hf c
              exact w_m_M_takesSeveral_b90 X hk23 _ _ _ _ _ _ hf H locs ls hP hS (lv_sub hl [0, 1, 2, 3, 4, 5] rfl)
            · have hf := if_t hf c
              exact w_m_M_takesSeveral_b86 X hk23 _ _ _ _ _ _ hf H locs ls hP hS (lv_sub hl [0, 1, 2, 3, 4, 5] rfl)
        · have hf := if_t hf c
          refine lv_aload_n hx hb d_M_takesSeveral_56 rfl (lv_at hl 0 rfl) ?_
          refine lv_iload hx hb d_M_takesSeveral_57 (lv_at hl 5 rfl) ?_
          obtain ⟨q15, he, hf⟩ := ob_some hf
          refine cl_Vi (As := [.int x5]) (rest := []) X (c_m_M_isHeld he) ok_m_M_isHeld k_m_M_160 (va_recv hK hP rfl mo_0) rfl rfl hl.1 (Nat.le_of_ble_eq_true rfl) d_M_takesSeveral_59 ⟨by decide, by decide⟩ hP hS (fun H locs hP hS => ?_)
          refine lv_if_ne (tgt := 90) hx hb d_M_takesSeveral_62 (by decide) (fun c => ?_) (fun c => ?_)
          · have hf := if_f hf c
            exact w_m_M_takesSeveral_b90 X hk23 _ _ _ _ _ _ hf H locs ls hP hS (lv_sub hl [0, 1, 2, 3, 4, 5] rfl)
          · have hf := if_t hf c
            refine lv_goto (tgt := 86) hx hb d_M_takesSeveral_65 (by decide) ?_
            exact w_m_M_takesSeveral_b86 X hk23 _ _ _ _ _ _ hf H locs ls hP hS (lv_sub hl [0, 1, 2, 3, 4, 5] rfl)
theorem w_m_M_takesSeveral_b23 {z : Int32 × St} (X : Cx b_M_takesSeveral 7 (some .int) R_M D [(cI, .int), (cZ, .boolean), (cJ, .long)] (mA ao aa) (mW cI cZ cJ ao aa) p s m args meth c) : ∀ (n : Nat) (S : St) (x1 : Int32) (x2 : Int32) (x3 : Int32) (x4 : Int32) (x5 : Int32), m_M_takesSeveral_b23 n S x1 x2 x3 x4 x5 = some z → WX rm_m_M_takesSeveral D (mA ao aa) (mW cI cZ cJ ao aa) p l e s m args below meth c (some (.int z.1)) z.2 23 [] 7 [(0, .ref (ao 0)), (1, .int x1), (2, .int x2), (3, .int x3), (4, .int x4), (5, .int x5)] S
  | 0, _, _, _, _, _, _, hf => ns hf
  | n + 1, _, _, _, _, _, _, hf => w_m_M_takesSeveral_b23_f X (w_m_M_takesSeveral_b23 X n) _ _ _ _ _ _ hf
set_option maxHeartbeats 4000000 in
set_option maxRecDepth 100000 in
theorem w_m_M_takesSeveral {z : Int32 × St} (X : Cx b_M_takesSeveral 7 (some .int) R_M D [(cI, .int), (cZ, .boolean), (cJ, .long)] (mA ao aa) (mW cI cZ cJ ao aa) p s m args meth c) (S : St) (x0 : Int32) (x1 : Int32) (hf : m_M_takesSeveral S x0 x1 = some z) : WX rm_m_M_takesSeveral D (mA ao aa) (mW cI cZ cJ ao aa) p l e s m args below meth c (some (.int z.1)) z.2 0 [] 7 [(0, .ref (ao 0)), (1, .int x0), (2, .int x1)] S := by
  intro H locs ls hP hS hl
  obtain ⟨hx, hb, hr0, hml, hown, htg, hlk, hK, hN, hI⟩ := id X
  unfold m_M_takesSeveral at hf
  refine lv_aload_n hx hb d_M_takesSeveral_0 rfl (lv_at hl 0 rfl) ?_
  refine va_get (D := D) (v := .int (gI S 13)) hx hb htg in_M hown hK hP 0 mo_0 rfl 33 (by decide) (htg _ k_f_M_186) (fun _ h9 => h9) rfl d_M_takesSeveral_1 ?_
  refine lv_iconst (v := 1) hx hb d_M_takesSeveral_4 (by decide) ?_
  refine lv_isub hx hb d_M_takesSeveral_5 ?_
  refine lv_istore_n (lv' := [(3, .int ((gI S 13) - (1 : Int32))), (0, .ref (ao 0)), (1, .int x0), (2, .int x1)]) hx hb d_M_takesSeveral_6 rfl hl (by decide) rfl (fun ls hl => ?_)
  refine lv_iload_n hx hb d_M_takesSeveral_7 rfl (lv_at hl 3 rfl) ?_
  refine lv_istore (lv' := [(4, .int x1), (3, .int ((gI S 13) - (1 : Int32))), (0, .ref (ao 0)), (1, .int x0), (2, .int x1)]) hx hb d_M_takesSeveral_8 hl (by decide) rfl (fun ls hl => ?_)
  refine lv_aload_n hx hb d_M_takesSeveral_10 rfl (lv_at hl 2 rfl) ?_
  refine lv_iload hx hb d_M_takesSeveral_11 (lv_at hl 0 rfl) ?_
  refine lv_iconst (v := 4) hx hb d_M_takesSeveral_13 (by decide) ?_
  obtain ⟨q1, he, hf⟩ := ob_some hf
  refine cl_Vi (As := [.int x1, .int (4 : Int32)]) (rest := []) X (c_m_M_stands he) ok_m_M_stands k_m_M_177 (va_recv hK hP rfl mo_0) rfl rfl hl.1 (Nat.le_of_ble_eq_true rfl) d_M_takesSeveral_14 ⟨by decide, by decide⟩ hP hS (fun H locs hP hS => ?_)
  refine lv_if_eq (tgt := 240) hx hb d_M_takesSeveral_17 (by decide) (fun c => ?_) (fun c => ?_)
  · have hf := if_t hf c
    refine lv_aload_n hx hb d_M_takesSeveral_240 rfl (lv_at hl 2 rfl) ?_
    refine lv_iload_n hx hb d_M_takesSeveral_241 rfl (lv_at hl 3 rfl) ?_
    refine lv_bipush (v := 6) hx hb d_M_takesSeveral_242 (by decide) ?_
    refine lv_icmp_ne (tgt := 251) hx hb d_M_takesSeveral_244 (by decide) (fun c => ?_) (fun c => ?_)
    · have hf := if_f hf c
      refine lv_iconst (v := 3) hx hb d_M_takesSeveral_251 (by decide) ?_
      exact w_m_M_takesSeveral_b252 X _ _ _ _ _ _ hf H locs ls hP hS (lv_sub hl [2, 3, 4, 1, 0] rfl)
    · have hf := if_t hf c
      refine lv_iconst (v := 2) hx hb d_M_takesSeveral_247 (by decide) ?_
      refine lv_goto (tgt := 252) hx hb d_M_takesSeveral_248 (by decide) ?_
      exact w_m_M_takesSeveral_b252 X _ _ _ _ _ _ hf H locs ls hP hS (lv_sub hl [2, 3, 4, 1, 0] rfl)
  · have hf := if_f hf c
    refine lv_iconst (v := 0) hx hb d_M_takesSeveral_20 (by decide) ?_
    refine lv_istore (lv' := [(5, .int (0 : Int32)), (4, .int x1), (3, .int ((gI S 13) - (1 : Int32))), (0, .ref (ao 0)), (1, .int x0), (2, .int x1)]) hx hb d_M_takesSeveral_21 hl (by decide) rfl (fun ls hl => ?_)
    exact w_m_M_takesSeveral_b23 X _ _ _ _ _ _ _ hf H locs ls hP hS (lv_sub hl [3, 4, 5, 2, 1, 0] rfl)
theorem c_m_M_takesSeveral {l : Launch} {D : va_G} {cI cZ cJ : ClassId} {ao aa : Nat → Nat} {S : St} {x0 : Int32} {x1 : Int32} {z : Int32 × St} (hz : m_M_takesSeveral S x0 x1 = some z) : Ct l y_M_takesSeveral (.code y_M_takesSeveral b_M_takesSeveral 7 (some .int) :: gw) rm_m_M_takesSeveral D [(cI, .int), (cZ, .boolean), (cJ, .long)] (mA ao aa) (mW cI cZ cJ ao aa) [.ref (ao 0), .int x0, .int x1] S (some (.int z.1)) z.2 :=
  Ct_of (by decide) (fun p e s m args below meth c X => w_m_M_takesSeveral X _ _ _ hz) (Nat.le_of_ble_eq_true rfl)
end

section
variable {p : Program} {l : Launch} {e : Env} {s : State} {m : MethodId} {args : Array Value} {below : List Frame} {meth : Method} {c : Code} {D : va_G} {cI cZ cJ : ClassId} {ao aa : Nat → Nat}
def m_M_object_b56 (S : St) (x2 : Int32) (s0 : Int32) : Option (Int32 × St) :=
  gd (vin s0 2) <|
  if x2 = (-2 : Int32) then
    some ((gA S 18 s0.toNatClampNeg), S)
  else
    if (8 : Int32) < (gA S 18 s0.toNatClampNeg) then
      if (gA S 18 s0.toNatClampNeg) = (9 : Int32) then
        gd (vin s0 2) <|
        gd (vin s0 2) <|
        if x2 = (-1 : Int32) then
          some (((gA S 22 s0.toNatClampNeg) - (gA S 21 s0.toNatClampNeg)), S)
        else
          if ((gA S 22 s0.toNatClampNeg) - (gA S 21 s0.toNatClampNeg)) ≤ x2 then
            some ((-1 : Int32), S)
          else
            gd (vin s0 2) <|
            gd (vin ((gA S 21 s0.toNatClampNeg) + x2) 60) <|
            some ((gA S 15 ((gA S 21 s0.toNatClampNeg) + x2).toNatClampNeg), S)
      else
        if x2 = (-1 : Int32) then
          some ((1 : Int32), S)
        else
          if x2 = 0 then
            gd (vin s0 2) <|
            some ((gA S 23 s0.toNatClampNeg), S)
          else
            some ((-1 : Int32), S)
    else
      if x2 = (-1 : Int32) then
        gd (vin s0 2) <|
        (m_M_manyOf S (gB S 20 s0.toNatClampNeg)).bind fun q3 =>
        some (q3.1, q3.2)
      else
        gd (vin s0 2) <|
        (m_M_thingOf S (gB S 20 s0.toNatClampNeg) x2).bind fun q2 =>
        some (q2.1, q2.2)
def m_M_object_b55 (S : St) (x1 : Int32) (x2 : Int32) : Option (Int32 × St) :=
  m_M_object_b56 S x2 x1
def m_M_object (S : St) (x0 : Int32) (x1 : Int32) : Option (Int32 × St) :=
  if (gI S 22) = 0 then
    some ((-1 : Int32), S)
  else
    (m_M_within S x0 (0 : Int32) ((gI S 13) - (1 : Int32))).bind fun q1 =>
    if q1.1 = 0 then
      some ((-1 : Int32), q1.2)
    else
      if (-2 : Int32) ≤ x1 then
        gd (vin (gI q1.2 20) 60) <|
        if (gA q1.2 4 (gI q1.2 20).toNatClampNeg) = 0 then
          m_M_object_b55 q1.2 x0 x1
        else
          if (gI q1.2 13) = (2 : Int32) then
            m_M_object_b56 q1.2 x1 ((1 : Int32) - x0)
          else
            m_M_object_b55 q1.2 x0 x1
      else
        some ((-1 : Int32), q1.2)
def rm_m_M_object : Room := { frames := 2, cells := 0, slots := 0, locals := 47 }
theorem ok_m_M_object : CalV y_M_object b_M_object 6 (some .int) 2 rm_m_M_object := ⟨kc_M_object, ki_M_object, kl_M_object, ji_M, ⟨by decide, by decide, by decide +kernel⟩, rfl, rfl⟩
set_option maxHeartbeats 4000000 in
set_option maxRecDepth 100000 in
theorem w_m_M_object_b56 {z : Int32 × St} (X : Cx b_M_object 6 (some .int) R_M D [(cI, .int), (cZ, .boolean), (cJ, .long)] (mA ao aa) (mW cI cZ cJ ao aa) p s m args meth c) (S : St) (x2 : Int32) (s0 : Int32) (hf : m_M_object_b56 S x2 s0 = some z) : WX rm_m_M_object D (mA ao aa) (mW cI cZ cJ ao aa) p l e s m args below meth c (some (.int z.1)) z.2 56 [.int s0] 6 [(0, .ref (ao 0)), (2, .int x2)] S := by
  intro H locs ls hP hS hl
  obtain ⟨hx, hb, hr0, hml, hown, htg, hlk, hK, hN, hI⟩ := id X
  unfold m_M_object_b56 at hf
  refine lv_istore_n (lv' := [(3, .int s0), (0, .ref (ao 0)), (2, .int x2)]) hx hb d_M_object_56 rfl hl (by decide) rfl (fun ls hl => ?_)
  refine lv_aload_n hx hb d_M_object_57 rfl (lv_at hl 1 rfl) ?_
  refine va_get (D := D) (v := .ref (aa 18)) hx hb htg in_M hown hK hP 0 mo_0 rfl 34 (by decide) (htg _ k_f_M_65) (fun _ h9 => h9) rfl d_M_object_58 ?_
  refine lv_iload_n hx hb d_M_object_61 rfl (lv_at hl 0 rfl) ?_
  obtain ⟨hg, hf⟩ := gd_some hf
  refine va_iald hx hb hK hP 19 0 ma_18 rfl (vin_in hg) d_M_object_62 ?_
  refine lv_istore (lv' := [(4, .int (gA S 18 s0.toNatClampNeg)), (3, .int s0), (0, .ref (ao 0)), (2, .int x2)]) hx hb d_M_object_63 hl (by decide) rfl (fun ls hl => ?_)
  refine lv_iload_n hx hb d_M_object_65 rfl (lv_at hl 3 rfl) ?_
  refine lv_bipush (v := (-2)) hx hb d_M_object_66 (by decide) ?_
  refine lv_icmp_ne (tgt := 74) hx hb d_M_object_68 (by decide) (fun c => ?_) (fun c => ?_)
  · have hf := if_f hf c
    refine lv_iload hx hb d_M_object_74 (lv_at hl 0 rfl) ?_
    refine lv_bipush (v := 8) hx hb d_M_object_76 (by decide) ?_
    refine lv_icmp_gt (tgt := 111) hx hb d_M_object_78 (by decide) (fun c => ?_) (fun c => ?_)
    · have hf := if_t hf c
      refine lv_iload hx hb d_M_object_111 (lv_at hl 0 rfl) ?_
      refine lv_bipush (v := 9) hx hb d_M_object_113 (by decide) ?_
      refine lv_icmp_ne (tgt := 167) hx hb d_M_object_115 (by decide) (fun c => ?_) (fun c => ?_)
      · have hf := if_f hf c
        refine lv_iload_n hx hb d_M_object_167 rfl (lv_at hl 3 rfl) ?_
        refine lv_iconst (v := (-1)) hx hb d_M_object_168 (by decide) ?_
        refine lv_icmp_ne (tgt := 176) hx hb d_M_object_169 (by decide) (fun c => ?_) (fun c => ?_)
        · have hf := if_f hf c
          refine lv_iload_n hx hb d_M_object_176 rfl (lv_at hl 3 rfl) ?_
          refine lv_if_ne (tgt := 189) hx hb d_M_object_177 (by decide) (fun c => ?_) (fun c => ?_)
          · have hf := if_f hf c
            refine lv_iconst (v := (-1)) hx hb d_M_object_189 (by decide) ?_
            obtain rfl := Option.some.inj hf
            exact W.iret hx hb hr0 (fun t ht _ => ⟨⟨rfl, by rw [ht]; exact hP⟩, hS.F ht⟩) hS.2.2 d_M_object_190 hlk
          · have hf := if_t hf c
            refine lv_aload_n hx hb d_M_object_180 rfl (lv_at hl 2 rfl) ?_
            refine va_get (D := D) (v := .ref (aa 23)) hx hb htg in_M hown hK hP 0 mo_0 rfl 39 (by decide) (htg _ k_f_M_81) (fun _ h9 => h9) rfl d_M_object_181 ?_
            refine lv_iload_n hx hb d_M_object_184 rfl (lv_at hl 1 rfl) ?_
            obtain ⟨hg, hf⟩ := gd_some hf
            refine va_iald hx hb hK hP 24 0 ma_23 rfl (vin_in hg) d_M_object_185 ?_
            refine lv_goto (tgt := 190) hx hb d_M_object_186 (by decide) ?_
            obtain rfl := Option.some.inj hf
            exact W.iret hx hb hr0 (fun t ht _ => ⟨⟨rfl, by rw [ht]; exact hP⟩, hS.F ht⟩) hS.2.2 d_M_object_190 hlk
        · have hf := if_t hf c
          refine lv_iconst (v := 1) hx hb d_M_object_172 (by decide) ?_
          refine lv_goto (tgt := 190) hx hb d_M_object_173 (by decide) ?_
          obtain rfl := Option.some.inj hf
          exact W.iret hx hb hr0 (fun t ht _ => ⟨⟨rfl, by rw [ht]; exact hP⟩, hS.F ht⟩) hS.2.2 d_M_object_190 hlk
      · have hf := if_t hf c
        refine lv_aload_n hx hb d_M_object_118 rfl (lv_at hl 2 rfl) ?_
        refine va_get (D := D) (v := .ref (aa 22)) hx hb htg in_M hown hK hP 0 mo_0 rfl 38 (by decide) (htg _ k_f_M_78) (fun _ h9 => h9) rfl d_M_object_119 ?_
        refine lv_iload_n hx hb d_M_object_122 rfl (lv_at hl 1 rfl) ?_
        obtain ⟨hg, hf⟩ := gd_some hf
        refine va_iald hx hb hK hP 23 0 ma_22 rfl (vin_in hg) d_M_object_123 ?_
        refine lv_aload_n hx hb d_M_object_124 rfl (lv_at hl 2 rfl) ?_
        refine va_get (D := D) (v := .ref (aa 21)) hx hb htg in_M hown hK hP 0 mo_0 rfl 37 (by decide) (htg _ k_f_M_75) (fun _ h9 => h9) rfl d_M_object_125 ?_
        refine lv_iload_n hx hb d_M_object_128 rfl (lv_at hl 1 rfl) ?_
        obtain ⟨hg, hf⟩ := gd_some hf
        refine va_iald hx hb hK hP 22 0 ma_21 rfl (vin_in hg) d_M_object_129 ?_
        refine lv_isub hx hb d_M_object_130 ?_
        refine lv_istore (lv' := [(5, .int ((gA S 22 s0.toNatClampNeg) - (gA S 21 s0.toNatClampNeg))), (4, .int (gA S 18 s0.toNatClampNeg)), (3, .int s0), (0, .ref (ao 0)), (2, .int x2)]) hx hb d_M_object_131 hl (by decide) rfl (fun ls hl => ?_)
        refine lv_iload_n hx hb d_M_object_133 rfl (lv_at hl 4 rfl) ?_
        refine lv_iconst (v := (-1)) hx hb d_M_object_134 (by decide) ?_
        refine lv_icmp_ne (tgt := 143) hx hb d_M_object_135 (by decide) (fun c => ?_) (fun c => ?_)
        · have hf := if_f hf c
          refine lv_iload_n hx hb d_M_object_143 rfl (lv_at hl 4 rfl) ?_
          refine lv_iload hx hb d_M_object_144 (lv_at hl 0 rfl) ?_
          refine lv_icmp_ge (tgt := 165) hx hb d_M_object_146 (by decide) (fun c => ?_) (fun c => ?_)
          · have hf := if_t hf c
            refine lv_iconst (v := (-1)) hx hb d_M_object_165 (by decide) ?_
            obtain rfl := Option.some.inj hf
            exact W.iret hx hb hr0 (fun t ht _ => ⟨⟨rfl, by rw [ht]; exact hP⟩, hS.F ht⟩) hS.2.2 d_M_object_166 hlk
          · have hf := if_f hf c
            refine lv_aload_n hx hb d_M_object_149 rfl (lv_at hl 3 rfl) ?_
            refine va_get (D := D) (v := .ref (aa 15)) hx hb htg in_M hown hK hP 0 mo_0 rfl 21 (by decide) (htg _ k_f_M_56) (fun _ h9 => h9) rfl d_M_object_150 ?_
            refine lv_aload_n hx hb d_M_object_153 rfl (lv_at hl 3 rfl) ?_
            refine va_get (D := D) (v := .ref (aa 21)) hx hb htg in_M hown hK hP 0 mo_0 rfl 37 (by decide) (htg _ k_f_M_75) (fun _ h9 => h9) rfl d_M_object_154 ?_
            refine lv_iload_n hx hb d_M_object_157 rfl (lv_at hl 2 rfl) ?_
            obtain ⟨hg, hf⟩ := gd_some hf
            refine va_iald hx hb hK hP 22 0 ma_21 rfl (vin_in hg) d_M_object_158 ?_
            refine lv_iload_n hx hb d_M_object_159 rfl (lv_at hl 4 rfl) ?_
            refine lv_iadd hx hb d_M_object_160 ?_
            obtain ⟨hg, hf⟩ := gd_some hf
            refine va_iald hx hb hK hP 16 0 ma_15 rfl (vin_in hg) d_M_object_161 ?_
            refine lv_goto (tgt := 166) hx hb d_M_object_162 (by decide) ?_
            obtain rfl := Option.some.inj hf
            exact W.iret hx hb hr0 (fun t ht _ => ⟨⟨rfl, by rw [ht]; exact hP⟩, hS.F ht⟩) hS.2.2 d_M_object_166 hlk
        · have hf := if_t hf c
          refine lv_iload hx hb d_M_object_138 (lv_at hl 0 rfl) ?_
          refine lv_goto (tgt := 166) hx hb d_M_object_140 (by decide) ?_
          obtain rfl := Option.some.inj hf
          exact W.iret hx hb hr0 (fun t ht _ => ⟨⟨rfl, by rw [ht]; exact hP⟩, hS.F ht⟩) hS.2.2 d_M_object_166 hlk
    · have hf := if_f hf c
      refine lv_iload_n hx hb d_M_object_81 rfl (lv_at hl 3 rfl) ?_
      refine lv_iconst (v := (-1)) hx hb d_M_object_82 (by decide) ?_
      refine lv_icmp_ne (tgt := 99) hx hb d_M_object_83 (by decide) (fun c => ?_) (fun c => ?_)
      · have hf := if_f hf c
        refine lv_aload_n hx hb d_M_object_99 rfl (lv_at hl 2 rfl) ?_
        refine lv_aload_n hx hb d_M_object_100 rfl (lv_at hl 2 rfl) ?_
        refine va_get (D := D) (v := .ref (aa 20)) hx hb htg in_M hown hK hP 0 mo_0 rfl 36 (by decide) (htg _ k_f_M_71) (fun _ h9 => h9) rfl d_M_object_101 ?_
        refine lv_iload_n hx hb d_M_object_104 rfl (lv_at hl 1 rfl) ?_
        obtain ⟨hg, hf⟩ := gd_some hf
        refine va_lald hx hb hK hP 21 2 ma_20 rfl (vin_in hg) d_M_object_105 ?_
        refine lv_iload_n hx hb d_M_object_106 rfl (lv_at hl 3 rfl) ?_
        obtain ⟨q2, he, hf⟩ := ob_some hf
        refine cl_Vi (As := [.long (gB S 20 s0.toNatClampNeg), .int x2]) (rest := []) X (c_m_M_thingOf he) ok_m_M_thingOf k_m_M_262 (va_recv hK hP rfl mo_0) rfl rfl hl.1 (Nat.le_of_ble_eq_true rfl) d_M_object_107 ⟨by decide, by decide⟩ hP hS (fun H locs hP hS => ?_)
        obtain rfl := Option.some.inj hf
        exact W.iret hx hb hr0 (fun t ht _ => ⟨⟨rfl, by rw [ht]; exact hP⟩, hS.F ht⟩) hS.2.2 d_M_object_110 hlk
      · have hf := if_t hf c
        refine lv_aload_n hx hb d_M_object_86 rfl (lv_at hl 2 rfl) ?_
        refine lv_aload_n hx hb d_M_object_87 rfl (lv_at hl 2 rfl) ?_
        refine va_get (D := D) (v := .ref (aa 20)) hx hb htg in_M hown hK hP 0 mo_0 rfl 36 (by decide) (htg _ k_f_M_71) (fun _ h9 => h9) rfl d_M_object_88 ?_
        refine lv_iload_n hx hb d_M_object_91 rfl (lv_at hl 1 rfl) ?_
        obtain ⟨hg, hf⟩ := gd_some hf
        refine va_lald hx hb hK hP 21 2 ma_20 rfl (vin_in hg) d_M_object_92 ?_
        obtain ⟨q3, he, hf⟩ := ob_some hf
        refine cl_Vi (As := [.long (gB S 20 s0.toNatClampNeg)]) (rest := []) X (c_m_M_manyOf he) ok_m_M_manyOf k_m_M_238 (va_recv hK hP rfl mo_0) rfl rfl hl.1 (Nat.le_of_ble_eq_true rfl) d_M_object_93 ⟨by decide, by decide⟩ hP hS (fun H locs hP hS => ?_)
        refine lv_goto (tgt := 110) hx hb d_M_object_96 (by decide) ?_
        obtain rfl := Option.some.inj hf
        exact W.iret hx hb hr0 (fun t ht _ => ⟨⟨rfl, by rw [ht]; exact hP⟩, hS.F ht⟩) hS.2.2 d_M_object_110 hlk
  · have hf := if_t hf c
    refine lv_iload hx hb d_M_object_71 (lv_at hl 0 rfl) ?_
    obtain rfl := Option.some.inj hf
    exact W.iret hx hb hr0 (fun t ht _ => ⟨⟨rfl, by rw [ht]; exact hP⟩, hS.F ht⟩) hS.2.2 d_M_object_73 hlk
set_option maxHeartbeats 4000000 in
set_option maxRecDepth 100000 in
theorem w_m_M_object_b55 {z : Int32 × St} (X : Cx b_M_object 6 (some .int) R_M D [(cI, .int), (cZ, .boolean), (cJ, .long)] (mA ao aa) (mW cI cZ cJ ao aa) p s m args meth c) (S : St) (x1 : Int32) (x2 : Int32) (hf : m_M_object_b55 S x1 x2 = some z) : WX rm_m_M_object D (mA ao aa) (mW cI cZ cJ ao aa) p l e s m args below meth c (some (.int z.1)) z.2 55 [] 6 [(0, .ref (ao 0)), (1, .int x1), (2, .int x2)] S := by
  intro H locs ls hP hS hl
  obtain ⟨hx, hb, hr0, hml, hown, htg, hlk, hK, hN, hI⟩ := id X
  unfold m_M_object_b55 at hf
  refine lv_iload_n hx hb d_M_object_55 rfl (lv_at hl 1 rfl) ?_
  exact w_m_M_object_b56 X _ _ _ hf H locs ls hP hS (lv_sub hl [0, 2] rfl)
set_option maxHeartbeats 4000000 in
set_option maxRecDepth 100000 in
theorem w_m_M_object {z : Int32 × St} (X : Cx b_M_object 6 (some .int) R_M D [(cI, .int), (cZ, .boolean), (cJ, .long)] (mA ao aa) (mW cI cZ cJ ao aa) p s m args meth c) (S : St) (x0 : Int32) (x1 : Int32) (hf : m_M_object S x0 x1 = some z) : WX rm_m_M_object D (mA ao aa) (mW cI cZ cJ ao aa) p l e s m args below meth c (some (.int z.1)) z.2 0 [] 6 [(0, .ref (ao 0)), (1, .int x0), (2, .int x1)] S := by
  intro H locs ls hP hS hl
  obtain ⟨hx, hb, hr0, hml, hown, htg, hlk, hK, hN, hI⟩ := id X
  unfold m_M_object at hf
  refine lv_aload_n hx hb d_M_object_0 rfl (lv_at hl 0 rfl) ?_
  refine va_get (D := D) (v := .int (gI S 22)) hx hb htg in_M hown hK hP 0 mo_0 rfl 52 (by decide) (htg _ k_f_M_286) (fun _ h9 => h9) rfl d_M_object_1 ?_
  refine lv_if_eq (tgt := 27) hx hb d_M_object_4 (by decide) (fun c => ?_) (fun c => ?_)
  · have hf := if_t hf c
    refine lv_iconst (v := (-1)) hx hb d_M_object_27 (by decide) ?_
    obtain rfl := Option.some.inj hf
    exact W.iret hx hb hr0 (fun t ht _ => ⟨⟨rfl, by rw [ht]; exact hP⟩, hS.F ht⟩) hS.2.2 d_M_object_28 hlk
  · have hf := if_f hf c
    refine lv_iload_n hx hb d_M_object_7 rfl (lv_at hl 1 rfl) ?_
    refine lv_iconst (v := 0) hx hb d_M_object_8 (by decide) ?_
    refine lv_aload_n hx hb d_M_object_9 rfl (lv_at hl 0 rfl) ?_
    refine va_get (D := D) (v := .int (gI S 13)) hx hb htg in_M hown hK hP 0 mo_0 rfl 33 (by decide) (htg _ k_f_M_186) (fun _ h9 => h9) rfl d_M_object_10 ?_
    refine lv_iconst (v := 1) hx hb d_M_object_13 (by decide) ?_
    refine lv_isub hx hb d_M_object_14 ?_
    obtain ⟨q1, he, hf⟩ := ob_some hf
    refine cl_Si (As := [.int x0, .int (0 : Int32), .int ((gI S 13) - (1 : Int32))]) (rest := []) X (c_m_M_within he) ok_m_M_within k_m_M_112 rfl rfl hl.1 (Nat.le_of_ble_eq_true rfl) d_M_object_15 ⟨by decide, by decide⟩ hP hS (fun H locs hP hS => ?_)
    refine lv_if_eq (tgt := 27) hx hb d_M_object_18 (by decide) (fun c => ?_) (fun c => ?_)
    · have hf := if_t hf c
      refine lv_iconst (v := (-1)) hx hb d_M_object_27 (by decide) ?_
      obtain rfl := Option.some.inj hf
      exact W.iret hx hb hr0 (fun t ht _ => ⟨⟨rfl, by rw [ht]; exact hP⟩, hS.F ht⟩) hS.2.2 d_M_object_28 hlk
    · have hf := if_f hf c
      refine lv_iload_n hx hb d_M_object_21 rfl (lv_at hl 2 rfl) ?_
      refine lv_bipush (v := (-2)) hx hb d_M_object_22 (by decide) ?_
      refine lv_icmp_ge (tgt := 29) hx hb d_M_object_24 (by decide) (fun c => ?_) (fun c => ?_)
      · have hf := if_t hf c
        refine lv_aload_n hx hb d_M_object_29 rfl (lv_at hl 0 rfl) ?_
        refine va_get (D := D) (v := .ref (aa 4)) hx hb htg in_M hown hK hP 0 mo_0 rfl 7 (by decide) (htg _ k_f_M_22) (fun _ h9 => h9) rfl d_M_object_30 ?_
        refine lv_aload_n hx hb d_M_object_33 rfl (lv_at hl 0 rfl) ?_
        refine va_get (D := D) (v := .int (gI q1.2 20)) hx hb htg in_M hown hK hP 0 mo_0 rfl 50 (by decide) (htg _ k_f_M_109) (fun _ h9 => h9) rfl d_M_object_34 ?_
        obtain ⟨hg, hf⟩ := gd_some hf
        refine va_zald hx hb hK hP 5 1 ma_4 rfl (vin_in hg) d_M_object_37 ?_
        refine lv_if_eq (tgt := 55) hx hb d_M_object_38 (by decide) (fun c => ?_) (fun c => ?_)
        · have hf := if_t hf c
          exact w_m_M_object_b55 X _ _ _ hf H locs ls hP hS (lv_sub hl [0, 1, 2] rfl)
        · have hf := if_f hf c
          refine lv_aload_n hx hb d_M_object_41 rfl (lv_at hl 0 rfl) ?_
          refine va_get (D := D) (v := .int (gI q1.2 13)) hx hb htg in_M hown hK hP 0 mo_0 rfl 33 (by decide) (htg _ k_f_M_186) (fun _ h9 => h9) rfl d_M_object_42 ?_
          refine lv_iconst (v := 2) hx hb d_M_object_45 (by decide) ?_
          refine lv_icmp_ne (tgt := 55) hx hb d_M_object_46 (by decide) (fun c => ?_) (fun c => ?_)
          · have hf := if_f hf c
            exact w_m_M_object_b55 X _ _ _ hf H locs ls hP hS (lv_sub hl [0, 1, 2] rfl)
          · have hf := if_t hf c
            refine lv_iconst (v := 1) hx hb d_M_object_49 (by decide) ?_
            refine lv_iload_n hx hb d_M_object_50 rfl (lv_at hl 1 rfl) ?_
            refine lv_isub hx hb d_M_object_51 ?_
            refine lv_goto (tgt := 56) hx hb d_M_object_52 (by decide) ?_
            exact w_m_M_object_b56 X _ _ _ hf H locs ls hP hS (lv_sub hl [0, 2] rfl)
      · have hf := if_f hf c
        refine lv_iconst (v := (-1)) hx hb d_M_object_27 (by decide) ?_
        obtain rfl := Option.some.inj hf
        exact W.iret hx hb hr0 (fun t ht _ => ⟨⟨rfl, by rw [ht]; exact hP⟩, hS.F ht⟩) hS.2.2 d_M_object_28 hlk
theorem c_m_M_object {l : Launch} {D : va_G} {cI cZ cJ : ClassId} {ao aa : Nat → Nat} {S : St} {x0 : Int32} {x1 : Int32} {z : Int32 × St} (hz : m_M_object S x0 x1 = some z) : Ct l y_M_object (.code y_M_object b_M_object 6 (some .int) :: gw) rm_m_M_object D [(cI, .int), (cZ, .boolean), (cJ, .long)] (mA ao aa) (mW cI cZ cJ ao aa) [.ref (ao 0), .int x0, .int x1] S (some (.int z.1)) z.2 :=
  Ct_of (by decide) (fun p e s m args below meth c X => w_m_M_object X _ _ _ hz) (Nat.le_of_ble_eq_true rfl)
def m_M_asked (S : St) (x0 : Int32) : Option (Int32 × St) :=
  if x0 = (-1 : Int32) then
    some ((gI S 21), S)
  else
    if (gI S 21) = 0 then
      some ((-1 : Int32), S)
    else
      if 0 ≤ x0 then
        if (gI S 21) = (15 : Int32) then
          (m_M_thingOf S (gL S 1) x0).bind fun q1 =>
          some (q1.1, q1.2)
        else
          if x0 = 0 then
            some ((gI S 10), S)
          else
            if (gI S 11) < x0 then
              some ((-1 : Int32), S)
            else
              gd (vin (x0 - (1 : Int32)) 8) <|
              some ((gA S 16 (x0 - (1 : Int32)).toNatClampNeg), S)
      else
        some ((-1 : Int32), S)
def rm_m_M_asked : Room := { frames := 2, cells := 0, slots := 0, locals := 47 }
theorem ok_m_M_asked : CalV y_M_asked b_M_asked 2 (some .int) 1 rm_m_M_asked := ⟨kc_M_asked, ki_M_asked, kl_M_asked, ji_M, ⟨by decide, by decide, by decide +kernel⟩, rfl, rfl⟩
set_option maxHeartbeats 4000000 in
set_option maxRecDepth 100000 in
theorem w_m_M_asked {z : Int32 × St} (X : Cx b_M_asked 2 (some .int) R_M D [(cI, .int), (cZ, .boolean), (cJ, .long)] (mA ao aa) (mW cI cZ cJ ao aa) p s m args meth c) (S : St) (x0 : Int32) (hf : m_M_asked S x0 = some z) : WX rm_m_M_asked D (mA ao aa) (mW cI cZ cJ ao aa) p l e s m args below meth c (some (.int z.1)) z.2 0 [] 2 [(0, .ref (ao 0)), (1, .int x0)] S := by
  intro H locs ls hP hS hl
  obtain ⟨hx, hb, hr0, hml, hown, htg, hlk, hK, hN, hI⟩ := id X
  unfold m_M_asked at hf
  refine lv_iload_n hx hb d_M_asked_0 rfl (lv_at hl 1 rfl) ?_
  refine lv_iconst (v := (-1)) hx hb d_M_asked_1 (by decide) ?_
  refine lv_icmp_ne (tgt := 10) hx hb d_M_asked_2 (by decide) (fun c => ?_) (fun c => ?_)
  · have hf := if_f hf c
    refine lv_aload_n hx hb d_M_asked_10 rfl (lv_at hl 0 rfl) ?_
    refine va_get (D := D) (v := .int (gI S 21)) hx hb htg in_M hown hK hP 0 mo_0 rfl 51 (by decide) (htg _ k_f_M_293) (fun _ h9 => h9) rfl d_M_asked_11 ?_
    refine lv_if_eq (tgt := 21) hx hb d_M_asked_14 (by decide) (fun c => ?_) (fun c => ?_)
    · have hf := if_t hf c
      refine lv_iconst (v := (-1)) hx hb d_M_asked_21 (by decide) ?_
      obtain rfl := Option.some.inj hf
      exact W.iret hx hb hr0 (fun t ht _ => ⟨⟨rfl, by rw [ht]; exact hP⟩, hS.F ht⟩) hS.2.2 d_M_asked_22 hlk
    · have hf := if_f hf c
      refine lv_iload_n hx hb d_M_asked_17 rfl (lv_at hl 1 rfl) ?_
      refine lv_if_ge (tgt := 23) hx hb d_M_asked_18 (by decide) (fun c => ?_) (fun c => ?_)
      · have hf := if_t hf c
        refine lv_aload_n hx hb d_M_asked_23 rfl (lv_at hl 0 rfl) ?_
        refine va_get (D := D) (v := .int (gI S 21)) hx hb htg in_M hown hK hP 0 mo_0 rfl 51 (by decide) (htg _ k_f_M_293) (fun _ h9 => h9) rfl d_M_asked_24 ?_
        refine lv_bipush (v := 15) hx hb d_M_asked_27 (by decide) ?_
        refine lv_icmp_ne (tgt := 42) hx hb d_M_asked_29 (by decide) (fun c => ?_) (fun c => ?_)
        · have hf := if_f hf c
          refine lv_iload_n hx hb d_M_asked_42 rfl (lv_at hl 1 rfl) ?_
          refine lv_if_ne (tgt := 53) hx hb d_M_asked_43 (by decide) (fun c => ?_) (fun c => ?_)
          · have hf := if_f hf c
            refine lv_iload_n hx hb d_M_asked_53 rfl (lv_at hl 1 rfl) ?_
            refine lv_aload_n hx hb d_M_asked_54 rfl (lv_at hl 0 rfl) ?_
            refine va_get (D := D) (v := .int (gI S 11)) hx hb htg in_M hown hK hP 0 mo_0 rfl 29 (by decide) (htg _ k_f_M_195) (fun _ h9 => h9) rfl d_M_asked_55 ?_
            refine lv_icmp_gt (tgt := 72) hx hb d_M_asked_58 (by decide) (fun c => ?_) (fun c => ?_)
            · have hf := if_t hf c
              refine lv_iconst (v := (-1)) hx hb d_M_asked_72 (by decide) ?_
              obtain rfl := Option.some.inj hf
              exact W.iret hx hb hr0 (fun t ht _ => ⟨⟨rfl, by rw [ht]; exact hP⟩, hS.F ht⟩) hS.2.2 d_M_asked_73 hlk
            · have hf := if_f hf c
              refine lv_aload_n hx hb d_M_asked_61 rfl (lv_at hl 0 rfl) ?_
              refine va_get (D := D) (v := .ref (aa 16)) hx hb htg in_M hown hK hP 0 mo_0 rfl 30 (by decide) (htg _ k_f_M_59) (fun _ h9 => h9) rfl d_M_asked_62 ?_
              refine lv_iload_n hx hb d_M_asked_65 rfl (lv_at hl 1 rfl) ?_
              refine lv_iconst (v := 1) hx hb d_M_asked_66 (by decide) ?_
              refine lv_isub hx hb d_M_asked_67 ?_
              obtain ⟨hg, hf⟩ := gd_some hf
              refine va_iald hx hb hK hP 17 0 ma_16 rfl (vin_in hg) d_M_asked_68 ?_
              refine lv_goto (tgt := 73) hx hb d_M_asked_69 (by decide) ?_
              obtain rfl := Option.some.inj hf
              exact W.iret hx hb hr0 (fun t ht _ => ⟨⟨rfl, by rw [ht]; exact hP⟩, hS.F ht⟩) hS.2.2 d_M_asked_73 hlk
          · have hf := if_t hf c
            refine lv_aload_n hx hb d_M_asked_46 rfl (lv_at hl 0 rfl) ?_
            refine va_get (D := D) (v := .int (gI S 10)) hx hb htg in_M hown hK hP 0 mo_0 rfl 28 (by decide) (htg _ k_f_M_256) (fun _ h9 => h9) rfl d_M_asked_47 ?_
            refine lv_goto (tgt := 73) hx hb d_M_asked_50 (by decide) ?_
            obtain rfl := Option.some.inj hf
            exact W.iret hx hb hr0 (fun t ht _ => ⟨⟨rfl, by rw [ht]; exact hP⟩, hS.F ht⟩) hS.2.2 d_M_asked_73 hlk
        · have hf := if_t hf c
          refine lv_aload_n hx hb d_M_asked_32 rfl (lv_at hl 0 rfl) ?_
          refine lv_aload_n hx hb d_M_asked_33 rfl (lv_at hl 0 rfl) ?_
          refine va_get (D := D) (v := .long (gL S 1)) hx hb htg in_M hown hK hP 0 mo_0 rfl 26 (by decide) (htg _ k_f_M_242) (fun _ h9 => h9) rfl d_M_asked_34 ?_
          refine lv_iload_n hx hb d_M_asked_37 rfl (lv_at hl 1 rfl) ?_
          obtain ⟨q1, he, hf⟩ := ob_some hf
          refine cl_Vi (As := [.long (gL S 1), .int x0]) (rest := []) X (c_m_M_thingOf he) ok_m_M_thingOf k_m_M_262 (va_recv hK hP rfl mo_0) rfl rfl hl.1 (Nat.le_of_ble_eq_true rfl) d_M_asked_38 ⟨by decide, by decide⟩ hP hS (fun H locs hP hS => ?_)
          obtain rfl := Option.some.inj hf
          exact W.iret hx hb hr0 (fun t ht _ => ⟨⟨rfl, by rw [ht]; exact hP⟩, hS.F ht⟩) hS.2.2 d_M_asked_41 hlk
      · have hf := if_f hf c
        refine lv_iconst (v := (-1)) hx hb d_M_asked_21 (by decide) ?_
        obtain rfl := Option.some.inj hf
        exact W.iret hx hb hr0 (fun t ht _ => ⟨⟨rfl, by rw [ht]; exact hP⟩, hS.F ht⟩) hS.2.2 d_M_asked_22 hlk
  · have hf := if_t hf c
    refine lv_aload_n hx hb d_M_asked_5 rfl (lv_at hl 0 rfl) ?_
    refine va_get (D := D) (v := .int (gI S 21)) hx hb htg in_M hown hK hP 0 mo_0 rfl 51 (by decide) (htg _ k_f_M_293) (fun _ h9 => h9) rfl d_M_asked_6 ?_
    obtain rfl := Option.some.inj hf
    exact W.iret hx hb hr0 (fun t ht _ => ⟨⟨rfl, by rw [ht]; exact hP⟩, hS.F ht⟩) hS.2.2 d_M_asked_9 hlk
theorem c_m_M_asked {l : Launch} {D : va_G} {cI cZ cJ : ClassId} {ao aa : Nat → Nat} {S : St} {x0 : Int32} {z : Int32 × St} (hz : m_M_asked S x0 = some z) : Ct l y_M_asked (.code y_M_asked b_M_asked 2 (some .int) :: gw) rm_m_M_asked D [(cI, .int), (cZ, .boolean), (cJ, .long)] (mA ao aa) (mW cI cZ cJ ao aa) [.ref (ao 0), .int x0] S (some (.int z.1)) z.2 :=
  Ct_of (by decide) (fun p e s m args below meth c X => w_m_M_asked X _ _ hz) (Nat.le_of_ble_eq_true rfl)
def m_M_filled (S : St) (x0 : Int32) : Option (Int32 × St) :=
  if (gI S 22) = 0 then
    some ((-1 : Int32), S)
  else
    (m_M_within S x0 (0 : Int32) ((gI S 12) - (1 : Int32))).bind fun q1 =>
    if q1.1 = 0 then
      some ((-1 : Int32), q1.2)
    else
      gd (vin x0 8) <|
      some ((gA q1.2 17 x0.toNatClampNeg), q1.2)
def rm_m_M_filled : Room := { frames := 1, cells := 0, slots := 0, locals := 22 }
theorem ok_m_M_filled : CalV y_M_filled b_M_filled 2 (some .int) 1 rm_m_M_filled := ⟨kc_M_filled, ki_M_filled, kl_M_filled, ji_M, ⟨by decide, by decide, by decide +kernel⟩, rfl, rfl⟩
set_option maxHeartbeats 4000000 in
set_option maxRecDepth 100000 in
theorem w_m_M_filled {z : Int32 × St} (X : Cx b_M_filled 2 (some .int) R_M D [(cI, .int), (cZ, .boolean), (cJ, .long)] (mA ao aa) (mW cI cZ cJ ao aa) p s m args meth c) (S : St) (x0 : Int32) (hf : m_M_filled S x0 = some z) : WX rm_m_M_filled D (mA ao aa) (mW cI cZ cJ ao aa) p l e s m args below meth c (some (.int z.1)) z.2 0 [] 2 [(0, .ref (ao 0)), (1, .int x0)] S := by
  intro H locs ls hP hS hl
  obtain ⟨hx, hb, hr0, hml, hown, htg, hlk, hK, hN, hI⟩ := id X
  unfold m_M_filled at hf
  refine lv_aload_n hx hb d_M_filled_0 rfl (lv_at hl 0 rfl) ?_
  refine va_get (D := D) (v := .int (gI S 22)) hx hb htg in_M hown hK hP 0 mo_0 rfl 52 (by decide) (htg _ k_f_M_286) (fun _ h9 => h9) rfl d_M_filled_1 ?_
  refine lv_if_eq (tgt := 30) hx hb d_M_filled_4 (by decide) (fun c => ?_) (fun c => ?_)
  · have hf := if_t hf c
    refine lv_iconst (v := (-1)) hx hb d_M_filled_30 (by decide) ?_
    obtain rfl := Option.some.inj hf
    exact W.iret hx hb hr0 (fun t ht _ => ⟨⟨rfl, by rw [ht]; exact hP⟩, hS.F ht⟩) hS.2.2 d_M_filled_31 hlk
  · have hf := if_f hf c
    refine lv_iload_n hx hb d_M_filled_7 rfl (lv_at hl 1 rfl) ?_
    refine lv_iconst (v := 0) hx hb d_M_filled_8 (by decide) ?_
    refine lv_aload_n hx hb d_M_filled_9 rfl (lv_at hl 0 rfl) ?_
    refine va_get (D := D) (v := .int (gI S 12)) hx hb htg in_M hown hK hP 0 mo_0 rfl 31 (by decide) (htg _ k_f_M_192) (fun _ h9 => h9) rfl d_M_filled_10 ?_
    refine lv_iconst (v := 1) hx hb d_M_filled_13 (by decide) ?_
    refine lv_isub hx hb d_M_filled_14 ?_
    obtain ⟨q1, he, hf⟩ := ob_some hf
    refine cl_Si (As := [.int x0, .int (0 : Int32), .int ((gI S 12) - (1 : Int32))]) (rest := []) X (c_m_M_within he) ok_m_M_within k_m_M_112 rfl rfl hl.1 (Nat.le_of_ble_eq_true rfl) d_M_filled_15 ⟨by decide, by decide⟩ hP hS (fun H locs hP hS => ?_)
    refine lv_if_eq (tgt := 30) hx hb d_M_filled_18 (by decide) (fun c => ?_) (fun c => ?_)
    · have hf := if_t hf c
      refine lv_iconst (v := (-1)) hx hb d_M_filled_30 (by decide) ?_
      obtain rfl := Option.some.inj hf
      exact W.iret hx hb hr0 (fun t ht _ => ⟨⟨rfl, by rw [ht]; exact hP⟩, hS.F ht⟩) hS.2.2 d_M_filled_31 hlk
    · have hf := if_f hf c
      refine lv_aload_n hx hb d_M_filled_21 rfl (lv_at hl 0 rfl) ?_
      refine va_get (D := D) (v := .ref (aa 17)) hx hb htg in_M hown hK hP 0 mo_0 rfl 32 (by decide) (htg _ k_f_M_62) (fun _ h9 => h9) rfl d_M_filled_22 ?_
      refine lv_iload_n hx hb d_M_filled_25 rfl (lv_at hl 1 rfl) ?_
      obtain ⟨hg, hf⟩ := gd_some hf
      refine va_iald hx hb hK hP 18 0 ma_17 rfl (vin_in hg) d_M_filled_26 ?_
      refine lv_goto (tgt := 31) hx hb d_M_filled_27 (by decide) ?_
      obtain rfl := Option.some.inj hf
      exact W.iret hx hb hr0 (fun t ht _ => ⟨⟨rfl, by rw [ht]; exact hP⟩, hS.F ht⟩) hS.2.2 d_M_filled_31 hlk
theorem c_m_M_filled {l : Launch} {D : va_G} {cI cZ cJ : ClassId} {ao aa : Nat → Nat} {S : St} {x0 : Int32} {z : Int32 × St} (hz : m_M_filled S x0 = some z) : Ct l y_M_filled (.code y_M_filled b_M_filled 2 (some .int) :: gw) rm_m_M_filled D [(cI, .int), (cZ, .boolean), (cJ, .long)] (mA ao aa) (mW cI cZ cJ ao aa) [.ref (ao 0), .int x0] S (some (.int z.1)) z.2 :=
  Ct_of (by decide) (fun p e s m args below meth c X => w_m_M_filled X _ _ hz) (Nat.le_of_ble_eq_true rfl)
def m_M_told (S : St) (x0 : Int32) : Option (Int32 × St) :=
  if x0.toInt < 0 ∨ 10 < x0.toInt then
    some ((-1 : Int32), S)
  else
  if x0 = (0 : Int32) then
    some ((gI S 18), S)
  else
  if x0 = (1 : Int32) then
    some ((gI S 19), S)
  else
  if x0 = (2 : Int32) then
    some ((gI S 20), S)
  else
  if x0 = (3 : Int32) then
    some ((gI S 15), S)
  else
  if x0 = (4 : Int32) then
    some ((gI S 16), S)
  else
  if x0 = (5 : Int32) then
    some ((gI S 5), S)
  else
  if x0 = (6 : Int32) then
    some ((gI S 14), S)
  else
  if x0 = (7 : Int32) then
    some ((gI S 0), S)
  else
  if x0 = (8 : Int32) then
    some ((gI S 2), S)
  else
  if x0 = (9 : Int32) then
    some ((gI S 3), S)
  else
  if x0 = (10 : Int32) then
    some ((gI S 4), S)
  else
  none
def rm_m_M_told : Room := { frames := 0, cells := 0, slots := 0, locals := 0 }
theorem ok_m_M_told : CalV y_M_told b_M_told 2 (some .int) 1 rm_m_M_told := ⟨kc_M_told, ki_M_told, kl_M_told, ji_M, ⟨by decide, by decide, by decide +kernel⟩, rfl, rfl⟩
set_option maxHeartbeats 4000000 in
set_option maxRecDepth 100000 in
theorem w_m_M_told {z : Int32 × St} (X : Cx b_M_told 2 (some .int) R_M D [(cI, .int), (cZ, .boolean), (cJ, .long)] (mA ao aa) (mW cI cZ cJ ao aa) p s m args meth c) (S : St) (x0 : Int32) (hf : m_M_told S x0 = some z) : WX rm_m_M_told D (mA ao aa) (mW cI cZ cJ ao aa) p l e s m args below meth c (some (.int z.1)) z.2 0 [] 2 [(0, .ref (ao 0)), (1, .int x0)] S := by
  intro H locs ls hP hS hl
  obtain ⟨hx, hb, hr0, hml, hown, htg, hlk, hK, hN, hI⟩ := id X
  unfold m_M_told at hf
  refine lv_iload_n hx hb d_M_told_0 rfl (lv_at hl 1 rfl) ?_
  by_cases c : x0.toInt < 0 ∨ 10 < x0.toInt
  · have hf := if_t hf c
    refine lv_tableOut (tgt := 115) hx hb d_M_told_1 c (by decide) ?_
    refine lv_iconst (v := (-1)) hx hb d_M_told_115 (by decide) ?_
    obtain rfl := Option.some.inj hf
    exact W.iret hx hb hr0 (fun t ht _ => ⟨⟨rfl, by rw [ht]; exact hP⟩, hS.F ht⟩) hS.2.2 d_M_told_116 hlk
  have hf := if_f hf c
  by_cases c : x0 = (0 : Int32)
  · have hf := if_t hf c
    refine lv_tableIn (off := 59) (tgt := 60) hx hb d_M_told_1 (by rw [c]; decide) (by rw [c]; decide) (by rw [c]; rfl) (by decide) ?_
    refine lv_aload_n hx hb d_M_told_60 rfl (lv_at hl 0 rfl) ?_
    refine va_get (D := D) (v := .int (gI S 18)) hx hb htg in_M hown hK hP 0 mo_0 rfl 48 (by decide) (htg _ k_f_M_269) (fun _ h9 => h9) rfl d_M_told_61 ?_
    obtain rfl := Option.some.inj hf
    exact W.iret hx hb hr0 (fun t ht _ => ⟨⟨rfl, by rw [ht]; exact hP⟩, hS.F ht⟩) hS.2.2 d_M_told_64 hlk
  have hf := if_f hf c
  by_cases c : x0 = (1 : Int32)
  · have hf := if_t hf c
    refine lv_tableIn (off := 64) (tgt := 65) hx hb d_M_told_1 (by rw [c]; decide) (by rw [c]; decide) (by rw [c]; rfl) (by decide) ?_
    refine lv_aload_n hx hb d_M_told_65 rfl (lv_at hl 0 rfl) ?_
    refine va_get (D := D) (v := .int (gI S 19)) hx hb htg in_M hown hK hP 0 mo_0 rfl 49 (by decide) (htg _ k_f_M_106) (fun _ h9 => h9) rfl d_M_told_66 ?_
    obtain rfl := Option.some.inj hf
    exact W.iret hx hb hr0 (fun t ht _ => ⟨⟨rfl, by rw [ht]; exact hP⟩, hS.F ht⟩) hS.2.2 d_M_told_69 hlk
  have hf := if_f hf c
  by_cases c : x0 = (2 : Int32)
  · have hf := if_t hf c
    refine lv_tableIn (off := 69) (tgt := 70) hx hb d_M_told_1 (by rw [c]; decide) (by rw [c]; decide) (by rw [c]; rfl) (by decide) ?_
    refine lv_aload_n hx hb d_M_told_70 rfl (lv_at hl 0 rfl) ?_
    refine va_get (D := D) (v := .int (gI S 20)) hx hb htg in_M hown hK hP 0 mo_0 rfl 50 (by decide) (htg _ k_f_M_109) (fun _ h9 => h9) rfl d_M_told_71 ?_
    obtain rfl := Option.some.inj hf
    exact W.iret hx hb hr0 (fun t ht _ => ⟨⟨rfl, by rw [ht]; exact hP⟩, hS.F ht⟩) hS.2.2 d_M_told_74 hlk
  have hf := if_f hf c
  by_cases c : x0 = (3 : Int32)
  · have hf := if_t hf c
    refine lv_tableIn (off := 74) (tgt := 75) hx hb d_M_told_1 (by rw [c]; decide) (by rw [c]; decide) (by rw [c]; rfl) (by decide) ?_
    refine lv_aload_n hx hb d_M_told_75 rfl (lv_at hl 0 rfl) ?_
    refine va_get (D := D) (v := .int (gI S 15)) hx hb htg in_M hown hK hP 0 mo_0 rfl 42 (by decide) (htg _ k_f_M_103) (fun _ h9 => h9) rfl d_M_told_76 ?_
    obtain rfl := Option.some.inj hf
    exact W.iret hx hb hr0 (fun t ht _ => ⟨⟨rfl, by rw [ht]; exact hP⟩, hS.F ht⟩) hS.2.2 d_M_told_79 hlk
  have hf := if_f hf c
  by_cases c : x0 = (4 : Int32)
  · have hf := if_t hf c
    refine lv_tableIn (off := 79) (tgt := 80) hx hb d_M_told_1 (by rw [c]; decide) (by rw [c]; decide) (by rw [c]; rfl) (by decide) ?_
    refine lv_aload_n hx hb d_M_told_80 rfl (lv_at hl 0 rfl) ?_
    refine va_get (D := D) (v := .int (gI S 16)) hx hb htg in_M hown hK hP 0 mo_0 rfl 43 (by decide) (htg _ k_f_M_266) (fun _ h9 => h9) rfl d_M_told_81 ?_
    obtain rfl := Option.some.inj hf
    exact W.iret hx hb hr0 (fun t ht _ => ⟨⟨rfl, by rw [ht]; exact hP⟩, hS.F ht⟩) hS.2.2 d_M_told_84 hlk
  have hf := if_f hf c
  by_cases c : x0 = (5 : Int32)
  · have hf := if_t hf c
    refine lv_tableIn (off := 84) (tgt := 85) hx hb d_M_told_1 (by rw [c]; decide) (by rw [c]; decide) (by rw [c]; rfl) (by decide) ?_
    refine lv_aload_n hx hb d_M_told_85 rfl (lv_at hl 0 rfl) ?_
    refine va_get (D := D) (v := .int (gI S 5)) hx hb htg in_M hown hK hP 0 mo_0 rfl 19 (by decide) (htg _ k_f_M_157) (fun _ h9 => h9) rfl d_M_told_86 ?_
    obtain rfl := Option.some.inj hf
    exact W.iret hx hb hr0 (fun t ht _ => ⟨⟨rfl, by rw [ht]; exact hP⟩, hS.F ht⟩) hS.2.2 d_M_told_89 hlk
  have hf := if_f hf c
  by_cases c : x0 = (6 : Int32)
  · have hf := if_t hf c
    refine lv_tableIn (off := 89) (tgt := 90) hx hb d_M_told_1 (by rw [c]; decide) (by rw [c]; decide) (by rw [c]; rfl) (by decide) ?_
    refine lv_aload_n hx hb d_M_told_90 rfl (lv_at hl 0 rfl) ?_
    refine va_get (D := D) (v := .int (gI S 14)) hx hb htg in_M hown hK hP 0 mo_0 rfl 40 (by decide) (htg _ k_f_M_272) (fun _ h9 => h9) rfl d_M_told_91 ?_
    obtain rfl := Option.some.inj hf
    exact W.iret hx hb hr0 (fun t ht _ => ⟨⟨rfl, by rw [ht]; exact hP⟩, hS.F ht⟩) hS.2.2 d_M_told_94 hlk
  have hf := if_f hf c
  by_cases c : x0 = (7 : Int32)
  · have hf := if_t hf c
    refine lv_tableIn (off := 94) (tgt := 95) hx hb d_M_told_1 (by rw [c]; decide) (by rw [c]; decide) (by rw [c]; rfl) (by decide) ?_
    refine lv_aload_n hx hb d_M_told_95 rfl (lv_at hl 0 rfl) ?_
    refine va_get (D := D) (v := .int (gI S 0)) hx hb htg in_M hown hK hP 0 mo_0 rfl 0 (by decide) (htg _ k_f_M_127) (fun _ h9 => h9) rfl d_M_told_96 ?_
    obtain rfl := Option.some.inj hf
    exact W.iret hx hb hr0 (fun t ht _ => ⟨⟨rfl, by rw [ht]; exact hP⟩, hS.F ht⟩) hS.2.2 d_M_told_99 hlk
  have hf := if_f hf c
  by_cases c : x0 = (8 : Int32)
  · have hf := if_t hf c
    refine lv_tableIn (off := 99) (tgt := 100) hx hb d_M_told_1 (by rw [c]; decide) (by rw [c]; decide) (by rw [c]; rfl) (by decide) ?_
    refine lv_aload_n hx hb d_M_told_100 rfl (lv_at hl 0 rfl) ?_
    refine va_get (D := D) (v := .int (gI S 2)) hx hb htg in_M hown hK hP 0 mo_0 rfl 4 (by decide) (htg _ k_f_M_134) (fun _ h9 => h9) rfl d_M_told_101 ?_
    obtain rfl := Option.some.inj hf
    exact W.iret hx hb hr0 (fun t ht _ => ⟨⟨rfl, by rw [ht]; exact hP⟩, hS.F ht⟩) hS.2.2 d_M_told_104 hlk
  have hf := if_f hf c
  by_cases c : x0 = (9 : Int32)
  · have hf := if_t hf c
    refine lv_tableIn (off := 104) (tgt := 105) hx hb d_M_told_1 (by rw [c]; decide) (by rw [c]; decide) (by rw [c]; rfl) (by decide) ?_
    refine lv_aload_n hx hb d_M_told_105 rfl (lv_at hl 0 rfl) ?_
    refine va_get (D := D) (v := .int (gI S 3)) hx hb htg in_M hown hK hP 0 mo_0 rfl 11 (by decide) (htg _ k_f_M_140) (fun _ h9 => h9) rfl d_M_told_106 ?_
    obtain rfl := Option.some.inj hf
    exact W.iret hx hb hr0 (fun t ht _ => ⟨⟨rfl, by rw [ht]; exact hP⟩, hS.F ht⟩) hS.2.2 d_M_told_109 hlk
  have hf := if_f hf c
  by_cases c : x0 = (10 : Int32)
  · have hf := if_t hf c
    refine lv_tableIn (off := 109) (tgt := 110) hx hb d_M_told_1 (by rw [c]; decide) (by rw [c]; decide) (by rw [c]; rfl) (by decide) ?_
    refine lv_aload_n hx hb d_M_told_110 rfl (lv_at hl 0 rfl) ?_
    refine va_get (D := D) (v := .int (gI S 4)) hx hb htg in_M hown hK hP 0 mo_0 rfl 15 (by decide) (htg _ k_f_M_147) (fun _ h9 => h9) rfl d_M_told_111 ?_
    obtain rfl := Option.some.inj hf
    exact W.iret hx hb hr0 (fun t ht _ => ⟨⟨rfl, by rw [ht]; exact hP⟩, hS.F ht⟩) hS.2.2 d_M_told_114 hlk
  have hf := if_f hf c
  exact ns hf
theorem c_m_M_told {l : Launch} {D : va_G} {cI cZ cJ : ClassId} {ao aa : Nat → Nat} {S : St} {x0 : Int32} {z : Int32 × St} (hz : m_M_told S x0 = some z) : Ct l y_M_told (.code y_M_told b_M_told 2 (some .int) :: gw) rm_m_M_told D [(cI, .int), (cZ, .boolean), (cJ, .long)] (mA ao aa) (mW cI cZ cJ ao aa) [.ref (ao 0), .int x0] S (some (.int z.1)) z.2 :=
  Ct_of (by decide) (fun p e s m args below meth c X => w_m_M_told X _ _ hz) (Nat.le_of_ble_eq_true rfl)
def m_M_trace (S : St) (x0 : Int32) (x1 : Int32) : Option (Int32 × St) :=
  (m_M_within S x0 (0 : Int32) ((gI S 16) - (1 : Int32))).bind fun q1 =>
  if q1.1 = 0 then
    some ((-1 : Int32), q1.2)
  else
    (m_M_within q1.2 x1 (0 : Int32) (2 : Int32)).bind fun q2 =>
    if q2.1 = 0 then
      some ((-1 : Int32), q2.2)
    else
      if x1 = 0 then
        gd (vin x0 60) <|
        some ((gA q2.2 25 x0.toNatClampNeg), q2.2)
      else
        if x1 = (1 : Int32) then
          gd (vin x0 60) <|
          some ((gA q2.2 26 x0.toNatClampNeg), q2.2)
        else
          gd (vin x0 60) <|
          some ((gA q2.2 27 x0.toNatClampNeg), q2.2)
def rm_m_M_trace : Room := { frames := 1, cells := 0, slots := 0, locals := 22 }
theorem ok_m_M_trace : CalV y_M_trace b_M_trace 3 (some .int) 2 rm_m_M_trace := ⟨kc_M_trace, ki_M_trace, kl_M_trace, ji_M, ⟨by decide, by decide, by decide +kernel⟩, rfl, rfl⟩
set_option maxHeartbeats 4000000 in
set_option maxRecDepth 100000 in
theorem w_m_M_trace {z : Int32 × St} (X : Cx b_M_trace 3 (some .int) R_M D [(cI, .int), (cZ, .boolean), (cJ, .long)] (mA ao aa) (mW cI cZ cJ ao aa) p s m args meth c) (S : St) (x0 : Int32) (x1 : Int32) (hf : m_M_trace S x0 x1 = some z) : WX rm_m_M_trace D (mA ao aa) (mW cI cZ cJ ao aa) p l e s m args below meth c (some (.int z.1)) z.2 0 [] 3 [(0, .ref (ao 0)), (1, .int x0), (2, .int x1)] S := by
  intro H locs ls hP hS hl
  obtain ⟨hx, hb, hr0, hml, hown, htg, hlk, hK, hN, hI⟩ := id X
  unfold m_M_trace at hf
  refine lv_iload_n hx hb d_M_trace_0 rfl (lv_at hl 1 rfl) ?_
  refine lv_iconst (v := 0) hx hb d_M_trace_1 (by decide) ?_
  refine lv_aload_n hx hb d_M_trace_2 rfl (lv_at hl 0 rfl) ?_
  refine va_get (D := D) (v := .int (gI S 16)) hx hb htg in_M hown hK hP 0 mo_0 rfl 43 (by decide) (htg _ k_f_M_266) (fun _ h9 => h9) rfl d_M_trace_3 ?_
  refine lv_iconst (v := 1) hx hb d_M_trace_6 (by decide) ?_
  refine lv_isub hx hb d_M_trace_7 ?_
  obtain ⟨q1, he, hf⟩ := ob_some hf
  refine cl_Si (As := [.int x0, .int (0 : Int32), .int ((gI S 16) - (1 : Int32))]) (rest := []) X (c_m_M_within he) ok_m_M_within k_m_M_112 rfl rfl hl.1 (Nat.le_of_ble_eq_true rfl) d_M_trace_8 ⟨by decide, by decide⟩ hP hS (fun H locs hP hS => ?_)
  refine lv_if_eq (tgt := 23) hx hb d_M_trace_11 (by decide) (fun c => ?_) (fun c => ?_)
  · have hf := if_t hf c
    refine lv_iconst (v := (-1)) hx hb d_M_trace_23 (by decide) ?_
    obtain rfl := Option.some.inj hf
    exact W.iret hx hb hr0 (fun t ht _ => ⟨⟨rfl, by rw [ht]; exact hP⟩, hS.F ht⟩) hS.2.2 d_M_trace_24 hlk
  · have hf := if_f hf c
    refine lv_iload_n hx hb d_M_trace_14 rfl (lv_at hl 2 rfl) ?_
    refine lv_iconst (v := 0) hx hb d_M_trace_15 (by decide) ?_
    refine lv_iconst (v := 2) hx hb d_M_trace_16 (by decide) ?_
    obtain ⟨q2, he, hf⟩ := ob_some hf
    refine cl_Si (As := [.int x1, .int (0 : Int32), .int (2 : Int32)]) (rest := []) X (c_m_M_within he) ok_m_M_within k_m_M_112 rfl rfl hl.1 (Nat.le_of_ble_eq_true rfl) d_M_trace_17 ⟨by decide, by decide⟩ hP hS (fun H locs hP hS => ?_)
    refine lv_if_ne (tgt := 25) hx hb d_M_trace_20 (by decide) (fun c => ?_) (fun c => ?_)
    · have hf := if_f hf c
      refine lv_iload_n hx hb d_M_trace_25 rfl (lv_at hl 2 rfl) ?_
      refine lv_if_ne (tgt := 38) hx hb d_M_trace_26 (by decide) (fun c => ?_) (fun c => ?_)
      · have hf := if_f hf c
        refine lv_iload_n hx hb d_M_trace_38 rfl (lv_at hl 2 rfl) ?_
        refine lv_iconst (v := 1) hx hb d_M_trace_39 (by decide) ?_
        refine lv_icmp_ne (tgt := 52) hx hb d_M_trace_40 (by decide) (fun c => ?_) (fun c => ?_)
        · have hf := if_f hf c
          refine lv_aload_n hx hb d_M_trace_52 rfl (lv_at hl 0 rfl) ?_
          refine va_get (D := D) (v := .ref (aa 27)) hx hb htg in_M hown hK hP 0 mo_0 rfl 46 (by decide) (htg _ k_f_M_93) (fun _ h9 => h9) rfl d_M_trace_53 ?_
          refine lv_iload_n hx hb d_M_trace_56 rfl (lv_at hl 1 rfl) ?_
          obtain ⟨hg, hf⟩ := gd_some hf
          refine va_iald hx hb hK hP 28 0 ma_27 rfl (vin_in hg) d_M_trace_57 ?_
          obtain rfl := Option.some.inj hf
          exact W.iret hx hb hr0 (fun t ht _ => ⟨⟨rfl, by rw [ht]; exact hP⟩, hS.F ht⟩) hS.2.2 d_M_trace_58 hlk
        · have hf := if_t hf c
          refine lv_aload_n hx hb d_M_trace_43 rfl (lv_at hl 0 rfl) ?_
          refine va_get (D := D) (v := .ref (aa 26)) hx hb htg in_M hown hK hP 0 mo_0 rfl 45 (by decide) (htg _ k_f_M_90) (fun _ h9 => h9) rfl d_M_trace_44 ?_
          refine lv_iload_n hx hb d_M_trace_47 rfl (lv_at hl 1 rfl) ?_
          obtain ⟨hg, hf⟩ := gd_some hf
          refine va_iald hx hb hK hP 27 0 ma_26 rfl (vin_in hg) d_M_trace_48 ?_
          refine lv_goto (tgt := 58) hx hb d_M_trace_49 (by decide) ?_
          obtain rfl := Option.some.inj hf
          exact W.iret hx hb hr0 (fun t ht _ => ⟨⟨rfl, by rw [ht]; exact hP⟩, hS.F ht⟩) hS.2.2 d_M_trace_58 hlk
      · have hf := if_t hf c
        refine lv_aload_n hx hb d_M_trace_29 rfl (lv_at hl 0 rfl) ?_
        refine va_get (D := D) (v := .ref (aa 25)) hx hb htg in_M hown hK hP 0 mo_0 rfl 44 (by decide) (htg _ k_f_M_87) (fun _ h9 => h9) rfl d_M_trace_30 ?_
        refine lv_iload_n hx hb d_M_trace_33 rfl (lv_at hl 1 rfl) ?_
        obtain ⟨hg, hf⟩ := gd_some hf
        refine va_iald hx hb hK hP 26 0 ma_25 rfl (vin_in hg) d_M_trace_34 ?_
        refine lv_goto (tgt := 58) hx hb d_M_trace_35 (by decide) ?_
        obtain rfl := Option.some.inj hf
        exact W.iret hx hb hr0 (fun t ht _ => ⟨⟨rfl, by rw [ht]; exact hP⟩, hS.F ht⟩) hS.2.2 d_M_trace_58 hlk
    · have hf := if_t hf c
      refine lv_iconst (v := (-1)) hx hb d_M_trace_23 (by decide) ?_
      obtain rfl := Option.some.inj hf
      exact W.iret hx hb hr0 (fun t ht _ => ⟨⟨rfl, by rw [ht]; exact hP⟩, hS.F ht⟩) hS.2.2 d_M_trace_24 hlk
theorem c_m_M_trace {l : Launch} {D : va_G} {cI cZ cJ : ClassId} {ao aa : Nat → Nat} {S : St} {x0 : Int32} {x1 : Int32} {z : Int32 × St} (hz : m_M_trace S x0 x1 = some z) : Ct l y_M_trace (.code y_M_trace b_M_trace 3 (some .int) :: gw) rm_m_M_trace D [(cI, .int), (cZ, .boolean), (cJ, .long)] (mA ao aa) (mW cI cZ cJ ao aa) [.ref (ao 0), .int x0, .int x1] S (some (.int z.1)) z.2 :=
  Ct_of (by decide) (fun p e s m args below meth c X => w_m_M_trace X _ _ _ hz) (Nat.le_of_ble_eq_true rfl)
def m_M_said (S : St) (x0 : Int32) (x1 : Int32) : Option (Int32 × St) :=
  if x0 = 0 then
    (m_M_within S x1 (0 : Int32) ((gI S 14) - (1 : Int32))).bind fun q2 =>
    if q2.1 = 0 then
      some ((-1 : Int32), q2.2)
    else
      gd (vin x1 60) <|
      some ((gA q2.2 24 x1.toNatClampNeg), q2.2)
  else
    if x0 = (1 : Int32) then
      (m_M_within S x1 (0 : Int32) ((gI S 5) - (1 : Int32))).bind fun q1 =>
      if q1.1 = 0 then
        some ((-1 : Int32), q1.2)
      else
        gd (vin x1 60) <|
        some ((gA q1.2 14 x1.toNatClampNeg), q1.2)
    else
      some ((-1 : Int32), S)
def rm_m_M_said : Room := { frames := 1, cells := 0, slots := 0, locals := 22 }
theorem ok_m_M_said : CalV y_M_said b_M_said 3 (some .int) 2 rm_m_M_said := ⟨kc_M_said, ki_M_said, kl_M_said, ji_M, ⟨by decide, by decide, by decide +kernel⟩, rfl, rfl⟩
set_option maxHeartbeats 4000000 in
set_option maxRecDepth 100000 in
theorem w_m_M_said {z : Int32 × St} (X : Cx b_M_said 3 (some .int) R_M D [(cI, .int), (cZ, .boolean), (cJ, .long)] (mA ao aa) (mW cI cZ cJ ao aa) p s m args meth c) (S : St) (x0 : Int32) (x1 : Int32) (hf : m_M_said S x0 x1 = some z) : WX rm_m_M_said D (mA ao aa) (mW cI cZ cJ ao aa) p l e s m args below meth c (some (.int z.1)) z.2 0 [] 3 [(0, .ref (ao 0)), (1, .int x0), (2, .int x1)] S := by
  intro H locs ls hP hS hl
  obtain ⟨hx, hb, hr0, hml, hown, htg, hlk, hK, hN, hI⟩ := id X
  unfold m_M_said at hf
  refine lv_iload_n hx hb d_M_said_0 rfl (lv_at hl 1 rfl) ?_
  refine lv_if_ne (tgt := 29) hx hb d_M_said_1 (by decide) (fun c => ?_) (fun c => ?_)
  · have hf := if_f hf c
    refine lv_iload_n hx hb d_M_said_29 rfl (lv_at hl 1 rfl) ?_
    refine lv_iconst (v := 1) hx hb d_M_said_30 (by decide) ?_
    refine lv_icmp_ne (tgt := 57) hx hb d_M_said_31 (by decide) (fun c => ?_) (fun c => ?_)
    · have hf := if_f hf c
      refine lv_iconst (v := (-1)) hx hb d_M_said_57 (by decide) ?_
      obtain rfl := Option.some.inj hf
      exact W.iret hx hb hr0 (fun t ht _ => ⟨⟨rfl, by rw [ht]; exact hP⟩, hS.F ht⟩) hS.2.2 d_M_said_58 hlk
    · have hf := if_t hf c
      refine lv_iload_n hx hb d_M_said_34 rfl (lv_at hl 2 rfl) ?_
      refine lv_iconst (v := 0) hx hb d_M_said_35 (by decide) ?_
      refine lv_aload_n hx hb d_M_said_36 rfl (lv_at hl 0 rfl) ?_
      refine va_get (D := D) (v := .int (gI S 5)) hx hb htg in_M hown hK hP 0 mo_0 rfl 19 (by decide) (htg _ k_f_M_157) (fun _ h9 => h9) rfl d_M_said_37 ?_
      refine lv_iconst (v := 1) hx hb d_M_said_40 (by decide) ?_
      refine lv_isub hx hb d_M_said_41 ?_
      obtain ⟨q1, he, hf⟩ := ob_some hf
      refine cl_Si (As := [.int x1, .int (0 : Int32), .int ((gI S 5) - (1 : Int32))]) (rest := []) X (c_m_M_within he) ok_m_M_within k_m_M_112 rfl rfl hl.1 (Nat.le_of_ble_eq_true rfl) d_M_said_42 ⟨by decide, by decide⟩ hP hS (fun H locs hP hS => ?_)
      refine lv_if_eq (tgt := 57) hx hb d_M_said_45 (by decide) (fun c => ?_) (fun c => ?_)
      · have hf := if_t hf c
        refine lv_iconst (v := (-1)) hx hb d_M_said_57 (by decide) ?_
        obtain rfl := Option.some.inj hf
        exact W.iret hx hb hr0 (fun t ht _ => ⟨⟨rfl, by rw [ht]; exact hP⟩, hS.F ht⟩) hS.2.2 d_M_said_58 hlk
      · have hf := if_f hf c
        refine lv_aload_n hx hb d_M_said_48 rfl (lv_at hl 0 rfl) ?_
        refine va_get (D := D) (v := .ref (aa 14)) hx hb htg in_M hown hK hP 0 mo_0 rfl 20 (by decide) (htg _ k_f_M_53) (fun _ h9 => h9) rfl d_M_said_49 ?_
        refine lv_iload_n hx hb d_M_said_52 rfl (lv_at hl 2 rfl) ?_
        obtain ⟨hg, hf⟩ := gd_some hf
        refine va_iald hx hb hK hP 15 0 ma_14 rfl (vin_in hg) d_M_said_53 ?_
        refine lv_goto (tgt := 58) hx hb d_M_said_54 (by decide) ?_
        obtain rfl := Option.some.inj hf
        exact W.iret hx hb hr0 (fun t ht _ => ⟨⟨rfl, by rw [ht]; exact hP⟩, hS.F ht⟩) hS.2.2 d_M_said_58 hlk
  · have hf := if_t hf c
    refine lv_iload_n hx hb d_M_said_4 rfl (lv_at hl 2 rfl) ?_
    refine lv_iconst (v := 0) hx hb d_M_said_5 (by decide) ?_
    refine lv_aload_n hx hb d_M_said_6 rfl (lv_at hl 0 rfl) ?_
    refine va_get (D := D) (v := .int (gI S 14)) hx hb htg in_M hown hK hP 0 mo_0 rfl 40 (by decide) (htg _ k_f_M_272) (fun _ h9 => h9) rfl d_M_said_7 ?_
    refine lv_iconst (v := 1) hx hb d_M_said_10 (by decide) ?_
    refine lv_isub hx hb d_M_said_11 ?_
    obtain ⟨q2, he, hf⟩ := ob_some hf
    refine cl_Si (As := [.int x1, .int (0 : Int32), .int ((gI S 14) - (1 : Int32))]) (rest := []) X (c_m_M_within he) ok_m_M_within k_m_M_112 rfl rfl hl.1 (Nat.le_of_ble_eq_true rfl) d_M_said_12 ⟨by decide, by decide⟩ hP hS (fun H locs hP hS => ?_)
    refine lv_if_eq (tgt := 27) hx hb d_M_said_15 (by decide) (fun c => ?_) (fun c => ?_)
    · have hf := if_t hf c
      refine lv_iconst (v := (-1)) hx hb d_M_said_27 (by decide) ?_
      obtain rfl := Option.some.inj hf
      exact W.iret hx hb hr0 (fun t ht _ => ⟨⟨rfl, by rw [ht]; exact hP⟩, hS.F ht⟩) hS.2.2 d_M_said_28 hlk
    · have hf := if_f hf c
      refine lv_aload_n hx hb d_M_said_18 rfl (lv_at hl 0 rfl) ?_
      refine va_get (D := D) (v := .ref (aa 24)) hx hb htg in_M hown hK hP 0 mo_0 rfl 41 (by decide) (htg _ k_f_M_84) (fun _ h9 => h9) rfl d_M_said_19 ?_
      refine lv_iload_n hx hb d_M_said_22 rfl (lv_at hl 2 rfl) ?_
      obtain ⟨hg, hf⟩ := gd_some hf
      refine va_iald hx hb hK hP 25 0 ma_24 rfl (vin_in hg) d_M_said_23 ?_
      refine lv_goto (tgt := 28) hx hb d_M_said_24 (by decide) ?_
      obtain rfl := Option.some.inj hf
      exact W.iret hx hb hr0 (fun t ht _ => ⟨⟨rfl, by rw [ht]; exact hP⟩, hS.F ht⟩) hS.2.2 d_M_said_28 hlk
theorem c_m_M_said {l : Launch} {D : va_G} {cI cZ cJ : ClassId} {ao aa : Nat → Nat} {S : St} {x0 : Int32} {x1 : Int32} {z : Int32 × St} (hz : m_M_said S x0 x1 = some z) : Ct l y_M_said (.code y_M_said b_M_said 3 (some .int) :: gw) rm_m_M_said D [(cI, .int), (cZ, .boolean), (cJ, .long)] (mA ao aa) (mW cI cZ cJ ao aa) [.ref (ao 0), .int x0, .int x1] S (some (.int z.1)) z.2 :=
  Ct_of (by decide) (fun p e s m args below meth c X => w_m_M_said X _ _ _ hz) (Nat.le_of_ble_eq_true rfl)
end

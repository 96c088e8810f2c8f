section
variable {p : Program} {l : Launch} {e : Env} {s : State} {m : MethodId} {args : Array Value} {below : List Frame} {meth : Method} {c : Code} {D : va_G} {cI cZ cJ : ClassId} {ao aa : Nat → Nat}
def m_M_takes_b225 (S : St) (x3 : Int32) (x6 : Int32) (s0 : Int32) (s1 : Int32) : Option (Int32 × St) :=
  gd (vin s1 2) <|
  if x6 = (gI (sA S 23 s1.toNatClampNeg s0) 4) then
    (m_M_fails (sA S 23 s1.toNatClampNeg s0) (9 : Int32) x3).bind fun q3 =>
    some ((x3 + (1 : Int32)), q3)
  else
    some ((x3 + (1 : Int32)), (sA S 23 s1.toNatClampNeg s0))
def m_M_takes (S : St) (x0 : Int32) (x1 : Int32) (x2 : Int32) : Option (Int32 × St) :=
  gd (vin (((8 : Int32) * x0) + x1) 480) <|
  if (gA S 6 (((8 : Int32) * x0) + x1).toNatClampNeg) = 0 then
    gd (vin x2 60) <|
    (m_M_isOneOf S x0 x1 (gA S 15 x2.toNatClampNeg)).bind fun q10 =>
    if q10.1 = 0 then
      (m_M_fails q10.2 (5 : Int32) x2).bind fun q11 =>
      some ((x2 + (1 : Int32)), q11)
    else
      some ((x2 + (1 : Int32)), q10.2)
  else
    (m_M_slot S (gA S 6 (((8 : Int32) * x0) + x1).toNatClampNeg) x2).bind fun q1 =>
    if (5 : Int32) < (gA S 6 (((8 : Int32) * x0) + x1).toNatClampNeg) then
      if (8 : Int32) < (gA S 6 (((8 : Int32) * x0) + x1).toNatClampNeg) then
        if (gA S 6 (((8 : Int32) * x0) + x1).toNatClampNeg) = (9 : Int32) then
          (m_M_takesTopic q1 x0 x1 x2).bind fun q5 =>
          some (q5.1, q5.2)
        else
          if (gA S 6 (((8 : Int32) * x0) + x1).toNatClampNeg) = (10 : Int32) then
            gd (vin x2 60) <|
            gd (vin ((gI q1 13) - (1 : Int32)) 2) <|
            gd (vin x2 60) <|
            if (10000 : Int32) ≤ (gA (sA q1 23 ((gI q1 13) - (1 : Int32)).toNatClampNeg ((gA q1 15 x2.toNatClampNeg) - (10000 : Int32))) 15 x2.toNatClampNeg) then
              some ((x2 + (1 : Int32)), (sA q1 23 ((gI q1 13) - (1 : Int32)).toNatClampNeg ((gA q1 15 x2.toNatClampNeg) - (10000 : Int32))))
            else
              (m_M_fails (sA q1 23 ((gI q1 13) - (1 : Int32)).toNatClampNeg ((gA q1 15 x2.toNatClampNeg) - (10000 : Int32))) (8 : Int32) x2).bind fun q4 =>
              some ((x2 + (1 : Int32)), q4)
          else
            gd (vin (((8 : Int32) * x0) + x1) 480) <|
            gd (vin x2 60) <|
            (m_M_pairOf q1 (gA q1 7 (((8 : Int32) * x0) + x1).toNatClampNeg) (gA q1 15 x2.toNatClampNeg)).bind fun q2 =>
            if (gI q2.2 4) ≤ q2.1 then
              m_M_takes_b225 q2.2 x2 q2.1 (0 : Int32) ((gI q1 13) - (1 : Int32))
            else
              gd (vin q2.1 40) <|
              m_M_takes_b225 q2.2 x2 q2.1 (gA q2.2 13 q2.1.toNatClampNeg) ((gI q1 13) - (1 : Int32))
      else
        (m_M_takesSeveral q1 (gA S 6 (((8 : Int32) * x0) + x1).toNatClampNeg) x2).bind fun q6 =>
        some (q6.1, q6.2)
    else
      (m_M_takesOne q1 (gA S 6 (((8 : Int32) * x0) + x1).toNatClampNeg) x2).bind fun q7 =>
      if (gI q7.2 7) = 0 then
        (m_M_joins q7.2 q7.1).bind fun q8 =>
        if q8.1 = 0 then
          some (q7.1, q8.2)
        else
          (m_M_fails q8.2 (13 : Int32) q7.1).bind fun q9 =>
          some (q7.1, q9)
      else
        some (q7.1, q7.2)
def rm_m_M_takes : Room := { frames := 5, cells := 0, slots := 0, locals := 120 }
theorem ok_m_M_takes : CalV y_M_takes b_M_takes 7 (some .int) 3 rm_m_M_takes := ⟨kc_M_takes, ki_M_takes, kl_M_takes, ji_M, ⟨by decide, by decide, by decide +kernel⟩, rfl, rfl⟩
set_option maxHeartbeats 4000000 in
set_option maxRecDepth 100000 in
theorem w_m_M_takes_b225 {z : Int32 × St} (X : Cx b_M_takes 7 (some .int) R_M D [(cI, .int), (cZ, .boolean), (cJ, .long)] (mA ao aa) (mW cI cZ cJ ao aa) p s m args meth c) (S : St) (x3 : Int32) (x6 : Int32) (s0 : Int32) (s1 : Int32) (hf : m_M_takes_b225 S x3 x6 s0 s1 = some z) : WX rm_m_M_takes D (mA ao aa) (mW cI cZ cJ ao aa) p l e s m args below meth c (some (.int z.1)) z.2 225 [.int s0, .int s1, .ref (aa 23)] 7 [(0, .ref (ao 0)), (3, .int x3), (6, .int x6)] S := by
  intro H locs ls hP hS hl
  obtain ⟨hx, hb, hr0, hml, hown, htg, hlk, hK, hN, hI⟩ := id X
  unfold m_M_takes_b225 at hf
  obtain ⟨hg, hf⟩ := gd_some hf
  refine va_iast hx hb hK hP (hI _) hS 24 0 ma_23 rfl (vin_in hg) d_M_takes_225 (fun H locs hP _ hS => ?_)
  replace hP : va_P D classes (mW cI cZ cJ ao aa (sA S 23 s1.toNatClampNeg s0)) H := pw mt_23 hP
  refine lv_iload hx hb d_M_takes_226 (lv_at hl 2 rfl) ?_
  refine lv_aload_n hx hb d_M_takes_228 rfl (lv_at hl 0 rfl) ?_
  refine va_get (D := D) (v := .int (gI (sA S 23 s1.toNatClampNeg s0) 4)) hx hb htg in_M hown hK hP 0 mo_0 rfl 15 (by decide) (htg _ k_f_M_147) (fun _ h9 => h9) rfl d_M_takes_229 ?_
  refine lv_icmp_ne (tgt := 242) hx hb d_M_takes_232 (by decide) (fun c => ?_) (fun c => ?_)
  · have hf := if_f hf c
    refine lv_iload_n hx hb d_M_takes_242 rfl (lv_at hl 1 rfl) ?_
    refine lv_iconst (v := 1) hx hb d_M_takes_243 (by decide) ?_
    refine lv_iadd hx hb d_M_takes_244 ?_
    obtain rfl := Option.some.inj hf
    exact W.iret hx hb hr0 (fun t ht _ => ⟨⟨rfl, by rw [ht]; exact hP⟩, hS.F ht⟩) hS.2.2 d_M_takes_245 hlk
  · have hf := if_t hf c
    refine lv_aload_n hx hb d_M_takes_235 rfl (lv_at hl 0 rfl) ?_
    refine lv_bipush (v := 9) hx hb d_M_takes_236 (by decide) ?_
    refine lv_iload_n hx hb d_M_takes_238 rfl (lv_at hl 1 rfl) ?_
    obtain ⟨q3, he, hf⟩ := ob_some hf
    refine cl_Vv (As := [.int (9 : Int32), .int x3]) (rest := []) X (c_m_M_fails he) ok_m_M_fails k_m_M_205 (va_recv hK hP rfl mo_0) rfl rfl hl.1 (Nat.le_of_ble_eq_true rfl) d_M_takes_239 ⟨by decide, by decide⟩ hP hS (fun H locs hP hS => ?_)
    refine lv_iload_n hx hb d_M_takes_242 rfl (lv_at hl 1 rfl) ?_
    refine lv_iconst (v := 1) hx hb d_M_takes_243 (by decide) ?_
    refine lv_iadd hx hb d_M_takes_244 ?_
    obtain rfl := Option.some.inj hf
    exact W.iret hx hb hr0 (fun t ht _ => ⟨⟨rfl, by rw [ht]; exact hP⟩, hS.F ht⟩) hS.2.2 d_M_takes_245 hlk
set_option maxHeartbeats 4000000 in
set_option maxRecDepth 100000 in
theorem w_m_M_takes {z : Int32 × St} (X : Cx b_M_takes 7 (some .int) R_M D [(cI, .int), (cZ, .boolean), (cJ, .long)] (mA ao aa) (mW cI cZ cJ ao aa) p s m args meth c) (S : St) (x0 : Int32) (x1 : Int32) (x2 : Int32) (hf : m_M_takes S x0 x1 x2 = some z) : WX rm_m_M_takes D (mA ao aa) (mW cI cZ cJ ao aa) p l e s m args below meth c (some (.int z.1)) z.2 0 [] 7 [(0, .ref (ao 0)), (1, .int x0), (2, .int x1), (3, .int x2)] S := by
  intro H locs ls hP hS hl
  obtain ⟨hx, hb, hr0, hml, hown, htg, hlk, hK, hN, hI⟩ := id X
  unfold m_M_takes at hf
  refine lv_aload_n hx hb d_M_takes_0 rfl (lv_at hl 0 rfl) ?_
  refine va_get (D := D) (v := .ref (aa 6)) hx hb htg in_M hown hK hP 0 mo_0 rfl 9 (by decide) (htg _ k_f_M_29) (fun _ h9 => h9) rfl d_M_takes_1 ?_
  refine lv_bipush (v := 8) hx hb d_M_takes_4 (by decide) ?_
  refine lv_iload_n hx hb d_M_takes_6 rfl (lv_at hl 1 rfl) ?_
  refine lv_imul hx hb d_M_takes_7 ?_
  refine lv_iload_n hx hb d_M_takes_8 rfl (lv_at hl 2 rfl) ?_
  refine lv_iadd hx hb d_M_takes_9 ?_
  obtain ⟨hg, hf⟩ := gd_some hf
  refine va_iald hx hb hK hP 7 0 ma_6 rfl (vin_in hg) d_M_takes_10 ?_
  refine lv_istore (lv' := [(4, .int (gA S 6 (((8 : Int32) * x0) + x1).toNatClampNeg)), (0, .ref (ao 0)), (1, .int x0), (2, .int x1), (3, .int x2)]) hx hb d_M_takes_11 hl (by decide) rfl (fun ls hl => ?_)
  refine lv_iload hx hb d_M_takes_13 (lv_at hl 0 rfl) ?_
  refine lv_if_ne (tgt := 43) hx hb d_M_takes_15 (by decide) (fun c => ?_) (fun c => ?_)
  · have hf := if_f hf c
    refine lv_aload_n hx hb d_M_takes_43 rfl (lv_at hl 1 rfl) ?_
    refine lv_iload hx hb d_M_takes_44 (lv_at hl 0 rfl) ?_
    refine lv_iload_n hx hb d_M_takes_46 rfl (lv_at hl 4 rfl) ?_
    obtain ⟨q1, he, hf⟩ := ob_some hf
    refine cl_Vv (As := [.int (gA S 6 (((8 : Int32) * x0) + x1).toNatClampNeg), .int x2]) (rest := []) X (c_m_M_slot he) ok_m_M_slot k_m_M_214 (va_recv hK hP rfl mo_0) rfl rfl hl.1 (Nat.le_of_ble_eq_true rfl) d_M_takes_47 ⟨by decide, by decide⟩ hP hS (fun H locs hP hS => ?_)
    refine lv_iload hx hb d_M_takes_50 (lv_at hl 0 rfl) ?_
    refine lv_iconst (v := 5) hx hb d_M_takes_52 (by decide) ?_
    refine lv_icmp_gt (tgt := 92) hx hb d_M_takes_53 (by decide) (fun c => ?_) (fun c => ?_)
    · have hf := if_t hf c
      refine lv_iload hx hb d_M_takes_92 (lv_at hl 0 rfl) ?_
      refine lv_bipush (v := 8) hx hb d_M_takes_94 (by decide) ?_
      refine lv_icmp_gt (tgt := 107) hx hb d_M_takes_96 (by decide) (fun c => ?_) (fun c => ?_)
      · have hf := if_t hf c
        refine lv_iload hx hb d_M_takes_107 (lv_at hl 0 rfl) ?_
        refine lv_bipush (v := 9) hx hb d_M_takes_109 (by decide) ?_
        refine lv_icmp_ne (tgt := 122) hx hb d_M_takes_111 (by decide) (fun c => ?_) (fun c => ?_)
        · have hf := if_f hf c
          refine lv_aload_n hx hb d_M_takes_122 rfl (lv_at hl 1 rfl) ?_
          refine va_get (D := D) (v := .int (gI q1 13)) hx hb htg in_M hown hK hP 0 mo_0 rfl 33 (by decide) (htg _ k_f_M_186) (fun _ h9 => h9) rfl d_M_takes_123 ?_
          refine lv_iconst (v := 1) hx hb d_M_takes_126 (by decide) ?_
          refine lv_isub hx hb d_M_takes_127 ?_
          refine lv_istore (lv' := [(5, .int ((gI q1 13) - (1 : Int32))), (4, .int (gA S 6 (((8 : Int32) * x0) + x1).toNatClampNeg)), (0, .ref (ao 0)), (1, .int x0), (2, .int x1), (3, .int x2)]) hx hb d_M_takes_128 hl (by decide) rfl (fun ls hl => ?_)
          refine lv_iload hx hb d_M_takes_130 (lv_at hl 1 rfl) ?_
          refine lv_bipush (v := 10) hx hb d_M_takes_132 (by decide) ?_
          refine lv_icmp_ne (tgt := 176) hx hb d_M_takes_134 (by decide) (fun c => ?_) (fun c => ?_)
          · have hf := if_f hf c
            refine lv_aload_n hx hb d_M_takes_176 rfl (lv_at hl 2 rfl) ?_
            refine lv_aload_n hx hb d_M_takes_177 rfl (lv_at hl 2 rfl) ?_
            refine va_get (D := D) (v := .ref (aa 7)) hx hb htg in_M hown hK hP 0 mo_0 rfl 10 (by decide) (htg _ k_f_M_32) (fun _ h9 => h9) rfl d_M_takes_178 ?_
            refine lv_bipush (v := 8) hx hb d_M_takes_181 (by decide) ?_
            refine lv_iload_n hx hb d_M_takes_183 rfl (lv_at hl 3 rfl) ?_
            refine lv_imul hx hb d_M_takes_184 ?_
            refine lv_iload_n hx hb d_M_takes_185 rfl (lv_at hl 4 rfl) ?_
            refine lv_iadd hx hb d_M_takes_186 ?_
            obtain ⟨hg, hf⟩ := gd_some hf
            refine va_iald hx hb hK hP 8 0 ma_7 rfl (vin_in hg) d_M_takes_187 ?_
            refine lv_aload_n hx hb d_M_takes_188 rfl (lv_at hl 2 rfl) ?_
            refine va_get (D := D) (v := .ref (aa 15)) hx hb htg in_M hown hK hP 0 mo_0 rfl 21 (by decide) (htg _ k_f_M_56) (fun _ h9 => h9) rfl d_M_takes_189 ?_
            refine lv_iload_n hx hb d_M_takes_192 rfl (lv_at hl 5 rfl) ?_
            obtain ⟨hg, hf⟩ := gd_some hf
            refine va_iald hx hb hK hP 16 0 ma_15 rfl (vin_in hg) d_M_takes_193 ?_
            obtain ⟨q2, he, hf⟩ := ob_some hf
            refine cl_Vi (As := [.int (gA q1 7 (((8 : Int32) * x0) + x1).toNatClampNeg), .int (gA q1 15 x2.toNatClampNeg)]) (rest := []) X (c_m_M_pairOf he) ok_m_M_pairOf k_m_M_150 (va_recv hK hP rfl mo_0) rfl rfl hl.1 (Nat.le_of_ble_eq_true rfl) d_M_takes_194 ⟨by decide, by decide⟩ hP hS (fun H locs hP hS => ?_)
            refine lv_istore (lv' := [(6, .int q2.1), (5, .int ((gI q1 13) - (1 : Int32))), (4, .int (gA S 6 (((8 : Int32) * x0) + x1).toNatClampNeg)), (0, .ref (ao 0)), (1, .int x0), (2, .int x1), (3, .int x2)]) hx hb d_M_takes_197 hl (by decide) rfl (fun ls hl => ?_)
            refine lv_aload_n hx hb d_M_takes_199 rfl (lv_at hl 3 rfl) ?_
            refine va_get (D := D) (v := .ref (aa 23)) hx hb htg in_M hown hK hP 0 mo_0 rfl 39 (by decide) (htg _ k_f_M_81) (fun _ h9 => h9) rfl d_M_takes_200 ?_
            refine lv_iload hx hb d_M_takes_203 (lv_at hl 1 rfl) ?_
            refine lv_iload hx hb d_M_takes_205 (lv_at hl 0 rfl) ?_
            refine lv_aload_n hx hb d_M_takes_207 rfl (lv_at hl 3 rfl) ?_
            refine va_get (D := D) (v := .int (gI q2.2 4)) hx hb htg in_M hown hK hP 0 mo_0 rfl 15 (by decide) (htg _ k_f_M_147) (fun _ h9 => h9) rfl d_M_takes_208 ?_
            refine lv_icmp_ge (tgt := 224) hx hb d_M_takes_211 (by decide) (fun c => ?_) (fun c => ?_)
            · have hf := if_t hf c
              refine lv_iconst (v := 0) hx hb d_M_takes_224 (by decide) ?_
              exact w_m_M_takes_b225 X _ _ _ _ _ hf H locs ls hP hS (lv_sub hl [3, 6, 0] rfl)
            · have hf := if_f hf c
              refine lv_aload_n hx hb d_M_takes_214 rfl (lv_at hl 3 rfl) ?_
              refine va_get (D := D) (v := .ref (aa 13)) hx hb htg in_M hown hK hP 0 mo_0 rfl 18 (by decide) (htg _ k_f_M_50) (fun _ h9 => h9) rfl d_M_takes_215 ?_
              refine lv_iload hx hb d_M_takes_218 (lv_at hl 0 rfl) ?_
              obtain ⟨hg, hf⟩ := gd_some hf
              refine va_iald hx hb hK hP 14 0 ma_13 rfl (vin_in hg) d_M_takes_220 ?_
              refine lv_goto (tgt := 225) hx hb d_M_takes_221 (by decide) ?_
              exact w_m_M_takes_b225 X _ _ _ _ _ hf H locs ls hP hS (lv_sub hl [3, 6, 0] rfl)
          · have hf := if_t hf c
            refine lv_aload_n hx hb d_M_takes_137 rfl (lv_at hl 2 rfl) ?_
            refine va_get (D := D) (v := .ref (aa 23)) hx hb htg in_M hown hK hP 0 mo_0 rfl 39 (by decide) (htg _ k_f_M_81) (fun _ h9 => h9) rfl d_M_takes_138 ?_
            refine lv_iload hx hb d_M_takes_141 (lv_at hl 0 rfl) ?_
            refine lv_aload_n hx hb d_M_takes_143 rfl (lv_at hl 2 rfl) ?_
            refine va_get (D := D) (v := .ref (aa 15)) hx hb htg in_M hown hK hP 0 mo_0 rfl 21 (by decide) (htg _ k_f_M_56) (fun _ h9 => h9) rfl d_M_takes_144 ?_
            refine lv_iload_n hx hb d_M_takes_147 rfl (lv_at hl 5 rfl) ?_
            obtain ⟨hg, hf⟩ := gd_some hf
            refine va_iald hx hb hK hP 16 0 ma_15 rfl (vin_in hg) d_M_takes_148 ?_
            refine lv_sipush (v := 10000) hx hb d_M_takes_149 (by decide) ?_
            refine lv_isub hx hb d_M_takes_152 ?_
            obtain ⟨hg, hf⟩ := gd_some hf
            refine va_iast hx hb hK hP (hI _) hS 24 0 ma_23 rfl (vin_in hg) d_M_takes_153 (fun H locs hP _ hS => ?_)
            replace hP : va_P D classes (mW cI cZ cJ ao aa (sA q1 23 ((gI q1 13) - (1 : Int32)).toNatClampNeg ((gA q1 15 x2.toNatClampNeg) - (10000 : Int32)))) H := pw mt_23 hP
            refine lv_aload_n hx hb d_M_takes_154 rfl (lv_at hl 2 rfl) ?_
            refine va_get (D := D) (v := .ref (aa 15)) hx hb htg in_M hown hK hP 0 mo_0 rfl 21 (by decide) (htg _ k_f_M_56) (fun _ h9 => h9) rfl d_M_takes_155 ?_
            refine lv_iload_n hx hb d_M_takes_158 rfl (lv_at hl 5 rfl) ?_
            obtain ⟨hg, hf⟩ := gd_some hf
            refine va_iald hx hb hK hP 16 0 ma_15 rfl (vin_in hg) d_M_takes_159 ?_
            refine lv_sipush (v := 10000) hx hb d_M_takes_160 (by decide) ?_
            refine lv_icmp_ge (tgt := 242) hx hb d_M_takes_163 (by decide) (fun c => ?_) (fun c => ?_)
            · have hf := if_t hf c
              refine lv_iload_n hx hb d_M_takes_242 rfl (lv_at hl 5 rfl) ?_
              refine lv_iconst (v := 1) hx hb d_M_takes_243 (by decide) ?_
              refine lv_iadd hx hb d_M_takes_244 ?_
              obtain rfl := Option.some.inj hf
              exact W.iret hx hb hr0 (fun t ht _ => ⟨⟨rfl, by rw [ht]; exact hP⟩, hS.F ht⟩) hS.2.2 d_M_takes_245 hlk
            · have hf := if_f hf c
              refine lv_aload_n hx hb d_M_takes_166 rfl (lv_at hl 2 rfl) ?_
              refine lv_bipush (v := 8) hx hb d_M_takes_167 (by decide) ?_
              refine lv_iload_n hx hb d_M_takes_169 rfl (lv_at hl 5 rfl) ?_
              obtain ⟨q4, he, hf⟩ := ob_some hf
              refine cl_Vv (As := [.int (8 : Int32), .int x2]) (rest := []) X (c_m_M_fails he) ok_m_M_fails k_m_M_205 (va_recv hK hP rfl mo_0) rfl rfl hl.1 (Nat.le_of_ble_eq_true rfl) d_M_takes_170 ⟨by decide, by decide⟩ hP hS (fun H locs hP hS => ?_)
              refine lv_goto (tgt := 242) hx hb d_M_takes_173 (by decide) ?_
              refine lv_iload_n hx hb d_M_takes_242 rfl (lv_at hl 5 rfl) ?_
              refine lv_iconst (v := 1) hx hb d_M_takes_243 (by decide) ?_
              refine lv_iadd hx hb d_M_takes_244 ?_
              obtain rfl := Option.some.inj hf
              exact W.iret hx hb hr0 (fun t ht _ => ⟨⟨rfl, by rw [ht]; exact hP⟩, hS.F ht⟩) hS.2.2 d_M_takes_245 hlk
        · have hf := if_t hf c
          refine lv_aload_n hx hb d_M_takes_114 rfl (lv_at hl 1 rfl) ?_
          refine lv_iload_n hx hb d_M_takes_115 rfl (lv_at hl 2 rfl) ?_
          refine lv_iload_n hx hb d_M_takes_116 rfl (lv_at hl 3 rfl) ?_
          refine lv_iload_n hx hb d_M_takes_117 rfl (lv_at hl 4 rfl) ?_
          obtain ⟨q5, he, hf⟩ := ob_some hf
          refine cl_Vi (As := [.int x0, .int x1, .int x2]) (rest := []) X (c_m_M_takesTopic he) ok_m_M_takesTopic k_m_M_226 (va_recv hK hP rfl mo_0) rfl rfl hl.1 (Nat.le_of_ble_eq_true rfl) d_M_takes_118 ⟨by decide, by decide⟩ hP hS (fun H locs hP hS => ?_)
          obtain rfl := Option.some.inj hf
          exact W.iret hx hb hr0 (fun t ht _ => ⟨⟨rfl, by rw [ht]; exact hP⟩, hS.F ht⟩) hS.2.2 d_M_takes_121 hlk
      · have hf := if_f hf c
        refine lv_aload_n hx hb d_M_takes_99 rfl (lv_at hl 1 rfl) ?_
        refine lv_iload hx hb d_M_takes_100 (lv_at hl 0 rfl) ?_
        refine lv_iload_n hx hb d_M_takes_102 rfl (lv_at hl 4 rfl) ?_
        obtain ⟨q6, he, hf⟩ := ob_some hf
        refine cl_Vi (As := [.int (gA S 6 (((8 : Int32) * x0) + x1).toNatClampNeg), .int x2]) (rest := []) X (c_m_M_takesSeveral he) ok_m_M_takesSeveral k_m_M_223 (va_recv hK hP rfl mo_0) rfl rfl hl.1 (Nat.le_of_ble_eq_true rfl) d_M_takes_103 ⟨by decide, by decide⟩ hP hS (fun H locs hP hS => ?_)
        obtain rfl := Option.some.inj hf
        exact W.iret hx hb hr0 (fun t ht _ => ⟨⟨rfl, by rw [ht]; exact hP⟩, hS.F ht⟩) hS.2.2 d_M_takes_106 hlk
    · have hf := if_f hf c
      refine lv_aload_n hx hb d_M_takes_56 rfl (lv_at hl 1 rfl) ?_
      refine lv_iload hx hb d_M_takes_57 (lv_at hl 0 rfl) ?_
      refine lv_iload_n hx hb d_M_takes_59 rfl (lv_at hl 4 rfl) ?_
      obtain ⟨q7, he, hf⟩ := ob_some hf
      refine cl_Vi (As := [.int (gA S 6 (((8 : Int32) * x0) + x1).toNatClampNeg), .int x2]) (rest := []) X (c_m_M_takesOne he) ok_m_M_takesOne k_m_M_217 (va_recv hK hP rfl mo_0) rfl rfl hl.1 (Nat.le_of_ble_eq_true rfl) d_M_takes_60 ⟨by decide, by decide⟩ hP hS (fun H locs hP hS => ?_)
      refine lv_istore (lv' := [(5, .int q7.1), (4, .int (gA S 6 (((8 : Int32) * x0) + x1).toNatClampNeg)), (0, .ref (ao 0)), (1, .int x0), (2, .int x1), (3, .int x2)]) hx hb d_M_takes_63 hl (by decide) rfl (fun ls hl => ?_)
      refine lv_aload_n hx hb d_M_takes_65 rfl (lv_at hl 2 rfl) ?_
      refine va_get (D := D) (v := .int (gI q7.2 7)) hx hb htg in_M hown hK hP 0 mo_0 rfl 24 (by decide) (htg _ k_f_M_180) (fun _ h9 => h9) rfl d_M_takes_66 ?_
      refine lv_if_ne (tgt := 89) hx hb d_M_takes_69 (by decide) (fun c => ?_) (fun c => ?_)
      · have hf := if_f hf c
        refine lv_iload hx hb d_M_takes_89 (lv_at hl 0 rfl) ?_
        obtain rfl := Option.some.inj hf
        exact W.iret hx hb hr0 (fun t ht _ => ⟨⟨rfl, by rw [ht]; exact hP⟩, hS.F ht⟩) hS.2.2 d_M_takes_91 hlk
      · have hf := if_t hf c
        refine lv_aload_n hx hb d_M_takes_72 rfl (lv_at hl 2 rfl) ?_
        refine lv_iload hx hb d_M_takes_73 (lv_at hl 0 rfl) ?_
        obtain ⟨q8, he, hf⟩ := ob_some hf
        refine cl_Vi (As := [.int q7.1]) (rest := []) X (c_m_M_joins he) ok_m_M_joins k_m_M_220 (va_recv hK hP rfl mo_0) rfl rfl hl.1 (Nat.le_of_ble_eq_true rfl) d_M_takes_75 ⟨by decide, by decide⟩ hP hS (fun H locs hP hS => ?_)
        refine lv_if_eq (tgt := 89) hx hb d_M_takes_78 (by decide) (fun c => ?_) (fun c => ?_)
        · have hf := if_t hf c
          refine lv_iload hx hb d_M_takes_89 (lv_at hl 0 rfl) ?_
          obtain rfl := Option.some.inj hf
          exact W.iret hx hb hr0 (fun t ht _ => ⟨⟨rfl, by rw [ht]; exact hP⟩, hS.F ht⟩) hS.2.2 d_M_takes_91 hlk
        · have hf := if_f hf c
          refine lv_aload_n hx hb d_M_takes_81 rfl (lv_at hl 2 rfl) ?_
          refine lv_bipush (v := 13) hx hb d_M_takes_82 (by decide) ?_
          refine lv_iload hx hb d_M_takes_84 (lv_at hl 0 rfl) ?_
          obtain ⟨q9, he, hf⟩ := ob_some hf
          refine cl_Vv (As := [.int (13 : Int32), .int q7.1]) (rest := []) X (c_m_M_fails he) ok_m_M_fails k_m_M_205 (va_recv hK hP rfl mo_0) rfl rfl hl.1 (Nat.le_of_ble_eq_true rfl) d_M_takes_86 ⟨by decide, by decide⟩ hP hS (fun H locs hP hS => ?_)
          refine lv_iload hx hb d_M_takes_89 (lv_at hl 0 rfl) ?_
          obtain rfl := Option.some.inj hf
          exact W.iret hx hb hr0 (fun t ht _ => ⟨⟨rfl, by rw [ht]; exact hP⟩, hS.F ht⟩) hS.2.2 d_M_takes_91 hlk
  · have hf := if_t hf c
    refine lv_aload_n hx hb d_M_takes_18 rfl (lv_at hl 1 rfl) ?_
    refine lv_iload_n hx hb d_M_takes_19 rfl (lv_at hl 2 rfl) ?_
    refine lv_iload_n hx hb d_M_takes_20 rfl (lv_at hl 3 rfl) ?_
    refine lv_aload_n hx hb d_M_takes_21 rfl (lv_at hl 1 rfl) ?_
    refine va_get (D := D) (v := .ref (aa 15)) hx hb htg in_M hown hK hP 0 mo_0 rfl 21 (by decide) (htg _ k_f_M_56) (fun _ h9 => h9) rfl d_M_takes_22 ?_
    refine lv_iload_n hx hb d_M_takes_25 rfl (lv_at hl 4 rfl) ?_
    obtain ⟨hg, hf⟩ := gd_some hf
    refine va_iald hx hb hK hP 16 0 ma_15 rfl (vin_in hg) d_M_takes_26 ?_
    obtain ⟨q10, he, hf⟩ := ob_some hf
    refine cl_Vi (As := [.int x0, .int x1, .int (gA S 15 x2.toNatClampNeg)]) (rest := []) X (c_m_M_isOneOf he) ok_m_M_isOneOf k_m_M_211 (va_recv hK hP rfl mo_0) rfl rfl hl.1 (Nat.le_of_ble_eq_true rfl) d_M_takes_27 ⟨by decide, by decide⟩ hP hS (fun H locs hP hS => ?_)
    refine lv_if_ne (tgt := 39) hx hb d_M_takes_30 (by decide) (fun c => ?_) (fun c => ?_)
    · have hf := if_f hf c
      refine lv_iload_n hx hb d_M_takes_39 rfl (lv_at hl 4 rfl) ?_
      refine lv_iconst (v := 1) hx hb d_M_takes_40 (by decide) ?_
      refine lv_iadd hx hb d_M_takes_41 ?_
      obtain rfl := Option.some.inj hf
      exact W.iret hx hb hr0 (fun t ht _ => ⟨⟨rfl, by rw [ht]; exact hP⟩, hS.F ht⟩) hS.2.2 d_M_takes_42 hlk
    · have hf := if_t hf c
      refine lv_aload_n hx hb d_M_takes_33 rfl (lv_at hl 1 rfl) ?_
      refine lv_iconst (v := 5) hx hb d_M_takes_34 (by decide) ?_
      refine lv_iload_n hx hb d_M_takes_35 rfl (lv_at hl 4 rfl) ?_
      obtain ⟨q11, he, hf⟩ := ob_some hf
      refine cl_Vv (As := [.int (5 : Int32), .int x2]) (rest := []) X (c_m_M_fails he) ok_m_M_fails k_m_M_205 (va_recv hK hP rfl mo_0) rfl rfl hl.1 (Nat.le_of_ble_eq_true rfl) d_M_takes_36 ⟨by decide, by decide⟩ hP hS (fun H locs hP hS => ?_)
      refine lv_iload_n hx hb d_M_takes_39 rfl (lv_at hl 4 rfl) ?_
      refine lv_iconst (v := 1) hx hb d_M_takes_40 (by decide) ?_
      refine lv_iadd hx hb d_M_takes_41 ?_
      obtain rfl := Option.some.inj hf
      exact W.iret hx hb hr0 (fun t ht _ => ⟨⟨rfl, by rw [ht]; exact hP⟩, hS.F ht⟩) hS.2.2 d_M_takes_42 hlk
theorem c_m_M_takes {l : Launch} {D : va_G} {cI cZ cJ : ClassId} {ao aa : Nat → Nat} {S : St} {x0 : Int32} {x1 : Int32} {x2 : Int32} {z : Int32 × St} (hz : m_M_takes S x0 x1 x2 = some z) : Ct l y_M_takes (.code y_M_takes b_M_takes 7 (some .int) :: gw) rm_m_M_takes D [(cI, .int), (cZ, .boolean), (cJ, .long)] (mA ao aa) (mW cI cZ cJ ao aa) [.ref (ao 0), .int x0, .int x1, .int x2] S (some (.int z.1)) z.2 :=
  Ct_of (by decide) (fun p e s m args below meth c X => w_m_M_takes X _ _ _ _ hz) (Nat.le_of_ble_eq_true rfl)
def m_M_goesWith (S : St) (x0 : Int32) (x1 : Int32) : Option (Int32 × St) :=
  if x0 = (2 : Int32) then
    (m_M_isInScope S x1).bind fun q6 =>
    if q6.1 = 0 then
      some ((0 : Int32), q6.2)
    else
      (m_M_isCreature q6.2 x1).bind fun q7 =>
      if q7.1 = 0 then
        some ((1 : Int32), q7.2)
      else
        some ((0 : Int32), q7.2)
  else
    if x0 = (3 : Int32) then
      (m_M_isHeld S x1).bind fun q4 =>
      if q4.1 = 0 then
        some ((0 : Int32), q4.2)
      else
        (m_M_isCreature q4.2 x1).bind fun q5 =>
        if q5.1 = 0 then
          some ((1 : Int32), q5.2)
        else
          some ((0 : Int32), q5.2)
    else
      if x0 = (4 : Int32) then
        (m_M_isWorn S x1).bind fun q3 =>
        gd (isB q3.1) <|
        some (q3.1, q3.2)
      else
        (m_M_isCreature S x1).bind fun q1 =>
        if q1.1 = 0 then
          some ((0 : Int32), q1.2)
        else
          (m_M_isInScope q1.2 x1).bind fun q2 =>
          if q2.1 = 0 then
            some ((0 : Int32), q2.2)
          else
            some ((1 : Int32), q2.2)
def rm_m_M_goesWith : Room := { frames := 2, cells := 0, slots := 0, locals := 42 }
theorem ok_m_M_goesWith : CalV y_M_goesWith b_M_goesWith 3 (some .boolean) 2 rm_m_M_goesWith := ⟨kc_M_goesWith, ki_M_goesWith, kl_M_goesWith, ji_M, ⟨by decide, by decide, by decide +kernel⟩, rfl, rfl⟩
set_option maxHeartbeats 4000000 in
set_option maxRecDepth 100000 in
theorem w_m_M_goesWith {z : Int32 × St} (X : Cx b_M_goesWith 3 (some .boolean) R_M D [(cI, .int), (cZ, .boolean), (cJ, .long)] (mA ao aa) (mW cI cZ cJ ao aa) p s m args meth c) (S : St) (x0 : Int32) (x1 : Int32) (hf : m_M_goesWith S x0 x1 = some z) : WX rm_m_M_goesWith D (mA ao aa) (mW cI cZ cJ ao aa) p l e s m args below meth c (some (.int z.1)) z.2 0 [] 3 [(0, .ref (ao 0)), (1, .int x0), (2, .int x1)] S := by
  intro H locs ls hP hS hl
  obtain ⟨hx, hb, hr0, hml, hown, htg, hlk, hK, hN, hI⟩ := id X
  unfold m_M_goesWith at hf
  refine lv_iload_n hx hb d_M_goesWith_0 rfl (lv_at hl 1 rfl) ?_
  refine lv_iconst (v := 2) hx hb d_M_goesWith_1 (by decide) ?_
  refine lv_icmp_ne (tgt := 29) hx hb d_M_goesWith_2 (by decide) (fun c => ?_) (fun c => ?_)
  · have hf := if_f hf c
    refine lv_iload_n hx hb d_M_goesWith_29 rfl (lv_at hl 1 rfl) ?_
    refine lv_iconst (v := 3) hx hb d_M_goesWith_30 (by decide) ?_
    refine lv_icmp_ne (tgt := 58) hx hb d_M_goesWith_31 (by decide) (fun c => ?_) (fun c => ?_)
    · have hf := if_f hf c
      refine lv_iload_n hx hb d_M_goesWith_58 rfl (lv_at hl 1 rfl) ?_
      refine lv_iconst (v := 4) hx hb d_M_goesWith_59 (by decide) ?_
      refine lv_icmp_ne (tgt := 71) hx hb d_M_goesWith_60 (by decide) (fun c => ?_) (fun c => ?_)
      · have hf := if_f hf c
        refine lv_aload_n hx hb d_M_goesWith_71 rfl (lv_at hl 0 rfl) ?_
        refine lv_iload_n hx hb d_M_goesWith_72 rfl (lv_at hl 2 rfl) ?_
        obtain ⟨q1, he, hf⟩ := ob_some hf
        refine cl_Vi (As := [.int x1]) (rest := []) X (c_m_M_isCreature he) ok_m_M_isCreature k_m_M_235 (va_recv hK hP rfl mo_0) rfl rfl hl.1 (Nat.le_of_ble_eq_true rfl) d_M_goesWith_73 ⟨by decide, by decide⟩ hP hS (fun H locs hP hS => ?_)
        refine lv_if_eq (tgt := 91) hx hb d_M_goesWith_76 (by decide) (fun c => ?_) (fun c => ?_)
        · have hf := if_t hf c
          refine lv_iconst (v := 0) hx hb d_M_goesWith_91 (by decide) ?_
          obtain rfl := Option.some.inj hf
          exact W.zret (ty := .boolean) hx hb hr0 rfl (fun t ht _ => ⟨⟨rfl, by rw [ht]; exact hP⟩, hS.F ht⟩) hS.2.2 d_M_goesWith_92 hlk
        · have hf := if_f hf c
          refine lv_aload_n hx hb d_M_goesWith_79 rfl (lv_at hl 0 rfl) ?_
          refine lv_iload_n hx hb d_M_goesWith_80 rfl (lv_at hl 2 rfl) ?_
          obtain ⟨q2, he, hf⟩ := ob_some hf
          refine cl_Vi (As := [.int x1]) (rest := []) X (c_m_M_isInScope he) ok_m_M_isInScope k_m_M_174 (va_recv hK hP rfl mo_0) rfl rfl hl.1 (Nat.le_of_ble_eq_true rfl) d_M_goesWith_81 ⟨by decide, by decide⟩ hP hS (fun H locs hP hS => ?_)
          refine lv_if_eq (tgt := 91) hx hb d_M_goesWith_84 (by decide) (fun c => ?_) (fun c => ?_)
          · have hf := if_t hf c
            refine lv_iconst (v := 0) hx hb d_M_goesWith_91 (by decide) ?_
            obtain rfl := Option.some.inj hf
            exact W.zret (ty := .boolean) hx hb hr0 rfl (fun t ht _ => ⟨⟨rfl, by rw [ht]; exact hP⟩, hS.F ht⟩) hS.2.2 d_M_goesWith_92 hlk
          · have hf := if_f hf c
            refine lv_iconst (v := 1) hx hb d_M_goesWith_87 (by decide) ?_
            refine lv_goto (tgt := 92) hx hb d_M_goesWith_88 (by decide) ?_
            obtain rfl := Option.some.inj hf
            exact W.zret (ty := .boolean) hx hb hr0 rfl (fun t ht _ => ⟨⟨rfl, by rw [ht]; exact hP⟩, hS.F ht⟩) hS.2.2 d_M_goesWith_92 hlk
      · have hf := if_t hf c
        refine lv_aload_n hx hb d_M_goesWith_63 rfl (lv_at hl 0 rfl) ?_
        refine lv_iload_n hx hb d_M_goesWith_64 rfl (lv_at hl 2 rfl) ?_
        obtain ⟨q3, he, hf⟩ := ob_some hf
        refine cl_Vi (As := [.int x1]) (rest := []) X (c_m_M_isWorn he) ok_m_M_isWorn k_m_M_232 (va_recv hK hP rfl mo_0) rfl rfl hl.1 (Nat.le_of_ble_eq_true rfl) d_M_goesWith_65 ⟨by decide, by decide⟩ hP hS (fun H locs hP hS => ?_)
        refine lv_goto (tgt := 92) hx hb d_M_goesWith_68 (by decide) ?_
        obtain ⟨hg, hf⟩ := gd_some hf
        obtain rfl := Option.some.inj hf
        exact W.zret (ty := .boolean) hx hb hr0 (isB_n hg) (fun t ht _ => ⟨⟨rfl, by rw [ht]; exact hP⟩, hS.F ht⟩) hS.2.2 d_M_goesWith_92 hlk
    · have hf := if_t hf c
      refine lv_aload_n hx hb d_M_goesWith_34 rfl (lv_at hl 0 rfl) ?_
      refine lv_iload_n hx hb d_M_goesWith_35 rfl (lv_at hl 2 rfl) ?_
      obtain ⟨q4, he, hf⟩ := ob_some hf
      refine cl_Vi (As := [.int x1]) (rest := []) X (c_m_M_isHeld he) ok_m_M_isHeld k_m_M_160 (va_recv hK hP rfl mo_0) rfl rfl hl.1 (Nat.le_of_ble_eq_true rfl) d_M_goesWith_36 ⟨by decide, by decide⟩ hP hS (fun H locs hP hS => ?_)
      refine lv_if_eq (tgt := 54) hx hb d_M_goesWith_39 (by decide) (fun c => ?_) (fun c => ?_)
      · have hf := if_t hf c
        refine lv_iconst (v := 0) hx hb d_M_goesWith_54 (by decide) ?_
        refine lv_goto (tgt := 92) hx hb d_M_goesWith_55 (by decide) ?_
        obtain rfl := Option.some.inj hf
        exact W.zret (ty := .boolean) hx hb hr0 rfl (fun t ht _ => ⟨⟨rfl, by rw [ht]; exact hP⟩, hS.F ht⟩) hS.2.2 d_M_goesWith_92 hlk
      · have hf := if_f hf c
        refine lv_aload_n hx hb d_M_goesWith_42 rfl (lv_at hl 0 rfl) ?_
        refine lv_iload_n hx hb d_M_goesWith_43 rfl (lv_at hl 2 rfl) ?_
        obtain ⟨q5, he, hf⟩ := ob_some hf
        refine cl_Vi (As := [.int x1]) (rest := []) X (c_m_M_isCreature he) ok_m_M_isCreature k_m_M_235 (va_recv hK hP rfl mo_0) rfl rfl hl.1 (Nat.le_of_ble_eq_true rfl) d_M_goesWith_44 ⟨by decide, by decide⟩ hP hS (fun H locs hP hS => ?_)
        refine lv_if_ne (tgt := 54) hx hb d_M_goesWith_47 (by decide) (fun c => ?_) (fun c => ?_)
        · have hf := if_f hf c
          refine lv_iconst (v := 0) hx hb d_M_goesWith_54 (by decide) ?_
          refine lv_goto (tgt := 92) hx hb d_M_goesWith_55 (by decide) ?_
          obtain rfl := Option.some.inj hf
          exact W.zret (ty := .boolean) hx hb hr0 rfl (fun t ht _ => ⟨⟨rfl, by rw [ht]; exact hP⟩, hS.F ht⟩) hS.2.2 d_M_goesWith_92 hlk
        · have hf := if_t hf c
          refine lv_iconst (v := 1) hx hb d_M_goesWith_50 (by decide) ?_
          refine lv_goto (tgt := 92) hx hb d_M_goesWith_51 (by decide) ?_
          obtain rfl := Option.some.inj hf
          exact W.zret (ty := .boolean) hx hb hr0 rfl (fun t ht _ => ⟨⟨rfl, by rw [ht]; exact hP⟩, hS.F ht⟩) hS.2.2 d_M_goesWith_92 hlk
  · have hf := if_t hf c
    refine lv_aload_n hx hb d_M_goesWith_5 rfl (lv_at hl 0 rfl) ?_
    refine lv_iload_n hx hb d_M_goesWith_6 rfl (lv_at hl 2 rfl) ?_
    obtain ⟨q6, he, hf⟩ := ob_some hf
    refine cl_Vi (As := [.int x1]) (rest := []) X (c_m_M_isInScope he) ok_m_M_isInScope k_m_M_174 (va_recv hK hP rfl mo_0) rfl rfl hl.1 (Nat.le_of_ble_eq_true rfl) d_M_goesWith_7 ⟨by decide, by decide⟩ hP hS (fun H locs hP hS => ?_)
    refine lv_if_eq (tgt := 25) hx hb d_M_goesWith_10 (by decide) (fun c => ?_) (fun c => ?_)
    · have hf := if_t hf c
      refine lv_iconst (v := 0) hx hb d_M_goesWith_25 (by decide) ?_
      refine lv_goto (tgt := 92) hx hb d_M_goesWith_26 (by decide) ?_
      obtain rfl := Option.some.inj hf
      exact W.zret (ty := .boolean) hx hb hr0 rfl (fun t ht _ => ⟨⟨rfl, by rw [ht]; exact hP⟩, hS.F ht⟩) hS.2.2 d_M_goesWith_92 hlk
    · have hf := if_f hf c
      refine lv_aload_n hx hb d_M_goesWith_13 rfl (lv_at hl 0 rfl) ?_
      refine lv_iload_n hx hb d_M_goesWith_14 rfl (lv_at hl 2 rfl) ?_
      obtain ⟨q7, he, hf⟩ := ob_some hf
      refine cl_Vi (As := [.int x1]) (rest := []) X (c_m_M_isCreature he) ok_m_M_isCreature k_m_M_235 (va_recv hK hP rfl mo_0) rfl rfl hl.1 (Nat.le_of_ble_eq_true rfl) d_M_goesWith_15 ⟨by decide, by decide⟩ hP hS (fun H locs hP hS => ?_)
      refine lv_if_ne (tgt := 25) hx hb d_M_goesWith_18 (by decide) (fun c => ?_) (fun c => ?_)
      · have hf := if_f hf c
        refine lv_iconst (v := 0) hx hb d_M_goesWith_25 (by decide) ?_
        refine lv_goto (tgt := 92) hx hb d_M_goesWith_26 (by decide) ?_
        obtain rfl := Option.some.inj hf
        exact W.zret (ty := .boolean) hx hb hr0 rfl (fun t ht _ => ⟨⟨rfl, by rw [ht]; exact hP⟩, hS.F ht⟩) hS.2.2 d_M_goesWith_92 hlk
      · have hf := if_t hf c
        refine lv_iconst (v := 1) hx hb d_M_goesWith_21 (by decide) ?_
        refine lv_goto (tgt := 92) hx hb d_M_goesWith_22 (by decide) ?_
        obtain rfl := Option.some.inj hf
        exact W.zret (ty := .boolean) hx hb hr0 rfl (fun t ht _ => ⟨⟨rfl, by rw [ht]; exact hP⟩, hS.F ht⟩) hS.2.2 d_M_goesWith_92 hlk
theorem c_m_M_goesWith {l : Launch} {D : va_G} {cI cZ cJ : ClassId} {ao aa : Nat → Nat} {S : St} {x0 : Int32} {x1 : Int32} {z : Int32 × St} (hz : m_M_goesWith S x0 x1 = some z) : Ct l y_M_goesWith (.code y_M_goesWith b_M_goesWith 3 (some .boolean) :: gw) rm_m_M_goesWith D [(cI, .int), (cZ, .boolean), (cJ, .long)] (mA ao aa) (mW cI cZ cJ ao aa) [.ref (ao 0), .int x0, .int x1] S (some (.int z.1)) z.2 :=
  Ct_of (by decide) (fun p e s m args below meth c X => w_m_M_goesWith X _ _ _ hz) (Nat.le_of_ble_eq_true rfl)
def m_M_isFilled_b197 (k2 : St → Int32 → Int32 → Option (Int32 × St)) (S : St) (x1 : Int32) (x3 : Int32) : Option (Int32 × St) :=
  (m_M_next (sI S 12 ((gI S 12) + (1 : Int32))) x1 x3).bind fun q4 =>
  k2 q4.2 x1 q4.1
def m_M_isFilled_b134 (k2 : St → Int32 → Int32 → Option (Int32 × St)) (k92 : St → Int32 → Int32 → Int32 → Int64 → Int64 → Int32 → Option (Int32 × St)) (S : St) (x1 : Int32) (x3 : Int32) (x4 : Int32) (w5 : Int64) (x9 : Int32) (s0 : Int64) : Option (Int32 × St) :=
  k92 S x1 x3 x4 w5 s0 (x9 + 1)
def m_M_isFilled_b132 (k2 : St → Int32 → Int32 → Option (Int32 × St)) (k92 : St → Int32 → Int32 → Int32 → Int64 → Int64 → Int32 → Option (Int32 × St)) (S : St) (x1 : Int32) (x3 : Int32) (x4 : Int32) (w5 : Int64) (w7 : Int64) (x9 : Int32) : Option (Int32 × St) :=
  m_M_isFilled_b134 k2 k92 S x1 x3 x4 w5 x9 w7
def m_M_isFilled_b92_f (k2 : St → Int32 → Int32 → Option (Int32 × St)) (k92 : St → Int32 → Int32 → Int32 → Int64 → Int64 → Int32 → Option (Int32 × St)) (S : St) (x1 : Int32) (x3 : Int32) (x4 : Int32) (w5 : Int64) (w7 : Int64) (x9 : Int32) : Option (Int32 × St) :=
  if (gI S 3) ≤ x9 then
    (m_M_manyOf S w7).bind fun q1 =>
    if q1.1 = (1 : Int32) then
      (m_M_slot q1.2 x4 (gI q1.2 6)).bind fun q2 =>
      gd (vin ((gI q2 13) - (1 : Int32)) 2) <|
      (m_M_thingOf (sB q2 20 ((gI q2 13) - (1 : Int32)).toNatClampNeg w7) w7 (0 : Int32)).bind fun q3 =>
      gd (vin (gI (sB q2 20 ((gI q2 13) - (1 : Int32)).toNatClampNeg w7) 12) 8) <|
      m_M_isFilled_b197 k2 (sA q3.2 17 (gI (sB q2 20 ((gI q2 13) - (1 : Int32)).toNatClampNeg w7) 12).toNatClampNeg ((20000 : Int32) + q3.1)) x1 x3
    else
      some ((0 : Int32), q1.2)
  else
    (m_M_goesWith S x4 x9).bind fun q5 =>
    if q5.1 = 0 then
      m_M_isFilled_b132 k2 k92 q5.2 x1 x3 x4 w5 w7 x9
    else
      (m_M_has q5.2 w5 x9).bind fun q6 =>
      if q6.1 = 0 then
        m_M_isFilled_b134 k2 k92 q6.2 x1 x3 x4 w5 x9 (w7 ||| ((1 : Int64) <<< (x9.toInt64 &&& 63)))
      else
        m_M_isFilled_b132 k2 k92 q6.2 x1 x3 x4 w5 w7 x9
def m_M_isFilled_b92 (k2 : St → Int32 → Int32 → Option (Int32 × St)) : Nat → St → Int32 → Int32 → Int32 → Int64 → Int64 → Int32 → Option (Int32 × St)
  | 0, _, _, _, _, _, _, _ => none
  | n + 1, S, x1, x3, x4, w5, w7, x9 => m_M_isFilled_b92_f k2 (m_M_isFilled_b92 k2 n) S x1 x3 x4 w5 w7 x9
def m_M_isFilled_b59_f (k2 : St → Int32 → Int32 → Option (Int32 × St)) (k59 : St → Int32 → Int32 → Int32 → Int64 → Int32 → Option (Int32 × St)) (S : St) (x1 : Int32) (x3 : Int32) (x4 : Int32) (w5 : Int64) (x7 : Int32) : Option (Int32 × St) :=
  if (gI S 13) ≤ x7 then
    m_M_isFilled_b92 k2 fu S x1 x3 x4 w5 (0 : Int64) (0 : Int32)
  else
    gd (vin x7 2) <|
    k59 S x1 x3 x4 (w5 ||| (gB S 20 x7.toNatClampNeg)) (x7 + 1)
def m_M_isFilled_b59 (k2 : St → Int32 → Int32 → Option (Int32 × St)) : Nat → St → Int32 → Int32 → Int32 → Int64 → Int32 → Option (Int32 × St)
  | 0, _, _, _, _, _, _ => none
  | n + 1, S, x1, x3, x4, w5, x7 => m_M_isFilled_b59_f k2 (m_M_isFilled_b59 k2 n) S x1 x3 x4 w5 x7
def m_M_isFilled_b2_f (k2 : St → Int32 → Int32 → Option (Int32 × St)) (S : St) (x1 : Int32) (x3 : Int32) : Option (Int32 × St) :=
  gd (vin x1 60) <|
  if (gA S 5 x1.toNatClampNeg) ≤ x3 then
    some ((1 : Int32), S)
  else
    gd (vin (((8 : Int32) * x1) + x3) 480) <|
    if (gA S 6 (((8 : Int32) * x1) + x3).toNatClampNeg) = 0 then
      gd (vin (((8 : Int32) * x1) + x3) 480) <|
      gd (vin (gI S 12) 8) <|
      m_M_isFilled_b197 k2 (sA S 17 (gI S 12).toNatClampNeg (gA S 7 (((8 : Int32) * x1) + x3).toNatClampNeg)) x1 x3
    else
      m_M_isFilled_b59 k2 fu S x1 x3 (gA S 6 (((8 : Int32) * x1) + x3).toNatClampNeg) (0 : Int64) (0 : Int32)
def m_M_isFilled_b2 : Nat → St → Int32 → Int32 → Option (Int32 × St)
  | 0, _, _, _ => none
  | n + 1, S, x1, x3 => m_M_isFilled_b2_f (m_M_isFilled_b2 n) S x1 x3
def m_M_isFilled (S : St) (x0 : Int32) (x1 : Int32) : Option (Int32 × St) :=
  m_M_isFilled_b2 fu S x0 x1
def rm_m_M_isFilled : Room := { frames := 3, cells := 0, slots := 0, locals := 64 }
theorem ok_m_M_isFilled : CalV y_M_isFilled b_M_isFilled 10 (some .boolean) 2 rm_m_M_isFilled := ⟨kc_M_isFilled, ki_M_isFilled, kl_M_isFilled, ji_M, ⟨by decide, by decide, by decide +kernel⟩, rfl, rfl⟩
set_option maxHeartbeats 4000000 in
set_option maxRecDepth 100000 in
theorem w_m_M_isFilled_b197 {z : Int32 × St} (X : Cx b_M_isFilled 10 (some .boolean) R_M D [(cI, .int), (cZ, .boolean), (cJ, .long)] (mA ao aa) (mW cI cZ cJ ao aa) p s m args meth c) {k2 : St → Int32 → Int32 → Option (Int32 × St)} (hk2 : ∀ (S : St) (x1 : Int32) (x3 : Int32), k2 S x1 x3 = some z → WX rm_m_M_isFilled D (mA ao aa) (mW cI cZ cJ ao aa) p l e s m args below meth c (some (.int z.1)) z.2 2 [] 10 [(0, .ref (ao 0)), (1, .int x1), (3, .int x3)] S) (S : St) (x1 : Int32) (x3 : Int32) (hf : m_M_isFilled_b197 k2 S x1 x3 = some z) : WX rm_m_M_isFilled D (mA ao aa) (mW cI cZ cJ ao aa) p l e s m args below meth c (some (.int z.1)) z.2 197 [] 10 [(0, .ref (ao 0)), (1, .int x1), (3, .int x3)] S := by
  intro H locs ls hP hS hl
  obtain ⟨hx, hb, hr0, hml, hown, htg, hlk, hK, hN, hI⟩ := id X
  unfold m_M_isFilled_b197 at hf
  refine lv_aload_n hx hb d_M_isFilled_197 rfl (lv_at hl 0 rfl) ?_
  refine lv_dup hx hb d_M_isFilled_198 rfl ?_
  refine va_get (D := D) (v := .int (gI S 12)) hx hb htg in_M hown hK hP 0 mo_0 rfl 31 (by decide) (htg _ k_f_M_192) (fun _ h9 => h9) rfl d_M_isFilled_199 ?_
  refine lv_iconst (v := 1) hx hb d_M_isFilled_202 (by decide) ?_
  refine lv_iadd hx hb d_M_isFilled_203 ?_
  refine va_put (D := D) (ty := .int) hx hb htg in_M t_M t_M_ok n_M hown hK hP (hI _) hS 0 mo_0 rfl 31 (by decide) (htg _ k_f_M_192) (fun _ h9 => h9) rfl (by decide +kernel) rfl rfl (Nat.le_of_ble_eq_true rfl) d_M_isFilled_204 (fun H locs hP _ hS => ?_)
  replace hP : va_P D classes (mW cI cZ cJ ao aa (sI S 12 ((gI S 12) + (1 : Int32)))) H := pw ms_0_fills hP
  refine lv_aload_n hx hb d_M_isFilled_207 rfl (lv_at hl 0 rfl) ?_
  refine lv_iload_n hx hb d_M_isFilled_208 rfl (lv_at hl 1 rfl) ?_
  refine lv_iload_n hx hb d_M_isFilled_209 rfl (lv_at hl 2 rfl) ?_
  obtain ⟨q4, he, hf⟩ := ob_some hf
  refine cl_Vi (As := [.int x1, .int x3]) (rest := []) X (c_m_M_next he) ok_m_M_next k_m_M_189 (va_recv hK hP rfl mo_0) rfl rfl hl.1 (Nat.le_of_ble_eq_true rfl) d_M_isFilled_210 ⟨by decide, by decide⟩ hP hS (fun H locs hP hS => ?_)
  refine lv_istore_n (lv' := [(3, .int q4.1), (0, .ref (ao 0)), (1, .int x1)]) hx hb d_M_isFilled_213 rfl hl (by decide) rfl (fun ls hl => ?_)
  refine lv_goto (tgt := 2) hx hb d_M_isFilled_214 (by decide) ?_
  exact hk2 _ _ _ hf H locs ls hP hS (lv_sub hl [1, 2, 0] rfl)
set_option maxHeartbeats 4000000 in
set_option maxRecDepth 100000 in
theorem w_m_M_isFilled_b134 {z : Int32 × St} (X : Cx b_M_isFilled 10 (some .boolean) R_M D [(cI, .int), (cZ, .boolean), (cJ, .long)] (mA ao aa) (mW cI cZ cJ ao aa) p s m args meth c) {k2 : St → Int32 → Int32 → Option (Int32 × St)} (hk2 : ∀ (S : St) (x1 : Int32) (x3 : Int32), k2 S x1 x3 = some z → WX rm_m_M_isFilled D (mA ao aa) (mW cI cZ cJ ao aa) p l e s m args below meth c (some (.int z.1)) z.2 2 [] 10 [(0, .ref (ao 0)), (1, .int x1), (3, .int x3)] S) {k92 : St → Int32 → Int32 → Int32 → Int64 → Int64 → Int32 → Option (Int32 × St)} (hk92 : ∀ (S : St) (x1 : Int32) (x3 : Int32) (x4 : Int32) (w5 : Int64) (w7 : Int64) (x9 : Int32), k92 S x1 x3 x4 w5 w7 x9 = some z → WX rm_m_M_isFilled D (mA ao aa) (mW cI cZ cJ ao aa) p l e s m args below meth c (some (.int z.1)) z.2 92 [] 10 [(0, .ref (ao 0)), (1, .int x1), (3, .int x3), (4, .int x4), (5, .long w5), (7, .long w7), (9, .int x9)] S) (S : St) (x1 : Int32) (x3 : Int32) (x4 : Int32) (w5 : Int64) (x9 : Int32) (s0 : Int64) (hf : m_M_isFilled_b134 k2 k92 S x1 x3 x4 w5 x9 s0 = some z) : WX rm_m_M_isFilled D (mA ao aa) (mW cI cZ cJ ao aa) p l e s m args below meth c (some (.int z.1)) z.2 134 [.long s0] 10 [(0, .ref (ao 0)), (1, .int x1), (3, .int x3), (4, .int x4), (5, .long w5), (9, .int x9)] S := by
  intro H locs ls hP hS hl
  obtain ⟨hx, hb, hr0, hml, hown, htg, hlk, hK, hN, hI⟩ := id X
  unfold m_M_isFilled_b134 at hf
  refine lv_lstore (lv' := [(7, .long s0), (0, .ref (ao 0)), (1, .int x1), (3, .int x3), (4, .int x4), (5, .long w5), (9, .int x9)]) hx hb d_M_isFilled_134 hl (by decide) rfl (fun ls hl => ?_)
  refine lv_iinc (v := (x9 + 1)) (lv' := [(9, .int (x9 + 1)), (7, .long s0), (0, .ref (ao 0)), (1, .int x1), (3, .int x3), (4, .int x4), (5, .long w5)]) hx hb d_M_isFilled_136 hl (k := 6) rfl rfl (by decide) rfl (fun ls hl => ?_)
  refine lv_goto (tgt := 92) hx hb d_M_isFilled_139 (by decide) ?_
  exact hk92 _ _ _ _ _ _ _ hf H locs ls hP hS (lv_sub hl [2, 3, 4, 5, 6, 1, 0] rfl)
set_option maxHeartbeats 4000000 in
set_option maxRecDepth 100000 in
theorem w_m_M_isFilled_b132 {z : Int32 × St} (X : Cx b_M_isFilled 10 (some .boolean) R_M D [(cI, .int), (cZ, .boolean), (cJ, .long)] (mA ao aa) (mW cI cZ cJ ao aa) p s m args meth c) {k2 : St → Int32 → Int32 → Option (Int32 × St)} (hk2 : ∀ (S : St) (x1 : Int32) (x3 : Int32), k2 S x1 x3 = some z → WX rm_m_M_isFilled D (mA ao aa) (mW cI cZ cJ ao aa) p l e s m args below meth c (some (.int z.1)) z.2 2 [] 10 [(0, .ref (ao 0)), (1, .int x1), (3, .int x3)] S) {k92 : St → Int32 → Int32 → Int32 → Int64 → Int64 → Int32 → Option (Int32 × St)} (hk92 : ∀ (S : St) (x1 : Int32) (x3 : Int32) (x4 : Int32) (w5 : Int64) (w7 : Int64) (x9 : Int32), k92 S x1 x3 x4 w5 w7 x9 = some z → WX rm_m_M_isFilled D (mA ao aa) (mW cI cZ cJ ao aa) p l e s m args below meth c (some (.int z.1)) z.2 92 [] 10 [(0, .ref (ao 0)), (1, .int x1), (3, .int x3), (4, .int x4), (5, .long w5), (7, .long w7), (9, .int x9)] S) (S : St) (x1 : Int32) (x3 : Int32) (x4 : Int32) (w5 : Int64) (w7 : Int64) (x9 : Int32) (hf : m_M_isFilled_b132 k2 k92 S x1 x3 x4 w5 w7 x9 = some z) : WX rm_m_M_isFilled D (mA ao aa) (mW cI cZ cJ ao aa) p l e s m args below meth c (some (.int z.1)) z.2 132 [] 10 [(0, .ref (ao 0)), (1, .int x1), (3, .int x3), (4, .int x4), (5, .long w5), (7, .long w7), (9, .int x9)] S := by
  intro H locs ls hP hS hl
  obtain ⟨hx, hb, hr0, hml, hown, htg, hlk, hK, hN, hI⟩ := id X
  unfold m_M_isFilled_b132 at hf
  refine lv_lload hx hb d_M_isFilled_132 (lv_at hl 5 rfl) ?_
  exact w_m_M_isFilled_b134 X hk2 hk92 _ _ _ _ _ _ _ hf H locs ls hP hS (lv_sub hl [0, 1, 2, 3, 4, 6] rfl)
set_option maxHeartbeats 4000000 in
set_option maxRecDepth 100000 in
theorem w_m_M_isFilled_b92_f {z : Int32 × St} (X : Cx b_M_isFilled 10 (some .boolean) R_M D [(cI, .int), (cZ, .boolean), (cJ, .long)] (mA ao aa) (mW cI cZ cJ ao aa) p s m args meth c) {k2 : St → Int32 → Int32 → Option (Int32 × St)} (hk2 : ∀ (S : St) (x1 : Int32) (x3 : Int32), k2 S x1 x3 = some z → WX rm_m_M_isFilled D (mA ao aa) (mW cI cZ cJ ao aa) p l e s m args below meth c (some (.int z.1)) z.2 2 [] 10 [(0, .ref (ao 0)), (1, .int x1), (3, .int x3)] S) {k92 : St → Int32 → Int32 → Int32 → Int64 → Int64 → Int32 → Option (Int32 × St)} (hk92 : ∀ (S : St) (x1 : Int32) (x3 : Int32) (x4 : Int32) (w5 : Int64) (w7 : Int64) (x9 : Int32), k92 S x1 x3 x4 w5 w7 x9 = some z → WX rm_m_M_isFilled D (mA ao aa) (mW cI cZ cJ ao aa) p l e s m args below meth c (some (.int z.1)) z.2 92 [] 10 [(0, .ref (ao 0)), (1, .int x1), (3, .int x3), (4, .int x4), (5, .long w5), (7, .long w7), (9, .int x9)] S) (S : St) (x1 : Int32) (x3 : Int32) (x4 : Int32) (w5 : Int64) (w7 : Int64) (x9 : Int32) (hf : m_M_isFilled_b92_f k2 k92 S x1 x3 x4 w5 w7 x9 = some z) : WX rm_m_M_isFilled D (mA ao aa) (mW cI cZ cJ ao aa) p l e s m args below meth c (some (.int z.1)) z.2 92 [] 10 [(0, .ref (ao 0)), (1, .int x1), (3, .int x3), (4, .int x4), (5, .long w5), (7, .long w7), (9, .int x9)] S := by
  intro H locs ls hP hS hl
  obtain ⟨hx, hb, hr0, hml, hown, htg, hlk, hK, hN, hI⟩ := id X
  unfold m_M_isFilled_b92_f at hf
  refine lv_iload hx hb d_M_isFilled_92 (lv_at hl 6 rfl) ?_
  refine lv_aload_n hx hb d_M_isFilled_94 rfl (lv_at hl 0 rfl) ?_
  refine va_get (D := D) (v := .int (gI S 3)) hx hb htg in_M hown hK hP 0 mo_0 rfl 11 (by decide) (htg _ k_f_M_140) (fun _ h9 => h9) rfl d_M_isFilled_95 ?_
  refine lv_icmp_ge (tgt := 142) hx hb d_M_isFilled_98 (by decide) (fun c => ?_) (fun c => ?_)
  · have hf := if_t hf c
    refine lv_aload_n hx hb d_M_isFilled_142 rfl (lv_at hl 0 rfl) ?_
    refine lv_lload hx hb d_M_isFilled_143 (lv_at hl 5 rfl) ?_
    obtain ⟨q1, he, hf⟩ := ob_some hf
    refine cl_Vi (As := [.long w7]) (rest := []) X (c_m_M_manyOf he) ok_m_M_manyOf k_m_M_238 (va_recv hK hP rfl mo_0) rfl rfl hl.1 (Nat.le_of_ble_eq_true rfl) d_M_isFilled_145 ⟨by decide, by decide⟩ hP hS (fun H locs hP hS => ?_)
    refine lv_iconst (v := 1) hx hb d_M_isFilled_148 (by decide) ?_
    refine lv_icmp_eq (tgt := 154) hx hb d_M_isFilled_149 (by decide) (fun c => ?_) (fun c => ?_)
    · have hf := if_t hf c
      refine lv_aload_n hx hb d_M_isFilled_154 rfl (lv_at hl 0 rfl) ?_
      refine lv_iload hx hb d_M_isFilled_155 (lv_at hl 3 rfl) ?_
      refine lv_aload_n hx hb d_M_isFilled_157 rfl (lv_at hl 0 rfl) ?_
      refine va_get (D := D) (v := .int (gI q1.2 6)) hx hb htg in_M hown hK hP 0 mo_0 rfl 22 (by decide) (htg _ k_f_M_167) (fun _ h9 => h9) rfl d_M_isFilled_158 ?_
      obtain ⟨q2, he, hf⟩ := ob_some hf
      refine cl_Vv (As := [.int x4, .int (gI q1.2 6)]) (rest := []) X (c_m_M_slot he) ok_m_M_slot k_m_M_214 (va_recv hK hP rfl mo_0) rfl rfl hl.1 (Nat.le_of_ble_eq_true rfl) d_M_isFilled_161 ⟨by decide, by decide⟩ hP hS (fun H locs hP hS => ?_)
      refine lv_aload_n hx hb d_M_isFilled_164 rfl (lv_at hl 0 rfl) ?_
      refine va_get (D := D) (v := .ref (aa 20)) hx hb htg in_M hown hK hP 0 mo_0 rfl 36 (by decide) (htg _ k_f_M_71) (fun _ h9 => h9) rfl d_M_isFilled_165 ?_
      refine lv_aload_n hx hb d_M_isFilled_168 rfl (lv_at hl 0 rfl) ?_
      refine va_get (D := D) (v := .int (gI q2 13)) hx hb htg in_M hown hK hP 0 mo_0 rfl 33 (by decide) (htg _ k_f_M_186) (fun _ h9 => h9) rfl d_M_isFilled_169 ?_
      refine lv_iconst (v := 1) hx hb d_M_isFilled_172 (by decide) ?_
      refine lv_isub hx hb d_M_isFilled_173 ?_
      refine lv_lload hx hb d_M_isFilled_174 (lv_at hl 5 rfl) ?_
      obtain ⟨hg, hf⟩ := gd_some hf
      refine va_last hx hb hK hP (hI _) hS 21 2 ma_20 rfl (vin_in hg) d_M_isFilled_176 (fun H locs hP _ hS => ?_)
      replace hP : va_P D classes (mW cI cZ cJ ao aa (sB q2 20 ((gI q2 13) - (1 : Int32)).toNatClampNeg w7)) H := pw mt_20 hP
      refine lv_aload_n hx hb d_M_isFilled_177 rfl (lv_at hl 0 rfl) ?_
      refine va_get (D := D) (v := .ref (aa 17)) hx hb htg in_M hown hK hP 0 mo_0 rfl 32 (by decide) (htg _ k_f_M_62) (fun _ h9 => h9) rfl d_M_isFilled_178 ?_
      refine lv_aload_n hx hb d_M_isFilled_181 rfl (lv_at hl 0 rfl) ?_
      refine va_get (D := D) (v := .int (gI (sB q2 20 ((gI q2 13) - (1 : Int32)).toNatClampNeg w7) 12)) hx hb htg in_M hown hK hP 0 mo_0 rfl 31 (by decide) (htg _ k_f_M_192) (fun _ h9 => h9) rfl d_M_isFilled_182 ?_
      refine lv_sipush (v := 20000) hx hb d_M_isFilled_185 (by decide) ?_
      refine lv_aload_n hx hb d_M_isFilled_188 rfl (lv_at hl 0 rfl) ?_
      refine lv_lload hx hb d_M_isFilled_189 (lv_at hl 5 rfl) ?_
      refine lv_iconst (v := 0) hx hb d_M_isFilled_191 (by decide) ?_
      obtain ⟨q3, he, hf⟩ := ob_some hf
      refine cl_Vi (As := [.long w7, .int (0 : Int32)]) (rest := [.int (20000 : Int32), .int (gI (sB q2 20 ((gI q2 13) - (1 : Int32)).toNatClampNeg w7) 12), .ref (aa 17)]) X (c_m_M_thingOf he) ok_m_M_thingOf k_m_M_262 (va_recv hK hP rfl mo_0) rfl rfl hl.1 (Nat.le_of_ble_eq_true rfl) d_M_isFilled_192 ⟨by decide, by decide⟩ hP hS (fun H locs hP hS => ?_)
      refine lv_iadd hx hb d_M_isFilled_195 ?_
      obtain ⟨hg, hf⟩ := gd_some hf
      refine va_iast hx hb hK hP (hI _) hS 18 0 ma_17 rfl (vin_in hg) d_M_isFilled_196 (fun H locs hP _ hS => ?_)
      replace hP : va_P D classes (mW cI cZ cJ ao aa (sA q3.2 17 (gI (sB q2 20 ((gI q2 13) - (1 : Int32)).toNatClampNeg w7) 12).toNatClampNeg ((20000 : Int32) + q3.1))) H := pw mt_17 hP
      exact w_m_M_isFilled_b197 X hk2 _ _ _ hf H locs ls hP hS (lv_sub hl [0, 1, 2] rfl)
    · have hf := if_f hf c
      refine lv_iconst (v := 0) hx hb d_M_isFilled_152 (by decide) ?_
      obtain rfl := Option.some.inj hf
      exact W.zret (ty := .boolean) hx hb hr0 rfl (fun t ht _ => ⟨⟨rfl, by rw [ht]; exact hP⟩, hS.F ht⟩) hS.2.2 d_M_isFilled_153 hlk
  · have hf := if_f hf c
    refine lv_aload_n hx hb d_M_isFilled_101 rfl (lv_at hl 0 rfl) ?_
    refine lv_iload hx hb d_M_isFilled_102 (lv_at hl 3 rfl) ?_
    refine lv_iload hx hb d_M_isFilled_104 (lv_at hl 6 rfl) ?_
    obtain ⟨q5, he, hf⟩ := ob_some hf
    refine cl_Vi (As := [.int x4, .int x9]) (rest := []) X (c_m_M_goesWith he) ok_m_M_goesWith k_m_M_259 (va_recv hK hP rfl mo_0) rfl rfl hl.1 (Nat.le_of_ble_eq_true rfl) d_M_isFilled_106 ⟨by decide, by decide⟩ hP hS (fun H locs hP hS => ?_)
    refine lv_if_eq (tgt := 132) hx hb d_M_isFilled_109 (by decide) (fun c => ?_) (fun c => ?_)
    · have hf := if_t hf c
      exact w_m_M_isFilled_b132 X hk2 hk92 _ _ _ _ _ _ _ hf H locs ls hP hS (lv_sub hl [0, 1, 2, 3, 4, 5, 6] rfl)
    · have hf := if_f hf c
      refine lv_lload hx hb d_M_isFilled_112 (lv_at hl 4 rfl) ?_
      refine lv_iload hx hb d_M_isFilled_114 (lv_at hl 6 rfl) ?_
      obtain ⟨q6, he, hf⟩ := ob_some hf
      refine cl_Si (As := [.long w5, .int x9]) (rest := []) X (c_m_M_has he) ok_m_M_has k_m_M_163 rfl rfl hl.1 (Nat.le_of_ble_eq_true rfl) d_M_isFilled_116 ⟨by decide, by decide⟩ hP hS (fun H locs hP hS => ?_)
      refine lv_if_ne (tgt := 132) hx hb d_M_isFilled_119 (by decide) (fun c => ?_) (fun c => ?_)
      · have hf := if_f hf c
        exact w_m_M_isFilled_b132 X hk2 hk92 _ _ _ _ _ _ _ hf H locs ls hP hS (lv_sub hl [0, 1, 2, 3, 4, 5, 6] rfl)
      · have hf := if_t hf c
        refine lv_lload hx hb d_M_isFilled_122 (lv_at hl 5 rfl) ?_
        refine lv_lconst (v := 1) hx hb d_M_isFilled_124 (by decide) ?_
        refine lv_iload hx hb d_M_isFilled_125 (lv_at hl 6 rfl) ?_
        refine lv_lshl hx hb d_M_isFilled_127 rfl ?_
        refine lv_lor hx hb d_M_isFilled_128 ?_
        refine lv_goto (tgt := 134) hx hb d_M_isFilled_129 (by decide) ?_
        exact w_m_M_isFilled_b134 X hk2 hk92 _ _ _ _ _ _ _ hf H locs ls hP hS (lv_sub hl [0, 1, 2, 3, 4, 6] rfl)
theorem w_m_M_isFilled_b92 {z : Int32 × St} (X : Cx b_M_isFilled 10 (some .boolean) R_M D [(cI, .int), (cZ, .boolean), (cJ, .long)] (mA ao aa) (mW cI cZ cJ ao aa) p s m args meth c) {k2 : St → Int32 → Int32 → Option (Int32 × St)} (hk2 : ∀ (S : St) (x1 : Int32) (x3 : Int32), k2 S x1 x3 = some z → WX rm_m_M_isFilled D (mA ao aa) (mW cI cZ cJ ao aa) p l e s m args below meth c (some (.int z.1)) z.2 2 [] 10 [(0, .ref (ao 0)), (1, .int x1), (3, .int x3)] S) : ∀ (n : Nat) (S : St) (x1 : Int32) (x3 : Int32) (x4 : Int32) (w5 : Int64) (w7 : Int64) (x9 : Int32), m_M_isFilled_b92 k2 n S x1 x3 x4 w5 w7 x9 = some z → WX rm_m_M_isFilled D (mA ao aa) (mW cI cZ cJ ao aa) p l e s m args below meth c (some (.int z.1)) z.2 92 [] 10 [(0, .ref (ao 0)), (1, .int x1), (3, .int x3), (4, .int x4), (5, .long w5), (7, .long w7), (9, .int x9)] S
  | 0, _, _, _, _, _, _, _, hf => ns hf
  | n + 1, _, _, _, _, _, _, _, hf => w_m_M_isFilled_b92_f X hk2 (w_m_M_isFilled_b92 X hk2 n) _ _ _ _ _ _ _ hf
set_option maxHeartbeats 4000000 in
set_option maxRecDepth 100000 in
theorem w_m_M_isFilled_b59_f {z : Int32 × St} (X : Cx b_M_isFilled 10 (some .boolean) R_M D [(cI, .int), (cZ, .boolean), (cJ, .long)] (mA ao aa) (mW cI cZ cJ ao aa) p s m args meth c) {k2 : St → Int32 → Int32 → Option (Int32 × St)} (hk2 : ∀ (S : St) (x1 : Int32) (x3 : Int32), k2 S x1 x3 = some z → WX rm_m_M_isFilled D (mA ao aa) (mW cI cZ cJ ao aa) p l e s m args below meth c (some (.int z.1)) z.2 2 [] 10 [(0, .ref (ao 0)), (1, .int x1), (3, .int x3)] S) {k59 : St → Int32 → Int32 → Int32 → Int64 → Int32 → Option (Int32 × St)} (hk59 : ∀ (S : St) (x1 : Int32) (x3 : Int32) (x4 : Int32) (w5 : Int64) (x7 : Int32), k59 S x1 x3 x4 w5 x7 = some z → WX rm_m_M_isFilled D (mA ao aa) (mW cI cZ cJ ao aa) p l e s m args below meth c (some (.int z.1)) z.2 59 [] 10 [(0, .ref (ao 0)), (1, .int x1), (3, .int x3), (4, .int x4), (5, .long w5), (7, .int x7)] S) (S : St) (x1 : Int32) (x3 : Int32) (x4 : Int32) (w5 : Int64) (x7 : Int32) (hf : m_M_isFilled_b59_f k2 k59 S x1 x3 x4 w5 x7 = some z) : WX rm_m_M_isFilled D (mA ao aa) (mW cI cZ cJ ao aa) p l e s m args below meth c (some (.int z.1)) z.2 59 [] 10 [(0, .ref (ao 0)), (1, .int x1), (3, .int x3), (4, .int x4), (5, .long w5), (7, .int x7)] S := by
  intro H locs ls hP hS hl
  obtain ⟨hx, hb, hr0, hml, hown, htg, hlk, hK, hN, hI⟩ := id X
  unfold m_M_isFilled_b59_f at hf
  refine lv_iload hx hb d_M_isFilled_59 (lv_at hl 5 rfl) ?_
  refine lv_aload_n hx hb d_M_isFilled_61 rfl (lv_at hl 0 rfl) ?_
  refine va_get (D := D) (v := .int (gI S 13)) hx hb htg in_M hown hK hP 0 mo_0 rfl 33 (by decide) (htg _ k_f_M_186) (fun _ h9 => h9) rfl d_M_isFilled_62 ?_
  refine lv_icmp_ge (tgt := 86) hx hb d_M_isFilled_65 (by decide) (fun c => ?_) (fun c => ?_)
  · have hf := if_t hf c
    refine lv_lconst (v := 0) hx hb d_M_isFilled_86 (by decide) ?_
    refine lv_lstore (lv' := [(7, .long (0 : Int64)), (0, .ref (ao 0)), (1, .int x1), (3, .int x3), (4, .int x4), (5, .long w5)]) hx hb d_M_isFilled_87 hl (by decide) rfl (fun ls hl => ?_)
    refine lv_iconst (v := 0) hx hb d_M_isFilled_89 (by decide) ?_
    refine lv_istore (lv' := [(9, .int (0 : Int32)), (7, .long (0 : Int64)), (0, .ref (ao 0)), (1, .int x1), (3, .int x3), (4, .int x4), (5, .long w5)]) hx hb d_M_isFilled_90 hl (by decide) rfl (fun ls hl => ?_)
    exact w_m_M_isFilled_b92 X hk2 _ _ _ _ _ _ _ _ hf H locs ls hP hS (lv_sub hl [2, 3, 4, 5, 6, 1, 0] rfl)
  · have hf := if_f hf c
    refine lv_lload hx hb d_M_isFilled_68 (lv_at hl 4 rfl) ?_
    refine lv_aload_n hx hb d_M_isFilled_70 rfl (lv_at hl 0 rfl) ?_
    refine va_get (D := D) (v := .ref (aa 20)) hx hb htg in_M hown hK hP 0 mo_0 rfl 36 (by decide) (htg _ k_f_M_71) (fun _ h9 => h9) rfl d_M_isFilled_71 ?_
    refine lv_iload hx hb d_M_isFilled_74 (lv_at hl 5 rfl) ?_
    obtain ⟨hg, hf⟩ := gd_some hf
    refine va_lald hx hb hK hP 21 2 ma_20 rfl (vin_in hg) d_M_isFilled_76 ?_
    refine lv_lor hx hb d_M_isFilled_77 ?_
    refine lv_lstore (lv' := [(5, .long (w5 ||| (gB S 20 x7.toNatClampNeg))), (0, .ref (ao 0)), (1, .int x1), (3, .int x3), (4, .int x4), (7, .int x7)]) hx hb d_M_isFilled_78 hl (by decide) rfl (fun ls hl => ?_)
    refine lv_iinc (v := (x7 + 1)) (lv' := [(7, .int (x7 + 1)), (5, .long (w5 ||| (gB S 20 x7.toNatClampNeg))), (0, .ref (ao 0)), (1, .int x1), (3, .int x3), (4, .int x4)]) hx hb d_M_isFilled_80 hl (k := 5) rfl rfl (by decide) rfl (fun ls hl => ?_)
    refine lv_goto (tgt := 59) hx hb d_M_isFilled_83 (by decide) ?_
    exact hk59 _ _ _ _ _ _ hf H locs ls hP hS (lv_sub hl [2, 3, 4, 5, 1, 0] rfl)
theorem w_m_M_isFilled_b59 {z : Int32 × St} (X : Cx b_M_isFilled 10 (some .boolean) R_M D [(cI, .int), (cZ, .boolean), (cJ, .long)] (mA ao aa) (mW cI cZ cJ ao aa) p s m args meth c) {k2 : St → Int32 → Int32 → Option (Int32 × St)} (hk2 : ∀ (S : St) (x1 : Int32) (x3 : Int32), k2 S x1 x3 = some z → WX rm_m_M_isFilled D (mA ao aa) (mW cI cZ cJ ao aa) p l e s m args below meth c (some (.int z.1)) z.2 2 [] 10 [(0, .ref (ao 0)), (1, .int x1), (3, .int x3)] S) : ∀ (n : Nat) (S : St) (x1 : Int32) (x3 : Int32) (x4 : Int32) (w5 : Int64) (x7 : Int32), m_M_isFilled_b59 k2 n S x1 x3 x4 w5 x7 = some z → WX rm_m_M_isFilled D (mA ao aa) (mW cI cZ cJ ao aa) p l e s m args below meth c (some (.int z.1)) z.2 59 [] 10 [(0, .ref (ao 0)), (1, .int x1), (3, .int x3), (4, .int x4), (5, .long w5), (7, .int x7)] S
  | 0, _, _, _, _, _, _, hf => ns hf
  | n + 1, _, _, _, _, _, _, hf => w_m_M_isFilled_b59_f X hk2 (w_m_M_isFilled_b59 X hk2 n) _ _ _ _ _ _ hf
set_option maxHeartbeats 4000000 in
set_option maxRecDepth 100000 in
theorem w_m_M_isFilled_b2_f {z : Int32 × St} (X : Cx b_M_isFilled 10 (some .boolean) R_M D [(cI, .int), (cZ, .boolean), (cJ, .long)] (mA ao aa) (mW cI cZ cJ ao aa) p s m args meth c) {k2 : St → Int32 → Int32 → Option (Int32 × St)} (hk2 : ∀ (S : St) (x1 : Int32) (x3 : Int32), k2 S x1 x3 = some z → WX rm_m_M_isFilled D (mA ao aa) (mW cI cZ cJ ao aa) p l e s m args below meth c (some (.int z.1)) z.2 2 [] 10 [(0, .ref (ao 0)), (1, .int x1), (3, .int x3)] S) (S : St) (x1 : Int32) (x3 : Int32) (hf : m_M_isFilled_b2_f k2 S x1 x3 = some z) : WX rm_m_M_isFilled D (mA ao aa) (mW cI cZ cJ ao aa) p l e s m args below meth c (some (.int z.1)) z.2 2 [] 10 [(0, .ref (ao 0)), (1, .int x1), (3, .int x3)] S := by
  intro H locs ls hP hS hl
  obtain ⟨hx, hb, hr0, hml, hown, htg, hlk, hK, hN, hI⟩ := id X
  unfold m_M_isFilled_b2_f at hf
  refine lv_iload_n hx hb d_M_isFilled_2 rfl (lv_at hl 2 rfl) ?_
  refine lv_aload_n hx hb d_M_isFilled_3 rfl (lv_at hl 0 rfl) ?_
  refine va_get (D := D) (v := .ref (aa 5)) hx hb htg in_M hown hK hP 0 mo_0 rfl 8 (by decide) (htg _ k_f_M_26) (fun _ h9 => h9) rfl d_M_isFilled_4 ?_
  refine lv_iload_n hx hb d_M_isFilled_7 rfl (lv_at hl 1 rfl) ?_
  obtain ⟨hg, hf⟩ := gd_some hf
  refine va_iald hx hb hK hP 6 0 ma_5 rfl (vin_in hg) d_M_isFilled_8 ?_
  refine lv_icmp_ge (tgt := 217) hx hb d_M_isFilled_9 (by decide) (fun c => ?_) (fun c => ?_)
  · have hf := if_t hf c
    refine lv_iconst (v := 1) hx hb d_M_isFilled_217 (by decide) ?_
    obtain rfl := Option.some.inj hf
    exact W.zret (ty := .boolean) hx hb hr0 rfl (fun t ht _ => ⟨⟨rfl, by rw [ht]; exact hP⟩, hS.F ht⟩) hS.2.2 d_M_isFilled_218 hlk
  · have hf := if_f hf c
    refine lv_aload_n hx hb d_M_isFilled_12 rfl (lv_at hl 0 rfl) ?_
    refine va_get (D := D) (v := .ref (aa 6)) hx hb htg in_M hown hK hP 0 mo_0 rfl 9 (by decide) (htg _ k_f_M_29) (fun _ h9 => h9) rfl d_M_isFilled_13 ?_
    refine lv_bipush (v := 8) hx hb d_M_isFilled_16 (by decide) ?_
    refine lv_iload_n hx hb d_M_isFilled_18 rfl (lv_at hl 1 rfl) ?_
    refine lv_imul hx hb d_M_isFilled_19 ?_
    refine lv_iload_n hx hb d_M_isFilled_20 rfl (lv_at hl 2 rfl) ?_
    refine lv_iadd hx hb d_M_isFilled_21 ?_
    obtain ⟨hg, hf⟩ := gd_some hf
    refine va_iald hx hb hK hP 7 0 ma_6 rfl (vin_in hg) d_M_isFilled_22 ?_
    refine lv_istore (lv' := [(4, .int (gA S 6 (((8 : Int32) * x1) + x3).toNatClampNeg)), (0, .ref (ao 0)), (1, .int x1), (3, .int x3)]) hx hb d_M_isFilled_23 hl (by decide) rfl (fun ls hl => ?_)
    refine lv_iload hx hb d_M_isFilled_25 (lv_at hl 0 rfl) ?_
    refine lv_if_ne (tgt := 53) hx hb d_M_isFilled_27 (by decide) (fun c => ?_) (fun c => ?_)
    · have hf := if_f hf c
      refine lv_lconst (v := 0) hx hb d_M_isFilled_53 (by decide) ?_
      refine lv_lstore (lv' := [(5, .long (0 : Int64)), (4, .int (gA S 6 (((8 : Int32) * x1) + x3).toNatClampNeg)), (0, .ref (ao 0)), (1, .int x1), (3, .int x3)]) hx hb d_M_isFilled_54 hl (by decide) rfl (fun ls hl => ?_)
      refine lv_iconst (v := 0) hx hb d_M_isFilled_56 (by decide) ?_
      refine lv_istore (lv' := [(7, .int (0 : Int32)), (5, .long (0 : Int64)), (4, .int (gA S 6 (((8 : Int32) * x1) + x3).toNatClampNeg)), (0, .ref (ao 0)), (1, .int x1), (3, .int x3)]) hx hb d_M_isFilled_57 hl (by decide) rfl (fun ls hl => ?_)
      exact w_m_M_isFilled_b59 X hk2 _ _ _ _ _ _ _ hf H locs ls hP hS (lv_sub hl [3, 4, 5, 2, 1, 0] rfl)
    · have hf := if_t hf c
      refine lv_aload_n hx hb d_M_isFilled_30 rfl (lv_at hl 1 rfl) ?_
      refine va_get (D := D) (v := .ref (aa 17)) hx hb htg in_M hown hK hP 0 mo_0 rfl 32 (by decide) (htg _ k_f_M_62) (fun _ h9 => h9) rfl d_M_isFilled_31 ?_
      refine lv_aload_n hx hb d_M_isFilled_34 rfl (lv_at hl 1 rfl) ?_
      refine va_get (D := D) (v := .int (gI S 12)) hx hb htg in_M hown hK hP 0 mo_0 rfl 31 (by decide) (htg _ k_f_M_192) (fun _ h9 => h9) rfl d_M_isFilled_35 ?_
      refine lv_aload_n hx hb d_M_isFilled_38 rfl (lv_at hl 1 rfl) ?_
      refine va_get (D := D) (v := .ref (aa 7)) hx hb htg in_M hown hK hP 0 mo_0 rfl 10 (by decide) (htg _ k_f_M_32) (fun _ h9 => h9) rfl d_M_isFilled_39 ?_
      refine lv_bipush (v := 8) hx hb d_M_isFilled_42 (by decide) ?_
      refine lv_iload_n hx hb d_M_isFilled_44 rfl (lv_at hl 2 rfl) ?_
      refine lv_imul hx hb d_M_isFilled_45 ?_
      refine lv_iload_n hx hb d_M_isFilled_46 rfl (lv_at hl 3 rfl) ?_
      refine lv_iadd hx hb d_M_isFilled_47 ?_
      obtain ⟨hg, hf⟩ := gd_some hf
      refine va_iald hx hb hK hP 8 0 ma_7 rfl (vin_in hg) d_M_isFilled_48 ?_
      obtain ⟨hg, hf⟩ := gd_some hf
      refine va_iast hx hb hK hP (hI _) hS 18 0 ma_17 rfl (vin_in hg) d_M_isFilled_49 (fun H locs hP _ hS => ?_)
      replace hP : va_P D classes (mW cI cZ cJ ao aa (sA S 17 (gI S 12).toNatClampNeg (gA S 7 (((8 : Int32) * x1) + x3).toNatClampNeg))) H := pw mt_17 hP
      refine lv_goto (tgt := 197) hx hb d_M_isFilled_50 (by decide) ?_
      exact w_m_M_isFilled_b197 X hk2 _ _ _ hf H locs ls hP hS (lv_sub hl [1, 2, 3] rfl)
theorem w_m_M_isFilled_b2 {z : Int32 × St} (X : Cx b_M_isFilled 10 (some .boolean) R_M D [(cI, .int), (cZ, .boolean), (cJ, .long)] (mA ao aa) (mW cI cZ cJ ao aa) p s m args meth c) : ∀ (n : Nat) (S : St) (x1 : Int32) (x3 : Int32), m_M_isFilled_b2 n S x1 x3 = some z → WX rm_m_M_isFilled D (mA ao aa) (mW cI cZ cJ ao aa) p l e s m args below meth c (some (.int z.1)) z.2 2 [] 10 [(0, .ref (ao 0)), (1, .int x1), (3, .int x3)] S
  | 0, _, _, _, hf => ns hf
  | n + 1, _, _, _, hf => w_m_M_isFilled_b2_f X (w_m_M_isFilled_b2 X n) _ _ _ hf
set_option maxHeartbeats 4000000 in
set_option maxRecDepth 100000 in
theorem w_m_M_isFilled {z : Int32 × St} (X : Cx b_M_isFilled 10 (some .boolean) R_M D [(cI, .int), (cZ, .boolean), (cJ, .long)] (mA ao aa) (mW cI cZ cJ ao aa) p s m args meth c) (S : St) (x0 : Int32) (x1 : Int32) (hf : m_M_isFilled S x0 x1 = some z) : WX rm_m_M_isFilled D (mA ao aa) (mW cI cZ cJ ao aa) p l e s m args below meth c (some (.int z.1)) z.2 0 [] 10 [(0, .ref (ao 0)), (1, .int x0), (2, .int x1)] S := by
  intro H locs ls hP hS hl
  obtain ⟨hx, hb, hr0, hml, hown, htg, hlk, hK, hN, hI⟩ := id X
  unfold m_M_isFilled at hf
  refine lv_iload_n hx hb d_M_isFilled_0 rfl (lv_at hl 2 rfl) ?_
  refine lv_istore_n (lv' := [(3, .int x1), (0, .ref (ao 0)), (1, .int x0), (2, .int x1)]) hx hb d_M_isFilled_1 rfl hl (by decide) rfl (fun ls hl => ?_)
  exact w_m_M_isFilled_b2 X _ _ _ _ hf H locs ls hP hS (lv_sub hl [1, 2, 0] rfl)
theorem c_m_M_isFilled {l : Launch} {D : va_G} {cI cZ cJ : ClassId} {ao aa : Nat → Nat} {S : St} {x0 : Int32} {x1 : Int32} {z : Int32 × St} (hz : m_M_isFilled S x0 x1 = some z) : Ct l y_M_isFilled (.code y_M_isFilled b_M_isFilled 10 (some .boolean) :: gw) rm_m_M_isFilled D [(cI, .int), (cZ, .boolean), (cJ, .long)] (mA ao aa) (mW cI cZ cJ ao aa) [.ref (ao 0), .int x0, .int x1] S (some (.int z.1)) z.2 :=
  Ct_of (by decide) (fun p e s m args below meth c X => w_m_M_isFilled X _ _ _ hz) (Nat.le_of_ble_eq_true rfl)
def m_M_ends_b183 (k119 : St → Int32 → Int32 → Option (St)) (S : St) (x1 : Int32) (x5 : Int32) : Option (St) :=
  k119 S x1 (x5 + 1)
def m_M_ends_b119_f (k119 : St → Int32 → Int32 → Option (St)) (S : St) (x1 : Int32) (x5 : Int32) : Option (St) :=
  gd (vin (((8 : Int32) * x1) + x5) 480) <|
  (m_M_isSlot S (gA S 6 (((8 : Int32) * x1) + x5).toNatClampNeg)).bind fun q2 =>
  if q2.1 = 0 then
    gd (vin (((8 : Int32) * x1) + x5) 480) <|
    if (gA q2.2 6 (((8 : Int32) * x1) + x5).toNatClampNeg) = 0 then
      gd (vin (((8 : Int32) * x1) + x5) 480) <|
      gd (vin (gI q2.2 11) 8) <|
      m_M_ends_b183 k119 (sI (sA q2.2 16 (gI q2.2 11).toNatClampNeg (gA q2.2 7 (((8 : Int32) * x1) + x5).toNatClampNeg)) 11 ((gI (sA q2.2 16 (gI q2.2 11).toNatClampNeg (gA q2.2 7 (((8 : Int32) * x1) + x5).toNatClampNeg)) 11) + (1 : Int32))) x1 x5
    else
      m_M_ends_b183 k119 q2.2 x1 x5
  else
    gd (vin (((8 : Int32) * x1) + x5) 480) <|
    some (sI q2.2 10 (gA q2.2 6 (((8 : Int32) * x1) + x5).toNatClampNeg))
def m_M_ends_b119 : Nat → St → Int32 → Int32 → Option (St)
  | 0, _, _, _ => none
  | n + 1, S, x1, x5 => m_M_ends_b119_f (m_M_ends_b119 n) S x1 x5
def m_M_ends_b101 (S : St) (x1 : Int32) (x2 : Int32) : Option (St) :=
  (m_M_fails S (16 : Int32) (gI S 6)).bind fun q1 =>
  m_M_ends_b119 fu (sI q1 12 (0 : Int32)) x1 x2
def m_M_ends_b65 (k8 : St → Int32 → Int32 → Int32 → Int32 → Int32 → Option (St)) (S : St) (x1 : Int32) (x2 : Int32) (x3 : Int32) (x5 : Int32) (s0 : Int32) : Option (St) :=
  k8 S x1 x2 x3 s0 (x5 + 1)
def m_M_ends_b64 (k8 : St → Int32 → Int32 → Int32 → Int32 → Int32 → Option (St)) (S : St) (x1 : Int32) (x2 : Int32) (x3 : Int32) (x5 : Int32) : Option (St) :=
  m_M_ends_b65 k8 S x1 x2 x3 x5 (0 : Int32)
def m_M_ends_b47 (k8 : St → Int32 → Int32 → Int32 → Int32 → Int32 → Option (St)) (S : St) (x1 : Int32) (x2 : Int32) (x4 : Int32) (x5 : Int32) (x6 : Int32) (s0 : Int32) (s1 : Int32) : Option (St) :=
  if x4 = 0 then
    m_M_ends_b64 k8 S x1 x2 (s1 + s0) x5
  else
    if (5 : Int32) < x6 then
      m_M_ends_b64 k8 S x1 x2 (s1 + s0) x5
    else
      m_M_ends_b65 k8 S x1 x2 (s1 + s0) x5 (1 : Int32)
def m_M_ends_b8_f (k8 : St → Int32 → Int32 → Int32 → Int32 → Int32 → Option (St)) (S : St) (x1 : Int32) (x2 : Int32) (x3 : Int32) (x4 : Int32) (x5 : Int32) : Option (St) :=
  gd (vin x1 60) <|
  if (gA S 5 x1.toNatClampNeg) ≤ x5 then
    if x3 = 0 then
      (m_M_fails S (5 : Int32) (gI S 6)).bind fun q4 =>
      some q4
    else
      if x4 = 0 then
        m_M_ends_b101 S x1 x2
      else
        (m_M_isFilled S x1 x2).bind fun q3 =>
        if q3.1 = 0 then
          m_M_ends_b101 q3.2 x1 x2
        else
          some q3.2
  else
    gd (vin (((8 : Int32) * x1) + x5) 480) <|
    (m_M_isSlot S (gA S 6 (((8 : Int32) * x1) + x5).toNatClampNeg)).bind fun q5 =>
    if q5.1 = 0 then
      m_M_ends_b47 k8 q5.2 x1 x2 x4 x5 (gA S 6 (((8 : Int32) * x1) + x5).toNatClampNeg) (0 : Int32) x3
    else
      m_M_ends_b47 k8 q5.2 x1 x2 x4 x5 (gA S 6 (((8 : Int32) * x1) + x5).toNatClampNeg) (1 : Int32) x3
def m_M_ends_b8 : Nat → St → Int32 → Int32 → Int32 → Int32 → Int32 → Option (St)
  | 0, _, _, _, _, _, _ => none
  | n + 1, S, x1, x2, x3, x4, x5 => m_M_ends_b8_f (m_M_ends_b8 n) S x1 x2 x3 x4 x5
def m_M_ends (S : St) (x0 : Int32) (x1 : Int32) : Option (St) :=
  m_M_ends_b8 fu S x0 x1 (0 : Int32) (1 : Int32) x1
def rm_m_M_ends : Room := { frames := 4, cells := 0, slots := 0, locals := 93 }
theorem ok_m_M_ends : CalV y_M_ends b_M_ends 7 none 2 rm_m_M_ends := ⟨kc_M_ends, ki_M_ends, kl_M_ends, ji_M, ⟨by decide, by decide, by decide +kernel⟩, rfl, rfl⟩
set_option maxHeartbeats 4000000 in
set_option maxRecDepth 100000 in
theorem w_m_M_ends_b183 {z : St} (X : Cx b_M_ends 7 none R_M D [(cI, .int), (cZ, .boolean), (cJ, .long)] (mA ao aa) (mW cI cZ cJ ao aa) p s m args meth c) {k119 : St → Int32 → Int32 → Option (St)} (hk119 : ∀ (S : St) (x1 : Int32) (x5 : Int32), k119 S x1 x5 = some z → WX rm_m_M_ends D (mA ao aa) (mW cI cZ cJ ao aa) p l e s m args below meth c none z 119 [] 7 [(0, .ref (ao 0)), (1, .int x1), (5, .int x5)] S) (S : St) (x1 : Int32) (x5 : Int32) (hf : m_M_ends_b183 k119 S x1 x5 = some z) : WX rm_m_M_ends D (mA ao aa) (mW cI cZ cJ ao aa) p l e s m args below meth c none z 183 [] 7 [(0, .ref (ao 0)), (1, .int x1), (5, .int x5)] S := by
  intro H locs ls hP hS hl
  obtain ⟨hx, hb, hr0, hml, hown, htg, hlk, hK, hN, hI⟩ := id X
  unfold m_M_ends_b183 at hf
  refine lv_iinc (v := (x5 + 1)) (lv' := [(5, .int (x5 + 1)), (0, .ref (ao 0)), (1, .int x1)]) hx hb d_M_ends_183 hl (k := 2) rfl rfl (by decide) rfl (fun ls hl => ?_)
  refine lv_goto (tgt := 119) hx hb d_M_ends_186 (by decide) ?_
  exact hk119 _ _ _ hf H locs ls hP hS (lv_sub hl [1, 2, 0] rfl)
set_option maxHeartbeats 4000000 in
set_option maxRecDepth 100000 in
theorem w_m_M_ends_b119_f {z : St} (X : Cx b_M_ends 7 none R_M D [(cI, .int), (cZ, .boolean), (cJ, .long)] (mA ao aa) (mW cI cZ cJ ao aa) p s m args meth c) {k119 : St → Int32 → Int32 → Option (St)} (hk119 : ∀ (S : St) (x1 : Int32) (x5 : Int32), k119 S x1 x5 = some z → WX rm_m_M_ends D (mA ao aa) (mW cI cZ cJ ao aa) p l e s m args below meth c none z 119 [] 7 [(0, .ref (ao 0)), (1, .int x1), (5, .int x5)] S) (S : St) (x1 : Int32) (x5 : Int32) (hf : m_M_ends_b119_f k119 S x1 x5 = some z) : WX rm_m_M_ends D (mA ao aa) (mW cI cZ cJ ao aa) p l e s m args below meth c none z 119 [] 7 [(0, .ref (ao 0)), (1, .int x1), (5, .int x5)] S := by
  intro H locs ls hP hS hl
  obtain ⟨hx, hb, hr0, hml, hown, htg, hlk, hK, hN, hI⟩ := id X
  unfold m_M_ends_b119_f at hf
  refine lv_aload_n hx hb d_M_ends_119 rfl (lv_at hl 0 rfl) ?_
  refine va_get (D := D) (v := .ref (aa 6)) hx hb htg in_M hown hK hP 0 mo_0 rfl 9 (by decide) (htg _ k_f_M_29) (fun _ h9 => h9) rfl d_M_ends_120 ?_
  refine lv_bipush (v := 8) hx hb d_M_ends_123 (by decide) ?_
  refine lv_iload_n hx hb d_M_ends_125 rfl (lv_at hl 1 rfl) ?_
  refine lv_imul hx hb d_M_ends_126 ?_
  refine lv_iload hx hb d_M_ends_127 (lv_at hl 2 rfl) ?_
  refine lv_iadd hx hb d_M_ends_129 ?_
  obtain ⟨hg, hf⟩ := gd_some hf
  refine va_iald hx hb hK hP 7 0 ma_6 rfl (vin_in hg) d_M_ends_130 ?_
  obtain ⟨q2, he, hf⟩ := ob_some hf
  refine cl_Si (As := [.int (gA S 6 (((8 : Int32) * x1) + x5).toNatClampNeg)]) (rest := []) X (c_m_M_isSlot he) ok_m_M_isSlot k_m_M_137 rfl rfl hl.1 (Nat.le_of_ble_eq_true rfl) d_M_ends_131 ⟨by decide, by decide⟩ hP hS (fun H locs hP hS => ?_)
  refine lv_if_ne (tgt := 189) hx hb d_M_ends_134 (by decide) (fun c => ?_) (fun c => ?_)
  · have hf := if_f hf c
    refine lv_aload_n hx hb d_M_ends_189 rfl (lv_at hl 0 rfl) ?_
    refine lv_aload_n hx hb d_M_ends_190 rfl (lv_at hl 0 rfl) ?_
    refine va_get (D := D) (v := .ref (aa 6)) hx hb htg in_M hown hK hP 0 mo_0 rfl 9 (by decide) (htg _ k_f_M_29) (fun _ h9 => h9) rfl d_M_ends_191 ?_
    refine lv_bipush (v := 8) hx hb d_M_ends_194 (by decide) ?_
    refine lv_iload_n hx hb d_M_ends_196 rfl (lv_at hl 1 rfl) ?_
    refine lv_imul hx hb d_M_ends_197 ?_
    refine lv_iload hx hb d_M_ends_198 (lv_at hl 2 rfl) ?_
    refine lv_iadd hx hb d_M_ends_200 ?_
    obtain ⟨hg, hf⟩ := gd_some hf
    refine va_iald hx hb hK hP 7 0 ma_6 rfl (vin_in hg) d_M_ends_201 ?_
    refine va_put (D := D) (ty := .int) hx hb htg in_M t_M t_M_ok n_M hown hK hP (hI _) hS 0 mo_0 rfl 28 (by decide) (htg _ k_f_M_256) (fun _ h9 => h9) rfl (by decide +kernel) rfl rfl (Nat.le_of_ble_eq_true rfl) d_M_ends_202 (fun H locs hP _ hS => ?_)
    replace hP : va_P D classes (mW cI cZ cJ ao aa (sI q2.2 10 (gA q2.2 6 (((8 : Int32) * x1) + x5).toNatClampNeg))) H := pw ms_0_lacks hP
    obtain rfl := Option.some.inj hf
    exact W.vret hx hb hr0 (fun t ht _ => ⟨⟨rfl, by rw [ht]; exact hP⟩, hS.F ht⟩) hS.2.2 d_M_ends_205 hlk
  · have hf := if_t hf c
    refine lv_aload_n hx hb d_M_ends_137 rfl (lv_at hl 0 rfl) ?_
    refine va_get (D := D) (v := .ref (aa 6)) hx hb htg in_M hown hK hP 0 mo_0 rfl 9 (by decide) (htg _ k_f_M_29) (fun _ h9 => h9) rfl d_M_ends_138 ?_
    refine lv_bipush (v := 8) hx hb d_M_ends_141 (by decide) ?_
    refine lv_iload_n hx hb d_M_ends_143 rfl (lv_at hl 1 rfl) ?_
    refine lv_imul hx hb d_M_ends_144 ?_
    refine lv_iload hx hb d_M_ends_145 (lv_at hl 2 rfl) ?_
    refine lv_iadd hx hb d_M_ends_147 ?_
    obtain ⟨hg, hf⟩ := gd_some hf
    refine va_iald hx hb hK hP 7 0 ma_6 rfl (vin_in hg) d_M_ends_148 ?_
    refine lv_if_ne (tgt := 183) hx hb d_M_ends_149 (by decide) (fun c => ?_) (fun c => ?_)
    · have hf := if_f hf c
      exact w_m_M_ends_b183 X hk119 _ _ _ hf H locs ls hP hS (lv_sub hl [0, 1, 2] rfl)
    · have hf := if_t hf c
      refine lv_aload_n hx hb d_M_ends_152 rfl (lv_at hl 0 rfl) ?_
      refine va_get (D := D) (v := .ref (aa 16)) hx hb htg in_M hown hK hP 0 mo_0 rfl 30 (by decide) (htg _ k_f_M_59) (fun _ h9 => h9) rfl d_M_ends_153 ?_
      refine lv_aload_n hx hb d_M_ends_156 rfl (lv_at hl 0 rfl) ?_
      refine va_get (D := D) (v := .int (gI q2.2 11)) hx hb htg in_M hown hK hP 0 mo_0 rfl 29 (by decide) (htg _ k_f_M_195) (fun _ h9 => h9) rfl d_M_ends_157 ?_
      refine lv_aload_n hx hb d_M_ends_160 rfl (lv_at hl 0 rfl) ?_
      refine va_get (D := D) (v := .ref (aa 7)) hx hb htg in_M hown hK hP 0 mo_0 rfl 10 (by decide) (htg _ k_f_M_32) (fun _ h9 => h9) rfl d_M_ends_161 ?_
      refine lv_bipush (v := 8) hx hb d_M_ends_164 (by decide) ?_
      refine lv_iload_n hx hb d_M_ends_166 rfl (lv_at hl 1 rfl) ?_
      refine lv_imul hx hb d_M_ends_167 ?_
      refine lv_iload hx hb d_M_ends_168 (lv_at hl 2 rfl) ?_
      refine lv_iadd hx hb d_M_ends_170 ?_
      obtain ⟨hg, hf⟩ := gd_some hf
      refine va_iald hx hb hK hP 8 0 ma_7 rfl (vin_in hg) d_M_ends_171 ?_
      obtain ⟨hg, hf⟩ := gd_some hf
      refine va_iast hx hb hK hP (hI _) hS 17 0 ma_16 rfl (vin_in hg) d_M_ends_172 (fun H locs hP _ hS => ?_)
      replace hP : va_P D classes (mW cI cZ cJ ao aa (sA q2.2 16 (gI q2.2 11).toNatClampNeg (gA q2.2 7 (((8 : Int32) * x1) + x5).toNatClampNeg))) H := pw mt_16 hP
      refine lv_aload_n hx hb d_M_ends_173 rfl (lv_at hl 0 rfl) ?_
      refine lv_dup hx hb d_M_ends_174 rfl ?_
      refine va_get (D := D) (v := .int (gI (sA q2.2 16 (gI q2.2 11).toNatClampNeg (gA q2.2 7 (((8 : Int32) * x1) + x5).toNatClampNeg)) 11)) hx hb htg in_M hown hK hP 0 mo_0 rfl 29 (by decide) (htg _ k_f_M_195) (fun _ h9 => h9) rfl d_M_ends_175 ?_
      refine lv_iconst (v := 1) hx hb d_M_ends_178 (by decide) ?_
      refine lv_iadd hx hb d_M_ends_179 ?_
      refine va_put (D := D) (ty := .int) hx hb htg in_M t_M t_M_ok n_M hown hK hP (hI _) hS 0 mo_0 rfl 29 (by decide) (htg _ k_f_M_195) (fun _ h9 => h9) rfl (by decide +kernel) rfl rfl (Nat.le_of_ble_eq_true rfl) d_M_ends_180 (fun H locs hP _ hS => ?_)
      replace hP : va_P D classes (mW cI cZ cJ ao aa (sI (sA q2.2 16 (gI q2.2 11).toNatClampNeg (gA q2.2 7 (((8 : Int32) * x1) + x5).toNatClampNeg)) 11 ((gI (sA q2.2 16 (gI q2.2 11).toNatClampNeg (gA q2.2 7 (((8 : Int32) * x1) + x5).toNatClampNeg)) 11) + (1 : Int32)))) H := pw ms_0_toldMany hP
      exact w_m_M_ends_b183 X hk119 _ _ _ hf H locs ls hP hS (lv_sub hl [0, 1, 2] rfl)
theorem w_m_M_ends_b119 {z : St} (X : Cx b_M_ends 7 none R_M D [(cI, .int), (cZ, .boolean), (cJ, .long)] (mA ao aa) (mW cI cZ cJ ao aa) p s m args meth c) : ∀ (n : Nat) (S : St) (x1 : Int32) (x5 : Int32), m_M_ends_b119 n S x1 x5 = some z → WX rm_m_M_ends D (mA ao aa) (mW cI cZ cJ ao aa) p l e s m args below meth c none z 119 [] 7 [(0, .ref (ao 0)), (1, .int x1), (5, .int x5)] S
  | 0, _, _, _, hf => ns hf
  | n + 1, _, _, _, hf => w_m_M_ends_b119_f X (w_m_M_ends_b119 X n) _ _ _ hf
set_option maxHeartbeats 4000000 in
set_option maxRecDepth 100000 in
theorem w_m_M_ends_b101 {z : St} (X : Cx b_M_ends 7 none R_M D [(cI, .int), (cZ, .boolean), (cJ, .long)] (mA ao aa) (mW cI cZ cJ ao aa) p s m args meth c) (S : St) (x1 : Int32) (x2 : Int32) (hf : m_M_ends_b101 S x1 x2 = some z) : WX rm_m_M_ends D (mA ao aa) (mW cI cZ cJ ao aa) p l e s m args below meth c none z 101 [] 7 [(0, .ref (ao 0)), (1, .int x1), (2, .int x2)] S := by
  intro H locs ls hP hS hl
  obtain ⟨hx, hb, hr0, hml, hown, htg, hlk, hK, hN, hI⟩ := id X
  unfold m_M_ends_b101 at hf
  refine lv_aload_n hx hb d_M_ends_101 rfl (lv_at hl 0 rfl) ?_
  refine lv_bipush (v := 16) hx hb d_M_ends_102 (by decide) ?_
  refine lv_aload_n hx hb d_M_ends_104 rfl (lv_at hl 0 rfl) ?_
  refine va_get (D := D) (v := .int (gI S 6)) hx hb htg in_M hown hK hP 0 mo_0 rfl 22 (by decide) (htg _ k_f_M_167) (fun _ h9 => h9) rfl d_M_ends_105 ?_
  obtain ⟨q1, he, hf⟩ := ob_some hf
  refine cl_Vv (As := [.int (16 : Int32), .int (gI S 6)]) (rest := []) X (c_m_M_fails he) ok_m_M_fails k_m_M_205 (va_recv hK hP rfl mo_0) rfl rfl hl.1 (Nat.le_of_ble_eq_true rfl) d_M_ends_108 ⟨by decide, by decide⟩ hP hS (fun H locs hP hS => ?_)
  refine lv_aload_n hx hb d_M_ends_111 rfl (lv_at hl 0 rfl) ?_
  refine lv_iconst (v := 0) hx hb d_M_ends_112 (by decide) ?_
  refine va_put (D := D) (ty := .int) hx hb htg in_M t_M t_M_ok n_M hown hK hP (hI _) hS 0 mo_0 rfl 31 (by decide) (htg _ k_f_M_192) (fun _ h9 => h9) rfl (by decide +kernel) rfl rfl (Nat.le_of_ble_eq_true rfl) d_M_ends_113 (fun H locs hP _ hS => ?_)
  replace hP : va_P D classes (mW cI cZ cJ ao aa (sI q1 12 (0 : Int32))) H := pw ms_0_fills hP
  refine lv_iload_n hx hb d_M_ends_116 rfl (lv_at hl 2 rfl) ?_
  refine lv_istore (lv' := [(5, .int x2), (0, .ref (ao 0)), (1, .int x1), (2, .int x2)]) hx hb d_M_ends_117 hl (by decide) rfl (fun ls hl => ?_)
  exact w_m_M_ends_b119 X _ _ _ _ hf H locs ls hP hS (lv_sub hl [1, 2, 0] rfl)
set_option maxHeartbeats 4000000 in
set_option maxRecDepth 100000 in
theorem w_m_M_ends_b65 {z : St} (X : Cx b_M_ends 7 none R_M D [(cI, .int), (cZ, .boolean), (cJ, .long)] (mA ao aa) (mW cI cZ cJ ao aa) p s m args meth c) {k8 : St → Int32 → Int32 → Int32 → Int32 → Int32 → Option (St)} (hk8 : ∀ (S : St) (x1 : Int32) (x2 : Int32) (x3 : Int32) (x4 : Int32) (x5 : Int32), k8 S x1 x2 x3 x4 x5 = some z → WX rm_m_M_ends D (mA ao aa) (mW cI cZ cJ ao aa) p l e s m args below meth c none z 8 [] 7 [(0, .ref (ao 0)), (1, .int x1), (2, .int x2), (3, .int x3), (4, .int x4), (5, .int x5)] S) (S : St) (x1 : Int32) (x2 : Int32) (x3 : Int32) (x5 : Int32) (s0 : Int32) (hf : m_M_ends_b65 k8 S x1 x2 x3 x5 s0 = some z) : WX rm_m_M_ends D (mA ao aa) (mW cI cZ cJ ao aa) p l e s m args below meth c none z 65 [.int s0] 7 [(0, .ref (ao 0)), (1, .int x1), (2, .int x2), (3, .int x3), (5, .int x5)] S := by
  intro H locs ls hP hS hl
  obtain ⟨hx, hb, hr0, hml, hown, htg, hlk, hK, hN, hI⟩ := id X
  unfold m_M_ends_b65 at hf
  refine lv_istore (lv' := [(4, .int s0), (0, .ref (ao 0)), (1, .int x1), (2, .int x2), (3, .int x3), (5, .int x5)]) hx hb d_M_ends_65 hl (by decide) rfl (fun ls hl => ?_)
  refine lv_iinc (v := (x5 + 1)) (lv' := [(5, .int (x5 + 1)), (4, .int s0), (0, .ref (ao 0)), (1, .int x1), (2, .int x2), (3, .int x3)]) hx hb d_M_ends_67 hl (k := 5) rfl rfl (by decide) rfl (fun ls hl => ?_)
  refine lv_goto (tgt := 8) hx hb d_M_ends_70 (by decide) ?_
  exact hk8 _ _ _ _ _ _ hf H locs ls hP hS (lv_sub hl [2, 3, 4, 5, 1, 0] rfl)
set_option maxHeartbeats 4000000 in
set_option maxRecDepth 100000 in
theorem w_m_M_ends_b64 {z : St} (X : Cx b_M_ends 7 none R_M D [(cI, .int), (cZ, .boolean), (cJ, .long)] (mA ao aa) (mW cI cZ cJ ao aa) p s m args meth c) {k8 : St → Int32 → Int32 → Int32 → Int32 → Int32 → Option (St)} (hk8 : ∀ (S : St) (x1 : Int32) (x2 : Int32) (x3 : Int32) (x4 : Int32) (x5 : Int32), k8 S x1 x2 x3 x4 x5 = some z → WX rm_m_M_ends D (mA ao aa) (mW cI cZ cJ ao aa) p l e s m args below meth c none z 8 [] 7 [(0, .ref (ao 0)), (1, .int x1), (2, .int x2), (3, .int x3), (4, .int x4), (5, .int x5)] S) (S : St) (x1 : Int32) (x2 : Int32) (x3 : Int32) (x5 : Int32) (hf : m_M_ends_b64 k8 S x1 x2 x3 x5 = some z) : WX rm_m_M_ends D (mA ao aa) (mW cI cZ cJ ao aa) p l e s m args below meth c none z 64 [] 7 [(0, .ref (ao 0)), (1, .int x1), (2, .int x2), (3, .int x3), (5, .int x5)] S := by
  intro H locs ls hP hS hl
  obtain ⟨hx, hb, hr0, hml, hown, htg, hlk, hK, hN, hI⟩ := id X
  unfold m_M_ends_b64 at hf
  refine lv_iconst (v := 0) hx hb d_M_ends_64 (by decide) ?_
  exact w_m_M_ends_b65 X hk8 _ _ _ _ _ _ hf H locs ls hP hS (lv_sub hl [0, 1, 2, 3, 4] rfl)
set_option maxHeartbeats 4000000 in
set_option maxRecDepth 100000 in
theorem w_m_M_ends_b47 {z : St} (X : Cx b_M_ends 7 none R_M D [(cI, .int), (cZ, .boolean), (cJ, .long)] (mA ao aa) (mW cI cZ cJ ao aa) p s m args meth c) {k8 : St → Int32 → Int32 → Int32 → Int32 → Int32 → Option (St)} (hk8 : ∀ (S : St) (x1 : Int32) (x2 : Int32) (x3 : Int32) (x4 : Int32) (x5 : Int32), k8 S x1 x2 x3 x4 x5 = some z → WX rm_m_M_ends D (mA ao aa) (mW cI cZ cJ ao aa) p l e s m args below meth c none z 8 [] 7 [(0, .ref (ao 0)), (1, .int x1), (2, .int x2), (3, .int x3), (4, .int x4), (5, .int x5)] S) (S : St) (x1 : Int32) (x2 : Int32) (x4 : Int32) (x5 : Int32) (x6 : Int32) (s0 : Int32) (s1 : Int32) (hf : m_M_ends_b47 k8 S x1 x2 x4 x5 x6 s0 s1 = some z) : WX rm_m_M_ends D (mA ao aa) (mW cI cZ cJ ao aa) p l e s m args below meth c none z 47 [.int s0, .int s1] 7 [(0, .ref (ao 0)), (1, .int x1), (2, .int x2), (4, .int x4), (5, .int x5), (6, .int x6)] S := by
  intro H locs ls hP hS hl
  obtain ⟨hx, hb, hr0, hml, hown, htg, hlk, hK, hN, hI⟩ := id X
  unfold m_M_ends_b47 at hf
  refine lv_iadd hx hb d_M_ends_47 ?_
  refine lv_istore_n (lv' := [(3, .int (s1 + s0)), (0, .ref (ao 0)), (1, .int x1), (2, .int x2), (4, .int x4), (5, .int x5), (6, .int x6)]) hx hb d_M_ends_48 rfl hl (by decide) rfl (fun ls hl => ?_)
  refine lv_iload hx hb d_M_ends_49 (lv_at hl 4 rfl) ?_
  refine lv_if_eq (tgt := 64) hx hb d_M_ends_51 (by decide) (fun c => ?_) (fun c => ?_)
  · have hf := if_t hf c
    exact w_m_M_ends_b64 X hk8 _ _ _ _ _ hf H locs ls hP hS (lv_sub hl [1, 2, 3, 0, 5] rfl)
  · have hf := if_f hf c
    refine lv_iload hx hb d_M_ends_54 (lv_at hl 6 rfl) ?_
    refine lv_iconst (v := 5) hx hb d_M_ends_56 (by decide) ?_
    refine lv_icmp_gt (tgt := 64) hx hb d_M_ends_57 (by decide) (fun c => ?_) (fun c => ?_)
    · have hf := if_t hf c
      exact w_m_M_ends_b64 X hk8 _ _ _ _ _ hf H locs ls hP hS (lv_sub hl [1, 2, 3, 0, 5] rfl)
    · have hf := if_f hf c
      refine lv_iconst (v := 1) hx hb d_M_ends_60 (by decide) ?_
      refine lv_goto (tgt := 65) hx hb d_M_ends_61 (by decide) ?_
      exact w_m_M_ends_b65 X hk8 _ _ _ _ _ _ hf H locs ls hP hS (lv_sub hl [1, 2, 3, 0, 5] rfl)
set_option maxHeartbeats 4000000 in
set_option maxRecDepth 100000 in
theorem w_m_M_ends_b8_f {z : St} (X : Cx b_M_ends 7 none R_M D [(cI, .int), (cZ, .boolean), (cJ, .long)] (mA ao aa) (mW cI cZ cJ ao aa) p s m args meth c) {k8 : St → Int32 → Int32 → Int32 → Int32 → Int32 → Option (St)} (hk8 : ∀ (S : St) (x1 : Int32) (x2 : Int32) (x3 : Int32) (x4 : Int32) (x5 : Int32), k8 S x1 x2 x3 x4 x5 = some z → WX rm_m_M_ends D (mA ao aa) (mW cI cZ cJ ao aa) p l e s m args below meth c none z 8 [] 7 [(0, .ref (ao 0)), (1, .int x1), (2, .int x2), (3, .int x3), (4, .int x4), (5, .int x5)] S) (S : St) (x1 : Int32) (x2 : Int32) (x3 : Int32) (x4 : Int32) (x5 : Int32) (hf : m_M_ends_b8_f k8 S x1 x2 x3 x4 x5 = some z) : WX rm_m_M_ends D (mA ao aa) (mW cI cZ cJ ao aa) p l e s m args below meth c none z 8 [] 7 [(0, .ref (ao 0)), (1, .int x1), (2, .int x2), (3, .int x3), (4, .int x4), (5, .int x5)] S := by
  intro H locs ls hP hS hl
  obtain ⟨hx, hb, hr0, hml, hown, htg, hlk, hK, hN, hI⟩ := id X
  unfold m_M_ends_b8_f at hf
  refine lv_iload hx hb d_M_ends_8 (lv_at hl 5 rfl) ?_
  refine lv_aload_n hx hb d_M_ends_10 rfl (lv_at hl 0 rfl) ?_
  refine va_get (D := D) (v := .ref (aa 5)) hx hb htg in_M hown hK hP 0 mo_0 rfl 8 (by decide) (htg _ k_f_M_26) (fun _ h9 => h9) rfl d_M_ends_11 ?_
  refine lv_iload_n hx hb d_M_ends_14 rfl (lv_at hl 1 rfl) ?_
  obtain ⟨hg, hf⟩ := gd_some hf
  refine va_iald hx hb hK hP 6 0 ma_5 rfl (vin_in hg) d_M_ends_15 ?_
  refine lv_icmp_ge (tgt := 73) hx hb d_M_ends_16 (by decide) (fun c => ?_) (fun c => ?_)
  · have hf := if_t hf c
    refine lv_iload_n hx hb d_M_ends_73 rfl (lv_at hl 3 rfl) ?_
    refine lv_if_ne (tgt := 87) hx hb d_M_ends_74 (by decide) (fun c => ?_) (fun c => ?_)
    · have hf := if_f hf c
      refine lv_iload hx hb d_M_ends_87 (lv_at hl 4 rfl) ?_
      refine lv_if_eq (tgt := 101) hx hb d_M_ends_89 (by decide) (fun c => ?_) (fun c => ?_)
      · have hf := if_t hf c
        exact w_m_M_ends_b101 X _ _ _ hf H locs ls hP hS (lv_sub hl [0, 1, 2] rfl)
      · have hf := if_f hf c
        refine lv_aload_n hx hb d_M_ends_92 rfl (lv_at hl 0 rfl) ?_
        refine lv_iload_n hx hb d_M_ends_93 rfl (lv_at hl 1 rfl) ?_
        refine lv_iload_n hx hb d_M_ends_94 rfl (lv_at hl 2 rfl) ?_
        obtain ⟨q3, he, hf⟩ := ob_some hf
        refine cl_Vi (As := [.int x1, .int x2]) (rest := []) X (c_m_M_isFilled he) ok_m_M_isFilled k_m_M_253 (va_recv hK hP rfl mo_0) rfl rfl hl.1 (Nat.le_of_ble_eq_true rfl) d_M_ends_95 ⟨by decide, by decide⟩ hP hS (fun H locs hP hS => ?_)
        refine lv_if_ne (tgt := 205) hx hb d_M_ends_98 (by decide) (fun c => ?_) (fun c => ?_)
        · have hf := if_f hf c
          obtain rfl := Option.some.inj hf
          exact W.vret hx hb hr0 (fun t ht _ => ⟨⟨rfl, by rw [ht]; exact hP⟩, hS.F ht⟩) hS.2.2 d_M_ends_205 hlk
        · have hf := if_t hf c
          exact w_m_M_ends_b101 X _ _ _ hf H locs ls hP hS (lv_sub hl [0, 1, 2] rfl)
    · have hf := if_t hf c
      refine lv_aload_n hx hb d_M_ends_77 rfl (lv_at hl 0 rfl) ?_
      refine lv_iconst (v := 5) hx hb d_M_ends_78 (by decide) ?_
      refine lv_aload_n hx hb d_M_ends_79 rfl (lv_at hl 0 rfl) ?_
      refine va_get (D := D) (v := .int (gI S 6)) hx hb htg in_M hown hK hP 0 mo_0 rfl 22 (by decide) (htg _ k_f_M_167) (fun _ h9 => h9) rfl d_M_ends_80 ?_
      obtain ⟨q4, he, hf⟩ := ob_some hf
      refine cl_Vv (As := [.int (5 : Int32), .int (gI S 6)]) (rest := []) X (c_m_M_fails he) ok_m_M_fails k_m_M_205 (va_recv hK hP rfl mo_0) rfl rfl hl.1 (Nat.le_of_ble_eq_true rfl) d_M_ends_83 ⟨by decide, by decide⟩ hP hS (fun H locs hP hS => ?_)
      obtain rfl := Option.some.inj hf
      exact W.vret hx hb hr0 (fun t ht _ => ⟨⟨rfl, by rw [ht]; exact hP⟩, hS.F ht⟩) hS.2.2 d_M_ends_86 hlk
  · have hf := if_f hf c
    refine lv_aload_n hx hb d_M_ends_19 rfl (lv_at hl 0 rfl) ?_
    refine va_get (D := D) (v := .ref (aa 6)) hx hb htg in_M hown hK hP 0 mo_0 rfl 9 (by decide) (htg _ k_f_M_29) (fun _ h9 => h9) rfl d_M_ends_20 ?_
    refine lv_bipush (v := 8) hx hb d_M_ends_23 (by decide) ?_
    refine lv_iload_n hx hb d_M_ends_25 rfl (lv_at hl 1 rfl) ?_
    refine lv_imul hx hb d_M_ends_26 ?_
    refine lv_iload hx hb d_M_ends_27 (lv_at hl 5 rfl) ?_
    refine lv_iadd hx hb d_M_ends_29 ?_
    obtain ⟨hg, hf⟩ := gd_some hf
    refine va_iald hx hb hK hP 7 0 ma_6 rfl (vin_in hg) d_M_ends_30 ?_
    refine lv_istore (lv' := [(6, .int (gA S 6 (((8 : Int32) * x1) + x5).toNatClampNeg)), (0, .ref (ao 0)), (1, .int x1), (2, .int x2), (3, .int x3), (4, .int x4), (5, .int x5)]) hx hb d_M_ends_31 hl (by decide) rfl (fun ls hl => ?_)
    refine lv_iload_n hx hb d_M_ends_33 rfl (lv_at hl 4 rfl) ?_
    refine lv_iload hx hb d_M_ends_34 (lv_at hl 0 rfl) ?_
    obtain ⟨q5, he, hf⟩ := ob_some hf
    refine cl_Si (As := [.int (gA S 6 (((8 : Int32) * x1) + x5).toNatClampNeg)]) (rest := [.int x3]) X (c_m_M_isSlot he) ok_m_M_isSlot k_m_M_137 rfl rfl hl.1 (Nat.le_of_ble_eq_true rfl) d_M_ends_36 ⟨by decide, by decide⟩ hP hS (fun H locs hP hS => ?_)
    refine lv_if_eq (tgt := 46) hx hb d_M_ends_39 (by decide) (fun c => ?_) (fun c => ?_)
    · have hf := if_t hf c
      refine lv_iconst (v := 0) hx hb d_M_ends_46 (by decide) ?_
      exact w_m_M_ends_b47 X hk8 _ _ _ _ _ _ _ _ hf H locs ls hP hS (lv_sub hl [1, 2, 3, 5, 6, 0] rfl)
    · have hf := if_f hf c
      refine lv_iconst (v := 1) hx hb d_M_ends_42 (by decide) ?_
      refine lv_goto (tgt := 47) hx hb d_M_ends_43 (by decide) ?_
      exact w_m_M_ends_b47 X hk8 _ _ _ _ _ _ _ _ hf H locs ls hP hS (lv_sub hl [1, 2, 3, 5, 6, 0] rfl)
theorem w_m_M_ends_b8 {z : St} (X : Cx b_M_ends 7 none R_M D [(cI, .int), (cZ, .boolean), (cJ, .long)] (mA ao aa) (mW cI cZ cJ ao aa) p s m args meth c) : ∀ (n : Nat) (S : St) (x1 : Int32) (x2 : Int32) (x3 : Int32) (x4 : Int32) (x5 : Int32), m_M_ends_b8 n S x1 x2 x3 x4 x5 = some z → WX rm_m_M_ends D (mA ao aa) (mW cI cZ cJ ao aa) p l e s m args below meth c none z 8 [] 7 [(0, .ref (ao 0)), (1, .int x1), (2, .int x2), (3, .int x3), (4, .int x4), (5, .int x5)] S
  | 0, _, _, _, _, _, _, hf => ns hf
  | n + 1, _, _, _, _, _, _, hf => w_m_M_ends_b8_f X (w_m_M_ends_b8 X n) _ _ _ _ _ _ hf
set_option maxHeartbeats 4000000 in
set_option maxRecDepth 100000 in
theorem w_m_M_ends {z : St} (X : Cx b_M_ends 7 none R_M D [(cI, .int), (cZ, .boolean), (cJ, .long)] (mA ao aa) (mW cI cZ cJ ao aa) p s m args meth c) (S : St) (x0 : Int32) (x1 : Int32) (hf : m_M_ends S x0 x1 = some z) : WX rm_m_M_ends D (mA ao aa) (mW cI cZ cJ ao aa) p l e s m args below meth c none z 0 [] 7 [(0, .ref (ao 0)), (1, .int x0), (2, .int x1)] S := by
  intro H locs ls hP hS hl
  obtain ⟨hx, hb, hr0, hml, hown, htg, hlk, hK, hN, hI⟩ := id X
  unfold m_M_ends at hf
  refine lv_iconst (v := 0) hx hb d_M_ends_0 (by decide) ?_
  refine lv_istore_n (lv' := [(3, .int (0 : Int32)), (0, .ref (ao 0)), (1, .int x0), (2, .int x1)]) hx hb d_M_ends_1 rfl hl (by decide) rfl (fun ls hl => ?_)
  refine lv_iconst (v := 1) hx hb d_M_ends_2 (by decide) ?_
  refine lv_istore (lv' := [(4, .int (1 : Int32)), (3, .int (0 : Int32)), (0, .ref (ao 0)), (1, .int x0), (2, .int x1)]) hx hb d_M_ends_3 hl (by decide) rfl (fun ls hl => ?_)
  refine lv_iload_n hx hb d_M_ends_5 rfl (lv_at hl 4 rfl) ?_
  refine lv_istore (lv' := [(5, .int x1), (4, .int (1 : Int32)), (3, .int (0 : Int32)), (0, .ref (ao 0)), (1, .int x0), (2, .int x1)]) hx hb d_M_ends_6 hl (by decide) rfl (fun ls hl => ?_)
  exact w_m_M_ends_b8 X _ _ _ _ _ _ _ hf H locs ls hP hS (lv_sub hl [3, 4, 5, 2, 1, 0] rfl)
theorem c_m_M_ends {l : Launch} {D : va_G} {cI cZ cJ : ClassId} {ao aa : Nat → Nat} {S : St} {x0 : Int32} {x1 : Int32} {z : St} (hz : m_M_ends S x0 x1 = some z) : Ct l y_M_ends (.code y_M_ends b_M_ends 7 none :: gw) rm_m_M_ends D [(cI, .int), (cZ, .boolean), (cJ, .long)] (mA ao aa) (mW cI cZ cJ ao aa) [.ref (ao 0), .int x0, .int x1] S none z :=
  Ct_of (by decide) (fun p e s m args below meth c X => w_m_M_ends X _ _ _ hz) (Nat.le_of_ble_eq_true rfl)
def m_M_tries_b119 (S : St) : Option (St) :=
  if (gI S 7) = 0 then
    (m_M_others S).bind fun q1 =>
    some q1
  else
    some S
def m_M_tries_b92 (S : St) (x2 : Int32) (x4 : Int32) : Option (St) :=
  if (gI S 7) = 0 then
    if x4 = 0 then
      if (gI S 6) ≤ x2 then
        m_M_tries_b119 S
      else
        (m_M_fails S (6 : Int32) x2).bind fun q2 =>
        m_M_tries_b119 q2
    else
      m_M_tries_b119 S
  else
    m_M_tries_b119 S
def m_M_tries_b32_f (k32 : St → Int32 → Int32 → Int32 → Int32 → Option (St)) (S : St) (x1 : Int32) (x2 : Int32) (x3 : Int32) (x4 : Int32) : Option (St) :=
  gd (vin x1 60) <|
  if (gA S 5 x1.toNatClampNeg) ≤ x3 then
    m_M_tries_b92 S x2 x4
  else
    if (gI S 7) = 0 then
      if x4 = 0 then
        if x2 < (gI S 6) then
          (m_M_takes S x1 x3 x2).bind fun q3 =>
          (m_M_next q3.2 x1 x3).bind fun q4 =>
          k32 q4.2 x1 q3.1 q4.1 x4
        else
          (m_M_ends S x1 x3).bind fun q5 =>
          k32 q5 x1 x2 x3 (1 : Int32)
      else
        m_M_tries_b92 S x2 x4
    else
      m_M_tries_b92 S x2 x4
def m_M_tries_b32 : Nat → St → Int32 → Int32 → Int32 → Int32 → Option (St)
  | 0, _, _, _, _, _ => none
  | n + 1, S, x1, x2, x3, x4 => m_M_tries_b32_f (m_M_tries_b32 n) S x1 x2 x3 x4
def m_M_tries (S : St) (x0 : Int32) : Option (St) :=
  m_M_tries_b32 fu (sI (sI (sI (sI (sI S 7 (0 : Int32)) 8 (-1 : Int32)) 12 (0 : Int32)) 11 (0 : Int32)) 13 (0 : Int32)) x0 (1 : Int32) (0 : Int32) (0 : Int32)
def rm_m_M_tries : Room := { frames := 6, cells := 0, slots := 0, locals := 146 }
theorem ok_m_M_tries : CalV y_M_tries b_M_tries 5 none 1 rm_m_M_tries := ⟨kc_M_tries, ki_M_tries, kl_M_tries, ji_M, ⟨by decide, by decide, by decide +kernel⟩, rfl, rfl⟩
set_option maxHeartbeats 4000000 in
set_option maxRecDepth 100000 in
theorem w_m_M_tries_b119 {z : St} (X : Cx b_M_tries 5 none R_M D [(cI, .int), (cZ, .boolean), (cJ, .long)] (mA ao aa) (mW cI cZ cJ ao aa) p s m args meth c) (S : St) (hf : m_M_tries_b119 S = some z) : WX rm_m_M_tries D (mA ao aa) (mW cI cZ cJ ao aa) p l e s m args below meth c none z 119 [] 5 [(0, .ref (ao 0))] S := by
  intro H locs ls hP hS hl
  obtain ⟨hx, hb, hr0, hml, hown, htg, hlk, hK, hN, hI⟩ := id X
  unfold m_M_tries_b119 at hf
  refine lv_aload_n hx hb d_M_tries_119 rfl (lv_at hl 0 rfl) ?_
  refine va_get (D := D) (v := .int (gI S 7)) hx hb htg in_M hown hK hP 0 mo_0 rfl 24 (by decide) (htg _ k_f_M_180) (fun _ h9 => h9) rfl d_M_tries_120 ?_
  refine lv_if_ne (tgt := 130) hx hb d_M_tries_123 (by decide) (fun c => ?_) (fun c => ?_)
  · have hf := if_f hf c
    obtain rfl := Option.some.inj hf
    exact W.vret hx hb hr0 (fun t ht _ => ⟨⟨rfl, by rw [ht]; exact hP⟩, hS.F ht⟩) hS.2.2 d_M_tries_130 hlk
  · have hf := if_t hf c
    refine lv_aload_n hx hb d_M_tries_126 rfl (lv_at hl 0 rfl) ?_
    obtain ⟨q1, he, hf⟩ := ob_some hf
    refine cl_Vv (As := []) (rest := []) X (c_m_M_others he) ok_m_M_others k_m_M_208 (va_recv hK hP rfl mo_0) rfl rfl hl.1 (Nat.le_of_ble_eq_true rfl) d_M_tries_127 ⟨by decide, by decide⟩ hP hS (fun H locs hP hS => ?_)
    obtain rfl := Option.some.inj hf
    exact W.vret hx hb hr0 (fun t ht _ => ⟨⟨rfl, by rw [ht]; exact hP⟩, hS.F ht⟩) hS.2.2 d_M_tries_130 hlk
set_option maxHeartbeats 4000000 in
set_option maxRecDepth 100000 in
theorem w_m_M_tries_b92 {z : St} (X : Cx b_M_tries 5 none R_M D [(cI, .int), (cZ, .boolean), (cJ, .long)] (mA ao aa) (mW cI cZ cJ ao aa) p s m args meth c) (S : St) (x2 : Int32) (x4 : Int32) (hf : m_M_tries_b92 S x2 x4 = some z) : WX rm_m_M_tries D (mA ao aa) (mW cI cZ cJ ao aa) p l e s m args below meth c none z 92 [] 5 [(0, .ref (ao 0)), (2, .int x2), (4, .int x4)] S := by
  intro H locs ls hP hS hl
  obtain ⟨hx, hb, hr0, hml, hown, htg, hlk, hK, hN, hI⟩ := id X
  unfold m_M_tries_b92 at hf
  refine lv_aload_n hx hb d_M_tries_92 rfl (lv_at hl 0 rfl) ?_
  refine va_get (D := D) (v := .int (gI S 7)) hx hb htg in_M hown hK hP 0 mo_0 rfl 24 (by decide) (htg _ k_f_M_180) (fun _ h9 => h9) rfl d_M_tries_93 ?_
  refine lv_if_ne (tgt := 119) hx hb d_M_tries_96 (by decide) (fun c => ?_) (fun c => ?_)
  · have hf := if_f hf c
    exact w_m_M_tries_b119 X _ hf H locs ls hP hS (lv_sub hl [0] rfl)
  · have hf := if_t hf c
    refine lv_iload hx hb d_M_tries_99 (lv_at hl 2 rfl) ?_
    refine lv_if_ne (tgt := 119) hx hb d_M_tries_101 (by decide) (fun c => ?_) (fun c => ?_)
    · have hf := if_f hf c
      exact w_m_M_tries_b119 X _ hf H locs ls hP hS (lv_sub hl [0] rfl)
    · have hf := if_t hf c
      refine lv_iload_n hx hb d_M_tries_104 rfl (lv_at hl 1 rfl) ?_
      refine lv_aload_n hx hb d_M_tries_105 rfl (lv_at hl 0 rfl) ?_
      refine va_get (D := D) (v := .int (gI S 6)) hx hb htg in_M hown hK hP 0 mo_0 rfl 22 (by decide) (htg _ k_f_M_167) (fun _ h9 => h9) rfl d_M_tries_106 ?_
      refine lv_icmp_ge (tgt := 119) hx hb d_M_tries_109 (by decide) (fun c => ?_) (fun c => ?_)
      · have hf := if_t hf c
        exact w_m_M_tries_b119 X _ hf H locs ls hP hS (lv_sub hl [0] rfl)
      · have hf := if_f hf c
        refine lv_aload_n hx hb d_M_tries_112 rfl (lv_at hl 0 rfl) ?_
        refine lv_bipush (v := 6) hx hb d_M_tries_113 (by decide) ?_
        refine lv_iload_n hx hb d_M_tries_115 rfl (lv_at hl 1 rfl) ?_
        obtain ⟨q2, he, hf⟩ := ob_some hf
        refine cl_Vv (As := [.int (6 : Int32), .int x2]) (rest := []) X (c_m_M_fails he) ok_m_M_fails k_m_M_205 (va_recv hK hP rfl mo_0) rfl rfl hl.1 (Nat.le_of_ble_eq_true rfl) d_M_tries_116 ⟨by decide, by decide⟩ hP hS (fun H locs hP hS => ?_)
        exact w_m_M_tries_b119 X _ hf H locs ls hP hS (lv_sub hl [0] rfl)
set_option maxHeartbeats 4000000 in
set_option maxRecDepth 100000 in
theorem w_m_M_tries_b32_f {z : St} (X : Cx b_M_tries 5 none R_M D [(cI, .int), (cZ, .boolean), (cJ, .long)] (mA ao aa) (mW cI cZ cJ ao aa) p s m args meth c) {k32 : St → Int32 → Int32 → Int32 → Int32 → Option (St)} (hk32 : ∀ (S : St) (x1 : Int32) (x2 : Int32) (x3 : Int32) (x4 : Int32), k32 S x1 x2 x3 x4 = some z → WX rm_m_M_tries D (mA ao aa) (mW cI cZ cJ ao aa) p l e s m args below meth c none z 32 [] 5 [(0, .ref (ao 0)), (1, .int x1), (2, .int x2), (3, .int x3), (4, .int x4)] S) (S : St) (x1 : Int32) (x2 : Int32) (x3 : Int32) (x4 : Int32) (hf : m_M_tries_b32_f k32 S x1 x2 x3 x4 = some z) : WX rm_m_M_tries D (mA ao aa) (mW cI cZ cJ ao aa) p l e s m args below meth c none z 32 [] 5 [(0, .ref (ao 0)), (1, .int x1), (2, .int x2), (3, .int x3), (4, .int x4)] S := by
  intro H locs ls hP hS hl
  obtain ⟨hx, hb, hr0, hml, hown, htg, hlk, hK, hN, hI⟩ := id X
  unfold m_M_tries_b32_f at hf
  refine lv_iload_n hx hb d_M_tries_32 rfl (lv_at hl 3 rfl) ?_
  refine lv_aload_n hx hb d_M_tries_33 rfl (lv_at hl 0 rfl) ?_
  refine va_get (D := D) (v := .ref (aa 5)) hx hb htg in_M hown hK hP 0 mo_0 rfl 8 (by decide) (htg _ k_f_M_26) (fun _ h9 => h9) rfl d_M_tries_34 ?_
  refine lv_iload_n hx hb d_M_tries_37 rfl (lv_at hl 1 rfl) ?_
  obtain ⟨hg, hf⟩ := gd_some hf
  refine va_iald hx hb hK hP 6 0 ma_5 rfl (vin_in hg) d_M_tries_38 ?_
  refine lv_icmp_ge (tgt := 92) hx hb d_M_tries_39 (by decide) (fun c => ?_) (fun c => ?_)
  · have hf := if_t hf c
    exact w_m_M_tries_b92 X _ _ _ hf H locs ls hP hS (lv_sub hl [0, 2, 4] rfl)
  · have hf := if_f hf c
    refine lv_aload_n hx hb d_M_tries_42 rfl (lv_at hl 0 rfl) ?_
    refine va_get (D := D) (v := .int (gI S 7)) hx hb htg in_M hown hK hP 0 mo_0 rfl 24 (by decide) (htg _ k_f_M_180) (fun _ h9 => h9) rfl d_M_tries_43 ?_
    refine lv_if_ne (tgt := 92) hx hb d_M_tries_46 (by decide) (fun c => ?_) (fun c => ?_)
    · have hf := if_f hf c
      exact w_m_M_tries_b92 X _ _ _ hf H locs ls hP hS (lv_sub hl [0, 2, 4] rfl)
    · have hf := if_t hf c
      refine lv_iload hx hb d_M_tries_49 (lv_at hl 4 rfl) ?_
      refine lv_if_ne (tgt := 92) hx hb d_M_tries_51 (by decide) (fun c => ?_) (fun c => ?_)
      · have hf := if_f hf c
        exact w_m_M_tries_b92 X _ _ _ hf H locs ls hP hS (lv_sub hl [0, 2, 4] rfl)
      · have hf := if_t hf c
        refine lv_iload_n hx hb d_M_tries_54 rfl (lv_at hl 2 rfl) ?_
        refine lv_aload_n hx hb d_M_tries_55 rfl (lv_at hl 0 rfl) ?_
        refine va_get (D := D) (v := .int (gI S 6)) hx hb htg in_M hown hK hP 0 mo_0 rfl 22 (by decide) (htg _ k_f_M_167) (fun _ h9 => h9) rfl d_M_tries_56 ?_
        refine lv_icmp_lt (tgt := 74) hx hb d_M_tries_59 (by decide) (fun c => ?_) (fun c => ?_)
        · have hf := if_t hf c
          refine lv_aload_n hx hb d_M_tries_74 rfl (lv_at hl 0 rfl) ?_
          refine lv_iload_n hx hb d_M_tries_75 rfl (lv_at hl 1 rfl) ?_
          refine lv_iload_n hx hb d_M_tries_76 rfl (lv_at hl 3 rfl) ?_
          refine lv_iload_n hx hb d_M_tries_77 rfl (lv_at hl 2 rfl) ?_
          obtain ⟨q3, he, hf⟩ := ob_some hf
          refine cl_Vi (As := [.int x1, .int x3, .int x2]) (rest := []) X (c_m_M_takes he) ok_m_M_takes k_m_M_201 (va_recv hK hP rfl mo_0) rfl rfl hl.1 (Nat.le_of_ble_eq_true rfl) d_M_tries_78 ⟨by decide, by decide⟩ hP hS (fun H locs hP hS => ?_)
          refine lv_istore_n (lv' := [(2, .int q3.1), (0, .ref (ao 0)), (1, .int x1), (3, .int x3), (4, .int x4)]) hx hb d_M_tries_81 rfl hl (by decide) rfl (fun ls hl => ?_)
          refine lv_aload_n hx hb d_M_tries_82 rfl (lv_at hl 1 rfl) ?_
          refine lv_iload_n hx hb d_M_tries_83 rfl (lv_at hl 2 rfl) ?_
          refine lv_iload_n hx hb d_M_tries_84 rfl (lv_at hl 3 rfl) ?_
          obtain ⟨q4, he, hf⟩ := ob_some hf
          refine cl_Vi (As := [.int x1, .int x3]) (rest := []) X (c_m_M_next he) ok_m_M_next k_m_M_189 (va_recv hK hP rfl mo_0) rfl rfl hl.1 (Nat.le_of_ble_eq_true rfl) d_M_tries_85 ⟨by decide, by decide⟩ hP hS (fun H locs hP hS => ?_)
          refine lv_istore_n (lv' := [(3, .int q4.1), (2, .int q3.1), (0, .ref (ao 0)), (1, .int x1), (4, .int x4)]) hx hb d_M_tries_88 rfl hl (by decide) rfl (fun ls hl => ?_)
          refine lv_goto (tgt := 32) hx hb d_M_tries_89 (by decide) ?_
          exact hk32 _ _ _ _ _ hf H locs ls hP hS (lv_sub hl [2, 3, 1, 0, 4] rfl)
        · have hf := if_f hf c
          refine lv_aload_n hx hb d_M_tries_62 rfl (lv_at hl 0 rfl) ?_
          refine lv_iload_n hx hb d_M_tries_63 rfl (lv_at hl 1 rfl) ?_
          refine lv_iload_n hx hb d_M_tries_64 rfl (lv_at hl 3 rfl) ?_
          obtain ⟨q5, he, hf⟩ := ob_some hf
          refine cl_Vv (As := [.int x1, .int x3]) (rest := []) X (c_m_M_ends he) ok_m_M_ends k_m_M_198 (va_recv hK hP rfl mo_0) rfl rfl hl.1 (Nat.le_of_ble_eq_true rfl) d_M_tries_65 ⟨by decide, by decide⟩ hP hS (fun H locs hP hS => ?_)
          refine lv_iconst (v := 1) hx hb d_M_tries_68 (by decide) ?_
          refine lv_istore (lv' := [(4, .int (1 : Int32)), (0, .ref (ao 0)), (1, .int x1), (2, .int x2), (3, .int x3)]) hx hb d_M_tries_69 hl (by decide) rfl (fun ls hl => ?_)
          refine lv_goto (tgt := 32) hx hb d_M_tries_71 (by decide) ?_
          exact hk32 _ _ _ _ _ hf H locs ls hP hS (lv_sub hl [1, 2, 3, 4, 0] rfl)
theorem w_m_M_tries_b32 {z : St} (X : Cx b_M_tries 5 none R_M D [(cI, .int), (cZ, .boolean), (cJ, .long)] (mA ao aa) (mW cI cZ cJ ao aa) p s m args meth c) : ∀ (n : Nat) (S : St) (x1 : Int32) (x2 : Int32) (x3 : Int32) (x4 : Int32), m_M_tries_b32 n S x1 x2 x3 x4 = some z → WX rm_m_M_tries D (mA ao aa) (mW cI cZ cJ ao aa) p l e s m args below meth c none z 32 [] 5 [(0, .ref (ao 0)), (1, .int x1), (2, .int x2), (3, .int x3), (4, .int x4)] S
  | 0, _, _, _, _, _, hf => ns hf
  | n + 1, _, _, _, _, _, hf => w_m_M_tries_b32_f X (w_m_M_tries_b32 X n) _ _ _ _ _ hf
set_option maxHeartbeats 4000000 in
set_option maxRecDepth 100000 in
theorem w_m_M_tries {z : St} (X : Cx b_M_tries 5 none R_M D [(cI, .int), (cZ, .boolean), (cJ, .long)] (mA ao aa) (mW cI cZ cJ ao aa) p s m args meth c) (S : St) (x0 : Int32) (hf : m_M_tries S x0 = some z) : WX rm_m_M_tries D (mA ao aa) (mW cI cZ cJ ao aa) p l e s m args below meth c none z 0 [] 5 [(0, .ref (ao 0)), (1, .int x0)] S := by
  intro H locs ls hP hS hl
  obtain ⟨hx, hb, hr0, hml, hown, htg, hlk, hK, hN, hI⟩ := id X
  unfold m_M_tries at hf
  refine lv_aload_n hx hb d_M_tries_0 rfl (lv_at hl 0 rfl) ?_
  refine lv_iconst (v := 0) hx hb d_M_tries_1 (by decide) ?_
  refine va_put (D := D) (ty := .int) hx hb htg in_M t_M t_M_ok n_M hown hK hP (hI _) hS 0 mo_0 rfl 24 (by decide) (htg _ k_f_M_180) (fun _ h9 => h9) rfl (by decide +kernel) rfl rfl (Nat.le_of_ble_eq_true rfl) d_M_tries_2 (fun H locs hP _ hS => ?_)
  replace hP : va_P D classes (mW cI cZ cJ ao aa (sI S 7 (0 : Int32))) H := pw ms_0_error hP
  refine lv_aload_n hx hb d_M_tries_5 rfl (lv_at hl 0 rfl) ?_
  refine lv_iconst (v := (-1)) hx hb d_M_tries_6 (by decide) ?_
  refine va_put (D := D) (ty := .int) hx hb htg in_M t_M t_M_ok n_M hown hK hP (hI _) hS 0 mo_0 rfl 25 (by decide) (htg _ k_f_M_183) (fun _ h9 => h9) rfl (by decide +kernel) rfl rfl (Nat.le_of_ble_eq_true rfl) d_M_tries_7 (fun H locs hP _ hS => ?_)
  replace hP : va_P D classes (mW cI cZ cJ ao aa (sI (sI S 7 (0 : Int32)) 8 (-1 : Int32))) H := pw ms_0_place hP
  refine lv_aload_n hx hb d_M_tries_10 rfl (lv_at hl 0 rfl) ?_
  refine lv_iconst (v := 0) hx hb d_M_tries_11 (by decide) ?_
  refine va_put (D := D) (ty := .int) hx hb htg in_M t_M t_M_ok n_M hown hK hP (hI _) hS 0 mo_0 rfl 31 (by decide) (htg _ k_f_M_192) (fun _ h9 => h9) rfl (by decide +kernel) rfl rfl (Nat.le_of_ble_eq_true rfl) d_M_tries_12 (fun H locs hP _ hS => ?_)
  replace hP : va_P D classes (mW cI cZ cJ ao aa (sI (sI (sI S 7 (0 : Int32)) 8 (-1 : Int32)) 12 (0 : Int32))) H := pw ms_0_fills hP
  refine lv_aload_n hx hb d_M_tries_15 rfl (lv_at hl 0 rfl) ?_
  refine lv_iconst (v := 0) hx hb d_M_tries_16 (by decide) ?_
  refine va_put (D := D) (ty := .int) hx hb htg in_M t_M t_M_ok n_M hown hK hP (hI _) hS 0 mo_0 rfl 29 (by decide) (htg _ k_f_M_195) (fun _ h9 => h9) rfl (by decide +kernel) rfl rfl (Nat.le_of_ble_eq_true rfl) d_M_tries_17 (fun H locs hP _ hS => ?_)
  replace hP : va_P D classes (mW cI cZ cJ ao aa (sI (sI (sI (sI S 7 (0 : Int32)) 8 (-1 : Int32)) 12 (0 : Int32)) 11 (0 : Int32))) H := pw ms_0_toldMany hP
  refine lv_aload_n hx hb d_M_tries_20 rfl (lv_at hl 0 rfl) ?_
  refine lv_iconst (v := 0) hx hb d_M_tries_21 (by decide) ?_
  refine va_put (D := D) (ty := .int) hx hb htg in_M t_M t_M_ok n_M hown hK hP (hI _) hS 0 mo_0 rfl 33 (by decide) (htg _ k_f_M_186) (fun _ h9 => h9) rfl (by decide +kernel) rfl rfl (Nat.le_of_ble_eq_true rfl) d_M_tries_22 (fun H locs hP _ hS => ?_)
  replace hP : va_P D classes (mW cI cZ cJ ao aa (sI (sI (sI (sI (sI S 7 (0 : Int32)) 8 (-1 : Int32)) 12 (0 : Int32)) 11 (0 : Int32)) 13 (0 : Int32))) H := pw ms_0_slotMany hP
  refine lv_iconst (v := 1) hx hb d_M_tries_25 (by decide) ?_
  refine lv_istore_n (lv' := [(2, .int (1 : Int32)), (0, .ref (ao 0)), (1, .int x0)]) hx hb d_M_tries_26 rfl hl (by decide) rfl (fun ls hl => ?_)
  refine lv_iconst (v := 0) hx hb d_M_tries_27 (by decide) ?_
  refine lv_istore_n (lv' := [(3, .int (0 : Int32)), (2, .int (1 : Int32)), (0, .ref (ao 0)), (1, .int x0)]) hx hb d_M_tries_28 rfl hl (by decide) rfl (fun ls hl => ?_)
  refine lv_iconst (v := 0) hx hb d_M_tries_29 (by decide) ?_
  refine lv_istore (lv' := [(4, .int (0 : Int32)), (3, .int (0 : Int32)), (2, .int (1 : Int32)), (0, .ref (ao 0)), (1, .int x0)]) hx hb d_M_tries_30 hl (by decide) rfl (fun ls hl => ?_)
  exact w_m_M_tries_b32 X _ _ _ _ _ _ hf H locs ls hP hS (lv_sub hl [3, 4, 2, 1, 0] rfl)
theorem c_m_M_tries {l : Launch} {D : va_G} {cI cZ cJ : ClassId} {ao aa : Nat → Nat} {S : St} {x0 : Int32} {z : St} (hz : m_M_tries S x0 = some z) : Ct l y_M_tries (.code y_M_tries b_M_tries 5 none :: gw) rm_m_M_tries D [(cI, .int), (cZ, .boolean), (cJ, .long)] (mA ao aa) (mW cI cZ cJ ao aa) [.ref (ao 0), .int x0] S none z :=
  Ct_of (by decide) (fun p e s m args below meth c X => w_m_M_tries X _ _ hz) (Nat.le_of_ble_eq_true rfl)
end

section
variable {p : Program} {l : Launch} {e : Env} {s : State} {m : MethodId} {args : Array Value} {below : List Frame} {meth : Method} {c : Code} {D : va_G} {cI cZ cJ : ClassId} {ao aa : Nat → Nat}
def m_M_without (S : St) (x0 : Int32) : Option (Int32 × St) :=
  some ((-x0), (sI (sI (sI (sI (sI S 16 (0 : Int32)) 18 x0) 19 (-1 : Int32)) 20 (-1 : Int32)) 5 (0 : Int32)))
def rm_m_M_without : Room := { frames := 0, cells := 0, slots := 0, locals := 0 }
theorem ok_m_M_without : CalV y_M_without b_M_without 2 (some .int) 1 rm_m_M_without := ⟨kc_M_without, ki_M_without, kl_M_without, ji_M, ⟨by decide, by decide, by decide +kernel⟩, rfl, rfl⟩
set_option maxHeartbeats 4000000 in
set_option maxRecDepth 100000 in
theorem w_m_M_without {z : Int32 × St} (X : Cx b_M_without 2 (some .int) R_M D [(cI, .int), (cZ, .boolean), (cJ, .long)] (mA ao aa) (mW cI cZ cJ ao aa) p s m args meth c) (S : St) (x0 : Int32) (hf : m_M_without S x0 = some z) : WX rm_m_M_without D (mA ao aa) (mW cI cZ cJ ao aa) p l e s m args below meth c (some (.int z.1)) z.2 0 [] 2 [(0, .ref (ao 0)), (1, .int x0)] S := by
  intro H locs ls hP hS hl
  obtain ⟨hx, hb, hr0, hml, hown, htg, hlk, hK, hN, hI⟩ := id X
  unfold m_M_without at hf
  refine lv_aload_n hx hb d_M_without_0 rfl (lv_at hl 0 rfl) ?_
  refine lv_iconst (v := 0) hx hb d_M_without_1 (by decide) ?_
  refine va_put (D := D) (ty := .int) hx hb htg in_M t_M t_M_ok n_M hown hK hP (hI _) hS 0 mo_0 rfl 43 (by decide) (htg _ k_f_M_266) (fun _ h9 => h9) rfl (by decide +kernel) rfl rfl (Nat.le_of_ble_eq_true rfl) d_M_without_2 (fun H locs hP _ hS => ?_)
  replace hP : va_P D classes (mW cI cZ cJ ao aa (sI S 16 (0 : Int32))) H := pw ms_0_tried hP
  refine lv_aload_n hx hb d_M_without_5 rfl (lv_at hl 0 rfl) ?_
  refine lv_iload_n hx hb d_M_without_6 rfl (lv_at hl 1 rfl) ?_
  refine va_put (D := D) (ty := .int) hx hb htg in_M t_M t_M_ok n_M hown hK hP (hI _) hS 0 mo_0 rfl 48 (by decide) (htg _ k_f_M_269) (fun _ h9 => h9) rfl (by decide +kernel) rfl rfl (Nat.le_of_ble_eq_true rfl) d_M_without_7 (fun H locs hP _ hS => ?_)
  replace hP : va_P D classes (mW cI cZ cJ ao aa (sI (sI S 16 (0 : Int32)) 18 x0)) H := pw ms_0_lastError hP
  refine lv_aload_n hx hb d_M_without_10 rfl (lv_at hl 0 rfl) ?_
  refine lv_iconst (v := (-1)) hx hb d_M_without_11 (by decide) ?_
  refine va_put (D := D) (ty := .int) hx hb htg in_M t_M t_M_ok n_M hown hK hP (hI _) hS 0 mo_0 rfl 49 (by decide) (htg _ k_f_M_106) (fun _ h9 => h9) rfl (by decide +kernel) rfl rfl (Nat.le_of_ble_eq_true rfl) d_M_without_12 (fun H locs hP _ hS => ?_)
  replace hP : va_P D classes (mW cI cZ cJ ao aa (sI (sI (sI S 16 (0 : Int32)) 18 x0) 19 (-1 : Int32))) H := pw ms_0_errorPlace hP
  refine lv_aload_n hx hb d_M_without_15 rfl (lv_at hl 0 rfl) ?_
  refine lv_iconst (v := (-1)) hx hb d_M_without_16 (by decide) ?_
  refine va_put (D := D) (ty := .int) hx hb htg in_M t_M t_M_ok n_M hown hK hP (hI _) hS 0 mo_0 rfl 50 (by decide) (htg _ k_f_M_109) (fun _ h9 => h9) rfl (by decide +kernel) rfl rfl (Nat.le_of_ble_eq_true rfl) d_M_without_17 (fun H locs hP _ hS => ?_)
  replace hP : va_P D classes (mW cI cZ cJ ao aa (sI (sI (sI (sI S 16 (0 : Int32)) 18 x0) 19 (-1 : Int32)) 20 (-1 : Int32))) H := pw ms_0_errorLine hP
  refine lv_aload_n hx hb d_M_without_20 rfl (lv_at hl 0 rfl) ?_
  refine lv_iconst (v := 0) hx hb d_M_without_21 (by decide) ?_
  refine va_put (D := D) (ty := .int) hx hb htg in_M t_M t_M_ok n_M hown hK hP (hI _) hS 0 mo_0 rfl 19 (by decide) (htg _ k_f_M_157) (fun _ h9 => h9) rfl (by decide +kernel) rfl rfl (Nat.le_of_ble_eq_true rfl) d_M_without_22 (fun H locs hP _ hS => ?_)
  replace hP : va_P D classes (mW cI cZ cJ ao aa (sI (sI (sI (sI (sI S 16 (0 : Int32)) 18 x0) 19 (-1 : Int32)) 20 (-1 : Int32)) 5 (0 : Int32))) H := pw ms_0_inputMany hP
  refine lv_iload_n hx hb d_M_without_25 rfl (lv_at hl 1 rfl) ?_
  refine lv_ineg hx hb d_M_without_26 ?_
  obtain rfl := Option.some.inj hf
  exact W.iret hx hb hr0 (fun t ht _ => ⟨⟨rfl, by rw [ht]; exact hP⟩, hS.F ht⟩) hS.2.2 d_M_without_27 hlk
theorem c_m_M_without {l : Launch} {D : va_G} {cI cZ cJ : ClassId} {ao aa : Nat → Nat} {S : St} {x0 : Int32} {z : Int32 × St} (hz : m_M_without S x0 = some z) : Ct l y_M_without (.code y_M_without b_M_without 2 (some .int) :: gw) rm_m_M_without D [(cI, .int), (cZ, .boolean), (cJ, .long)] (mA ao aa) (mW cI cZ cJ ao aa) [.ref (ao 0), .int x0] S (some (.int z.1)) z.2 :=
  Ct_of (by decide) (fun p e s m args below meth c X => w_m_M_without X _ _ hz) (Nat.le_of_ble_eq_true rfl)
def m_M_isTried_b242_f (k242 : St → Int32 → Int32 → Option (Int32 × St)) (S : St) (x2 : Int32) (x5 : Int32) : Option (Int32 × St) :=
  if (gI S 14) ≤ x5 then
    gd (vin x2 60) <|
    some ((gA S 3 x2.toNatClampNeg), S)
  else
    gd (vin x5 60) <|
    gd (vin x5 60) <|
    k242 (sA S 28 x5.toNatClampNeg (gA S 24 x5.toNatClampNeg)) x2 (x5 + 1)
def m_M_isTried_b242 : Nat → St → Int32 → Int32 → Option (Int32 × St)
  | 0, _, _, _ => none
  | n + 1, S, x2, x5 => m_M_isTried_b242_f (m_M_isTried_b242 n) S x2 x5
def m_M_isTried_b167 (S : St) (x2 : Int32) (x4 : Int32) : Option (Int32 × St) :=
  if x2 = (-1 : Int32) then
    (m_M_without S (2 : Int32)).bind fun q4 =>
    some (q4.1, (sI q4.2 19 (0 : Int32)))
  else
    (m_M_tries S x2).bind fun q3 =>
    if x4 = 0 then
      if (15 : Int32) ≤ (gI (sI (sI (sI q3 18 (gI q3 7)) 19 (gI (sI q3 18 (gI q3 7)) 8)) 20 x2) 7) then
        some ((0 : Int32), (sI (sI (sI (sI q3 18 (gI q3 7)) 19 (gI (sI q3 18 (gI q3 7)) 8)) 20 x2) 21 (gI (sI (sI (sI q3 18 (gI q3 7)) 19 (gI (sI q3 18 (gI q3 7)) 8)) 20 x2) 7)))
      else
        some ((-(gI (sI (sI (sI (sI q3 18 (gI q3 7)) 19 (gI (sI q3 18 (gI q3 7)) 8)) 20 x2) 5 (0 : Int32)) 7)), (sI (sI (sI (sI q3 18 (gI q3 7)) 19 (gI (sI q3 18 (gI q3 7)) 8)) 20 x2) 5 (0 : Int32)))
    else
      m_M_isTried_b242 fu (sI (sI (sI (sI (sI (sI q3 18 (gI q3 7)) 19 (gI (sI q3 18 (gI q3 7)) 8)) 20 x2) 22 (1 : Int32)) 23 (gI (sI (sI (sI (sI q3 18 (gI q3 7)) 19 (gI (sI q3 18 (gI q3 7)) 8)) 20 x2) 22 (1 : Int32)) 14)) 24 (gI (sI (sI (sI (sI (sI q3 18 (gI q3 7)) 19 (gI (sI q3 18 (gI q3 7)) 8)) 20 x2) 22 (1 : Int32)) 23 (gI (sI (sI (sI (sI q3 18 (gI q3 7)) 19 (gI (sI q3 18 (gI q3 7)) 8)) 20 x2) 22 (1 : Int32)) 14)) 15)) x2 (0 : Int32)
def m_M_isTried_b161 (k38 : St → Int32 → Int32 → Int32 → Int32 → Int32 → Option (Int32 × St)) (S : St) (x1 : Int32) (x2 : Int32) (x3 : Int32) (x4 : Int32) (x5 : Int32) : Option (Int32 × St) :=
  k38 S x1 x2 x3 x4 (x5 + 1)
def m_M_isTried_b153 (k38 : St → Int32 → Int32 → Int32 → Int32 → Int32 → Option (Int32 × St)) (S : St) (x1 : Int32) (x4 : Int32) (x5 : Int32) : Option (Int32 × St) :=
  m_M_isTried_b161 k38 S x1 x5 (gI S 7) x4 x5
def m_M_isTried_b133 (k38 : St → Int32 → Int32 → Int32 → Int32 → Int32 → Option (Int32 × St)) (S : St) (x1 : Int32) (x2 : Int32) (x3 : Int32) (x5 : Int32) (s0 : Int32) : Option (Int32 × St) :=
  if s0 = 0 then
    if x2 = (-1 : Int32) then
      m_M_isTried_b153 k38 S x1 s0 x5
    else
      if (gI S 7) ≤ x3 then
        m_M_isTried_b161 k38 S x1 x2 x3 s0 x5
      else
        m_M_isTried_b153 k38 S x1 s0 x5
  else
    m_M_isTried_b153 k38 S x1 s0 x5
def m_M_isTried_b38_f (k38 : St → Int32 → Int32 → Int32 → Int32 → Int32 → Option (Int32 × St)) (S : St) (x1 : Int32) (x2 : Int32) (x3 : Int32) (x4 : Int32) (x5 : Int32) : Option (Int32 × St) :=
  if (gI S 2) ≤ x5 then
    m_M_isTried_b167 S x2 x4
  else
    if x1 = (-1 : Int32) then
      m_M_isTried_b167 S x2 x4
    else
      if x4 = 0 then
        gd (vin x5 60) <|
        if (gA S 2 x5.toNatClampNeg) = x1 then
          (m_M_tries S x5).bind fun q5 =>
          gd (vin (gI q5 16) 60) <|
          gd (vin (gI (sA q5 25 (gI q5 16).toNatClampNeg x5) 16) 60) <|
          gd (vin (gI (sA (sA q5 25 (gI q5 16).toNatClampNeg x5) 26 (gI (sA q5 25 (gI q5 16).toNatClampNeg x5) 16).toNatClampNeg (gI (sA q5 25 (gI q5 16).toNatClampNeg x5) 7)) 16) 60) <|
          if (gI (sI (sA (sA (sA q5 25 (gI q5 16).toNatClampNeg x5) 26 (gI (sA q5 25 (gI q5 16).toNatClampNeg x5) 16).toNatClampNeg (gI (sA q5 25 (gI q5 16).toNatClampNeg x5) 7)) 27 (gI (sA (sA q5 25 (gI q5 16).toNatClampNeg x5) 26 (gI (sA q5 25 (gI q5 16).toNatClampNeg x5) 16).toNatClampNeg (gI (sA q5 25 (gI q5 16).toNatClampNeg x5) 7)) 16).toNatClampNeg (gI (sA (sA q5 25 (gI q5 16).toNatClampNeg x5) 26 (gI (sA q5 25 (gI q5 16).toNatClampNeg x5) 16).toNatClampNeg (gI (sA q5 25 (gI q5 16).toNatClampNeg x5) 7)) 8)) 16 ((gI (sA (sA (sA q5 25 (gI q5 16).toNatClampNeg x5) 26 (gI (sA q5 25 (gI q5 16).toNatClampNeg x5) 16).toNatClampNeg (gI (sA q5 25 (gI q5 16).toNatClampNeg x5) 7)) 27 (gI (sA (sA q5 25 (gI q5 16).toNatClampNeg x5) 26 (gI (sA q5 25 (gI q5 16).toNatClampNeg x5) 16).toNatClampNeg (gI (sA q5 25 (gI q5 16).toNatClampNeg x5) 7)) 16).toNatClampNeg (gI (sA (sA q5 25 (gI q5 16).toNatClampNeg x5) 26 (gI (sA q5 25 (gI q5 16).toNatClampNeg x5) 16).toNatClampNeg (gI (sA q5 25 (gI q5 16).toNatClampNeg x5) 7)) 8)) 16) + (1 : Int32))) 7) = 0 then
            m_M_isTried_b133 k38 (sI (sA (sA (sA q5 25 (gI q5 16).toNatClampNeg x5) 26 (gI (sA q5 25 (gI q5 16).toNatClampNeg x5) 16).toNatClampNeg (gI (sA q5 25 (gI q5 16).toNatClampNeg x5) 7)) 27 (gI (sA (sA q5 25 (gI q5 16).toNatClampNeg x5) 26 (gI (sA q5 25 (gI q5 16).toNatClampNeg x5) 16).toNatClampNeg (gI (sA q5 25 (gI q5 16).toNatClampNeg x5) 7)) 16).toNatClampNeg (gI (sA (sA q5 25 (gI q5 16).toNatClampNeg x5) 26 (gI (sA q5 25 (gI q5 16).toNatClampNeg x5) 16).toNatClampNeg (gI (sA q5 25 (gI q5 16).toNatClampNeg x5) 7)) 8)) 16 ((gI (sA (sA (sA q5 25 (gI q5 16).toNatClampNeg x5) 26 (gI (sA q5 25 (gI q5 16).toNatClampNeg x5) 16).toNatClampNeg (gI (sA q5 25 (gI q5 16).toNatClampNeg x5) 7)) 27 (gI (sA (sA q5 25 (gI q5 16).toNatClampNeg x5) 26 (gI (sA q5 25 (gI q5 16).toNatClampNeg x5) 16).toNatClampNeg (gI (sA q5 25 (gI q5 16).toNatClampNeg x5) 7)) 16).toNatClampNeg (gI (sA (sA q5 25 (gI q5 16).toNatClampNeg x5) 26 (gI (sA q5 25 (gI q5 16).toNatClampNeg x5) 16).toNatClampNeg (gI (sA q5 25 (gI q5 16).toNatClampNeg x5) 7)) 8)) 16) + (1 : Int32))) x1 x2 x3 x5 (1 : Int32)
          else
            m_M_isTried_b133 k38 (sI (sA (sA (sA q5 25 (gI q5 16).toNatClampNeg x5) 26 (gI (sA q5 25 (gI q5 16).toNatClampNeg x5) 16).toNatClampNeg (gI (sA q5 25 (gI q5 16).toNatClampNeg x5) 7)) 27 (gI (sA (sA q5 25 (gI q5 16).toNatClampNeg x5) 26 (gI (sA q5 25 (gI q5 16).toNatClampNeg x5) 16).toNatClampNeg (gI (sA q5 25 (gI q5 16).toNatClampNeg x5) 7)) 16).toNatClampNeg (gI (sA (sA q5 25 (gI q5 16).toNatClampNeg x5) 26 (gI (sA q5 25 (gI q5 16).toNatClampNeg x5) 16).toNatClampNeg (gI (sA q5 25 (gI q5 16).toNatClampNeg x5) 7)) 8)) 16 ((gI (sA (sA (sA q5 25 (gI q5 16).toNatClampNeg x5) 26 (gI (sA q5 25 (gI q5 16).toNatClampNeg x5) 16).toNatClampNeg (gI (sA q5 25 (gI q5 16).toNatClampNeg x5) 7)) 27 (gI (sA (sA q5 25 (gI q5 16).toNatClampNeg x5) 26 (gI (sA q5 25 (gI q5 16).toNatClampNeg x5) 16).toNatClampNeg (gI (sA q5 25 (gI q5 16).toNatClampNeg x5) 7)) 16).toNatClampNeg (gI (sA (sA q5 25 (gI q5 16).toNatClampNeg x5) 26 (gI (sA q5 25 (gI q5 16).toNatClampNeg x5) 16).toNatClampNeg (gI (sA q5 25 (gI q5 16).toNatClampNeg x5) 7)) 8)) 16) + (1 : Int32))) x1 x2 x3 x5 (0 : Int32)
        else
          m_M_isTried_b161 k38 S x1 x2 x3 x4 x5
      else
        m_M_isTried_b167 S x2 x4
def m_M_isTried_b38 : Nat → St → Int32 → Int32 → Int32 → Int32 → Int32 → Option (Int32 × St)
  | 0, _, _, _, _, _, _ => none
  | n + 1, S, x1, x2, x3, x4, x5 => m_M_isTried_b38_f (m_M_isTried_b38 n) S x1 x2 x3 x4 x5
def m_M_isTried (S : St) : Option (Int32 × St) :=
  (m_M_take_24 S (gI S 14)).bind fun q1 =>
  gd (vin (0 : Int32) 60) <|
  (m_M_verbBy (sI q1 16 (0 : Int32)) (gA (sI q1 16 (0 : Int32)) 24 (0 : Int32).toNatClampNeg)).bind fun q2 =>
  m_M_isTried_b38 fu q2.2 q2.1 (-1 : Int32) (0 : Int32) (0 : Int32) (0 : Int32)
def rm_m_M_isTried : Room := { frames := 7, cells := 0, slots := 0, locals := 170 }
theorem ok_m_M_isTried : CalV y_M_isTried b_M_isTried 6 (some .int) 0 rm_m_M_isTried := ⟨kc_M_isTried, ki_M_isTried, kl_M_isTried, ji_M, ⟨by decide, by decide, by decide +kernel⟩, rfl, rfl⟩
set_option maxHeartbeats 4000000 in
set_option maxRecDepth 100000 in
theorem w_m_M_isTried_b242_f {z : Int32 × St} (X : Cx b_M_isTried 6 (some .int) R_M D [(cI, .int), (cZ, .boolean), (cJ, .long)] (mA ao aa) (mW cI cZ cJ ao aa) p s m args meth c) {k242 : St → Int32 → Int32 → Option (Int32 × St)} (hk242 : ∀ (S : St) (x2 : Int32) (x5 : Int32), k242 S x2 x5 = some z → WX rm_m_M_isTried D (mA ao aa) (mW cI cZ cJ ao aa) p l e s m args below meth c (some (.int z.1)) z.2 242 [] 6 [(0, .ref (ao 0)), (2, .int x2), (5, .int x5)] S) (S : St) (x2 : Int32) (x5 : Int32) (hf : m_M_isTried_b242_f k242 S x2 x5 = some z) : WX rm_m_M_isTried D (mA ao aa) (mW cI cZ cJ ao aa) p l e s m args below meth c (some (.int z.1)) z.2 242 [] 6 [(0, .ref (ao 0)), (2, .int x2), (5, .int x5)] S := by
  intro H locs ls hP hS hl
  obtain ⟨hx, hb, hr0, hml, hown, htg, hlk, hK, hN, hI⟩ := id X
  unfold m_M_isTried_b242_f at hf
  refine lv_iload hx hb d_M_isTried_242 (lv_at hl 2 rfl) ?_
  refine lv_aload_n hx hb d_M_isTried_244 rfl (lv_at hl 0 rfl) ?_
  refine va_get (D := D) (v := .int (gI S 14)) hx hb htg in_M hown hK hP 0 mo_0 rfl 40 (by decide) (htg _ k_f_M_272) (fun _ h9 => h9) rfl d_M_isTried_245 ?_
  refine lv_icmp_ge (tgt := 271) hx hb d_M_isTried_248 (by decide) (fun c => ?_) (fun c => ?_)
  · have hf := if_t hf c
    refine lv_aload_n hx hb d_M_isTried_271 rfl (lv_at hl 0 rfl) ?_
    refine va_get (D := D) (v := .ref (aa 3)) hx hb htg in_M hown hK hP 0 mo_0 rfl 6 (by decide) (htg _ k_f_M_19) (fun _ h9 => h9) rfl d_M_isTried_272 ?_
    refine lv_iload_n hx hb d_M_isTried_275 rfl (lv_at hl 1 rfl) ?_
    obtain ⟨hg, hf⟩ := gd_some hf
    refine va_iald hx hb hK hP 4 0 ma_3 rfl (vin_in hg) d_M_isTried_276 ?_
    obtain rfl := Option.some.inj hf
    exact W.iret hx hb hr0 (fun t ht _ => ⟨⟨rfl, by rw [ht]; exact hP⟩, hS.F ht⟩) hS.2.2 d_M_isTried_277 hlk
  · have hf := if_f hf c
    refine lv_aload_n hx hb d_M_isTried_251 rfl (lv_at hl 0 rfl) ?_
    refine va_get (D := D) (v := .ref (aa 28)) hx hb htg in_M hown hK hP 0 mo_0 rfl 54 (by decide) (htg _ k_f_M_96) (fun _ h9 => h9) rfl d_M_isTried_252 ?_
    refine lv_iload hx hb d_M_isTried_255 (lv_at hl 2 rfl) ?_
    refine lv_aload_n hx hb d_M_isTried_257 rfl (lv_at hl 0 rfl) ?_
    refine va_get (D := D) (v := .ref (aa 24)) hx hb htg in_M hown hK hP 0 mo_0 rfl 41 (by decide) (htg _ k_f_M_84) (fun _ h9 => h9) rfl d_M_isTried_258 ?_
    refine lv_iload hx hb d_M_isTried_261 (lv_at hl 2 rfl) ?_
    obtain ⟨hg, hf⟩ := gd_some hf
    refine va_iald hx hb hK hP 25 0 ma_24 rfl (vin_in hg) d_M_isTried_263 ?_
    obtain ⟨hg, hf⟩ := gd_some hf
    refine va_iast hx hb hK hP (hI _) hS 29 0 ma_28 rfl (vin_in hg) d_M_isTried_264 (fun H locs hP _ hS => ?_)
    replace hP : va_P D classes (mW cI cZ cJ ao aa (sA S 28 x5.toNatClampNeg (gA S 24 x5.toNatClampNeg))) H := pw mt_28 hP
    refine lv_iinc (v := (x5 + 1)) (lv' := [(5, .int (x5 + 1)), (0, .ref (ao 0)), (2, .int x2)]) hx hb d_M_isTried_265 hl (k := 2) rfl rfl (by decide) rfl (fun ls hl => ?_)
    refine lv_goto (tgt := 242) hx hb d_M_isTried_268 (by decide) ?_
    exact hk242 _ _ _ hf H locs ls hP hS (lv_sub hl [1, 2, 0] rfl)
theorem w_m_M_isTried_b242 {z : Int32 × St} (X : Cx b_M_isTried 6 (some .int) R_M D [(cI, .int), (cZ, .boolean), (cJ, .long)] (mA ao aa) (mW cI cZ cJ ao aa) p s m args meth c) : ∀ (n : Nat) (S : St) (x2 : Int32) (x5 : Int32), m_M_isTried_b242 n S x2 x5 = some z → WX rm_m_M_isTried D (mA ao aa) (mW cI cZ cJ ao aa) p l e s m args below meth c (some (.int z.1)) z.2 242 [] 6 [(0, .ref (ao 0)), (2, .int x2), (5, .int x5)] S
  | 0, _, _, _, hf => ns hf
  | n + 1, _, _, _, hf => w_m_M_isTried_b242_f X (w_m_M_isTried_b242 X n) _ _ _ hf
set_option maxHeartbeats 4000000 in
set_option maxRecDepth 100000 in
theorem w_m_M_isTried_b167 {z : Int32 × St} (X : Cx b_M_isTried 6 (some .int) R_M D [(cI, .int), (cZ, .boolean), (cJ, .long)] (mA ao aa) (mW cI cZ cJ ao aa) p s m args meth c) (S : St) (x2 : Int32) (x4 : Int32) (hf : m_M_isTried_b167 S x2 x4 = some z) : WX rm_m_M_isTried D (mA ao aa) (mW cI cZ cJ ao aa) p l e s m args below meth c (some (.int z.1)) z.2 167 [] 6 [(0, .ref (ao 0)), (2, .int x2), (4, .int x4)] S := by
  intro H locs ls hP hS hl
  obtain ⟨hx, hb, hr0, hml, hown, htg, hlk, hK, hN, hI⟩ := id X
  unfold m_M_isTried_b167 at hf
  refine lv_iload_n hx hb d_M_isTried_167 rfl (lv_at hl 1 rfl) ?_
  refine lv_iconst (v := (-1)) hx hb d_M_isTried_168 (by decide) ?_
  refine lv_icmp_ne (tgt := 187) hx hb d_M_isTried_169 (by decide) (fun c => ?_) (fun c => ?_)
  · have hf := if_f hf c
    refine lv_aload_n hx hb d_M_isTried_187 rfl (lv_at hl 0 rfl) ?_
    refine lv_iload_n hx hb d_M_isTried_188 rfl (lv_at hl 1 rfl) ?_
    obtain ⟨q3, he, hf⟩ := ob_some hf
    refine cl_Vv (As := [.int x2]) (rest := []) X (c_m_M_tries he) ok_m_M_tries k_m_M_279 (va_recv hK hP rfl mo_0) rfl rfl hl.1 (Nat.le_of_ble_eq_true rfl) d_M_isTried_189 ⟨by decide, by decide⟩ hP hS (fun H locs hP hS => ?_)
    refine lv_aload_n hx hb d_M_isTried_192 rfl (lv_at hl 0 rfl) ?_
    refine lv_aload_n hx hb d_M_isTried_193 rfl (lv_at hl 0 rfl) ?_
    refine va_get (D := D) (v := .int (gI q3 7)) hx hb htg in_M hown hK hP 0 mo_0 rfl 24 (by decide) (htg _ k_f_M_180) (fun _ h9 => h9) rfl d_M_isTried_194 ?_
    refine va_put (D := D) (ty := .int) hx hb htg in_M t_M t_M_ok n_M hown hK hP (hI _) hS 0 mo_0 rfl 48 (by decide) (htg _ k_f_M_269) (fun _ h9 => h9) rfl (by decide +kernel) rfl rfl (Nat.le_of_ble_eq_true rfl) d_M_isTried_197 (fun H locs hP _ hS => ?_)
    replace hP : va_P D classes (mW cI cZ cJ ao aa (sI q3 18 (gI q3 7))) H := pw ms_0_lastError hP
    refine lv_aload_n hx hb d_M_isTried_200 rfl (lv_at hl 0 rfl) ?_
    refine lv_aload_n hx hb d_M_isTried_201 rfl (lv_at hl 0 rfl) ?_
    refine va_get (D := D) (v := .int (gI (sI q3 18 (gI q3 7)) 8)) hx hb htg in_M hown hK hP 0 mo_0 rfl 25 (by decide) (htg _ k_f_M_183) (fun _ h9 => h9) rfl d_M_isTried_202 ?_
    refine va_put (D := D) (ty := .int) hx hb htg in_M t_M t_M_ok n_M hown hK hP (hI _) hS 0 mo_0 rfl 49 (by decide) (htg _ k_f_M_106) (fun _ h9 => h9) rfl (by decide +kernel) rfl rfl (Nat.le_of_ble_eq_true rfl) d_M_isTried_205 (fun H locs hP _ hS => ?_)
    replace hP : va_P D classes (mW cI cZ cJ ao aa (sI (sI q3 18 (gI q3 7)) 19 (gI (sI q3 18 (gI q3 7)) 8))) H := pw ms_0_errorPlace hP
    refine lv_aload_n hx hb d_M_isTried_208 rfl (lv_at hl 0 rfl) ?_
    refine lv_iload_n hx hb d_M_isTried_209 rfl (lv_at hl 1 rfl) ?_
    refine va_put (D := D) (ty := .int) hx hb htg in_M t_M t_M_ok n_M hown hK hP (hI _) hS 0 mo_0 rfl 50 (by decide) (htg _ k_f_M_109) (fun _ h9 => h9) rfl (by decide +kernel) rfl rfl (Nat.le_of_ble_eq_true rfl) d_M_isTried_210 (fun H locs hP _ hS => ?_)
    replace hP : va_P D classes (mW cI cZ cJ ao aa (sI (sI (sI q3 18 (gI q3 7)) 19 (gI (sI q3 18 (gI q3 7)) 8)) 20 x2)) H := pw ms_0_errorLine hP
    refine lv_iload hx hb d_M_isTried_213 (lv_at hl 2 rfl) ?_
    refine lv_if_eq (tgt := 278) hx hb d_M_isTried_215 (by decide) (fun c => ?_) (fun c => ?_)
    · have hf := if_t hf c
      refine lv_aload_n hx hb d_M_isTried_278 rfl (lv_at hl 0 rfl) ?_
      refine va_get (D := D) (v := .int (gI (sI (sI (sI q3 18 (gI q3 7)) 19 (gI (sI q3 18 (gI q3 7)) 8)) 20 x2) 7)) hx hb htg in_M hown hK hP 0 mo_0 rfl 24 (by decide) (htg _ k_f_M_180) (fun _ h9 => h9) rfl d_M_isTried_279 ?_
      refine lv_bipush (v := 15) hx hb d_M_isTried_282 (by decide) ?_
      refine lv_icmp_ge (tgt := 298) hx hb d_M_isTried_284 (by decide) (fun c => ?_) (fun c => ?_)
      · have hf := if_t hf c
        refine lv_aload_n hx hb d_M_isTried_298 rfl (lv_at hl 0 rfl) ?_
        refine lv_aload_n hx hb d_M_isTried_299 rfl (lv_at hl 0 rfl) ?_
        refine va_get (D := D) (v := .int (gI (sI (sI (sI q3 18 (gI q3 7)) 19 (gI (sI q3 18 (gI q3 7)) 8)) 20 x2) 7)) hx hb htg in_M hown hK hP 0 mo_0 rfl 24 (by decide) (htg _ k_f_M_180) (fun _ h9 => h9) rfl d_M_isTried_300 ?_
        refine va_put (D := D) (ty := .int) hx hb htg in_M t_M t_M_ok n_M hown hK hP (hI _) hS 0 mo_0 rfl 51 (by decide) (htg _ k_f_M_293) (fun _ h9 => h9) rfl (by decide +kernel) rfl rfl (Nat.le_of_ble_eq_true rfl) d_M_isTried_303 (fun H locs hP _ hS => ?_)
        replace hP : va_P D classes (mW cI cZ cJ ao aa (sI (sI (sI (sI q3 18 (gI q3 7)) 19 (gI (sI q3 18 (gI q3 7)) 8)) 20 x2) 21 (gI (sI (sI (sI q3 18 (gI q3 7)) 19 (gI (sI q3 18 (gI q3 7)) 8)) 20 x2) 7))) H := pw ms_0_askedKind hP
        refine lv_iconst (v := 0) hx hb d_M_isTried_306 (by decide) ?_
        obtain rfl := Option.some.inj hf
        exact W.iret hx hb hr0 (fun t ht _ => ⟨⟨rfl, by rw [ht]; exact hP⟩, hS.F ht⟩) hS.2.2 d_M_isTried_307 hlk
      · have hf := if_f hf c
        refine lv_aload_n hx hb d_M_isTried_287 rfl (lv_at hl 0 rfl) ?_
        refine lv_iconst (v := 0) hx hb d_M_isTried_288 (by decide) ?_
        refine va_put (D := D) (ty := .int) hx hb htg in_M t_M t_M_ok n_M hown hK hP (hI _) hS 0 mo_0 rfl 19 (by decide) (htg _ k_f_M_157) (fun _ h9 => h9) rfl (by decide +kernel) rfl rfl (Nat.le_of_ble_eq_true rfl) d_M_isTried_289 (fun H locs hP _ hS => ?_)
        replace hP : va_P D classes (mW cI cZ cJ ao aa (sI (sI (sI (sI q3 18 (gI q3 7)) 19 (gI (sI q3 18 (gI q3 7)) 8)) 20 x2) 5 (0 : Int32))) H := pw ms_0_inputMany hP
        refine lv_aload_n hx hb d_M_isTried_292 rfl (lv_at hl 0 rfl) ?_
        refine va_get (D := D) (v := .int (gI (sI (sI (sI (sI q3 18 (gI q3 7)) 19 (gI (sI q3 18 (gI q3 7)) 8)) 20 x2) 5 (0 : Int32)) 7)) hx hb htg in_M hown hK hP 0 mo_0 rfl 24 (by decide) (htg _ k_f_M_180) (fun _ h9 => h9) rfl d_M_isTried_293 ?_
        refine lv_ineg hx hb d_M_isTried_296 ?_
        obtain rfl := Option.some.inj hf
        exact W.iret hx hb hr0 (fun t ht _ => ⟨⟨rfl, by rw [ht]; exact hP⟩, hS.F ht⟩) hS.2.2 d_M_isTried_297 hlk
    · have hf := if_f hf c
      refine lv_aload_n hx hb d_M_isTried_218 rfl (lv_at hl 0 rfl) ?_
      refine lv_iconst (v := 1) hx hb d_M_isTried_219 (by decide) ?_
      refine va_put (D := D) (ty := .boolean) hx hb htg in_M t_M t_M_ok n_M hown hK hP (hI _) hS 0 mo_0 rfl 52 (by decide) (htg _ k_f_M_286) (fun _ h9 => h9) rfl (by decide +kernel) rfl rfl (Nat.le_of_ble_eq_true rfl) d_M_isTried_220 (fun H locs hP _ hS => ?_)
      replace hP : va_P D classes (mW cI cZ cJ ao aa (sI (sI (sI (sI q3 18 (gI q3 7)) 19 (gI (sI q3 18 (gI q3 7)) 8)) 20 x2) 22 (1 : Int32))) H := pw ms_0_hasAction hP
      refine lv_aload_n hx hb d_M_isTried_223 rfl (lv_at hl 0 rfl) ?_
      refine lv_aload_n hx hb d_M_isTried_224 rfl (lv_at hl 0 rfl) ?_
      refine va_get (D := D) (v := .int (gI (sI (sI (sI (sI q3 18 (gI q3 7)) 19 (gI (sI q3 18 (gI q3 7)) 8)) 20 x2) 22 (1 : Int32)) 14)) hx hb htg in_M hown hK hP 0 mo_0 rfl 40 (by decide) (htg _ k_f_M_272) (fun _ h9 => h9) rfl d_M_isTried_225 ?_
      refine va_put (D := D) (ty := .int) hx hb htg in_M t_M t_M_ok n_M hown hK hP (hI _) hS 0 mo_0 rfl 53 (by decide) (htg _ k_f_M_99) (fun _ h9 => h9) rfl (by decide +kernel) rfl rfl (Nat.le_of_ble_eq_true rfl) d_M_isTried_228 (fun H locs hP _ hS => ?_)
      replace hP : va_P D classes (mW cI cZ cJ ao aa (sI (sI (sI (sI (sI q3 18 (gI q3 7)) 19 (gI (sI q3 18 (gI q3 7)) 8)) 20 x2) 22 (1 : Int32)) 23 (gI (sI (sI (sI (sI q3 18 (gI q3 7)) 19 (gI (sI q3 18 (gI q3 7)) 8)) 20 x2) 22 (1 : Int32)) 14))) H := pw ms_0_againMany hP
      refine lv_aload_n hx hb d_M_isTried_231 rfl (lv_at hl 0 rfl) ?_
      refine lv_aload_n hx hb d_M_isTried_232 rfl (lv_at hl 0 rfl) ?_
      refine va_get (D := D) (v := .int (gI (sI (sI (sI (sI (sI q3 18 (gI q3 7)) 19 (gI (sI q3 18 (gI q3 7)) 8)) 20 x2) 22 (1 : Int32)) 23 (gI (sI (sI (sI (sI q3 18 (gI q3 7)) 19 (gI (sI q3 18 (gI q3 7)) 8)) 20 x2) 22 (1 : Int32)) 14)) 15)) hx hb htg in_M hown hK hP 0 mo_0 rfl 42 (by decide) (htg _ k_f_M_103) (fun _ h9 => h9) rfl d_M_isTried_233 ?_
      refine va_put (D := D) (ty := .int) hx hb htg in_M t_M t_M_ok n_M hown hK hP (hI _) hS 0 mo_0 rfl 55 (by decide) (htg _ k_f_M_290) (fun _ h9 => h9) rfl (by decide +kernel) rfl rfl (Nat.le_of_ble_eq_true rfl) d_M_isTried_236 (fun H locs hP _ hS => ?_)
      replace hP : va_P D classes (mW cI cZ cJ ao aa (sI (sI (sI (sI (sI (sI q3 18 (gI q3 7)) 19 (gI (sI q3 18 (gI q3 7)) 8)) 20 x2) 22 (1 : Int32)) 23 (gI (sI (sI (sI (sI q3 18 (gI q3 7)) 19 (gI (sI q3 18 (gI q3 7)) 8)) 20 x2) 22 (1 : Int32)) 14)) 24 (gI (sI (sI (sI (sI (sI q3 18 (gI q3 7)) 19 (gI (sI q3 18 (gI q3 7)) 8)) 20 x2) 22 (1 : Int32)) 23 (gI (sI (sI (sI (sI q3 18 (gI q3 7)) 19 (gI (sI q3 18 (gI q3 7)) 8)) 20 x2) 22 (1 : Int32)) 14)) 15))) H := pw ms_0_againTo hP
      refine lv_iconst (v := 0) hx hb d_M_isTried_239 (by decide) ?_
      refine lv_istore (lv' := [(5, .int (0 : Int32)), (0, .ref (ao 0)), (2, .int x2), (4, .int x4)]) hx hb d_M_isTried_240 hl (by decide) rfl (fun ls hl => ?_)
      exact w_m_M_isTried_b242 X _ _ _ _ hf H locs ls hP hS (lv_sub hl [1, 2, 0] rfl)
  · have hf := if_t hf c
    refine lv_aload_n hx hb d_M_isTried_172 rfl (lv_at hl 0 rfl) ?_
    refine lv_iconst (v := 2) hx hb d_M_isTried_173 (by decide) ?_
    obtain ⟨q4, he, hf⟩ := ob_some hf
    refine cl_Vi (As := [.int (2 : Int32)]) (rest := []) X (c_m_M_without he) ok_m_M_without k_m_M_283 (va_recv hK hP rfl mo_0) rfl rfl hl.1 (Nat.le_of_ble_eq_true rfl) d_M_isTried_174 ⟨by decide, by decide⟩ hP hS (fun H locs hP hS => ?_)
    refine lv_istore (lv' := [(5, .int q4.1), (0, .ref (ao 0)), (2, .int x2), (4, .int x4)]) hx hb d_M_isTried_177 hl (by decide) rfl (fun ls hl => ?_)
    refine lv_aload_n hx hb d_M_isTried_179 rfl (lv_at hl 1 rfl) ?_
    refine lv_iconst (v := 0) hx hb d_M_isTried_180 (by decide) ?_
    refine va_put (D := D) (ty := .int) hx hb htg in_M t_M t_M_ok n_M hown hK hP (hI _) hS 0 mo_0 rfl 49 (by decide) (htg _ k_f_M_106) (fun _ h9 => h9) rfl (by decide +kernel) rfl rfl (Nat.le_of_ble_eq_true rfl) d_M_isTried_181 (fun H locs hP _ hS => ?_)
    replace hP : va_P D classes (mW cI cZ cJ ao aa (sI q4.2 19 (0 : Int32))) H := pw ms_0_errorPlace hP
    refine lv_iload hx hb d_M_isTried_184 (lv_at hl 0 rfl) ?_
    obtain rfl := Option.some.inj hf
    exact W.iret hx hb hr0 (fun t ht _ => ⟨⟨rfl, by rw [ht]; exact hP⟩, hS.F ht⟩) hS.2.2 d_M_isTried_186 hlk
set_option maxHeartbeats 4000000 in
set_option maxRecDepth 100000 in
theorem w_m_M_isTried_b161 {z : Int32 × St} (X : Cx b_M_isTried 6 (some .int) R_M D [(cI, .int), (cZ, .boolean), (cJ, .long)] (mA ao aa) (mW cI cZ cJ ao aa) p s m args meth c) {k38 : St → Int32 → Int32 → Int32 → Int32 → Int32 → Option (Int32 × St)} (hk38 : ∀ (S : St) (x1 : Int32) (x2 : Int32) (x3 : Int32) (x4 : Int32) (x5 : Int32), k38 S x1 x2 x3 x4 x5 = some z → WX rm_m_M_isTried D (mA ao aa) (mW cI cZ cJ ao aa) p l e s m args below meth c (some (.int z.1)) z.2 38 [] 6 [(0, .ref (ao 0)), (1, .int x1), (2, .int x2), (3, .int x3), (4, .int x4), (5, .int x5)] S) (S : St) (x1 : Int32) (x2 : Int32) (x3 : Int32) (x4 : Int32) (x5 : Int32) (hf : m_M_isTried_b161 k38 S x1 x2 x3 x4 x5 = some z) : WX rm_m_M_isTried D (mA ao aa) (mW cI cZ cJ ao aa) p l e s m args below meth c (some (.int z.1)) z.2 161 [] 6 [(0, .ref (ao 0)), (1, .int x1), (2, .int x2), (3, .int x3), (4, .int x4), (5, .int x5)] S := by
  intro H locs ls hP hS hl
  obtain ⟨hx, hb, hr0, hml, hown, htg, hlk, hK, hN, hI⟩ := id X
  unfold m_M_isTried_b161 at hf
  refine lv_iinc (v := (x5 + 1)) (lv' := [(5, .int (x5 + 1)), (0, .ref (ao 0)), (1, .int x1), (2, .int x2), (3, .int x3), (4, .int x4)]) hx hb d_M_isTried_161 hl (k := 5) rfl rfl (by decide) rfl (fun ls hl => ?_)
  refine lv_goto (tgt := 38) hx hb d_M_isTried_164 (by decide) ?_
  exact hk38 _ _ _ _ _ _ hf H locs ls hP hS (lv_sub hl [1, 2, 3, 4, 5, 0] rfl)
set_option maxHeartbeats 4000000 in
set_option maxRecDepth 100000 in
theorem w_m_M_isTried_b153 {z : Int32 × St} (X : Cx b_M_isTried 6 (some .int) R_M D [(cI, .int), (cZ, .boolean), (cJ, .long)] (mA ao aa) (mW cI cZ cJ ao aa) p s m args meth c) {k38 : St → Int32 → Int32 → Int32 → Int32 → Int32 → Option (Int32 × St)} (hk38 : ∀ (S : St) (x1 : Int32) (x2 : Int32) (x3 : Int32) (x4 : Int32) (x5 : Int32), k38 S x1 x2 x3 x4 x5 = some z → WX rm_m_M_isTried D (mA ao aa) (mW cI cZ cJ ao aa) p l e s m args below meth c (some (.int z.1)) z.2 38 [] 6 [(0, .ref (ao 0)), (1, .int x1), (2, .int x2), (3, .int x3), (4, .int x4), (5, .int x5)] S) (S : St) (x1 : Int32) (x4 : Int32) (x5 : Int32) (hf : m_M_isTried_b153 k38 S x1 x4 x5 = some z) : WX rm_m_M_isTried D (mA ao aa) (mW cI cZ cJ ao aa) p l e s m args below meth c (some (.int z.1)) z.2 153 [] 6 [(0, .ref (ao 0)), (1, .int x1), (4, .int x4), (5, .int x5)] S := by
  intro H locs ls hP hS hl
  obtain ⟨hx, hb, hr0, hml, hown, htg, hlk, hK, hN, hI⟩ := id X
  unfold m_M_isTried_b153 at hf
  refine lv_iload hx hb d_M_isTried_153 (lv_at hl 3 rfl) ?_
  refine lv_istore_n (lv' := [(2, .int x5), (0, .ref (ao 0)), (1, .int x1), (4, .int x4), (5, .int x5)]) hx hb d_M_isTried_155 rfl hl (by decide) rfl (fun ls hl => ?_)
  refine lv_aload_n hx hb d_M_isTried_156 rfl (lv_at hl 1 rfl) ?_
  refine va_get (D := D) (v := .int (gI S 7)) hx hb htg in_M hown hK hP 0 mo_0 rfl 24 (by decide) (htg _ k_f_M_180) (fun _ h9 => h9) rfl d_M_isTried_157 ?_
  refine lv_istore_n (lv' := [(3, .int (gI S 7)), (2, .int x5), (0, .ref (ao 0)), (1, .int x1), (4, .int x4), (5, .int x5)]) hx hb d_M_isTried_160 rfl hl (by decide) rfl (fun ls hl => ?_)
  exact w_m_M_isTried_b161 X hk38 _ _ _ _ _ _ hf H locs ls hP hS (lv_sub hl [2, 3, 1, 0, 4, 5] rfl)
set_option maxHeartbeats 4000000 in
set_option maxRecDepth 100000 in
theorem w_m_M_isTried_b133 {z : Int32 × St} (X : Cx b_M_isTried 6 (some .int) R_M D [(cI, .int), (cZ, .boolean), (cJ, .long)] (mA ao aa) (mW cI cZ cJ ao aa) p s m args meth c) {k38 : St → Int32 → Int32 → Int32 → Int32 → Int32 → Option (Int32 × St)} (hk38 : ∀ (S : St) (x1 : Int32) (x2 : Int32) (x3 : Int32) (x4 : Int32) (x5 : Int32), k38 S x1 x2 x3 x4 x5 = some z → WX rm_m_M_isTried D (mA ao aa) (mW cI cZ cJ ao aa) p l e s m args below meth c (some (.int z.1)) z.2 38 [] 6 [(0, .ref (ao 0)), (1, .int x1), (2, .int x2), (3, .int x3), (4, .int x4), (5, .int x5)] S) (S : St) (x1 : Int32) (x2 : Int32) (x3 : Int32) (x5 : Int32) (s0 : Int32) (hf : m_M_isTried_b133 k38 S x1 x2 x3 x5 s0 = some z) : WX rm_m_M_isTried D (mA ao aa) (mW cI cZ cJ ao aa) p l e s m args below meth c (some (.int z.1)) z.2 133 [.int s0] 6 [(0, .ref (ao 0)), (1, .int x1), (2, .int x2), (3, .int x3), (5, .int x5)] S := by
  intro H locs ls hP hS hl
  obtain ⟨hx, hb, hr0, hml, hown, htg, hlk, hK, hN, hI⟩ := id X
  unfold m_M_isTried_b133 at hf
  refine lv_istore (lv' := [(4, .int s0), (0, .ref (ao 0)), (1, .int x1), (2, .int x2), (3, .int x3), (5, .int x5)]) hx hb d_M_isTried_133 hl (by decide) rfl (fun ls hl => ?_)
  refine lv_iload hx hb d_M_isTried_135 (lv_at hl 0 rfl) ?_
  refine lv_if_ne (tgt := 153) hx hb d_M_isTried_137 (by decide) (fun c => ?_) (fun c => ?_)
  · have hf := if_f hf c
    exact w_m_M_isTried_b153 X hk38 _ _ _ _ hf H locs ls hP hS (lv_sub hl [1, 2, 0, 5] rfl)
  · have hf := if_t hf c
    refine lv_iload_n hx hb d_M_isTried_140 rfl (lv_at hl 3 rfl) ?_
    refine lv_iconst (v := (-1)) hx hb d_M_isTried_141 (by decide) ?_
    refine lv_icmp_eq (tgt := 153) hx hb d_M_isTried_142 (by decide) (fun c => ?_) (fun c => ?_)
    · have hf := if_t hf c
      exact w_m_M_isTried_b153 X hk38 _ _ _ _ hf H locs ls hP hS (lv_sub hl [1, 2, 0, 5] rfl)
    · have hf := if_f hf c
      refine lv_aload_n hx hb d_M_isTried_145 rfl (lv_at hl 1 rfl) ?_
      refine va_get (D := D) (v := .int (gI S 7)) hx hb htg in_M hown hK hP 0 mo_0 rfl 24 (by decide) (htg _ k_f_M_180) (fun _ h9 => h9) rfl d_M_isTried_146 ?_
      refine lv_iload_n hx hb d_M_isTried_149 rfl (lv_at hl 4 rfl) ?_
      refine lv_icmp_le (tgt := 161) hx hb d_M_isTried_150 (by decide) (fun c => ?_) (fun c => ?_)
      · have hf := if_t hf c
        exact w_m_M_isTried_b161 X hk38 _ _ _ _ _ _ hf H locs ls hP hS (lv_sub hl [1, 2, 3, 4, 0, 5] rfl)
      · have hf := if_f hf c
        exact w_m_M_isTried_b153 X hk38 _ _ _ _ hf H locs ls hP hS (lv_sub hl [1, 2, 0, 5] rfl)
set_option maxHeartbeats 4000000 in
set_option maxRecDepth 100000 in
theorem w_m_M_isTried_b38_f {z : Int32 × St} (X : Cx b_M_isTried 6 (some .int) R_M D [(cI, .int), (cZ, .boolean), (cJ, .long)] (mA ao aa) (mW cI cZ cJ ao aa) p s m args meth c) {k38 : St → Int32 → Int32 → Int32 → Int32 → Int32 → Option (Int32 × St)} (hk38 : ∀ (S : St) (x1 : Int32) (x2 : Int32) (x3 : Int32) (x4 : Int32) (x5 : Int32), k38 S x1 x2 x3 x4 x5 = some z → WX rm_m_M_isTried D (mA ao aa) (mW cI cZ cJ ao aa) p l e s m args below meth c (some (.int z.1)) z.2 38 [] 6 [(0, .ref (ao 0)), (1, .int x1), (2, .int x2), (3, .int x3), (4, .int x4), (5, .int x5)] S) (S : St) (x1 : Int32) (x2 : Int32) (x3 : Int32) (x4 : Int32) (x5 : Int32) (hf : m_M_isTried_b38_f k38 S x1 x2 x3 x4 x5 = some z) : WX rm_m_M_isTried D (mA ao aa) (mW cI cZ cJ ao aa) p l e s m args below meth c (some (.int z.1)) z.2 38 [] 6 [(0, .ref (ao 0)), (1, .int x1), (2, .int x2), (3, .int x3), (4, .int x4), (5, .int x5)] S := by
  intro H locs ls hP hS hl
  obtain ⟨hx, hb, hr0, hml, hown, htg, hlk, hK, hN, hI⟩ := id X
  unfold m_M_isTried_b38_f at hf
  refine lv_iload hx hb d_M_isTried_38 (lv_at hl 5 rfl) ?_
  refine lv_aload_n hx hb d_M_isTried_40 rfl (lv_at hl 0 rfl) ?_
  refine va_get (D := D) (v := .int (gI S 2)) hx hb htg in_M hown hK hP 0 mo_0 rfl 4 (by decide) (htg _ k_f_M_134) (fun _ h9 => h9) rfl d_M_isTried_41 ?_
  refine lv_icmp_ge (tgt := 167) hx hb d_M_isTried_44 (by decide) (fun c => ?_) (fun c => ?_)
  · have hf := if_t hf c
    exact w_m_M_isTried_b167 X _ _ _ hf H locs ls hP hS (lv_sub hl [0, 2, 4] rfl)
  · have hf := if_f hf c
    refine lv_iload_n hx hb d_M_isTried_47 rfl (lv_at hl 1 rfl) ?_
    refine lv_iconst (v := (-1)) hx hb d_M_isTried_48 (by decide) ?_
    refine lv_icmp_eq (tgt := 167) hx hb d_M_isTried_49 (by decide) (fun c => ?_) (fun c => ?_)
    · have hf := if_t hf c
      exact w_m_M_isTried_b167 X _ _ _ hf H locs ls hP hS (lv_sub hl [0, 2, 4] rfl)
    · have hf := if_f hf c
      refine lv_iload hx hb d_M_isTried_52 (lv_at hl 4 rfl) ?_
      refine lv_if_ne (tgt := 167) hx hb d_M_isTried_54 (by decide) (fun c => ?_) (fun c => ?_)
      · have hf := if_f hf c
        exact w_m_M_isTried_b167 X _ _ _ hf H locs ls hP hS (lv_sub hl [0, 2, 4] rfl)
      · have hf := if_t hf c
        refine lv_aload_n hx hb d_M_isTried_57 rfl (lv_at hl 0 rfl) ?_
        refine va_get (D := D) (v := .ref (aa 2)) hx hb htg in_M hown hK hP 0 mo_0 rfl 5 (by decide) (htg _ k_f_M_16) (fun _ h9 => h9) rfl d_M_isTried_58 ?_
        refine lv_iload hx hb d_M_isTried_61 (lv_at hl 5 rfl) ?_
        obtain ⟨hg, hf⟩ := gd_some hf
        refine va_iald hx hb hK hP 3 0 ma_2 rfl (vin_in hg) d_M_isTried_63 ?_
        refine lv_iload_n hx hb d_M_isTried_64 rfl (lv_at hl 1 rfl) ?_
        refine lv_icmp_ne (tgt := 161) hx hb d_M_isTried_65 (by decide) (fun c => ?_) (fun c => ?_)
        · have hf := if_f hf c
          exact w_m_M_isTried_b161 X hk38 _ _ _ _ _ _ hf H locs ls hP hS (lv_sub hl [0, 1, 2, 3, 4, 5] rfl)
        · have hf := if_t hf c
          refine lv_aload_n hx hb d_M_isTried_68 rfl (lv_at hl 0 rfl) ?_
          refine lv_iload hx hb d_M_isTried_69 (lv_at hl 5 rfl) ?_
          obtain ⟨q5, he, hf⟩ := ob_some hf
          refine cl_Vv (As := [.int x5]) (rest := []) X (c_m_M_tries he) ok_m_M_tries k_m_M_279 (va_recv hK hP rfl mo_0) rfl rfl hl.1 (Nat.le_of_ble_eq_true rfl) d_M_isTried_71 ⟨by decide, by decide⟩ hP hS (fun H locs hP hS => ?_)
          refine lv_aload_n hx hb d_M_isTried_74 rfl (lv_at hl 0 rfl) ?_
          refine va_get (D := D) (v := .ref (aa 25)) hx hb htg in_M hown hK hP 0 mo_0 rfl 44 (by decide) (htg _ k_f_M_87) (fun _ h9 => h9) rfl d_M_isTried_75 ?_
          refine lv_aload_n hx hb d_M_isTried_78 rfl (lv_at hl 0 rfl) ?_
          refine va_get (D := D) (v := .int (gI q5 16)) hx hb htg in_M hown hK hP 0 mo_0 rfl 43 (by decide) (htg _ k_f_M_266) (fun _ h9 => h9) rfl d_M_isTried_79 ?_
          refine lv_iload hx hb d_M_isTried_82 (lv_at hl 5 rfl) ?_
          obtain ⟨hg, hf⟩ := gd_some hf
          refine va_iast hx hb hK hP (hI _) hS 26 0 ma_25 rfl (vin_in hg) d_M_isTried_84 (fun H locs hP _ hS => ?_)
          replace hP : va_P D classes (mW cI cZ cJ ao aa (sA q5 25 (gI q5 16).toNatClampNeg x5)) H := pw mt_25 hP
          refine lv_aload_n hx hb d_M_isTried_85 rfl (lv_at hl 0 rfl) ?_
          refine va_get (D := D) (v := .ref (aa 26)) hx hb htg in_M hown hK hP 0 mo_0 rfl 45 (by decide) (htg _ k_f_M_90) (fun _ h9 => h9) rfl d_M_isTried_86 ?_
          refine lv_aload_n hx hb d_M_isTried_89 rfl (lv_at hl 0 rfl) ?_
          refine va_get (D := D) (v := .int (gI (sA q5 25 (gI q5 16).toNatClampNeg x5) 16)) hx hb htg in_M hown hK hP 0 mo_0 rfl 43 (by decide) (htg _ k_f_M_266) (fun _ h9 => h9) rfl d_M_isTried_90 ?_
          refine lv_aload_n hx hb d_M_isTried_93 rfl (lv_at hl 0 rfl) ?_
          refine va_get (D := D) (v := .int (gI (sA q5 25 (gI q5 16).toNatClampNeg x5) 7)) hx hb htg in_M hown hK hP 0 mo_0 rfl 24 (by decide) (htg _ k_f_M_180) (fun _ h9 => h9) rfl d_M_isTried_94 ?_
          obtain ⟨hg, hf⟩ := gd_some hf
          refine va_iast hx hb hK hP (hI _) hS 27 0 ma_26 rfl (vin_in hg) d_M_isTried_97 (fun H locs hP _ hS => ?_)
          replace hP : va_P D classes (mW cI cZ cJ ao aa (sA (sA q5 25 (gI q5 16).toNatClampNeg x5) 26 (gI (sA q5 25 (gI q5 16).toNatClampNeg x5) 16).toNatClampNeg (gI (sA q5 25 (gI q5 16).toNatClampNeg x5) 7))) H := pw mt_26 hP
          refine lv_aload_n hx hb d_M_isTried_98 rfl (lv_at hl 0 rfl) ?_
          refine va_get (D := D) (v := .ref (aa 27)) hx hb htg in_M hown hK hP 0 mo_0 rfl 46 (by decide) (htg _ k_f_M_93) (fun _ h9 => h9) rfl d_M_isTried_99 ?_
          refine lv_aload_n hx hb d_M_isTried_102 rfl (lv_at hl 0 rfl) ?_
          refine va_get (D := D) (v := .int (gI (sA (sA q5 25 (gI q5 16).toNatClampNeg x5) 26 (gI (sA q5 25 (gI q5 16).toNatClampNeg x5) 16).toNatClampNeg (gI (sA q5 25 (gI q5 16).toNatClampNeg x5) 7)) 16)) hx hb htg in_M hown hK hP 0 mo_0 rfl 43 (by decide) (htg _ k_f_M_266) (fun _ h9 => h9) rfl d_M_isTried_103 ?_
          refine lv_aload_n hx hb d_M_isTried_106 rfl (lv_at hl 0 rfl) ?_
          refine va_get (D := D) (v := .int (gI (sA (sA q5 25 (gI q5 16).toNatClampNeg x5) 26 (gI (sA q5 25 (gI q5 16).toNatClampNeg x5) 16).toNatClampNeg (gI (sA q5 25 (gI q5 16).toNatClampNeg x5) 7)) 8)) hx hb htg in_M hown hK hP 0 mo_0 rfl 25 (by decide) (htg _ k_f_M_183) (fun _ h9 => h9) rfl d_M_isTried_107 ?_
          obtain ⟨hg, hf⟩ := gd_some hf
          refine va_iast hx hb hK hP (hI _) hS 28 0 ma_27 rfl (vin_in hg) d_M_isTried_110 (fun H locs hP _ hS => ?_)
          replace hP : va_P D classes (mW cI cZ cJ ao aa (sA (sA (sA q5 25 (gI q5 16).toNatClampNeg x5) 26 (gI (sA q5 25 (gI q5 16).toNatClampNeg x5) 16).toNatClampNeg (gI (sA q5 25 (gI q5 16).toNatClampNeg x5) 7)) 27 (gI (sA (sA q5 25 (gI q5 16).toNatClampNeg x5) 26 (gI (sA q5 25 (gI q5 16).toNatClampNeg x5) 16).toNatClampNeg (gI (sA q5 25 (gI q5 16).toNatClampNeg x5) 7)) 16).toNatClampNeg (gI (sA (sA q5 25 (gI q5 16).toNatClampNeg x5) 26 (gI (sA q5 25 (gI q5 16).toNatClampNeg x5) 16).toNatClampNeg (gI (sA q5 25 (gI q5 16).toNatClampNeg x5) 7)) 8))) H := pw mt_27 hP
          refine lv_aload_n hx hb d_M_isTried_111 rfl (lv_at hl 0 rfl) ?_
          refine lv_dup hx hb d_M_isTried_112 rfl ?_
          refine va_get (D := D) (v := .int (gI (sA (sA (sA q5 25 (gI q5 16).toNatClampNeg x5) 26 (gI (sA q5 25 (gI q5 16).toNatClampNeg x5) 16).toNatClampNeg (gI (sA q5 25 (gI q5 16).toNatClampNeg x5) 7)) 27 (gI (sA (sA q5 25 (gI q5 16).toNatClampNeg x5) 26 (gI (sA q5 25 (gI q5 16).toNatClampNeg x5) 16).toNatClampNeg (gI (sA q5 25 (gI q5 16).toNatClampNeg x5) 7)) 16).toNatClampNeg (gI (sA (sA q5 25 (gI q5 16).toNatClampNeg x5) 26 (gI (sA q5 25 (gI q5 16).toNatClampNeg x5) 16).toNatClampNeg (gI (sA q5 25 (gI q5 16).toNatClampNeg x5) 7)) 8)) 16)) hx hb htg in_M hown hK hP 0 mo_0 rfl 43 (by decide) (htg _ k_f_M_266) (fun _ h9 => h9) rfl d_M_isTried_113 ?_
          refine lv_iconst (v := 1) hx hb d_M_isTried_116 (by decide) ?_
          refine lv_iadd hx hb d_M_isTried_117 ?_
          refine va_put (D := D) (ty := .int) hx hb htg in_M t_M t_M_ok n_M hown hK hP (hI _) hS 0 mo_0 rfl 43 (by decide) (htg _ k_f_M_266) (fun _ h9 => h9) rfl (by decide +kernel) rfl rfl (Nat.le_of_ble_eq_true rfl) d_M_isTried_118 (fun H locs hP _ hS => ?_)
          replace hP : va_P D classes (mW cI cZ cJ ao aa (sI (sA (sA (sA q5 25 (gI q5 16).toNatClampNeg x5) 26 (gI (sA q5 25 (gI q5 16).toNatClampNeg x5) 16).toNatClampNeg (gI (sA q5 25 (gI q5 16).toNatClampNeg x5) 7)) 27 (gI (sA (sA q5 25 (gI q5 16).toNatClampNeg x5) 26 (gI (sA q5 25 (gI q5 16).toNatClampNeg x5) 16).toNatClampNeg (gI (sA q5 25 (gI q5 16).toNatClampNeg x5) 7)) 16).toNatClampNeg (gI (sA (sA q5 25 (gI q5 16).toNatClampNeg x5) 26 (gI (sA q5 25 (gI q5 16).toNatClampNeg x5) 16).toNatClampNeg (gI (sA q5 25 (gI q5 16).toNatClampNeg x5) 7)) 8)) 16 ((gI (sA (sA (sA q5 25 (gI q5 16).toNatClampNeg x5) 26 (gI (sA q5 25 (gI q5 16).toNatClampNeg x5) 16).toNatClampNeg (gI (sA q5 25 (gI q5 16).toNatClampNeg x5) 7)) 27 (gI (sA (sA q5 25 (gI q5 16).toNatClampNeg x5) 26 (gI (sA q5 25 (gI q5 16).toNatClampNeg x5) 16).toNatClampNeg (gI (sA q5 25 (gI q5 16).toNatClampNeg x5) 7)) 16).toNatClampNeg (gI (sA (sA q5 25 (gI q5 16).toNatClampNeg x5) 26 (gI (sA q5 25 (gI q5 16).toNatClampNeg x5) 16).toNatClampNeg (gI (sA q5 25 (gI q5 16).toNatClampNeg x5) 7)) 8)) 16) + (1 : Int32)))) H := pw ms_0_tried hP
          refine lv_aload_n hx hb d_M_isTried_121 rfl (lv_at hl 0 rfl) ?_
          refine va_get (D := D) (v := .int (gI (sI (sA (sA (sA q5 25 (gI q5 16).toNatClampNeg x5) 26 (gI (sA q5 25 (gI q5 16).toNatClampNeg x5) 16).toNatClampNeg (gI (sA q5 25 (gI q5 16).toNatClampNeg x5) 7)) 27 (gI (sA (sA q5 25 (gI q5 16).toNatClampNeg x5) 26 (gI (sA q5 25 (gI q5 16).toNatClampNeg x5) 16).toNatClampNeg (gI (sA q5 25 (gI q5 16).toNatClampNeg x5) 7)) 16).toNatClampNeg (gI (sA (sA q5 25 (gI q5 16).toNatClampNeg x5) 26 (gI (sA q5 25 (gI q5 16).toNatClampNeg x5) 16).toNatClampNeg (gI (sA q5 25 (gI q5 16).toNatClampNeg x5) 7)) 8)) 16 ((gI (sA (sA (sA q5 25 (gI q5 16).toNatClampNeg x5) 26 (gI (sA q5 25 (gI q5 16).toNatClampNeg x5) 16).toNatClampNeg (gI (sA q5 25 (gI q5 16).toNatClampNeg x5) 7)) 27 (gI (sA (sA q5 25 (gI q5 16).toNatClampNeg x5) 26 (gI (sA q5 25 (gI q5 16).toNatClampNeg x5) 16).toNatClampNeg (gI (sA q5 25 (gI q5 16).toNatClampNeg x5) 7)) 16).toNatClampNeg (gI (sA (sA q5 25 (gI q5 16).toNatClampNeg x5) 26 (gI (sA q5 25 (gI q5 16).toNatClampNeg x5) 16).toNatClampNeg (gI (sA q5 25 (gI q5 16).toNatClampNeg x5) 7)) 8)) 16) + (1 : Int32))) 7)) hx hb htg in_M hown hK hP 0 mo_0 rfl 24 (by decide) (htg _ k_f_M_180) (fun _ h9 => h9) rfl d_M_isTried_122 ?_
          refine lv_if_ne (tgt := 132) hx hb d_M_isTried_125 (by decide) (fun c => ?_) (fun c => ?_)
          · have hf := if_f hf c
            refine lv_iconst (v := 0) hx hb d_M_isTried_132 (by decide) ?_
            exact w_m_M_isTried_b133 X hk38 _ _ _ _ _ _ hf H locs ls hP hS (lv_sub hl [0, 1, 2, 3, 5] rfl)
          · have hf := if_t hf c
            refine lv_iconst (v := 1) hx hb d_M_isTried_128 (by decide) ?_
            refine lv_goto (tgt := 133) hx hb d_M_isTried_129 (by decide) ?_
            exact w_m_M_isTried_b133 X hk38 _ _ _ _ _ _ hf H locs ls hP hS (lv_sub hl [0, 1, 2, 3, 5] rfl)
theorem w_m_M_isTried_b38 {z : Int32 × St} (X : Cx b_M_isTried 6 (some .int) R_M D [(cI, .int), (cZ, .boolean), (cJ, .long)] (mA ao aa) (mW cI cZ cJ ao aa) p s m args meth c) : ∀ (n : Nat) (S : St) (x1 : Int32) (x2 : Int32) (x3 : Int32) (x4 : Int32) (x5 : Int32), m_M_isTried_b38 n S x1 x2 x3 x4 x5 = some z → WX rm_m_M_isTried D (mA ao aa) (mW cI cZ cJ ao aa) p l e s m args below meth c (some (.int z.1)) z.2 38 [] 6 [(0, .ref (ao 0)), (1, .int x1), (2, .int x2), (3, .int x3), (4, .int x4), (5, .int x5)] S
  | 0, _, _, _, _, _, _, hf => ns hf
  | n + 1, _, _, _, _, _, _, hf => w_m_M_isTried_b38_f X (w_m_M_isTried_b38 X n) _ _ _ _ _ _ hf
set_option maxHeartbeats 4000000 in
set_option maxRecDepth 100000 in
theorem w_m_M_isTried {z : Int32 × St} (X : Cx b_M_isTried 6 (some .int) R_M D [(cI, .int), (cZ, .boolean), (cJ, .long)] (mA ao aa) (mW cI cZ cJ ao aa) p s m args meth c) (S : St) (hf : m_M_isTried S = some z) : WX rm_m_M_isTried D (mA ao aa) (mW cI cZ cJ ao aa) p l e s m args below meth c (some (.int z.1)) z.2 0 [] 6 [(0, .ref (ao 0))] S := by
  intro H locs ls hP hS hl
  obtain ⟨hx, hb, hr0, hml, hown, htg, hlk, hK, hN, hI⟩ := id X
  unfold m_M_isTried at hf
  refine lv_aload_n hx hb d_M_isTried_0 rfl (lv_at hl 0 rfl) ?_
  refine lv_aload_n hx hb d_M_isTried_1 rfl (lv_at hl 0 rfl) ?_
  refine va_get (D := D) (v := .ref (aa 24)) hx hb htg in_M hown hK hP 0 mo_0 rfl 41 (by decide) (htg _ k_f_M_84) (fun _ h9 => h9) rfl d_M_isTried_2 ?_
  refine lv_aload_n hx hb d_M_isTried_5 rfl (lv_at hl 0 rfl) ?_
  refine va_get (D := D) (v := .int (gI S 14)) hx hb htg in_M hown hK hP 0 mo_0 rfl 40 (by decide) (htg _ k_f_M_272) (fun _ h9 => h9) rfl d_M_isTried_6 ?_
  obtain ⟨q1, he, hf⟩ := ob_some hf
  refine cl_Vv (As := [.ref (aa 24), .int (gI S 14)]) (rest := []) X (c_m_M_take_24 he) ok_m_M_take_24 k_m_M_275 (va_recv hK hP rfl mo_0) rfl rfl hl.1 (Nat.le_of_ble_eq_true rfl) d_M_isTried_9 ⟨by decide, by decide⟩ hP hS (fun H locs hP hS => ?_)
  refine lv_aload_n hx hb d_M_isTried_12 rfl (lv_at hl 0 rfl) ?_
  refine lv_iconst (v := 0) hx hb d_M_isTried_13 (by decide) ?_
  refine va_put (D := D) (ty := .int) hx hb htg in_M t_M t_M_ok n_M hown hK hP (hI _) hS 0 mo_0 rfl 43 (by decide) (htg _ k_f_M_266) (fun _ h9 => h9) rfl (by decide +kernel) rfl rfl (Nat.le_of_ble_eq_true rfl) d_M_isTried_14 (fun H locs hP _ hS => ?_)
  replace hP : va_P D classes (mW cI cZ cJ ao aa (sI q1 16 (0 : Int32))) H := pw ms_0_tried hP
  refine lv_aload_n hx hb d_M_isTried_17 rfl (lv_at hl 0 rfl) ?_
  refine lv_aload_n hx hb d_M_isTried_18 rfl (lv_at hl 0 rfl) ?_
  refine va_get (D := D) (v := .ref (aa 24)) hx hb htg in_M hown hK hP 0 mo_0 rfl 41 (by decide) (htg _ k_f_M_84) (fun _ h9 => h9) rfl d_M_isTried_19 ?_
  refine lv_iconst (v := 0) hx hb d_M_isTried_22 (by decide) ?_
  obtain ⟨hg, hf⟩ := gd_some hf
  refine va_iald hx hb hK hP 25 0 ma_24 rfl (vin_in hg) d_M_isTried_23 ?_
  obtain ⟨q2, he, hf⟩ := ob_some hf
  refine cl_Vi (As := [.int (gA (sI q1 16 (0 : Int32)) 24 (0 : Int32).toNatClampNeg)]) (rest := []) X (c_m_M_verbBy he) ok_m_M_verbBy k_m_M_123 (va_recv hK hP rfl mo_0) rfl rfl hl.1 (Nat.le_of_ble_eq_true rfl) d_M_isTried_24 ⟨by decide, by decide⟩ hP hS (fun H locs hP hS => ?_)
  refine lv_istore_n (lv' := [(1, .int q2.1), (0, .ref (ao 0))]) hx hb d_M_isTried_27 rfl hl (by decide) rfl (fun ls hl => ?_)
  refine lv_iconst (v := (-1)) hx hb d_M_isTried_28 (by decide) ?_
  refine lv_istore_n (lv' := [(2, .int (-1 : Int32)), (1, .int q2.1), (0, .ref (ao 0))]) hx hb d_M_isTried_29 rfl hl (by decide) rfl (fun ls hl => ?_)
  refine lv_iconst (v := 0) hx hb d_M_isTried_30 (by decide) ?_
  refine lv_istore_n (lv' := [(3, .int (0 : Int32)), (2, .int (-1 : Int32)), (1, .int q2.1), (0, .ref (ao 0))]) hx hb d_M_isTried_31 rfl hl (by decide) rfl (fun ls hl => ?_)
  refine lv_iconst (v := 0) hx hb d_M_isTried_32 (by decide) ?_
  refine lv_istore (lv' := [(4, .int (0 : Int32)), (3, .int (0 : Int32)), (2, .int (-1 : Int32)), (1, .int q2.1), (0, .ref (ao 0))]) hx hb d_M_isTried_33 hl (by decide) rfl (fun ls hl => ?_)
  refine lv_iconst (v := 0) hx hb d_M_isTried_35 (by decide) ?_
  refine lv_istore (lv' := [(5, .int (0 : Int32)), (4, .int (0 : Int32)), (3, .int (0 : Int32)), (2, .int (-1 : Int32)), (1, .int q2.1), (0, .ref (ao 0))]) hx hb d_M_isTried_36 hl (by decide) rfl (fun ls hl => ?_)
  exact w_m_M_isTried_b38 X _ _ _ _ _ _ _ hf H locs ls hP hS (lv_sub hl [5, 4, 3, 2, 1, 0] rfl)
theorem c_m_M_isTried {l : Launch} {D : va_G} {cI cZ cJ : ClassId} {ao aa : Nat → Nat} {S : St} {z : Int32 × St} (hz : m_M_isTried S = some z) : Ct l y_M_isTried (.code y_M_isTried b_M_isTried 6 (some .int) :: gw) rm_m_M_isTried D [(cI, .int), (cZ, .boolean), (cJ, .long)] (mA ao aa) (mW cI cZ cJ ao aa) [.ref (ao 0)] S (some (.int z.1)) z.2 :=
  Ct_of (by decide) (fun p e s m args below meth c X => w_m_M_isTried X _ hz) (Nat.le_of_ble_eq_true rfl)
def m_M_parse_b391 (S : St) : Option (Int32 × St) :=
  (m_M_isTried S).bind fun q4 =>
  some (q4.1, q4.2)
def m_M_parse_b362_f (k362 : St → Int32 → Option (Int32 × St)) (S : St) (x7 : Int32) : Option (Int32 × St) :=
  if (gI S 23) ≤ x7 then
    m_M_parse_b391 S
  else
    gd (vin x7 60) <|
    gd (vin x7 60) <|
    k362 (sA S 24 x7.toNatClampNeg (gA S 28 x7.toNatClampNeg)) (x7 + 1)
def m_M_parse_b362 : Nat → St → Int32 → Option (Int32 × St)
  | 0, _, _ => none
  | n + 1, S, x7 => m_M_parse_b362_f (m_M_parse_b362 n) S x7
def m_M_parse_b290 (S : St) (x3 : Int32) (x4 : Int32) (s0 : Int32) : Option (Int32 × St) :=
  (m_M_off S s0).bind fun q3 =>
  if x3 = 0 then
    (m_M_without q3 (1 : Int32)).bind fun q7 =>
    some (q7.1, q7.2)
  else
    if x4 = 0 then
      if x3 = (1 : Int32) then
        gd (vin (0 : Int32) 60) <|
        if (gA q3 24 (0 : Int32).toNatClampNeg) = (5 : Int32) then
          if (gI q3 23) = (-1 : Int32) then
            (m_M_without q3 (3 : Int32)).bind fun q5 =>
            some (q5.1, q5.2)
          else
            m_M_parse_b362 fu (sI (sI q3 14 (gI q3 23)) 15 (gI (sI q3 14 (gI q3 23)) 24)) (0 : Int32)
        else
          m_M_parse_b391 q3
      else
        m_M_parse_b391 q3
    else
      (m_M_without q3 (4 : Int32)).bind fun q6 =>
      some (q6.1, q6.2)
def m_M_parse_b243_f (k243 : St → Int32 → Int32 → Int32 → Option (Int32 × St)) (S : St) (x3 : Int32) (x4 : Int32) (x7 : Int32) : Option (Int32 × St) :=
  if x3 ≤ x7 then
    if (gI (sI S 14 x3) 5) ≤ x3 then
      m_M_parse_b290 (sI S 14 x3) x3 x4 x3
    else
      m_M_parse_b290 (sI S 14 x3) x3 x4 (x3 + (1 : Int32))
  else
    gd (vin x7 60) <|
    gd (vin x7 60) <|
    k243 (sA S 24 x7.toNatClampNeg (gA S 14 x7.toNatClampNeg)) x3 x4 (x7 + 1)
def m_M_parse_b243 : Nat → St → Int32 → Int32 → Int32 → Option (Int32 × St)
  | 0, _, _, _, _ => none
  | n + 1, S, x3, x4, x7 => m_M_parse_b243_f (m_M_parse_b243 n) S x3 x4 x7
def m_M_parse_b240 (S : St) (x3 : Int32) (x4 : Int32) : Option (Int32 × St) :=
  m_M_parse_b243 fu S x3 x4 (0 : Int32)
def m_M_parse_b216 (S : St) (x2 : Int32) (x5 : Int32) (s0 : Int32) : Option (Int32 × St) :=
  (m_M_off S s0).bind fun q8 =>
  gd (vin (gI q8 19) 60) <|
  (m_M_isTried (sI (sA q8 24 (gI q8 19).toNatClampNeg x5) 15 x2)).bind fun q9 =>
  some (q9.1, q9.2)
def m_M_parse_b184 (S : St) (x2 : Int32) (x3 : Int32) (x4 : Int32) (x5 : Int32) (s0 : Int32) : Option (Int32 × St) :=
  (m_M_begins S).bind fun q2 =>
  if x4 = 0 then
    m_M_parse_b240 q2 x3 x4
  else
    if s0 = 0 then
      m_M_parse_b240 q2 x3 x4
    else
      if (gI q2 5) ≤ x3 then
        m_M_parse_b216 q2 x2 x5 x3
      else
        m_M_parse_b216 q2 x2 x5 (x3 + (1 : Int32))
def m_M_parse_b183 (S : St) (x2 : Int32) (x3 : Int32) (x4 : Int32) (x5 : Int32) : Option (Int32 × St) :=
  m_M_parse_b184 S x2 x3 x4 x5 (0 : Int32)
def m_M_parse_b125 (S : St) (x1 : Int32) (x2 : Int32) (x3 : Int32) (x4 : Int32) (s0 : Int32) : Option (Int32 × St) :=
  if x1 = 0 then
    m_M_parse_b183 S x2 x3 x4 s0
  else
    if (gI S 18) = 0 then
      m_M_parse_b183 S x2 x3 x4 s0
    else
      if (gI S 18) = (1 : Int32) then
        m_M_parse_b183 S x2 x3 x4 s0
      else
        if (gI S 18) = (3 : Int32) then
          m_M_parse_b183 S x2 x3 x4 s0
        else
          if (gI S 18) = (4 : Int32) then
            m_M_parse_b183 S x2 x3 x4 s0
          else
            (m_M_within S (gI S 19) (0 : Int32) ((gI S 14) - (1 : Int32))).bind fun q10 =>
            if q10.1 = 0 then
              m_M_parse_b183 q10.2 x2 x3 x4 s0
            else
              m_M_parse_b184 q10.2 x2 x3 x4 s0 (1 : Int32)
def m_M_parse_b108 (S : St) (x1 : Int32) (x2 : Int32) (x3 : Int32) (s0 : Int32) : Option (Int32 × St) :=
  if s0 = 0 then
    m_M_parse_b125 S x1 x2 x3 s0 (0 : Int32)
  else
    gd (vin (1 : Int32) 60) <|
    m_M_parse_b125 S x1 x2 x3 s0 (gA S 14 (1 : Int32).toNatClampNeg)
def m_M_parse_b107 (S : St) (x1 : Int32) (x2 : Int32) (x3 : Int32) : Option (Int32 × St) :=
  m_M_parse_b108 S x1 x2 x3 (0 : Int32)
def m_M_parse_b87 (S : St) (x1 : Int32) (x2 : Int32) (x3 : Int32) : Option (Int32 × St) :=
  if x3 = (2 : Int32) then
    gd (vin (0 : Int32) 60) <|
    if (gA S 14 (0 : Int32).toNatClampNeg) = (6 : Int32) then
      m_M_parse_b108 S x1 x2 x3 (1 : Int32)
    else
      m_M_parse_b107 S x1 x2 x3
  else
    m_M_parse_b107 S x1 x2 x3
def m_M_parse_b81 (k16 : St → Int32 → Int32 → Int32 → Option (Int32 × St)) (S : St) (x1 : Int32) (x2 : Int32) (x3 : Int32) : Option (Int32 × St) :=
  k16 S x1 x2 (x3 + 1)
def m_M_parse_b55 (k16 : St → Int32 → Int32 → Int32 → Option (Int32 × St)) (S : St) (x1 : Int32) (x2 : Int32) (x3 : Int32) : Option (Int32 × St) :=
  if (gI S 5) ≤ (x3 + (1 : Int32)) then
    m_M_parse_b81 k16 S x1 x2 x3
  else
    gd (vin (x3 + (1 : Int32)) 60) <|
    (m_M_verbBy S (gA S 14 (x3 + (1 : Int32)).toNatClampNeg)).bind fun q11 =>
    if q11.1 = (-1 : Int32) then
      m_M_parse_b81 k16 q11.2 x1 x2 x3
    else
      m_M_parse_b87 q11.2 x1 x2 x3
def m_M_parse_b16_f (k16 : St → Int32 → Int32 → Int32 → Option (Int32 × St)) (S : St) (x1 : Int32) (x2 : Int32) (x3 : Int32) : Option (Int32 × St) :=
  if (gI S 5) ≤ x3 then
    m_M_parse_b87 S x1 x2 x3
  else
    gd (vin x3 60) <|
    if (gA S 14 x3.toNatClampNeg) = (2 : Int32) then
      m_M_parse_b87 S x1 x2 x3
    else
      gd (vin x3 60) <|
      if (gA S 14 x3.toNatClampNeg) = (1 : Int32) then
        m_M_parse_b55 k16 S x1 x2 x3
      else
        gd (vin x3 60) <|
        if (gA S 14 x3.toNatClampNeg) = (7 : Int32) then
          m_M_parse_b55 k16 S x1 x2 x3
        else
          m_M_parse_b81 k16 S x1 x2 x3
def m_M_parse_b16 : Nat → St → Int32 → Int32 → Int32 → Option (Int32 × St)
  | 0, _, _, _, _ => none
  | n + 1, S, x1, x2, x3 => m_M_parse_b16_f (m_M_parse_b16 n) S x1 x2 x3
def m_M_parse (S : St) : Option (Int32 × St) :=
  (m_M_order S).bind fun q1 =>
  m_M_parse_b16 fu q1 (gI S 17) (gI S 15) (0 : Int32)
def rm_m_M_parse : Room := { frames := 8, cells := 0, slots := 0, locals := 195 }
theorem ok_m_M_parse : CalV y_M_parse b_M_parse 8 (some .int) 0 rm_m_M_parse := ⟨kc_M_parse, ki_M_parse, kl_M_parse, ji_M, ⟨by decide, by decide, by decide +kernel⟩, rfl, rfl⟩
set_option maxHeartbeats 4000000 in
set_option maxRecDepth 100000 in
theorem w_m_M_parse_b391 {z : Int32 × St} (X : Cx b_M_parse 8 (some .int) R_M D [(cI, .int), (cZ, .boolean), (cJ, .long)] (mA ao aa) (mW cI cZ cJ ao aa) p s m args meth c) (S : St) (hf : m_M_parse_b391 S = some z) : WX rm_m_M_parse D (mA ao aa) (mW cI cZ cJ ao aa) p l e s m args below meth c (some (.int z.1)) z.2 391 [] 8 [(0, .ref (ao 0))] S := by
  intro H locs ls hP hS hl
  obtain ⟨hx, hb, hr0, hml, hown, htg, hlk, hK, hN, hI⟩ := id X
  unfold m_M_parse_b391 at hf
  refine lv_aload_n hx hb d_M_parse_391 rfl (lv_at hl 0 rfl) ?_
  obtain ⟨q4, he, hf⟩ := ob_some hf
  refine cl_Vi (As := []) (rest := []) X (c_m_M_isTried he) ok_m_M_isTried k_m_M_308 (va_recv hK hP rfl mo_0) rfl rfl hl.1 (Nat.le_of_ble_eq_true rfl) d_M_parse_392 ⟨by decide, by decide⟩ hP hS (fun H locs hP hS => ?_)
  obtain rfl := Option.some.inj hf
  exact W.iret hx hb hr0 (fun t ht _ => ⟨⟨rfl, by rw [ht]; exact hP⟩, hS.F ht⟩) hS.2.2 d_M_parse_395 hlk
set_option maxHeartbeats 4000000 in
set_option maxRecDepth 100000 in
theorem w_m_M_parse_b362_f {z : Int32 × St} (X : Cx b_M_parse 8 (some .int) R_M D [(cI, .int), (cZ, .boolean), (cJ, .long)] (mA ao aa) (mW cI cZ cJ ao aa) p s m args meth c) {k362 : St → Int32 → Option (Int32 × St)} (hk362 : ∀ (S : St) (x7 : Int32), k362 S x7 = some z → WX rm_m_M_parse D (mA ao aa) (mW cI cZ cJ ao aa) p l e s m args below meth c (some (.int z.1)) z.2 362 [] 8 [(0, .ref (ao 0)), (7, .int x7)] S) (S : St) (x7 : Int32) (hf : m_M_parse_b362_f k362 S x7 = some z) : WX rm_m_M_parse D (mA ao aa) (mW cI cZ cJ ao aa) p l e s m args below meth c (some (.int z.1)) z.2 362 [] 8 [(0, .ref (ao 0)), (7, .int x7)] S := by
  intro H locs ls hP hS hl
  obtain ⟨hx, hb, hr0, hml, hown, htg, hlk, hK, hN, hI⟩ := id X
  unfold m_M_parse_b362_f at hf
  refine lv_iload hx hb d_M_parse_362 (lv_at hl 1 rfl) ?_
  refine lv_aload_n hx hb d_M_parse_364 rfl (lv_at hl 0 rfl) ?_
  refine va_get (D := D) (v := .int (gI S 23)) hx hb htg in_M hown hK hP 0 mo_0 rfl 53 (by decide) (htg _ k_f_M_99) (fun _ h9 => h9) rfl d_M_parse_365 ?_
  refine lv_icmp_ge (tgt := 391) hx hb d_M_parse_368 (by decide) (fun c => ?_) (fun c => ?_)
  · have hf := if_t hf c
    exact w_m_M_parse_b391 X _ hf H locs ls hP hS (lv_sub hl [0] rfl)
  · have hf := if_f hf c
    refine lv_aload_n hx hb d_M_parse_371 rfl (lv_at hl 0 rfl) ?_
    refine va_get (D := D) (v := .ref (aa 24)) hx hb htg in_M hown hK hP 0 mo_0 rfl 41 (by decide) (htg _ k_f_M_84) (fun _ h9 => h9) rfl d_M_parse_372 ?_
    refine lv_iload hx hb d_M_parse_375 (lv_at hl 1 rfl) ?_
    refine lv_aload_n hx hb d_M_parse_377 rfl (lv_at hl 0 rfl) ?_
    refine va_get (D := D) (v := .ref (aa 28)) hx hb htg in_M hown hK hP 0 mo_0 rfl 54 (by decide) (htg _ k_f_M_96) (fun _ h9 => h9) rfl d_M_parse_378 ?_
    refine lv_iload hx hb d_M_parse_381 (lv_at hl 1 rfl) ?_
    obtain ⟨hg, hf⟩ := gd_some hf
    refine va_iald hx hb hK hP 29 0 ma_28 rfl (vin_in hg) d_M_parse_383 ?_
    obtain ⟨hg, hf⟩ := gd_some hf
    refine va_iast hx hb hK hP (hI _) hS 25 0 ma_24 rfl (vin_in hg) d_M_parse_384 (fun H locs hP _ hS => ?_)
    replace hP : va_P D classes (mW cI cZ cJ ao aa (sA S 24 x7.toNatClampNeg (gA S 28 x7.toNatClampNeg))) H := pw mt_24 hP
    refine lv_iinc (v := (x7 + 1)) (lv' := [(7, .int (x7 + 1)), (0, .ref (ao 0))]) hx hb d_M_parse_385 hl (k := 1) rfl rfl (by decide) rfl (fun ls hl => ?_)
    refine lv_goto (tgt := 362) hx hb d_M_parse_388 (by decide) ?_
    exact hk362 _ _ hf H locs ls hP hS (lv_sub hl [1, 0] rfl)
theorem w_m_M_parse_b362 {z : Int32 × St} (X : Cx b_M_parse 8 (some .int) R_M D [(cI, .int), (cZ, .boolean), (cJ, .long)] (mA ao aa) (mW cI cZ cJ ao aa) p s m args meth c) : ∀ (n : Nat) (S : St) (x7 : Int32), m_M_parse_b362 n S x7 = some z → WX rm_m_M_parse D (mA ao aa) (mW cI cZ cJ ao aa) p l e s m args below meth c (some (.int z.1)) z.2 362 [] 8 [(0, .ref (ao 0)), (7, .int x7)] S
  | 0, _, _, hf => ns hf
  | n + 1, _, _, hf => w_m_M_parse_b362_f X (w_m_M_parse_b362 X n) _ _ hf
set_option maxHeartbeats 4000000 in
set_option maxRecDepth 100000 in
theorem w_m_M_parse_b290 {z : Int32 × St} (X : Cx b_M_parse 8 (some .int) R_M D [(cI, .int), (cZ, .boolean), (cJ, .long)] (mA ao aa) (mW cI cZ cJ ao aa) p s m args meth c) (S : St) (x3 : Int32) (x4 : Int32) (s0 : Int32) (hf : m_M_parse_b290 S x3 x4 s0 = some z) : WX rm_m_M_parse D (mA ao aa) (mW cI cZ cJ ao aa) p l e s m args below meth c (some (.int z.1)) z.2 290 [.int s0, .ref (ao 0)] 8 [(0, .ref (ao 0)), (3, .int x3), (4, .int x4)] S := by
  intro H locs ls hP hS hl
  obtain ⟨hx, hb, hr0, hml, hown, htg, hlk, hK, hN, hI⟩ := id X
  unfold m_M_parse_b290 at hf
  obtain ⟨q3, he, hf⟩ := ob_some hf
  refine cl_Vv (As := [.int s0]) (rest := []) X (c_m_M_off he) ok_m_M_off k_m_M_299 (va_recv hK hP rfl mo_0) rfl rfl hl.1 (Nat.le_of_ble_eq_true rfl) d_M_parse_290 ⟨by decide, by decide⟩ hP hS (fun H locs hP hS => ?_)
  refine lv_iload_n hx hb d_M_parse_293 rfl (lv_at hl 1 rfl) ?_
  refine lv_if_ne (tgt := 303) hx hb d_M_parse_294 (by decide) (fun c => ?_) (fun c => ?_)
  · have hf := if_f hf c
    refine lv_iload hx hb d_M_parse_303 (lv_at hl 2 rfl) ?_
    refine lv_if_eq (tgt := 314) hx hb d_M_parse_305 (by decide) (fun c => ?_) (fun c => ?_)
    · have hf := if_t hf c
      refine lv_iload_n hx hb d_M_parse_314 rfl (lv_at hl 1 rfl) ?_
      refine lv_iconst (v := 1) hx hb d_M_parse_315 (by decide) ?_
      refine lv_icmp_ne (tgt := 391) hx hb d_M_parse_316 (by decide) (fun c => ?_) (fun c => ?_)
      · have hf := if_f hf c
        exact w_m_M_parse_b391 X _ hf H locs ls hP hS (lv_sub hl [0] rfl)
      · have hf := if_t hf c
        refine lv_aload_n hx hb d_M_parse_319 rfl (lv_at hl 0 rfl) ?_
        refine va_get (D := D) (v := .ref (aa 24)) hx hb htg in_M hown hK hP 0 mo_0 rfl 41 (by decide) (htg _ k_f_M_84) (fun _ h9 => h9) rfl d_M_parse_320 ?_
        refine lv_iconst (v := 0) hx hb d_M_parse_323 (by decide) ?_
        obtain ⟨hg, hf⟩ := gd_some hf
        refine va_iald hx hb hK hP 25 0 ma_24 rfl (vin_in hg) d_M_parse_324 ?_
        refine lv_iconst (v := 5) hx hb d_M_parse_325 (by decide) ?_
        refine lv_icmp_ne (tgt := 391) hx hb d_M_parse_326 (by decide) (fun c => ?_) (fun c => ?_)
        · have hf := if_f hf c
          exact w_m_M_parse_b391 X _ hf H locs ls hP hS (lv_sub hl [0] rfl)
        · have hf := if_t hf c
          refine lv_aload_n hx hb d_M_parse_329 rfl (lv_at hl 0 rfl) ?_
          refine va_get (D := D) (v := .int (gI q3 23)) hx hb htg in_M hown hK hP 0 mo_0 rfl 53 (by decide) (htg _ k_f_M_99) (fun _ h9 => h9) rfl d_M_parse_330 ?_
          refine lv_iconst (v := (-1)) hx hb d_M_parse_333 (by decide) ?_
          refine lv_icmp_ne (tgt := 343) hx hb d_M_parse_334 (by decide) (fun c => ?_) (fun c => ?_)
          · have hf := if_f hf c
            refine lv_aload_n hx hb d_M_parse_343 rfl (lv_at hl 0 rfl) ?_
            refine lv_aload_n hx hb d_M_parse_344 rfl (lv_at hl 0 rfl) ?_
            refine va_get (D := D) (v := .int (gI q3 23)) hx hb htg in_M hown hK hP 0 mo_0 rfl 53 (by decide) (htg _ k_f_M_99) (fun _ h9 => h9) rfl d_M_parse_345 ?_
            refine va_put (D := D) (ty := .int) hx hb htg in_M t_M t_M_ok n_M hown hK hP (hI _) hS 0 mo_0 rfl 40 (by decide) (htg _ k_f_M_272) (fun _ h9 => h9) rfl (by decide +kernel) rfl rfl (Nat.le_of_ble_eq_true rfl) d_M_parse_348 (fun H locs hP _ hS => ?_)
            replace hP : va_P D classes (mW cI cZ cJ ao aa (sI q3 14 (gI q3 23))) H := pw ms_0_commandMany hP
            refine lv_aload_n hx hb d_M_parse_351 rfl (lv_at hl 0 rfl) ?_
            refine lv_aload_n hx hb d_M_parse_352 rfl (lv_at hl 0 rfl) ?_
            refine va_get (D := D) (v := .int (gI (sI q3 14 (gI q3 23)) 24)) hx hb htg in_M hown hK hP 0 mo_0 rfl 55 (by decide) (htg _ k_f_M_290) (fun _ h9 => h9) rfl d_M_parse_353 ?_
            refine va_put (D := D) (ty := .int) hx hb htg in_M t_M t_M_ok n_M hown hK hP (hI _) hS 0 mo_0 rfl 42 (by decide) (htg _ k_f_M_103) (fun _ h9 => h9) rfl (by decide +kernel) rfl rfl (Nat.le_of_ble_eq_true rfl) d_M_parse_356 (fun H locs hP _ hS => ?_)
            replace hP : va_P D classes (mW cI cZ cJ ao aa (sI (sI q3 14 (gI q3 23)) 15 (gI (sI q3 14 (gI q3 23)) 24))) H := pw ms_0_toWhom hP
            refine lv_iconst (v := 0) hx hb d_M_parse_359 (by decide) ?_
            refine lv_istore (lv' := [(7, .int (0 : Int32)), (0, .ref (ao 0)), (3, .int x3), (4, .int x4)]) hx hb d_M_parse_360 hl (by decide) rfl (fun ls hl => ?_)
            exact w_m_M_parse_b362 X _ _ _ hf H locs ls hP hS (lv_sub hl [1, 0] rfl)
          · have hf := if_t hf c
            refine lv_aload_n hx hb d_M_parse_337 rfl (lv_at hl 0 rfl) ?_
            refine lv_iconst (v := 3) hx hb d_M_parse_338 (by decide) ?_
            obtain ⟨q5, he, hf⟩ := ob_some hf
            refine cl_Vi (As := [.int (3 : Int32)]) (rest := []) X (c_m_M_without he) ok_m_M_without k_m_M_283 (va_recv hK hP rfl mo_0) rfl rfl hl.1 (Nat.le_of_ble_eq_true rfl) d_M_parse_339 ⟨by decide, by decide⟩ hP hS (fun H locs hP hS => ?_)
            obtain rfl := Option.some.inj hf
            exact W.iret hx hb hr0 (fun t ht _ => ⟨⟨rfl, by rw [ht]; exact hP⟩, hS.F ht⟩) hS.2.2 d_M_parse_342 hlk
    · have hf := if_f hf c
      refine lv_aload_n hx hb d_M_parse_308 rfl (lv_at hl 0 rfl) ?_
      refine lv_iconst (v := 4) hx hb d_M_parse_309 (by decide) ?_
      obtain ⟨q6, he, hf⟩ := ob_some hf
      refine cl_Vi (As := [.int (4 : Int32)]) (rest := []) X (c_m_M_without he) ok_m_M_without k_m_M_283 (va_recv hK hP rfl mo_0) rfl rfl hl.1 (Nat.le_of_ble_eq_true rfl) d_M_parse_310 ⟨by decide, by decide⟩ hP hS (fun H locs hP hS => ?_)
      obtain rfl := Option.some.inj hf
      exact W.iret hx hb hr0 (fun t ht _ => ⟨⟨rfl, by rw [ht]; exact hP⟩, hS.F ht⟩) hS.2.2 d_M_parse_313 hlk
  · have hf := if_t hf c
    refine lv_aload_n hx hb d_M_parse_297 rfl (lv_at hl 0 rfl) ?_
    refine lv_iconst (v := 1) hx hb d_M_parse_298 (by decide) ?_
    obtain ⟨q7, he, hf⟩ := ob_some hf
    refine cl_Vi (As := [.int (1 : Int32)]) (rest := []) X (c_m_M_without he) ok_m_M_without k_m_M_283 (va_recv hK hP rfl mo_0) rfl rfl hl.1 (Nat.le_of_ble_eq_true rfl) d_M_parse_299 ⟨by decide, by decide⟩ hP hS (fun H locs hP hS => ?_)
    obtain rfl := Option.some.inj hf
    exact W.iret hx hb hr0 (fun t ht _ => ⟨⟨rfl, by rw [ht]; exact hP⟩, hS.F ht⟩) hS.2.2 d_M_parse_302 hlk
set_option maxHeartbeats 4000000 in
set_option maxRecDepth 100000 in
theorem w_m_M_parse_b243_f {z : Int32 × St} (X : Cx b_M_parse 8 (some .int) R_M D [(cI, .int), (cZ, .boolean), (cJ, .long)] (mA ao aa) (mW cI cZ cJ ao aa) p s m args meth c) {k243 : St → Int32 → Int32 → Int32 → Option (Int32 × St)} (hk243 : ∀ (S : St) (x3 : Int32) (x4 : Int32) (x7 : Int32), k243 S x3 x4 x7 = some z → WX rm_m_M_parse D (mA ao aa) (mW cI cZ cJ ao aa) p l e s m args below meth c (some (.int z.1)) z.2 243 [] 8 [(0, .ref (ao 0)), (3, .int x3), (4, .int x4), (7, .int x7)] S) (S : St) (x3 : Int32) (x4 : Int32) (x7 : Int32) (hf : m_M_parse_b243_f k243 S x3 x4 x7 = some z) : WX rm_m_M_parse D (mA ao aa) (mW cI cZ cJ ao aa) p l e s m args below meth c (some (.int z.1)) z.2 243 [] 8 [(0, .ref (ao 0)), (3, .int x3), (4, .int x4), (7, .int x7)] S := by
  intro H locs ls hP hS hl
  obtain ⟨hx, hb, hr0, hml, hown, htg, hlk, hK, hN, hI⟩ := id X
  unfold m_M_parse_b243_f at hf
  refine lv_iload hx hb d_M_parse_243 (lv_at hl 3 rfl) ?_
  refine lv_iload_n hx hb d_M_parse_245 rfl (lv_at hl 1 rfl) ?_
  refine lv_icmp_ge (tgt := 269) hx hb d_M_parse_246 (by decide) (fun c => ?_) (fun c => ?_)
  · have hf := if_t hf c
    refine lv_aload_n hx hb d_M_parse_269 rfl (lv_at hl 0 rfl) ?_
    refine lv_iload_n hx hb d_M_parse_270 rfl (lv_at hl 1 rfl) ?_
    refine va_put (D := D) (ty := .int) hx hb htg in_M t_M t_M_ok n_M hown hK hP (hI _) hS 0 mo_0 rfl 40 (by decide) (htg _ k_f_M_272) (fun _ h9 => h9) rfl (by decide +kernel) rfl rfl (Nat.le_of_ble_eq_true rfl) d_M_parse_271 (fun H locs hP _ hS => ?_)
    replace hP : va_P D classes (mW cI cZ cJ ao aa (sI S 14 x3)) H := pw ms_0_commandMany hP
    refine lv_aload_n hx hb d_M_parse_274 rfl (lv_at hl 0 rfl) ?_
    refine lv_iload_n hx hb d_M_parse_275 rfl (lv_at hl 1 rfl) ?_
    refine lv_aload_n hx hb d_M_parse_276 rfl (lv_at hl 0 rfl) ?_
    refine va_get (D := D) (v := .int (gI (sI S 14 x3) 5)) hx hb htg in_M hown hK hP 0 mo_0 rfl 19 (by decide) (htg _ k_f_M_157) (fun _ h9 => h9) rfl d_M_parse_277 ?_
    refine lv_icmp_ge (tgt := 289) hx hb d_M_parse_280 (by decide) (fun c => ?_) (fun c => ?_)
    · have hf := if_t hf c
      refine lv_iload_n hx hb d_M_parse_289 rfl (lv_at hl 1 rfl) ?_
      exact w_m_M_parse_b290 X _ _ _ _ hf H locs ls hP hS (lv_sub hl [0, 1, 2] rfl)
    · have hf := if_f hf c
      refine lv_iload_n hx hb d_M_parse_283 rfl (lv_at hl 1 rfl) ?_
      refine lv_iconst (v := 1) hx hb d_M_parse_284 (by decide) ?_
      refine lv_iadd hx hb d_M_parse_285 ?_
      refine lv_goto (tgt := 290) hx hb d_M_parse_286 (by decide) ?_
      exact w_m_M_parse_b290 X _ _ _ _ hf H locs ls hP hS (lv_sub hl [0, 1, 2] rfl)
  · have hf := if_f hf c
    refine lv_aload_n hx hb d_M_parse_249 rfl (lv_at hl 0 rfl) ?_
    refine va_get (D := D) (v := .ref (aa 24)) hx hb htg in_M hown hK hP 0 mo_0 rfl 41 (by decide) (htg _ k_f_M_84) (fun _ h9 => h9) rfl d_M_parse_250 ?_
    refine lv_iload hx hb d_M_parse_253 (lv_at hl 3 rfl) ?_
    refine lv_aload_n hx hb d_M_parse_255 rfl (lv_at hl 0 rfl) ?_
    refine va_get (D := D) (v := .ref (aa 14)) hx hb htg in_M hown hK hP 0 mo_0 rfl 20 (by decide) (htg _ k_f_M_53) (fun _ h9 => h9) rfl d_M_parse_256 ?_
    refine lv_iload hx hb d_M_parse_259 (lv_at hl 3 rfl) ?_
    obtain ⟨hg, hf⟩ := gd_some hf
    refine va_iald hx hb hK hP 15 0 ma_14 rfl (vin_in hg) d_M_parse_261 ?_
    obtain ⟨hg, hf⟩ := gd_some hf
    refine va_iast hx hb hK hP (hI _) hS 25 0 ma_24 rfl (vin_in hg) d_M_parse_262 (fun H locs hP _ hS => ?_)
    replace hP : va_P D classes (mW cI cZ cJ ao aa (sA S 24 x7.toNatClampNeg (gA S 14 x7.toNatClampNeg))) H := pw mt_24 hP
    refine lv_iinc (v := (x7 + 1)) (lv' := [(7, .int (x7 + 1)), (0, .ref (ao 0)), (3, .int x3), (4, .int x4)]) hx hb d_M_parse_263 hl (k := 3) rfl rfl (by decide) rfl (fun ls hl => ?_)
    refine lv_goto (tgt := 243) hx hb d_M_parse_266 (by decide) ?_
    exact hk243 _ _ _ _ hf H locs ls hP hS (lv_sub hl [1, 2, 3, 0] rfl)
theorem w_m_M_parse_b243 {z : Int32 × St} (X : Cx b_M_parse 8 (some .int) R_M D [(cI, .int), (cZ, .boolean), (cJ, .long)] (mA ao aa) (mW cI cZ cJ ao aa) p s m args meth c) : ∀ (n : Nat) (S : St) (x3 : Int32) (x4 : Int32) (x7 : Int32), m_M_parse_b243 n S x3 x4 x7 = some z → WX rm_m_M_parse D (mA ao aa) (mW cI cZ cJ ao aa) p l e s m args below meth c (some (.int z.1)) z.2 243 [] 8 [(0, .ref (ao 0)), (3, .int x3), (4, .int x4), (7, .int x7)] S
  | 0, _, _, _, _, hf => ns hf
  | n + 1, _, _, _, _, hf => w_m_M_parse_b243_f X (w_m_M_parse_b243 X n) _ _ _ _ hf
set_option maxHeartbeats 4000000 in
set_option maxRecDepth 100000 in
theorem w_m_M_parse_b240 {z : Int32 × St} (X : Cx b_M_parse 8 (some .int) R_M D [(cI, .int), (cZ, .boolean), (cJ, .long)] (mA ao aa) (mW cI cZ cJ ao aa) p s m args meth c) (S : St) (x3 : Int32) (x4 : Int32) (hf : m_M_parse_b240 S x3 x4 = some z) : WX rm_m_M_parse D (mA ao aa) (mW cI cZ cJ ao aa) p l e s m args below meth c (some (.int z.1)) z.2 240 [] 8 [(0, .ref (ao 0)), (3, .int x3), (4, .int x4)] S := by
  intro H locs ls hP hS hl
  obtain ⟨hx, hb, hr0, hml, hown, htg, hlk, hK, hN, hI⟩ := id X
  unfold m_M_parse_b240 at hf
  refine lv_iconst (v := 0) hx hb d_M_parse_240 (by decide) ?_
  refine lv_istore (lv' := [(7, .int (0 : Int32)), (0, .ref (ao 0)), (3, .int x3), (4, .int x4)]) hx hb d_M_parse_241 hl (by decide) rfl (fun ls hl => ?_)
  exact w_m_M_parse_b243 X _ _ _ _ _ hf H locs ls hP hS (lv_sub hl [1, 2, 3, 0] rfl)
set_option maxHeartbeats 4000000 in
set_option maxRecDepth 100000 in
theorem w_m_M_parse_b216 {z : Int32 × St} (X : Cx b_M_parse 8 (some .int) R_M D [(cI, .int), (cZ, .boolean), (cJ, .long)] (mA ao aa) (mW cI cZ cJ ao aa) p s m args meth c) (S : St) (x2 : Int32) (x5 : Int32) (s0 : Int32) (hf : m_M_parse_b216 S x2 x5 s0 = some z) : WX rm_m_M_parse D (mA ao aa) (mW cI cZ cJ ao aa) p l e s m args below meth c (some (.int z.1)) z.2 216 [.int s0, .ref (ao 0)] 8 [(0, .ref (ao 0)), (2, .int x2), (5, .int x5)] S := by
  intro H locs ls hP hS hl
  obtain ⟨hx, hb, hr0, hml, hown, htg, hlk, hK, hN, hI⟩ := id X
  unfold m_M_parse_b216 at hf
  obtain ⟨q8, he, hf⟩ := ob_some hf
  refine cl_Vv (As := [.int s0]) (rest := []) X (c_m_M_off he) ok_m_M_off k_m_M_299 (va_recv hK hP rfl mo_0) rfl rfl hl.1 (Nat.le_of_ble_eq_true rfl) d_M_parse_216 ⟨by decide, by decide⟩ hP hS (fun H locs hP hS => ?_)
  refine lv_aload_n hx hb d_M_parse_219 rfl (lv_at hl 0 rfl) ?_
  refine va_get (D := D) (v := .ref (aa 24)) hx hb htg in_M hown hK hP 0 mo_0 rfl 41 (by decide) (htg _ k_f_M_84) (fun _ h9 => h9) rfl d_M_parse_220 ?_
  refine lv_aload_n hx hb d_M_parse_223 rfl (lv_at hl 0 rfl) ?_
  refine va_get (D := D) (v := .int (gI q8 19)) hx hb htg in_M hown hK hP 0 mo_0 rfl 49 (by decide) (htg _ k_f_M_106) (fun _ h9 => h9) rfl d_M_parse_224 ?_
  refine lv_iload hx hb d_M_parse_227 (lv_at hl 2 rfl) ?_
  obtain ⟨hg, hf⟩ := gd_some hf
  refine va_iast hx hb hK hP (hI _) hS 25 0 ma_24 rfl (vin_in hg) d_M_parse_229 (fun H locs hP _ hS => ?_)
  replace hP : va_P D classes (mW cI cZ cJ ao aa (sA q8 24 (gI q8 19).toNatClampNeg x5)) H := pw mt_24 hP
  refine lv_aload_n hx hb d_M_parse_230 rfl (lv_at hl 0 rfl) ?_
  refine lv_iload_n hx hb d_M_parse_231 rfl (lv_at hl 1 rfl) ?_
  refine va_put (D := D) (ty := .int) hx hb htg in_M t_M t_M_ok n_M hown hK hP (hI _) hS 0 mo_0 rfl 42 (by decide) (htg _ k_f_M_103) (fun _ h9 => h9) rfl (by decide +kernel) rfl rfl (Nat.le_of_ble_eq_true rfl) d_M_parse_232 (fun H locs hP _ hS => ?_)
  replace hP : va_P D classes (mW cI cZ cJ ao aa (sI (sA q8 24 (gI q8 19).toNatClampNeg x5) 15 x2)) H := pw ms_0_toWhom hP
  refine lv_aload_n hx hb d_M_parse_235 rfl (lv_at hl 0 rfl) ?_
  obtain ⟨q9, he, hf⟩ := ob_some hf
  refine cl_Vi (As := []) (rest := []) X (c_m_M_isTried he) ok_m_M_isTried k_m_M_308 (va_recv hK hP rfl mo_0) rfl rfl hl.1 (Nat.le_of_ble_eq_true rfl) d_M_parse_236 ⟨by decide, by decide⟩ hP hS (fun H locs hP hS => ?_)
  obtain rfl := Option.some.inj hf
  exact W.iret hx hb hr0 (fun t ht _ => ⟨⟨rfl, by rw [ht]; exact hP⟩, hS.F ht⟩) hS.2.2 d_M_parse_239 hlk
set_option maxHeartbeats 4000000 in
set_option maxRecDepth 100000 in
theorem w_m_M_parse_b184 {z : Int32 × St} (X : Cx b_M_parse 8 (some .int) R_M D [(cI, .int), (cZ, .boolean), (cJ, .long)] (mA ao aa) (mW cI cZ cJ ao aa) p s m args meth c) (S : St) (x2 : Int32) (x3 : Int32) (x4 : Int32) (x5 : Int32) (s0 : Int32) (hf : m_M_parse_b184 S x2 x3 x4 x5 s0 = some z) : WX rm_m_M_parse D (mA ao aa) (mW cI cZ cJ ao aa) p l e s m args below meth c (some (.int z.1)) z.2 184 [.int s0] 8 [(0, .ref (ao 0)), (2, .int x2), (3, .int x3), (4, .int x4), (5, .int x5)] S := by
  intro H locs ls hP hS hl
  obtain ⟨hx, hb, hr0, hml, hown, htg, hlk, hK, hN, hI⟩ := id X
  unfold m_M_parse_b184 at hf
  refine lv_istore (lv' := [(6, .int s0), (0, .ref (ao 0)), (2, .int x2), (3, .int x3), (4, .int x4), (5, .int x5)]) hx hb d_M_parse_184 hl (by decide) rfl (fun ls hl => ?_)
  refine lv_aload_n hx hb d_M_parse_186 rfl (lv_at hl 1 rfl) ?_
  obtain ⟨q2, he, hf⟩ := ob_some hf
  refine cl_Vv (As := []) (rest := []) X (c_m_M_begins he) ok_m_M_begins k_m_M_305 (va_recv hK hP rfl mo_0) rfl rfl hl.1 (Nat.le_of_ble_eq_true rfl) d_M_parse_187 ⟨by decide, by decide⟩ hP hS (fun H locs hP hS => ?_)
  refine lv_iload hx hb d_M_parse_190 (lv_at hl 4 rfl) ?_
  refine lv_if_eq (tgt := 240) hx hb d_M_parse_192 (by decide) (fun c => ?_) (fun c => ?_)
  · have hf := if_t hf c
    exact w_m_M_parse_b240 X _ _ _ hf H locs ls hP hS (lv_sub hl [1, 3, 4] rfl)
  · have hf := if_f hf c
    refine lv_iload hx hb d_M_parse_195 (lv_at hl 0 rfl) ?_
    refine lv_if_eq (tgt := 240) hx hb d_M_parse_197 (by decide) (fun c => ?_) (fun c => ?_)
    · have hf := if_t hf c
      exact w_m_M_parse_b240 X _ _ _ hf H locs ls hP hS (lv_sub hl [1, 3, 4] rfl)
    · have hf := if_f hf c
      refine lv_aload_n hx hb d_M_parse_200 rfl (lv_at hl 1 rfl) ?_
      refine lv_iload_n hx hb d_M_parse_201 rfl (lv_at hl 3 rfl) ?_
      refine lv_aload_n hx hb d_M_parse_202 rfl (lv_at hl 1 rfl) ?_
      refine va_get (D := D) (v := .int (gI q2 5)) hx hb htg in_M hown hK hP 0 mo_0 rfl 19 (by decide) (htg _ k_f_M_157) (fun _ h9 => h9) rfl d_M_parse_203 ?_
      refine lv_icmp_ge (tgt := 215) hx hb d_M_parse_206 (by decide) (fun c => ?_) (fun c => ?_)
      · have hf := if_t hf c
        refine lv_iload_n hx hb d_M_parse_215 rfl (lv_at hl 3 rfl) ?_
        exact w_m_M_parse_b216 X _ _ _ _ hf H locs ls hP hS (lv_sub hl [1, 2, 5] rfl)
      · have hf := if_f hf c
        refine lv_iload_n hx hb d_M_parse_209 rfl (lv_at hl 3 rfl) ?_
        refine lv_iconst (v := 1) hx hb d_M_parse_210 (by decide) ?_
        refine lv_iadd hx hb d_M_parse_211 ?_
        refine lv_goto (tgt := 216) hx hb d_M_parse_212 (by decide) ?_
        exact w_m_M_parse_b216 X _ _ _ _ hf H locs ls hP hS (lv_sub hl [1, 2, 5] rfl)
set_option maxHeartbeats 4000000 in
set_option maxRecDepth 100000 in
theorem w_m_M_parse_b183 {z : Int32 × St} (X : Cx b_M_parse 8 (some .int) R_M D [(cI, .int), (cZ, .boolean), (cJ, .long)] (mA ao aa) (mW cI cZ cJ ao aa) p s m args meth c) (S : St) (x2 : Int32) (x3 : Int32) (x4 : Int32) (x5 : Int32) (hf : m_M_parse_b183 S x2 x3 x4 x5 = some z) : WX rm_m_M_parse D (mA ao aa) (mW cI cZ cJ ao aa) p l e s m args below meth c (some (.int z.1)) z.2 183 [] 8 [(0, .ref (ao 0)), (2, .int x2), (3, .int x3), (4, .int x4), (5, .int x5)] S := by
  intro H locs ls hP hS hl
  obtain ⟨hx, hb, hr0, hml, hown, htg, hlk, hK, hN, hI⟩ := id X
  unfold m_M_parse_b183 at hf
  refine lv_iconst (v := 0) hx hb d_M_parse_183 (by decide) ?_
  exact w_m_M_parse_b184 X _ _ _ _ _ _ hf H locs ls hP hS (lv_sub hl [0, 1, 2, 3, 4] rfl)
set_option maxHeartbeats 4000000 in
set_option maxRecDepth 100000 in
theorem w_m_M_parse_b125 {z : Int32 × St} (X : Cx b_M_parse 8 (some .int) R_M D [(cI, .int), (cZ, .boolean), (cJ, .long)] (mA ao aa) (mW cI cZ cJ ao aa) p s m args meth c) (S : St) (x1 : Int32) (x2 : Int32) (x3 : Int32) (x4 : Int32) (s0 : Int32) (hf : m_M_parse_b125 S x1 x2 x3 x4 s0 = some z) : WX rm_m_M_parse D (mA ao aa) (mW cI cZ cJ ao aa) p l e s m args below meth c (some (.int z.1)) z.2 125 [.int s0] 8 [(0, .ref (ao 0)), (1, .int x1), (2, .int x2), (3, .int x3), (4, .int x4)] S := by
  intro H locs ls hP hS hl
  obtain ⟨hx, hb, hr0, hml, hown, htg, hlk, hK, hN, hI⟩ := id X
  unfold m_M_parse_b125 at hf
  refine lv_istore (lv' := [(5, .int s0), (0, .ref (ao 0)), (1, .int x1), (2, .int x2), (3, .int x3), (4, .int x4)]) hx hb d_M_parse_125 hl (by decide) rfl (fun ls hl => ?_)
  refine lv_iload_n hx hb d_M_parse_127 rfl (lv_at hl 2 rfl) ?_
  refine lv_if_eq (tgt := 183) hx hb d_M_parse_128 (by decide) (fun c => ?_) (fun c => ?_)
  · have hf := if_t hf c
    exact w_m_M_parse_b183 X _ _ _ _ _ hf H locs ls hP hS (lv_sub hl [1, 3, 4, 5, 0] rfl)
  · have hf := if_f hf c
    refine lv_aload_n hx hb d_M_parse_131 rfl (lv_at hl 1 rfl) ?_
    refine va_get (D := D) (v := .int (gI S 18)) hx hb htg in_M hown hK hP 0 mo_0 rfl 48 (by decide) (htg _ k_f_M_269) (fun _ h9 => h9) rfl d_M_parse_132 ?_
    refine lv_if_eq (tgt := 183) hx hb d_M_parse_135 (by decide) (fun c => ?_) (fun c => ?_)
    · have hf := if_t hf c
      exact w_m_M_parse_b183 X _ _ _ _ _ hf H locs ls hP hS (lv_sub hl [1, 3, 4, 5, 0] rfl)
    · have hf := if_f hf c
      refine lv_aload_n hx hb d_M_parse_138 rfl (lv_at hl 1 rfl) ?_
      refine va_get (D := D) (v := .int (gI S 18)) hx hb htg in_M hown hK hP 0 mo_0 rfl 48 (by decide) (htg _ k_f_M_269) (fun _ h9 => h9) rfl d_M_parse_139 ?_
      refine lv_iconst (v := 1) hx hb d_M_parse_142 (by decide) ?_
      refine lv_icmp_eq (tgt := 183) hx hb d_M_parse_143 (by decide) (fun c => ?_) (fun c => ?_)
      · have hf := if_t hf c
        exact w_m_M_parse_b183 X _ _ _ _ _ hf H locs ls hP hS (lv_sub hl [1, 3, 4, 5, 0] rfl)
      · have hf := if_f hf c
        refine lv_aload_n hx hb d_M_parse_146 rfl (lv_at hl 1 rfl) ?_
        refine va_get (D := D) (v := .int (gI S 18)) hx hb htg in_M hown hK hP 0 mo_0 rfl 48 (by decide) (htg _ k_f_M_269) (fun _ h9 => h9) rfl d_M_parse_147 ?_
        refine lv_iconst (v := 3) hx hb d_M_parse_150 (by decide) ?_
        refine lv_icmp_eq (tgt := 183) hx hb d_M_parse_151 (by decide) (fun c => ?_) (fun c => ?_)
        · have hf := if_t hf c
          exact w_m_M_parse_b183 X _ _ _ _ _ hf H locs ls hP hS (lv_sub hl [1, 3, 4, 5, 0] rfl)
        · have hf := if_f hf c
          refine lv_aload_n hx hb d_M_parse_154 rfl (lv_at hl 1 rfl) ?_
          refine va_get (D := D) (v := .int (gI S 18)) hx hb htg in_M hown hK hP 0 mo_0 rfl 48 (by decide) (htg _ k_f_M_269) (fun _ h9 => h9) rfl d_M_parse_155 ?_
          refine lv_iconst (v := 4) hx hb d_M_parse_158 (by decide) ?_
          refine lv_icmp_eq (tgt := 183) hx hb d_M_parse_159 (by decide) (fun c => ?_) (fun c => ?_)
          · have hf := if_t hf c
            exact w_m_M_parse_b183 X _ _ _ _ _ hf H locs ls hP hS (lv_sub hl [1, 3, 4, 5, 0] rfl)
          · have hf := if_f hf c
            refine lv_aload_n hx hb d_M_parse_162 rfl (lv_at hl 1 rfl) ?_
            refine va_get (D := D) (v := .int (gI S 19)) hx hb htg in_M hown hK hP 0 mo_0 rfl 49 (by decide) (htg _ k_f_M_106) (fun _ h9 => h9) rfl d_M_parse_163 ?_
            refine lv_iconst (v := 0) hx hb d_M_parse_166 (by decide) ?_
            refine lv_aload_n hx hb d_M_parse_167 rfl (lv_at hl 1 rfl) ?_
            refine va_get (D := D) (v := .int (gI S 14)) hx hb htg in_M hown hK hP 0 mo_0 rfl 40 (by decide) (htg _ k_f_M_272) (fun _ h9 => h9) rfl d_M_parse_168 ?_
            refine lv_iconst (v := 1) hx hb d_M_parse_171 (by decide) ?_
            refine lv_isub hx hb d_M_parse_172 ?_
            obtain ⟨q10, he, hf⟩ := ob_some hf
            refine cl_Si (As := [.int (gI S 19), .int (0 : Int32), .int ((gI S 14) - (1 : Int32))]) (rest := []) X (c_m_M_within he) ok_m_M_within k_m_M_112 rfl rfl hl.1 (Nat.le_of_ble_eq_true rfl) d_M_parse_173 ⟨by decide, by decide⟩ hP hS (fun H locs hP hS => ?_)
            refine lv_if_eq (tgt := 183) hx hb d_M_parse_176 (by decide) (fun c => ?_) (fun c => ?_)
            · have hf := if_t hf c
              exact w_m_M_parse_b183 X _ _ _ _ _ hf H locs ls hP hS (lv_sub hl [1, 3, 4, 5, 0] rfl)
            · have hf := if_f hf c
              refine lv_iconst (v := 1) hx hb d_M_parse_179 (by decide) ?_
              refine lv_goto (tgt := 184) hx hb d_M_parse_180 (by decide) ?_
              exact w_m_M_parse_b184 X _ _ _ _ _ _ hf H locs ls hP hS (lv_sub hl [1, 3, 4, 5, 0] rfl)
set_option maxHeartbeats 4000000 in
set_option maxRecDepth 100000 in
theorem w_m_M_parse_b108 {z : Int32 × St} (X : Cx b_M_parse 8 (some .int) R_M D [(cI, .int), (cZ, .boolean), (cJ, .long)] (mA ao aa) (mW cI cZ cJ ao aa) p s m args meth c) (S : St) (x1 : Int32) (x2 : Int32) (x3 : Int32) (s0 : Int32) (hf : m_M_parse_b108 S x1 x2 x3 s0 = some z) : WX rm_m_M_parse D (mA ao aa) (mW cI cZ cJ ao aa) p l e s m args below meth c (some (.int z.1)) z.2 108 [.int s0] 8 [(0, .ref (ao 0)), (1, .int x1), (2, .int x2), (3, .int x3)] S := by
  intro H locs ls hP hS hl
  obtain ⟨hx, hb, hr0, hml, hown, htg, hlk, hK, hN, hI⟩ := id X
  unfold m_M_parse_b108 at hf
  refine lv_istore (lv' := [(4, .int s0), (0, .ref (ao 0)), (1, .int x1), (2, .int x2), (3, .int x3)]) hx hb d_M_parse_108 hl (by decide) rfl (fun ls hl => ?_)
  refine lv_iload hx hb d_M_parse_110 (lv_at hl 0 rfl) ?_
  refine lv_if_eq (tgt := 124) hx hb d_M_parse_112 (by decide) (fun c => ?_) (fun c => ?_)
  · have hf := if_t hf c
    refine lv_iconst (v := 0) hx hb d_M_parse_124 (by decide) ?_
    exact w_m_M_parse_b125 X _ _ _ _ _ _ hf H locs ls hP hS (lv_sub hl [1, 2, 3, 4, 0] rfl)
  · have hf := if_f hf c
    refine lv_aload_n hx hb d_M_parse_115 rfl (lv_at hl 1 rfl) ?_
    refine va_get (D := D) (v := .ref (aa 14)) hx hb htg in_M hown hK hP 0 mo_0 rfl 20 (by decide) (htg _ k_f_M_53) (fun _ h9 => h9) rfl d_M_parse_116 ?_
    refine lv_iconst (v := 1) hx hb d_M_parse_119 (by decide) ?_
    obtain ⟨hg, hf⟩ := gd_some hf
    refine va_iald hx hb hK hP 15 0 ma_14 rfl (vin_in hg) d_M_parse_120 ?_
    refine lv_goto (tgt := 125) hx hb d_M_parse_121 (by decide) ?_
    exact w_m_M_parse_b125 X _ _ _ _ _ _ hf H locs ls hP hS (lv_sub hl [1, 2, 3, 4, 0] rfl)
set_option maxHeartbeats 4000000 in
set_option maxRecDepth 100000 in
theorem w_m_M_parse_b107 {z : Int32 × St} (X : Cx b_M_parse 8 (some .int) R_M D [(cI, .int), (cZ, .boolean), (cJ, .long)] (mA ao aa) (mW cI cZ cJ ao aa) p s m args meth c) (S : St) (x1 : Int32) (x2 : Int32) (x3 : Int32) (hf : m_M_parse_b107 S x1 x2 x3 = some z) : WX rm_m_M_parse D (mA ao aa) (mW cI cZ cJ ao aa) p l e s m args below meth c (some (.int z.1)) z.2 107 [] 8 [(0, .ref (ao 0)), (1, .int x1), (2, .int x2), (3, .int x3)] S := by
  intro H locs ls hP hS hl
  obtain ⟨hx, hb, hr0, hml, hown, htg, hlk, hK, hN, hI⟩ := id X
  unfold m_M_parse_b107 at hf
  refine lv_iconst (v := 0) hx hb d_M_parse_107 (by decide) ?_
  exact w_m_M_parse_b108 X _ _ _ _ _ hf H locs ls hP hS (lv_sub hl [0, 1, 2, 3] rfl)
set_option maxHeartbeats 4000000 in
set_option maxRecDepth 100000 in
theorem w_m_M_parse_b87 {z : Int32 × St} (X : Cx b_M_parse 8 (some .int) R_M D [(cI, .int), (cZ, .boolean), (cJ, .long)] (mA ao aa) (mW cI cZ cJ ao aa) p s m args meth c) (S : St) (x1 : Int32) (x2 : Int32) (x3 : Int32) (hf : m_M_parse_b87 S x1 x2 x3 = some z) : WX rm_m_M_parse D (mA ao aa) (mW cI cZ cJ ao aa) p l e s m args below meth c (some (.int z.1)) z.2 87 [] 8 [(0, .ref (ao 0)), (1, .int x1), (2, .int x2), (3, .int x3)] S := by
  intro H locs ls hP hS hl
  obtain ⟨hx, hb, hr0, hml, hown, htg, hlk, hK, hN, hI⟩ := id X
  unfold m_M_parse_b87 at hf
  refine lv_iload_n hx hb d_M_parse_87 rfl (lv_at hl 3 rfl) ?_
  refine lv_iconst (v := 2) hx hb d_M_parse_88 (by decide) ?_
  refine lv_icmp_ne (tgt := 107) hx hb d_M_parse_89 (by decide) (fun c => ?_) (fun c => ?_)
  · have hf := if_f hf c
    exact w_m_M_parse_b107 X _ _ _ _ hf H locs ls hP hS (lv_sub hl [0, 1, 2, 3] rfl)
  · have hf := if_t hf c
    refine lv_aload_n hx hb d_M_parse_92 rfl (lv_at hl 0 rfl) ?_
    refine va_get (D := D) (v := .ref (aa 14)) hx hb htg in_M hown hK hP 0 mo_0 rfl 20 (by decide) (htg _ k_f_M_53) (fun _ h9 => h9) rfl d_M_parse_93 ?_
    refine lv_iconst (v := 0) hx hb d_M_parse_96 (by decide) ?_
    obtain ⟨hg, hf⟩ := gd_some hf
    refine va_iald hx hb hK hP 15 0 ma_14 rfl (vin_in hg) d_M_parse_97 ?_
    refine lv_bipush (v := 6) hx hb d_M_parse_98 (by decide) ?_
    refine lv_icmp_ne (tgt := 107) hx hb d_M_parse_100 (by decide) (fun c => ?_) (fun c => ?_)
    · have hf := if_f hf c
      exact w_m_M_parse_b107 X _ _ _ _ hf H locs ls hP hS (lv_sub hl [0, 1, 2, 3] rfl)
    · have hf := if_t hf c
      refine lv_iconst (v := 1) hx hb d_M_parse_103 (by decide) ?_
      refine lv_goto (tgt := 108) hx hb d_M_parse_104 (by decide) ?_
      exact w_m_M_parse_b108 X _ _ _ _ _ hf H locs ls hP hS (lv_sub hl [0, 1, 2, 3] rfl)
set_option maxHeartbeats 4000000 in
set_option maxRecDepth 100000 in
theorem w_m_M_parse_b81 {z : Int32 × St} (X : Cx b_M_parse 8 (some .int) R_M D [(cI, .int), (cZ, .boolean), (cJ, .long)] (mA ao aa) (mW cI cZ cJ ao aa) p s m args meth c) {k16 : St → Int32 → Int32 → Int32 → Option (Int32 × St)} (hk16 : ∀ (S : St) (x1 : Int32) (x2 : Int32) (x3 : Int32), k16 S x1 x2 x3 = some z → WX rm_m_M_parse D (mA ao aa) (mW cI cZ cJ ao aa) p l e s m args below meth c (some (.int z.1)) z.2 16 [] 8 [(0, .ref (ao 0)), (1, .int x1), (2, .int x2), (3, .int x3)] S) (S : St) (x1 : Int32) (x2 : Int32) (x3 : Int32) (hf : m_M_parse_b81 k16 S x1 x2 x3 = some z) : WX rm_m_M_parse D (mA ao aa) (mW cI cZ cJ ao aa) p l e s m args below meth c (some (.int z.1)) z.2 81 [] 8 [(0, .ref (ao 0)), (1, .int x1), (2, .int x2), (3, .int x3)] S := by
  intro H locs ls hP hS hl
  obtain ⟨hx, hb, hr0, hml, hown, htg, hlk, hK, hN, hI⟩ := id X
  unfold m_M_parse_b81 at hf
  refine lv_iinc (v := (x3 + 1)) (lv' := [(3, .int (x3 + 1)), (0, .ref (ao 0)), (1, .int x1), (2, .int x2)]) hx hb d_M_parse_81 hl (k := 3) rfl rfl (by decide) rfl (fun ls hl => ?_)
  refine lv_goto (tgt := 16) hx hb d_M_parse_84 (by decide) ?_
  exact hk16 _ _ _ _ hf H locs ls hP hS (lv_sub hl [1, 2, 3, 0] rfl)
set_option maxHeartbeats 4000000 in
set_option maxRecDepth 100000 in
theorem w_m_M_parse_b55 {z : Int32 × St} (X : Cx b_M_parse 8 (some .int) R_M D [(cI, .int), (cZ, .boolean), (cJ, .long)] (mA ao aa) (mW cI cZ cJ ao aa) p s m args meth c) {k16 : St → Int32 → Int32 → Int32 → Option (Int32 × St)} (hk16 : ∀ (S : St) (x1 : Int32) (x2 : Int32) (x3 : Int32), k16 S x1 x2 x3 = some z → WX rm_m_M_parse D (mA ao aa) (mW cI cZ cJ ao aa) p l e s m args below meth c (some (.int z.1)) z.2 16 [] 8 [(0, .ref (ao 0)), (1, .int x1), (2, .int x2), (3, .int x3)] S) (S : St) (x1 : Int32) (x2 : Int32) (x3 : Int32) (hf : m_M_parse_b55 k16 S x1 x2 x3 = some z) : WX rm_m_M_parse D (mA ao aa) (mW cI cZ cJ ao aa) p l e s m args below meth c (some (.int z.1)) z.2 55 [] 8 [(0, .ref (ao 0)), (1, .int x1), (2, .int x2), (3, .int x3)] S := by
  intro H locs ls hP hS hl
  obtain ⟨hx, hb, hr0, hml, hown, htg, hlk, hK, hN, hI⟩ := id X
  unfold m_M_parse_b55 at hf
  refine lv_iload_n hx hb d_M_parse_55 rfl (lv_at hl 3 rfl) ?_
  refine lv_iconst (v := 1) hx hb d_M_parse_56 (by decide) ?_
  refine lv_iadd hx hb d_M_parse_57 ?_
  refine lv_aload_n hx hb d_M_parse_58 rfl (lv_at hl 0 rfl) ?_
  refine va_get (D := D) (v := .int (gI S 5)) hx hb htg in_M hown hK hP 0 mo_0 rfl 19 (by decide) (htg _ k_f_M_157) (fun _ h9 => h9) rfl d_M_parse_59 ?_
  refine lv_icmp_ge (tgt := 81) hx hb d_M_parse_62 (by decide) (fun c => ?_) (fun c => ?_)
  · have hf := if_t hf c
    exact w_m_M_parse_b81 X hk16 _ _ _ _ hf H locs ls hP hS (lv_sub hl [0, 1, 2, 3] rfl)
  · have hf := if_f hf c
    refine lv_aload_n hx hb d_M_parse_65 rfl (lv_at hl 0 rfl) ?_
    refine lv_aload_n hx hb d_M_parse_66 rfl (lv_at hl 0 rfl) ?_
    refine va_get (D := D) (v := .ref (aa 14)) hx hb htg in_M hown hK hP 0 mo_0 rfl 20 (by decide) (htg _ k_f_M_53) (fun _ h9 => h9) rfl d_M_parse_67 ?_
    refine lv_iload_n hx hb d_M_parse_70 rfl (lv_at hl 3 rfl) ?_
    refine lv_iconst (v := 1) hx hb d_M_parse_71 (by decide) ?_
    refine lv_iadd hx hb d_M_parse_72 ?_
    obtain ⟨hg, hf⟩ := gd_some hf
    refine va_iald hx hb hK hP 15 0 ma_14 rfl (vin_in hg) d_M_parse_73 ?_
    obtain ⟨q11, he, hf⟩ := ob_some hf
    refine cl_Vi (As := [.int (gA S 14 (x3 + (1 : Int32)).toNatClampNeg)]) (rest := []) X (c_m_M_verbBy he) ok_m_M_verbBy k_m_M_123 (va_recv hK hP rfl mo_0) rfl rfl hl.1 (Nat.le_of_ble_eq_true rfl) d_M_parse_74 ⟨by decide, by decide⟩ hP hS (fun H locs hP hS => ?_)
    refine lv_iconst (v := (-1)) hx hb d_M_parse_77 (by decide) ?_
    refine lv_icmp_ne (tgt := 87) hx hb d_M_parse_78 (by decide) (fun c => ?_) (fun c => ?_)
    · have hf := if_f hf c
      exact w_m_M_parse_b87 X _ _ _ _ hf H locs ls hP hS (lv_sub hl [0, 1, 2, 3] rfl)
    · have hf := if_t hf c
      exact w_m_M_parse_b81 X hk16 _ _ _ _ hf H locs ls hP hS (lv_sub hl [0, 1, 2, 3] rfl)
set_option maxHeartbeats 4000000 in
set_option maxRecDepth 100000 in
theorem w_m_M_parse_b16_f {z : Int32 × St} (X : Cx b_M_parse 8 (some .int) R_M D [(cI, .int), (cZ, .boolean), (cJ, .long)] (mA ao aa) (mW cI cZ cJ ao aa) p s m args meth c) {k16 : St → Int32 → Int32 → Int32 → Option (Int32 × St)} (hk16 : ∀ (S : St) (x1 : Int32) (x2 : Int32) (x3 : Int32), k16 S x1 x2 x3 = some z → WX rm_m_M_parse D (mA ao aa) (mW cI cZ cJ ao aa) p l e s m args below meth c (some (.int z.1)) z.2 16 [] 8 [(0, .ref (ao 0)), (1, .int x1), (2, .int x2), (3, .int x3)] S) (S : St) (x1 : Int32) (x2 : Int32) (x3 : Int32) (hf : m_M_parse_b16_f k16 S x1 x2 x3 = some z) : WX rm_m_M_parse D (mA ao aa) (mW cI cZ cJ ao aa) p l e s m args below meth c (some (.int z.1)) z.2 16 [] 8 [(0, .ref (ao 0)), (1, .int x1), (2, .int x2), (3, .int x3)] S := by
  intro H locs ls hP hS hl
  obtain ⟨hx, hb, hr0, hml, hown, htg, hlk, hK, hN, hI⟩ := id X
  unfold m_M_parse_b16_f at hf
  refine lv_iload_n hx hb d_M_parse_16 rfl (lv_at hl 3 rfl) ?_
  refine lv_aload_n hx hb d_M_parse_17 rfl (lv_at hl 0 rfl) ?_
  refine va_get (D := D) (v := .int (gI S 5)) hx hb htg in_M hown hK hP 0 mo_0 rfl 19 (by decide) (htg _ k_f_M_157) (fun _ h9 => h9) rfl d_M_parse_18 ?_
  refine lv_icmp_ge (tgt := 87) hx hb d_M_parse_21 (by decide) (fun c => ?_) (fun c => ?_)
  · have hf := if_t hf c
    exact w_m_M_parse_b87 X _ _ _ _ hf H locs ls hP hS (lv_sub hl [0, 1, 2, 3] rfl)
  · have hf := if_f hf c
    refine lv_aload_n hx hb d_M_parse_24 rfl (lv_at hl 0 rfl) ?_
    refine va_get (D := D) (v := .ref (aa 14)) hx hb htg in_M hown hK hP 0 mo_0 rfl 20 (by decide) (htg _ k_f_M_53) (fun _ h9 => h9) rfl d_M_parse_25 ?_
    refine lv_iload_n hx hb d_M_parse_28 rfl (lv_at hl 3 rfl) ?_
    obtain ⟨hg, hf⟩ := gd_some hf
    refine va_iald hx hb hK hP 15 0 ma_14 rfl (vin_in hg) d_M_parse_29 ?_
    refine lv_iconst (v := 2) hx hb d_M_parse_30 (by decide) ?_
    refine lv_icmp_eq (tgt := 87) hx hb d_M_parse_31 (by decide) (fun c => ?_) (fun c => ?_)
    · have hf := if_t hf c
      exact w_m_M_parse_b87 X _ _ _ _ hf H locs ls hP hS (lv_sub hl [0, 1, 2, 3] rfl)
    · have hf := if_f hf c
      refine lv_aload_n hx hb d_M_parse_34 rfl (lv_at hl 0 rfl) ?_
      refine va_get (D := D) (v := .ref (aa 14)) hx hb htg in_M hown hK hP 0 mo_0 rfl 20 (by decide) (htg _ k_f_M_53) (fun _ h9 => h9) rfl d_M_parse_35 ?_
      refine lv_iload_n hx hb d_M_parse_38 rfl (lv_at hl 3 rfl) ?_
      obtain ⟨hg, hf⟩ := gd_some hf
      refine va_iald hx hb hK hP 15 0 ma_14 rfl (vin_in hg) d_M_parse_39 ?_
      refine lv_iconst (v := 1) hx hb d_M_parse_40 (by decide) ?_
      refine lv_icmp_eq (tgt := 55) hx hb d_M_parse_41 (by decide) (fun c => ?_) (fun c => ?_)
      · have hf := if_t hf c
        exact w_m_M_parse_b55 X hk16 _ _ _ _ hf H locs ls hP hS (lv_sub hl [0, 1, 2, 3] rfl)
      · have hf := if_f hf c
        refine lv_aload_n hx hb d_M_parse_44 rfl (lv_at hl 0 rfl) ?_
        refine va_get (D := D) (v := .ref (aa 14)) hx hb htg in_M hown hK hP 0 mo_0 rfl 20 (by decide) (htg _ k_f_M_53) (fun _ h9 => h9) rfl d_M_parse_45 ?_
        refine lv_iload_n hx hb d_M_parse_48 rfl (lv_at hl 3 rfl) ?_
        obtain ⟨hg, hf⟩ := gd_some hf
        refine va_iald hx hb hK hP 15 0 ma_14 rfl (vin_in hg) d_M_parse_49 ?_
        refine lv_bipush (v := 7) hx hb d_M_parse_50 (by decide) ?_
        refine lv_icmp_ne (tgt := 81) hx hb d_M_parse_52 (by decide) (fun c => ?_) (fun c => ?_)
        · have hf := if_f hf c
          exact w_m_M_parse_b81 X hk16 _ _ _ _ hf H locs ls hP hS (lv_sub hl [0, 1, 2, 3] rfl)
        · have hf := if_t hf c
          exact w_m_M_parse_b55 X hk16 _ _ _ _ hf H locs ls hP hS (lv_sub hl [0, 1, 2, 3] rfl)
theorem w_m_M_parse_b16 {z : Int32 × St} (X : Cx b_M_parse 8 (some .int) R_M D [(cI, .int), (cZ, .boolean), (cJ, .long)] (mA ao aa) (mW cI cZ cJ ao aa) p s m args meth c) : ∀ (n : Nat) (S : St) (x1 : Int32) (x2 : Int32) (x3 : Int32), m_M_parse_b16 n S x1 x2 x3 = some z → WX rm_m_M_parse D (mA ao aa) (mW cI cZ cJ ao aa) p l e s m args below meth c (some (.int z.1)) z.2 16 [] 8 [(0, .ref (ao 0)), (1, .int x1), (2, .int x2), (3, .int x3)] S
  | 0, _, _, _, _, hf => ns hf
  | n + 1, _, _, _, _, hf => w_m_M_parse_b16_f X (w_m_M_parse_b16 X n) _ _ _ _ hf
set_option maxHeartbeats 4000000 in
set_option maxRecDepth 100000 in
theorem w_m_M_parse {z : Int32 × St} (X : Cx b_M_parse 8 (some .int) R_M D [(cI, .int), (cZ, .boolean), (cJ, .long)] (mA ao aa) (mW cI cZ cJ ao aa) p s m args meth c) (S : St) (hf : m_M_parse S = some z) : WX rm_m_M_parse D (mA ao aa) (mW cI cZ cJ ao aa) p l e s m args below meth c (some (.int z.1)) z.2 0 [] 8 [(0, .ref (ao 0))] S := by
  intro H locs ls hP hS hl
  obtain ⟨hx, hb, hr0, hml, hown, htg, hlk, hK, hN, hI⟩ := id X
  unfold m_M_parse at hf
  refine lv_aload_n hx hb d_M_parse_0 rfl (lv_at hl 0 rfl) ?_
  refine va_get (D := D) (v := .int (gI S 17)) hx hb htg in_M hown hK hP 0 mo_0 rfl 47 (by decide) (htg _ k_f_M_296) (fun _ h9 => h9) rfl d_M_parse_1 ?_
  refine lv_istore_n (lv' := [(1, .int (gI S 17)), (0, .ref (ao 0))]) hx hb d_M_parse_4 rfl hl (by decide) rfl (fun ls hl => ?_)
  refine lv_aload_n hx hb d_M_parse_5 rfl (lv_at hl 1 rfl) ?_
  refine va_get (D := D) (v := .int (gI S 15)) hx hb htg in_M hown hK hP 0 mo_0 rfl 42 (by decide) (htg _ k_f_M_103) (fun _ h9 => h9) rfl d_M_parse_6 ?_
  refine lv_istore_n (lv' := [(2, .int (gI S 15)), (1, .int (gI S 17)), (0, .ref (ao 0))]) hx hb d_M_parse_9 rfl hl (by decide) rfl (fun ls hl => ?_)
  refine lv_aload_n hx hb d_M_parse_10 rfl (lv_at hl 2 rfl) ?_
  obtain ⟨q1, he, hf⟩ := ob_some hf
  refine cl_Vv (As := []) (rest := []) X (c_m_M_order he) ok_m_M_order k_m_M_302 (va_recv hK hP rfl mo_0) rfl rfl hl.1 (Nat.le_of_ble_eq_true rfl) d_M_parse_11 ⟨by decide, by decide⟩ hP hS (fun H locs hP hS => ?_)
  refine lv_iconst (v := 0) hx hb d_M_parse_14 (by decide) ?_
  refine lv_istore_n (lv' := [(3, .int (0 : Int32)), (2, .int (gI S 15)), (1, .int (gI S 17)), (0, .ref (ao 0))]) hx hb d_M_parse_15 rfl hl (by decide) rfl (fun ls hl => ?_)
  exact w_m_M_parse_b16 X _ _ _ _ _ hf H locs ls hP hS (lv_sub hl [3, 2, 1, 0] rfl)
theorem c_m_M_parse {l : Launch} {D : va_G} {cI cZ cJ : ClassId} {ao aa : Nat → Nat} {S : St} {z : Int32 × St} (hz : m_M_parse S = some z) : Ct l y_M_parse (.code y_M_parse b_M_parse 8 (some .int) :: gw) rm_m_M_parse D [(cI, .int), (cZ, .boolean), (cJ, .long)] (mA ao aa) (mW cI cZ cJ ao aa) [.ref (ao 0)] S (some (.int z.1)) z.2 :=
  Ct_of (by decide) (fun p e s m args below meth c X => w_m_M_parse X _ hz) (Nat.le_of_ble_eq_true rfl)
def m_M_comesIn_b5_f (k5 : St → Int32 → Int32 → Int32 → Option (St)) (S : St) (x1 : Int32) (x2 : Int32) (x3 : Int32) : Option (St) :=
  if x3 ≤ x1 then
    gd (vin x1 60) <|
    some (sI (sA S 24 x1.toNatClampNeg x2) 14 ((gI (sA S 24 x1.toNatClampNeg x2) 14) + (1 : Int32)))
  else
    gd (vin (x3 - (1 : Int32)) 60) <|
    gd (vin x3 60) <|
    k5 (sA S 24 x3.toNatClampNeg (gA S 24 (x3 - (1 : Int32)).toNatClampNeg)) x1 x2 (x3 + (-1))
def m_M_comesIn_b5 : Nat → St → Int32 → Int32 → Int32 → Option (St)
  | 0, _, _, _, _ => none
  | n + 1, S, x1, x2, x3 => m_M_comesIn_b5_f (m_M_comesIn_b5 n) S x1 x2 x3
def m_M_comesIn (S : St) (x0 : Int32) (x1 : Int32) : Option (St) :=
  m_M_comesIn_b5 fu S x0 x1 (gI S 14)
def rm_m_M_comesIn : Room := { frames := 0, cells := 0, slots := 0, locals := 0 }
theorem ok_m_M_comesIn : CalV y_M_comesIn b_M_comesIn 4 none 2 rm_m_M_comesIn := ⟨kc_M_comesIn, ki_M_comesIn, kl_M_comesIn, ji_M, ⟨by decide, by decide, by decide +kernel⟩, rfl, rfl⟩
set_option maxHeartbeats 4000000 in
set_option maxRecDepth 100000 in
theorem w_m_M_comesIn_b5_f {z : St} (X : Cx b_M_comesIn 4 none R_M D [(cI, .int), (cZ, .boolean), (cJ, .long)] (mA ao aa) (mW cI cZ cJ ao aa) p s m args meth c) {k5 : St → Int32 → Int32 → Int32 → Option (St)} (hk5 : ∀ (S : St) (x1 : Int32) (x2 : Int32) (x3 : Int32), k5 S x1 x2 x3 = some z → WX rm_m_M_comesIn D (mA ao aa) (mW cI cZ cJ ao aa) p l e s m args below meth c none z 5 [] 4 [(0, .ref (ao 0)), (1, .int x1), (2, .int x2), (3, .int x3)] S) (S : St) (x1 : Int32) (x2 : Int32) (x3 : Int32) (hf : m_M_comesIn_b5_f k5 S x1 x2 x3 = some z) : WX rm_m_M_comesIn D (mA ao aa) (mW cI cZ cJ ao aa) p l e s m args below meth c none z 5 [] 4 [(0, .ref (ao 0)), (1, .int x1), (2, .int x2), (3, .int x3)] S := by
  intro H locs ls hP hS hl
  obtain ⟨hx, hb, hr0, hml, hown, htg, hlk, hK, hN, hI⟩ := id X
  unfold m_M_comesIn_b5_f at hf
  refine lv_iload_n hx hb d_M_comesIn_5 rfl (lv_at hl 3 rfl) ?_
  refine lv_iload_n hx hb d_M_comesIn_6 rfl (lv_at hl 1 rfl) ?_
  refine lv_icmp_le (tgt := 30) hx hb d_M_comesIn_7 (by decide) (fun c => ?_) (fun c => ?_)
  · have hf := if_t hf c
    refine lv_aload_n hx hb d_M_comesIn_30 rfl (lv_at hl 0 rfl) ?_
    refine va_get (D := D) (v := .ref (aa 24)) hx hb htg in_M hown hK hP 0 mo_0 rfl 41 (by decide) (htg _ k_f_M_84) (fun _ h9 => h9) rfl d_M_comesIn_31 ?_
    refine lv_iload_n hx hb d_M_comesIn_34 rfl (lv_at hl 1 rfl) ?_
    refine lv_iload_n hx hb d_M_comesIn_35 rfl (lv_at hl 2 rfl) ?_
    obtain ⟨hg, hf⟩ := gd_some hf
    refine va_iast hx hb hK hP (hI _) hS 25 0 ma_24 rfl (vin_in hg) d_M_comesIn_36 (fun H locs hP _ hS => ?_)
    replace hP : va_P D classes (mW cI cZ cJ ao aa (sA S 24 x1.toNatClampNeg x2)) H := pw mt_24 hP
    refine lv_aload_n hx hb d_M_comesIn_37 rfl (lv_at hl 0 rfl) ?_
    refine lv_dup hx hb d_M_comesIn_38 rfl ?_
    refine va_get (D := D) (v := .int (gI (sA S 24 x1.toNatClampNeg x2) 14)) hx hb htg in_M hown hK hP 0 mo_0 rfl 40 (by decide) (htg _ k_f_M_272) (fun _ h9 => h9) rfl d_M_comesIn_39 ?_
    refine lv_iconst (v := 1) hx hb d_M_comesIn_42 (by decide) ?_
    refine lv_iadd hx hb d_M_comesIn_43 ?_
    refine va_put (D := D) (ty := .int) hx hb htg in_M t_M t_M_ok n_M hown hK hP (hI _) hS 0 mo_0 rfl 40 (by decide) (htg _ k_f_M_272) (fun _ h9 => h9) rfl (by decide +kernel) rfl rfl (Nat.le_of_ble_eq_true rfl) d_M_comesIn_44 (fun H locs hP _ hS => ?_)
    replace hP : va_P D classes (mW cI cZ cJ ao aa (sI (sA S 24 x1.toNatClampNeg x2) 14 ((gI (sA S 24 x1.toNatClampNeg x2) 14) + (1 : Int32)))) H := pw ms_0_commandMany hP
    obtain rfl := Option.some.inj hf
    exact W.vret hx hb hr0 (fun t ht _ => ⟨⟨rfl, by rw [ht]; exact hP⟩, hS.F ht⟩) hS.2.2 d_M_comesIn_47 hlk
  · have hf := if_f hf c
    refine lv_aload_n hx hb d_M_comesIn_10 rfl (lv_at hl 0 rfl) ?_
    refine va_get (D := D) (v := .ref (aa 24)) hx hb htg in_M hown hK hP 0 mo_0 rfl 41 (by decide) (htg _ k_f_M_84) (fun _ h9 => h9) rfl d_M_comesIn_11 ?_
    refine lv_iload_n hx hb d_M_comesIn_14 rfl (lv_at hl 3 rfl) ?_
    refine lv_aload_n hx hb d_M_comesIn_15 rfl (lv_at hl 0 rfl) ?_
    refine va_get (D := D) (v := .ref (aa 24)) hx hb htg in_M hown hK hP 0 mo_0 rfl 41 (by decide) (htg _ k_f_M_84) (fun _ h9 => h9) rfl d_M_comesIn_16 ?_
    refine lv_iload_n hx hb d_M_comesIn_19 rfl (lv_at hl 3 rfl) ?_
    refine lv_iconst (v := 1) hx hb d_M_comesIn_20 (by decide) ?_
    refine lv_isub hx hb d_M_comesIn_21 ?_
    obtain ⟨hg, hf⟩ := gd_some hf
    refine va_iald hx hb hK hP 25 0 ma_24 rfl (vin_in hg) d_M_comesIn_22 ?_
    obtain ⟨hg, hf⟩ := gd_some hf
    refine va_iast hx hb hK hP (hI _) hS 25 0 ma_24 rfl (vin_in hg) d_M_comesIn_23 (fun H locs hP _ hS => ?_)
    replace hP : va_P D classes (mW cI cZ cJ ao aa (sA S 24 x3.toNatClampNeg (gA S 24 (x3 - (1 : Int32)).toNatClampNeg))) H := pw mt_24 hP
    refine lv_iinc (v := (x3 + (-1))) (lv' := [(3, .int (x3 + (-1))), (0, .ref (ao 0)), (1, .int x1), (2, .int x2)]) hx hb d_M_comesIn_24 hl (k := 3) rfl rfl (by decide) rfl (fun ls hl => ?_)
    refine lv_goto (tgt := 5) hx hb d_M_comesIn_27 (by decide) ?_
    exact hk5 _ _ _ _ hf H locs ls hP hS (lv_sub hl [1, 2, 3, 0] rfl)
theorem w_m_M_comesIn_b5 {z : St} (X : Cx b_M_comesIn 4 none R_M D [(cI, .int), (cZ, .boolean), (cJ, .long)] (mA ao aa) (mW cI cZ cJ ao aa) p s m args meth c) : ∀ (n : Nat) (S : St) (x1 : Int32) (x2 : Int32) (x3 : Int32), m_M_comesIn_b5 n S x1 x2 x3 = some z → WX rm_m_M_comesIn D (mA ao aa) (mW cI cZ cJ ao aa) p l e s m args below meth c none z 5 [] 4 [(0, .ref (ao 0)), (1, .int x1), (2, .int x2), (3, .int x3)] S
  | 0, _, _, _, _, hf => ns hf
  | n + 1, _, _, _, _, hf => w_m_M_comesIn_b5_f X (w_m_M_comesIn_b5 X n) _ _ _ _ hf
set_option maxHeartbeats 4000000 in
set_option maxRecDepth 100000 in
theorem w_m_M_comesIn {z : St} (X : Cx b_M_comesIn 4 none R_M D [(cI, .int), (cZ, .boolean), (cJ, .long)] (mA ao aa) (mW cI cZ cJ ao aa) p s m args meth c) (S : St) (x0 : Int32) (x1 : Int32) (hf : m_M_comesIn S x0 x1 = some z) : WX rm_m_M_comesIn D (mA ao aa) (mW cI cZ cJ ao aa) p l e s m args below meth c none z 0 [] 4 [(0, .ref (ao 0)), (1, .int x0), (2, .int x1)] S := by
  intro H locs ls hP hS hl
  obtain ⟨hx, hb, hr0, hml, hown, htg, hlk, hK, hN, hI⟩ := id X
  unfold m_M_comesIn at hf
  refine lv_aload_n hx hb d_M_comesIn_0 rfl (lv_at hl 0 rfl) ?_
  refine va_get (D := D) (v := .int (gI S 14)) hx hb htg in_M hown hK hP 0 mo_0 rfl 40 (by decide) (htg _ k_f_M_272) (fun _ h9 => h9) rfl d_M_comesIn_1 ?_
  refine lv_istore_n (lv' := [(3, .int (gI S 14)), (0, .ref (ao 0)), (1, .int x0), (2, .int x1)]) hx hb d_M_comesIn_4 rfl hl (by decide) rfl (fun ls hl => ?_)
  exact w_m_M_comesIn_b5 X _ _ _ _ _ hf H locs ls hP hS (lv_sub hl [1, 2, 3, 0] rfl)
theorem c_m_M_comesIn {l : Launch} {D : va_G} {cI cZ cJ : ClassId} {ao aa : Nat → Nat} {S : St} {x0 : Int32} {x1 : Int32} {z : St} (hz : m_M_comesIn S x0 x1 = some z) : Ct l y_M_comesIn (.code y_M_comesIn b_M_comesIn 4 none :: gw) rm_m_M_comesIn D [(cI, .int), (cZ, .boolean), (cJ, .long)] (mA ao aa) (mW cI cZ cJ ao aa) [.ref (ao 0), .int x0, .int x1] S none z :=
  Ct_of (by decide) (fun p e s m args below meth c X => w_m_M_comesIn X _ _ _ hz) (Nat.le_of_ble_eq_true rfl)
def m_M_answer_b140 (S : St) : Option (Int32 × St) :=
  (m_M_begins S).bind fun q4 =>
  (m_M_isTried q4).bind fun q5 =>
  some (q5.1, q5.2)
def m_M_answer_b103_f (k103 : St → Int32 → Int32 → Option (Int32 × St)) (S : St) (x1 : Int32) (x3 : Int32) : Option (Int32 × St) :=
  if (gI S 11) ≤ x3 then
    (m_M_comesIn S (gI S 14) x1).bind fun q3 =>
    m_M_answer_b140 q3
  else
    gd (vin x3 8) <|
    (m_M_comesIn S (gI S 14) (gA S 16 x3.toNatClampNeg)).bind fun q6 =>
    k103 q6 x1 (x3 + 1)
def m_M_answer_b103 : Nat → St → Int32 → Int32 → Option (Int32 × St)
  | 0, _, _, _ => none
  | n + 1, S, x1, x3 => m_M_answer_b103_f (m_M_answer_b103 n) S x1 x3
def m_M_answer_b65 (S : St) (x1 : Int32) (s0 : Int32) : Option (Int32 × St) :=
  if ((gI S 14) + s0) ≤ (60 : Int32) then
    if (gI S 21) = (15 : Int32) then
      (m_M_comesIn S (gI S 9) x1).bind fun q7 =>
      m_M_answer_b140 q7
    else
      m_M_answer_b103 fu S x1 (0 : Int32)
  else
    some ((-104 : Int32), S)
def m_M_answer (S : St) (x0 : Int32) : Option (Int32 × St) :=
  (m_M_isAny S x0).bind fun q1 =>
  if q1.1 = 0 then
    some ((-102 : Int32), q1.2)
  else
    if (gI q1.2 21) = 0 then
      some ((-103 : Int32), q1.2)
    else
      (m_M_verbBy q1.2 x0).bind fun q2 =>
      if q2.1 = (-1 : Int32) then
        if (gI q2.2 21) = (16 : Int32) then
          m_M_answer_b65 q2.2 x0 ((gI q2.2 11) + (1 : Int32))
        else
          m_M_answer_b65 q2.2 x0 (1 : Int32)
      else
        gd (vin (0 : Int32) 60) <|
        (m_M_parse (sI (sA q2.2 14 (0 : Int32).toNatClampNeg x0) 5 (1 : Int32))).bind fun q8 =>
        some (q8.1, q8.2)
def rm_m_M_answer : Room := { frames := 9, cells := 0, slots := 0, locals := 222 }
theorem ok_m_M_answer : CalV y_M_answer b_M_answer 4 (some .int) 1 rm_m_M_answer := ⟨kc_M_answer, ki_M_answer, kl_M_answer, ji_M, ⟨by decide, by decide, by decide +kernel⟩, rfl, rfl⟩
set_option maxHeartbeats 4000000 in
set_option maxRecDepth 100000 in
theorem w_m_M_answer_b140 {z : Int32 × St} (X : Cx b_M_answer 4 (some .int) R_M D [(cI, .int), (cZ, .boolean), (cJ, .long)] (mA ao aa) (mW cI cZ cJ ao aa) p s m args meth c) (S : St) (hf : m_M_answer_b140 S = some z) : WX rm_m_M_answer D (mA ao aa) (mW cI cZ cJ ao aa) p l e s m args below meth c (some (.int z.1)) z.2 140 [] 4 [(0, .ref (ao 0))] S := by
  intro H locs ls hP hS hl
  obtain ⟨hx, hb, hr0, hml, hown, htg, hlk, hK, hN, hI⟩ := id X
  unfold m_M_answer_b140 at hf
  refine lv_aload_n hx hb d_M_answer_140 rfl (lv_at hl 0 rfl) ?_
  obtain ⟨q4, he, hf⟩ := ob_some hf
  refine cl_Vv (As := []) (rest := []) X (c_m_M_begins he) ok_m_M_begins k_m_M_305 (va_recv hK hP rfl mo_0) rfl rfl hl.1 (Nat.le_of_ble_eq_true rfl) d_M_answer_141 ⟨by decide, by decide⟩ hP hS (fun H locs hP hS => ?_)
  refine lv_aload_n hx hb d_M_answer_144 rfl (lv_at hl 0 rfl) ?_
  obtain ⟨q5, he, hf⟩ := ob_some hf
  refine cl_Vi (As := []) (rest := []) X (c_m_M_isTried he) ok_m_M_isTried k_m_M_308 (va_recv hK hP rfl mo_0) rfl rfl hl.1 (Nat.le_of_ble_eq_true rfl) d_M_answer_145 ⟨by decide, by decide⟩ hP hS (fun H locs hP hS => ?_)
  obtain rfl := Option.some.inj hf
  exact W.iret hx hb hr0 (fun t ht _ => ⟨⟨rfl, by rw [ht]; exact hP⟩, hS.F ht⟩) hS.2.2 d_M_answer_148 hlk
set_option maxHeartbeats 4000000 in
set_option maxRecDepth 100000 in
theorem w_m_M_answer_b103_f {z : Int32 × St} (X : Cx b_M_answer 4 (some .int) R_M D [(cI, .int), (cZ, .boolean), (cJ, .long)] (mA ao aa) (mW cI cZ cJ ao aa) p s m args meth c) {k103 : St → Int32 → Int32 → Option (Int32 × St)} (hk103 : ∀ (S : St) (x1 : Int32) (x3 : Int32), k103 S x1 x3 = some z → WX rm_m_M_answer D (mA ao aa) (mW cI cZ cJ ao aa) p l e s m args below meth c (some (.int z.1)) z.2 103 [] 4 [(0, .ref (ao 0)), (1, .int x1), (3, .int x3)] S) (S : St) (x1 : Int32) (x3 : Int32) (hf : m_M_answer_b103_f k103 S x1 x3 = some z) : WX rm_m_M_answer D (mA ao aa) (mW cI cZ cJ ao aa) p l e s m args below meth c (some (.int z.1)) z.2 103 [] 4 [(0, .ref (ao 0)), (1, .int x1), (3, .int x3)] S := by
  intro H locs ls hP hS hl
  obtain ⟨hx, hb, hr0, hml, hown, htg, hlk, hK, hN, hI⟩ := id X
  unfold m_M_answer_b103_f at hf
  refine lv_iload_n hx hb d_M_answer_103 rfl (lv_at hl 2 rfl) ?_
  refine lv_aload_n hx hb d_M_answer_104 rfl (lv_at hl 0 rfl) ?_
  refine va_get (D := D) (v := .int (gI S 11)) hx hb htg in_M hown hK hP 0 mo_0 rfl 29 (by decide) (htg _ k_f_M_195) (fun _ h9 => h9) rfl d_M_answer_105 ?_
  refine lv_icmp_ge (tgt := 131) hx hb d_M_answer_108 (by decide) (fun c => ?_) (fun c => ?_)
  · have hf := if_t hf c
    refine lv_aload_n hx hb d_M_answer_131 rfl (lv_at hl 0 rfl) ?_
    refine lv_aload_n hx hb d_M_answer_132 rfl (lv_at hl 0 rfl) ?_
    refine va_get (D := D) (v := .int (gI S 14)) hx hb htg in_M hown hK hP 0 mo_0 rfl 40 (by decide) (htg _ k_f_M_272) (fun _ h9 => h9) rfl d_M_answer_133 ?_
    refine lv_iload_n hx hb d_M_answer_136 rfl (lv_at hl 1 rfl) ?_
    obtain ⟨q3, he, hf⟩ := ob_some hf
    refine cl_Vv (As := [.int (gI S 14), .int x1]) (rest := []) X (c_m_M_comesIn he) ok_m_M_comesIn k_m_M_315 (va_recv hK hP rfl mo_0) rfl rfl hl.1 (Nat.le_of_ble_eq_true rfl) d_M_answer_137 ⟨by decide, by decide⟩ hP hS (fun H locs hP hS => ?_)
    exact w_m_M_answer_b140 X _ hf H locs ls hP hS (lv_sub hl [0] rfl)
  · have hf := if_f hf c
    refine lv_aload_n hx hb d_M_answer_111 rfl (lv_at hl 0 rfl) ?_
    refine lv_aload_n hx hb d_M_answer_112 rfl (lv_at hl 0 rfl) ?_
    refine va_get (D := D) (v := .int (gI S 14)) hx hb htg in_M hown hK hP 0 mo_0 rfl 40 (by decide) (htg _ k_f_M_272) (fun _ h9 => h9) rfl d_M_answer_113 ?_
    refine lv_aload_n hx hb d_M_answer_116 rfl (lv_at hl 0 rfl) ?_
    refine va_get (D := D) (v := .ref (aa 16)) hx hb htg in_M hown hK hP 0 mo_0 rfl 30 (by decide) (htg _ k_f_M_59) (fun _ h9 => h9) rfl d_M_answer_117 ?_
    refine lv_iload_n hx hb d_M_answer_120 rfl (lv_at hl 2 rfl) ?_
    obtain ⟨hg, hf⟩ := gd_some hf
    refine va_iald hx hb hK hP 17 0 ma_16 rfl (vin_in hg) d_M_answer_121 ?_
    obtain ⟨q6, he, hf⟩ := ob_some hf
    refine cl_Vv (As := [.int (gI S 14), .int (gA S 16 x3.toNatClampNeg)]) (rest := []) X (c_m_M_comesIn he) ok_m_M_comesIn k_m_M_315 (va_recv hK hP rfl mo_0) rfl rfl hl.1 (Nat.le_of_ble_eq_true rfl) d_M_answer_122 ⟨by decide, by decide⟩ hP hS (fun H locs hP hS => ?_)
    refine lv_iinc (v := (x3 + 1)) (lv' := [(3, .int (x3 + 1)), (0, .ref (ao 0)), (1, .int x1)]) hx hb d_M_answer_125 hl (k := 2) rfl rfl (by decide) rfl (fun ls hl => ?_)
    refine lv_goto (tgt := 103) hx hb d_M_answer_128 (by decide) ?_
    exact hk103 _ _ _ hf H locs ls hP hS (lv_sub hl [1, 2, 0] rfl)
theorem w_m_M_answer_b103 {z : Int32 × St} (X : Cx b_M_answer 4 (some .int) R_M D [(cI, .int), (cZ, .boolean), (cJ, .long)] (mA ao aa) (mW cI cZ cJ ao aa) p s m args meth c) : ∀ (n : Nat) (S : St) (x1 : Int32) (x3 : Int32), m_M_answer_b103 n S x1 x3 = some z → WX rm_m_M_answer D (mA ao aa) (mW cI cZ cJ ao aa) p l e s m args below meth c (some (.int z.1)) z.2 103 [] 4 [(0, .ref (ao 0)), (1, .int x1), (3, .int x3)] S
  | 0, _, _, _, hf => ns hf
  | n + 1, _, _, _, hf => w_m_M_answer_b103_f X (w_m_M_answer_b103 X n) _ _ _ hf
set_option maxHeartbeats 4000000 in
set_option maxRecDepth 100000 in
theorem w_m_M_answer_b65 {z : Int32 × St} (X : Cx b_M_answer 4 (some .int) R_M D [(cI, .int), (cZ, .boolean), (cJ, .long)] (mA ao aa) (mW cI cZ cJ ao aa) p s m args meth c) (S : St) (x1 : Int32) (s0 : Int32) (hf : m_M_answer_b65 S x1 s0 = some z) : WX rm_m_M_answer D (mA ao aa) (mW cI cZ cJ ao aa) p l e s m args below meth c (some (.int z.1)) z.2 65 [.int s0] 4 [(0, .ref (ao 0)), (1, .int x1)] S := by
  intro H locs ls hP hS hl
  obtain ⟨hx, hb, hr0, hml, hown, htg, hlk, hK, hN, hI⟩ := id X
  unfold m_M_answer_b65 at hf
  refine lv_istore_n (lv' := [(2, .int s0), (0, .ref (ao 0)), (1, .int x1)]) hx hb d_M_answer_65 rfl hl (by decide) rfl (fun ls hl => ?_)
  refine lv_aload_n hx hb d_M_answer_66 rfl (lv_at hl 1 rfl) ?_
  refine va_get (D := D) (v := .int (gI S 14)) hx hb htg in_M hown hK hP 0 mo_0 rfl 40 (by decide) (htg _ k_f_M_272) (fun _ h9 => h9) rfl d_M_answer_67 ?_
  refine lv_iload_n hx hb d_M_answer_70 rfl (lv_at hl 0 rfl) ?_
  refine lv_iadd hx hb d_M_answer_71 ?_
  refine lv_bipush (v := 60) hx hb d_M_answer_72 (by decide) ?_
  refine lv_icmp_le (tgt := 80) hx hb d_M_answer_74 (by decide) (fun c => ?_) (fun c => ?_)
  · have hf := if_t hf c
    refine lv_aload_n hx hb d_M_answer_80 rfl (lv_at hl 1 rfl) ?_
    refine va_get (D := D) (v := .int (gI S 21)) hx hb htg in_M hown hK hP 0 mo_0 rfl 51 (by decide) (htg _ k_f_M_293) (fun _ h9 => h9) rfl d_M_answer_81 ?_
    refine lv_bipush (v := 15) hx hb d_M_answer_84 (by decide) ?_
    refine lv_icmp_ne (tgt := 101) hx hb d_M_answer_86 (by decide) (fun c => ?_) (fun c => ?_)
    · have hf := if_f hf c
      refine lv_iconst (v := 0) hx hb d_M_answer_101 (by decide) ?_
      refine lv_istore_n (lv' := [(3, .int (0 : Int32)), (2, .int s0), (0, .ref (ao 0)), (1, .int x1)]) hx hb d_M_answer_102 rfl hl (by decide) rfl (fun ls hl => ?_)
      exact w_m_M_answer_b103 X _ _ _ _ hf H locs ls hP hS (lv_sub hl [2, 3, 0] rfl)
    · have hf := if_t hf c
      refine lv_aload_n hx hb d_M_answer_89 rfl (lv_at hl 1 rfl) ?_
      refine lv_aload_n hx hb d_M_answer_90 rfl (lv_at hl 1 rfl) ?_
      refine va_get (D := D) (v := .int (gI S 9)) hx hb htg in_M hown hK hP 0 mo_0 rfl 27 (by decide) (htg _ k_f_M_245) (fun _ h9 => h9) rfl d_M_answer_91 ?_
      refine lv_iload_n hx hb d_M_answer_94 rfl (lv_at hl 2 rfl) ?_
      obtain ⟨q7, he, hf⟩ := ob_some hf
      refine cl_Vv (As := [.int (gI S 9), .int x1]) (rest := []) X (c_m_M_comesIn he) ok_m_M_comesIn k_m_M_315 (va_recv hK hP rfl mo_0) rfl rfl hl.1 (Nat.le_of_ble_eq_true rfl) d_M_answer_95 ⟨by decide, by decide⟩ hP hS (fun H locs hP hS => ?_)
      refine lv_goto (tgt := 140) hx hb d_M_answer_98 (by decide) ?_
      exact w_m_M_answer_b140 X _ hf H locs ls hP hS (lv_sub hl [1] rfl)
  · have hf := if_f hf c
    refine lv_bipush (v := (-104)) hx hb d_M_answer_77 (by decide) ?_
    obtain rfl := Option.some.inj hf
    exact W.iret hx hb hr0 (fun t ht _ => ⟨⟨rfl, by rw [ht]; exact hP⟩, hS.F ht⟩) hS.2.2 d_M_answer_79 hlk
set_option maxHeartbeats 4000000 in
set_option maxRecDepth 100000 in
theorem w_m_M_answer {z : Int32 × St} (X : Cx b_M_answer 4 (some .int) R_M D [(cI, .int), (cZ, .boolean), (cJ, .long)] (mA ao aa) (mW cI cZ cJ ao aa) p s m args meth c) (S : St) (x0 : Int32) (hf : m_M_answer S x0 = some z) : WX rm_m_M_answer D (mA ao aa) (mW cI cZ cJ ao aa) p l e s m args below meth c (some (.int z.1)) z.2 0 [] 4 [(0, .ref (ao 0)), (1, .int x0)] S := by
  intro H locs ls hP hS hl
  obtain ⟨hx, hb, hr0, hml, hown, htg, hlk, hK, hN, hI⟩ := id X
  unfold m_M_answer at hf
  refine lv_iload_n hx hb d_M_answer_0 rfl (lv_at hl 1 rfl) ?_
  obtain ⟨q1, he, hf⟩ := ob_some hf
  refine cl_Si (As := [.int x0]) (rest := []) X (c_m_M_isAny he) ok_m_M_isAny k_m_M_154 rfl rfl hl.1 (Nat.le_of_ble_eq_true rfl) d_M_answer_1 ⟨by decide, by decide⟩ hP hS (fun H locs hP hS => ?_)
  refine lv_if_ne (tgt := 10) hx hb d_M_answer_4 (by decide) (fun c => ?_) (fun c => ?_)
  · have hf := if_f hf c
    refine lv_aload_n hx hb d_M_answer_10 rfl (lv_at hl 0 rfl) ?_
    refine va_get (D := D) (v := .int (gI q1.2 21)) hx hb htg in_M hown hK hP 0 mo_0 rfl 51 (by decide) (htg _ k_f_M_293) (fun _ h9 => h9) rfl d_M_answer_11 ?_
    refine lv_if_ne (tgt := 20) hx hb d_M_answer_14 (by decide) (fun c => ?_) (fun c => ?_)
    · have hf := if_f hf c
      refine lv_aload_n hx hb d_M_answer_20 rfl (lv_at hl 0 rfl) ?_
      refine lv_iload_n hx hb d_M_answer_21 rfl (lv_at hl 1 rfl) ?_
      obtain ⟨q2, he, hf⟩ := ob_some hf
      refine cl_Vi (As := [.int x0]) (rest := []) X (c_m_M_verbBy he) ok_m_M_verbBy k_m_M_123 (va_recv hK hP rfl mo_0) rfl rfl hl.1 (Nat.le_of_ble_eq_true rfl) d_M_answer_22 ⟨by decide, by decide⟩ hP hS (fun H locs hP hS => ?_)
      refine lv_iconst (v := (-1)) hx hb d_M_answer_25 (by decide) ?_
      refine lv_icmp_eq (tgt := 46) hx hb d_M_answer_26 (by decide) (fun c => ?_) (fun c => ?_)
      · have hf := if_t hf c
        refine lv_aload_n hx hb d_M_answer_46 rfl (lv_at hl 0 rfl) ?_
        refine va_get (D := D) (v := .int (gI q2.2 21)) hx hb htg in_M hown hK hP 0 mo_0 rfl 51 (by decide) (htg _ k_f_M_293) (fun _ h9 => h9) rfl d_M_answer_47 ?_
        refine lv_bipush (v := 16) hx hb d_M_answer_50 (by decide) ?_
        refine lv_icmp_ne (tgt := 64) hx hb d_M_answer_52 (by decide) (fun c => ?_) (fun c => ?_)
        · have hf := if_f hf c
          refine lv_iconst (v := 1) hx hb d_M_answer_64 (by decide) ?_
          exact w_m_M_answer_b65 X _ _ _ hf H locs ls hP hS (lv_sub hl [0, 1] rfl)
        · have hf := if_t hf c
          refine lv_aload_n hx hb d_M_answer_55 rfl (lv_at hl 0 rfl) ?_
          refine va_get (D := D) (v := .int (gI q2.2 11)) hx hb htg in_M hown hK hP 0 mo_0 rfl 29 (by decide) (htg _ k_f_M_195) (fun _ h9 => h9) rfl d_M_answer_56 ?_
          refine lv_iconst (v := 1) hx hb d_M_answer_59 (by decide) ?_
          refine lv_iadd hx hb d_M_answer_60 ?_
          refine lv_goto (tgt := 65) hx hb d_M_answer_61 (by decide) ?_
          exact w_m_M_answer_b65 X _ _ _ hf H locs ls hP hS (lv_sub hl [0, 1] rfl)
      · have hf := if_f hf c
        refine lv_aload_n hx hb d_M_answer_29 rfl (lv_at hl 0 rfl) ?_
        refine va_get (D := D) (v := .ref (aa 14)) hx hb htg in_M hown hK hP 0 mo_0 rfl 20 (by decide) (htg _ k_f_M_53) (fun _ h9 => h9) rfl d_M_answer_30 ?_
        refine lv_iconst (v := 0) hx hb d_M_answer_33 (by decide) ?_
        refine lv_iload_n hx hb d_M_answer_34 rfl (lv_at hl 1 rfl) ?_
        obtain ⟨hg, hf⟩ := gd_some hf
        refine va_iast hx hb hK hP (hI _) hS 15 0 ma_14 rfl (vin_in hg) d_M_answer_35 (fun H locs hP _ hS => ?_)
        replace hP : va_P D classes (mW cI cZ cJ ao aa (sA q2.2 14 (0 : Int32).toNatClampNeg x0)) H := pw mt_14 hP
        refine lv_aload_n hx hb d_M_answer_36 rfl (lv_at hl 0 rfl) ?_
        refine lv_iconst (v := 1) hx hb d_M_answer_37 (by decide) ?_
        refine va_put (D := D) (ty := .int) hx hb htg in_M t_M t_M_ok n_M hown hK hP (hI _) hS 0 mo_0 rfl 19 (by decide) (htg _ k_f_M_157) (fun _ h9 => h9) rfl (by decide +kernel) rfl rfl (Nat.le_of_ble_eq_true rfl) d_M_answer_38 (fun H locs hP _ hS => ?_)
        replace hP : va_P D classes (mW cI cZ cJ ao aa (sI (sA q2.2 14 (0 : Int32).toNatClampNeg x0) 5 (1 : Int32))) H := pw ms_0_inputMany hP
        refine lv_aload_n hx hb d_M_answer_41 rfl (lv_at hl 0 rfl) ?_
        obtain ⟨q8, he, hf⟩ := ob_some hf
        refine cl_Vi (As := []) (rest := []) X (c_m_M_parse he) ok_m_M_parse k_m_M_312 (va_recv hK hP rfl mo_0) rfl rfl hl.1 (Nat.le_of_ble_eq_true rfl) d_M_answer_42 ⟨by decide, by decide⟩ hP hS (fun H locs hP hS => ?_)
        obtain rfl := Option.some.inj hf
        exact W.iret hx hb hr0 (fun t ht _ => ⟨⟨rfl, by rw [ht]; exact hP⟩, hS.F ht⟩) hS.2.2 d_M_answer_45 hlk
    · have hf := if_t hf c
      refine lv_bipush (v := (-103)) hx hb d_M_answer_17 (by decide) ?_
      obtain rfl := Option.some.inj hf
      exact W.iret hx hb hr0 (fun t ht _ => ⟨⟨rfl, by rw [ht]; exact hP⟩, hS.F ht⟩) hS.2.2 d_M_answer_19 hlk
  · have hf := if_t hf c
    refine lv_bipush (v := (-102)) hx hb d_M_answer_7 (by decide) ?_
    obtain rfl := Option.some.inj hf
    exact W.iret hx hb hr0 (fun t ht _ => ⟨⟨rfl, by rw [ht]; exact hP⟩, hS.F ht⟩) hS.2.2 d_M_answer_9 hlk
theorem c_m_M_answer {l : Launch} {D : va_G} {cI cZ cJ : ClassId} {ao aa : Nat → Nat} {S : St} {x0 : Int32} {z : Int32 × St} (hz : m_M_answer S x0 = some z) : Ct l y_M_answer (.code y_M_answer b_M_answer 4 (some .int) :: gw) rm_m_M_answer D [(cI, .int), (cZ, .boolean), (cJ, .long)] (mA ao aa) (mW cI cZ cJ ao aa) [.ref (ao 0), .int x0] S (some (.int z.1)) z.2 :=
  Ct_of (by decide) (fun p e s m args below meth c X => w_m_M_answer X _ _ hz) (Nat.le_of_ble_eq_true rfl)
end

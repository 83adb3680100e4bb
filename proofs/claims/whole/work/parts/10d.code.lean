def f_X8_type (μ : Mem) (a1 : Int32) : Option (Int32 × Mem) :=
  if a1 < (0 : Int32) then (
    some ((-1 : Int32), μ)
  ) else (
    if a1 ≤ (255 : Int32) then (
      (f_X4_take μ (a1)).bind fun z1 =>
      if z1.1 = (0 : Int32) then (
        some ((-3 : Int32), z1.2)
      ) else (
        some ((gi z1.2 1 1), z1.2)
      )
    ) else (
      some ((-1 : Int32), μ)
    )
  )
set_option maxRecDepth 100000 in
set_option maxHeartbeats 4000000 in
theorem k_X8_type {l : Launch} {D : va_G} {cy : Nat → ClassId} {base : Nat} (μ : Mem) (a1 : Int32)  {out : Int32 × Mem} (hS : f_X8_type μ a1 = some out) : gC l D cy base yX8_type cX8_type 2 (some .int) 1 [.ref (base + 0), .int (a1)] μ (some (.int out.1)) out.2 := by
  refine gC_of (own := RX8) (lv0 := [(0, .ref (base + 0)), (1, .int (a1))]) rfl (by decide) (Nat.le_of_ble_eq_true rfl) rfl ?_
  unfold f_X8_type at hS
  refine g_iload_n (j := 1) (x := a1) dX8_type_0 rfl rfl ?_
  refine g_if_lt 11 dX8_type_1 (by decide) (fun hc => ?_) (fun hc => ?_)
  · replace hS := (if_pos hc).symm.trans hS
    refine g_iconst (v := -1) dX8_type_11 (by decide) ?_
    obtain rfl := Option.some.inj hS
    exact g_iret rfl dX8_type_12
  · replace hS := (if_neg hc).symm.trans hS
    refine g_iload_n (j := 1) (x := a1) dX8_type_4 rfl rfl ?_
    refine g_sipush (v := 255) dX8_type_5 (by decide) ?_
    refine g_icmp_le 13 dX8_type_8 (by decide) (fun hc => ?_) (fun hc => ?_)
    · replace hS := (if_pos hc).symm.trans hS
      refine g_aload_n (j := 0) (x := base + 0) dX8_type_13 rfl rfl ?_
      refine gs_getR (r := 1) lk_RX8_10 (tk_0 _) rfl dX8_type_14 ?_
      refine g_iload_n (j := 1) (x := a1) dX8_type_17 rfl rfl ?_
      obtain ⟨z1, ez1, hS⟩ := ob hS
      refine gs_callVi (As := [.int (a1)]) (st := []) (kr := 1) (k_X4_take μ (a1)  ez1) cl_RX8_69 sv_X4_take ckk_X4_take (tk_1 _) ⟨by decide, by decide⟩ (Nat.le_of_ble_eq_true rfl) ⟨Nat.zero_le _, Nat.zero_le _⟩ rfl dX8_type_18 rfl ?_
      refine g_if_eq 34 dX8_type_21 (by decide) (fun hc => ?_) (fun hc => ?_)
      · replace hS := (if_pos hc).symm.trans hS
        refine g_bipush (v := -3) dX8_type_34 (by decide) ?_
        obtain rfl := Option.some.inj hS
        exact g_iret rfl dX8_type_36
      · replace hS := (if_neg hc).symm.trans hS
        refine g_aload_n (j := 0) (x := base + 0) dX8_type_24 rfl rfl ?_
        refine gs_getR (r := 1) lk_RX8_10 (tk_0 _) rfl dX8_type_25 ?_
        refine gs_getI lk_RX8_73 (tk_1 _) rfl dX8_type_28 ?_
        refine g_goto 36 dX8_type_31 (by decide) ?_
        obtain rfl := Option.some.inj hS
        exact g_iret rfl dX8_type_36
    · replace hS := (if_neg hc).symm.trans hS
      refine g_iconst (v := -1) dX8_type_11 (by decide) ?_
      obtain rfl := Option.some.inj hS
      exact g_iret rfl dX8_type_12
def f_X8_clear (μ : Mem)  : Option (Int32 × Mem) :=
  (f_X4_empty μ ).bind fun m2 =>
  some ((gi μ 1 1), m2)
set_option maxRecDepth 100000 in
set_option maxHeartbeats 4000000 in
theorem k_X8_clear {l : Launch} {D : va_G} {cy : Nat → ClassId} {base : Nat} (μ : Mem)   {out : Int32 × Mem} (hS : f_X8_clear μ  = some out) : gC l D cy base yX8_clear cX8_clear 2 (some .int) 1 [.ref (base + 0)] μ (some (.int out.1)) out.2 := by
  refine gC_of (own := RX8) (lv0 := [(0, .ref (base + 0))]) rfl (by decide) (Nat.le_of_ble_eq_true rfl) rfl ?_
  unfold f_X8_clear at hS
  refine g_aload_n (j := 0) (x := base + 0) dX8_clear_0 rfl rfl ?_
  refine gs_getR (r := 1) lk_RX8_10 (tk_0 _) rfl dX8_clear_1 ?_
  refine gs_getI lk_RX8_73 (tk_1 _) rfl dX8_clear_4 ?_
  refine g_istore_n (lvx := [(1, .int ((gi μ 1 1))), (0, .ref (base + 0))]) dX8_clear_7 rfl (by decide) rfl ?_
  refine g_aload_n (j := 1) (x := base + 0) dX8_clear_8 rfl rfl ?_
  refine gs_getR (r := 1) lk_RX8_10 (tk_0 _) rfl dX8_clear_9 ?_
  obtain ⟨m2, em2, hS⟩ := ob hS
  refine gs_callVv (As := []) (st := []) (kr := 1) (k_X4_empty μ   em2) cl_RX8_77 sv_X4_empty ckk_X4_empty (tk_1 _) ⟨by decide, by decide⟩ (Nat.le_of_ble_eq_true rfl) ⟨Nat.zero_le _, Nat.zero_le _⟩ rfl dX8_clear_12 rfl ?_
  refine g_iload_n (j := 0) (x := (gi μ 1 1)) dX8_clear_15 rfl rfl ?_
  obtain rfl := Option.some.inj hS
  exact g_iret rfl dX8_clear_16
def f_X8_house_b56 (x12 : Int32) (v : Int32 × Mem) : Option ((Int32 × Mem) ⊕ ((Mem))) :=
  if (2 : Int32) ≤ v.1 then (
    some (.inr (v.2))
  ) else (
    (stZ v.2 142 2 (v.1) ((0 : Int32))).bind fun m13 =>
    some (.inl (((v.1 + (1 : Int32))), (m13)))
  )
set_option maxRecDepth 100000 in
set_option maxHeartbeats 4000000 in
theorem k_X8_house_b56 {l : Launch} {D : va_G} {cy : Nat → ClassId} {base : Nat} {X : gX} {Z : gZ} (x12 : Int32)  (v : Int32 × Mem) (r : (Int32 × Mem) ⊕ ((Mem))) (hS : f_X8_house_b56 x12 v = some r) (hin : ∀ v2, r = .inl v2 → G l D cy base RX8 cX8_house 4 (some .int) (gRm 7) X Z 56 [(0, .ref (base + 0)), (1, .int (x12)), (3, .int (v2.1))] [] 0 0 gNN (gH cy base v2.2)) (hout0 : ∀ x, r = .inr x → G l D cy base RX8 cX8_house 4 (some .int) (gRm 7) X Z 74 [(1, .int (x12))] [] 0 0 gNN (gH cy base x)) : G l D cy base RX8 cX8_house 4 (some .int) (gRm 7) X Z 56 [(0, .ref (base + 0)), (1, .int (x12)), (3, .int (v.1))] [] 0 0 gNN (gH cy base v.2) := by
  unfold f_X8_house_b56 at hS
  refine g_iload_n (j := 2) (x := v.1) dX8_house_56 rfl rfl ?_
  refine g_iconst (v := 2) dX8_house_57 (by decide) ?_
  refine g_icmp_ge 74 dX8_house_58 (by decide) (fun hc => ?_) (fun hc => ?_)
  · replace hS := (if_pos hc).symm.trans hS
    refine g_sub (lvx := [(1, .int (x12))]) [1] rfl ?_
    obtain rfl := Option.some.inj hS
    exact hout0 ((v.2)) rfl
  · replace hS := (if_neg hc).symm.trans hS
    refine g_aload_n (j := 0) (x := base + 0) dX8_house_61 rfl rfl ?_
    refine gs_getR (r := 142) lk_RX8_27 (tk_0 _) rfl dX8_house_62 ?_
    refine g_iload_n (j := 2) (x := v.1) dX8_house_65 rfl rfl ?_
    refine g_iconst (v := 0) dX8_house_66 (by decide) ?_
    obtain ⟨m13, em13, hS⟩ := ob hS
    refine gs_zast (tk_142 _) dX8_house_67 em13 ?_
    refine g_iinc (j := 2) (x := v.1) (v := (v.1 + (1 : Int32))) (lvx := [(3, .int ((v.1 + (1 : Int32)))), (0, .ref (base + 0)), (1, .int (x12))]) dX8_house_68 rfl rfl (by decide) rfl ?_
    refine g_goto 56 dX8_house_71 (by decide) ?_
    refine g_sub (lvx := [(0, .ref (base + 0)), (1, .int (x12)), (3, .int ((v.1 + (1 : Int32))))]) [1, 2, 0] rfl ?_
    obtain rfl := Option.some.inj hS
    exact hin ((((v.1 + (1 : Int32))), (m13))) rfl
def f_X8_house (μ : Mem)  : Option (Int32 × Mem) :=
  (rfG (gdr μ) isPl).bind fun q1 =>
  (f_X4_readInto μ (q1)).bind fun z2 =>
  if (0 : Int32) ≤ z2.1 then (
    (rfG (gdr z2.2) isPl).bind fun q3 =>
    (rfG (gpl z2.2) isPl).bind fun q4 =>
    (f_X4_empty (spl (sdr z2.2 q4) q3) ).bind fun m8 =>
    (rfG (gpl m8) isPl).bind fun q9 =>
    (f_X0_begin m8 3 (q9)).bind fun m11 =>
    (iter gFU (f_X8_house_b56  (z2.1)) (((0 : Int32)), m11)).bind fun z14 =>
    some (z2.1, z14)
  ) else (
    some (z2.1, z2.2)
  )
set_option maxRecDepth 100000 in
set_option maxHeartbeats 4000000 in
theorem k_X8_house {l : Launch} {D : va_G} {cy : Nat → ClassId} {base : Nat} (μ : Mem)   {out : Int32 × Mem} (hS : f_X8_house μ  = some out) : gC l D cy base yX8_house cX8_house 4 (some .int) 7 [.ref (base + 0)] μ (some (.int out.1)) out.2 := by
  refine gC_of (own := RX8) (lv0 := [(0, .ref (base + 0))]) rfl (by decide) (Nat.le_of_ble_eq_true rfl) rfl ?_
  unfold f_X8_house at hS
  refine g_aload_n (j := 0) (x := base + 0) dX8_house_0 rfl rfl ?_
  refine gs_getR (r := 1) lk_RX8_10 (tk_0 _) rfl dX8_house_1 ?_
  refine g_aload_n (j := 0) (x := base + 0) dX8_house_4 rfl rfl ?_
  obtain ⟨q1, eq1, hS⟩ := ob hS
  have hq1 := rfG_is eq1
  refine gs_getDr lk_RX8_66 dX8_house_5 eq1 ?_
  obtain ⟨z2, ez2, hS⟩ := ob hS
  refine gs_callVi (As := [.ref (base + q1)]) (st := []) (kr := 1) (k_X4_readInto μ (q1) hq1 ez2) cl_RX8_80 sv_X4_readInto ckk_X4_readInto (tk_1 _) ⟨by decide, by decide⟩ (Nat.le_of_ble_eq_true rfl) ⟨Nat.zero_le _, Nat.zero_le _⟩ rfl dX8_house_8 rfl ?_
  refine g_istore_n (lvx := [(1, .int (z2.1)), (0, .ref (base + 0))]) dX8_house_11 rfl (by decide) rfl ?_
  refine g_iload_n (j := 0) (x := z2.1) dX8_house_12 rfl rfl ?_
  refine g_if_ge 18 dX8_house_13 (by decide) (fun hc => ?_) (fun hc => ?_)
  · replace hS := (if_pos hc).symm.trans hS
    refine g_aload_n (j := 1) (x := base + 0) dX8_house_18 rfl rfl ?_
    obtain ⟨q3, eq3, hS⟩ := ob hS
    have hq3 := rfG_is eq3
    refine gs_getDr lk_RX8_66 dX8_house_19 eq3 ?_
    refine g_astore_n (lvx := [(2, .ref (base + q3)), (1, .int (z2.1)), (0, .ref (base + 0))]) dX8_house_22 rfl (by decide) rfl ?_
    refine g_aload_n (j := 2) (x := base + 0) dX8_house_23 rfl rfl ?_
    refine g_aload_n (j := 2) (x := base + 0) dX8_house_24 rfl rfl ?_
    obtain ⟨q4, eq4, hS⟩ := ob hS
    have hq4 := rfG_is eq4
    refine gs_getPl lk_RX8_62 dX8_house_25 eq4 ?_
    refine gs_putD lw_RX8_66 rfl rfl dX8_house_28 ?_
    refine g_aload_n (j := 2) (x := base + 0) dX8_house_31 rfl rfl ?_
    refine g_aload_n (j := 0) (x := base + q3) dX8_house_32 rfl rfl ?_
    refine gs_putP lw_RX8_62 rfl rfl dX8_house_33 ?_
    refine g_aload_n (j := 2) (x := base + 0) dX8_house_36 rfl rfl ?_
    refine gs_getR (r := 1) lk_RX8_10 (tk_0 _) rfl dX8_house_37 ?_
    obtain ⟨m8, em8, hS⟩ := ob hS
    refine gs_callVv (As := []) (st := []) (kr := 1) (k_X4_empty (spl (sdr z2.2 q4) q3)   em8) cl_RX8_77 sv_X4_empty ckk_X4_empty (tk_1 _) ⟨by decide, by decide⟩ (Nat.le_of_ble_eq_true rfl) ⟨Nat.zero_le _, Nat.zero_le _⟩ rfl dX8_house_40 rfl ?_
    refine g_aload_n (j := 2) (x := base + 0) dX8_house_43 rfl rfl ?_
    refine gs_getR (r := 3) lk_RX8_19 (tk_0 _) rfl dX8_house_44 ?_
    refine g_aload_n (j := 2) (x := base + 0) dX8_house_47 rfl rfl ?_
    obtain ⟨q9, eq9, hS⟩ := ob hS
    have hq9 := rfG_is eq9
    refine gs_getPl lk_RX8_62 dX8_house_48 eq9 ?_
    obtain ⟨m11, em11, hS⟩ := ob hS
    refine gs_callVv (As := [.ref (base + q9)]) (st := []) (kr := 3) (k_X0_begin m8 3 (q9) rfl hq9 em11) cl_RX8_84 sv_X0_begin ckk_X0_begin (tk_3 _) ⟨by decide, by decide⟩ (Nat.le_of_ble_eq_true rfl) ⟨Nat.zero_le _, Nat.zero_le _⟩ rfl dX8_house_51 rfl ?_
    refine g_iconst (v := 0) dX8_house_54 (by decide) ?_
    refine g_istore_n (lvx := [(3, .int ((0 : Int32))), (2, .ref (base + q3)), (1, .int (z2.1)), (0, .ref (base + 0))]) dX8_house_55 rfl (by decide) rfl ?_
    obtain ⟨z14, ez14, hS⟩ := ob hS
    refine g_sub (lvx := [(0, .ref (base + 0)), (1, .int (z2.1)), (3, .int ((0 : Int32)))]) [3, 2, 0] rfl ?_
    refine iter_ind (fun vv => G l D cy base RX8 cX8_house 4 (some .int) (gRm 7) (gXm yX8_house) (gZm D cy base 0 0 (some (.int out.1)) gNN (gH cy base out.2)) 56 [(0, .ref (base + 0)), (1, .int (z2.1)), (3, .int (vv.1))] [] 0 0 gNN (gH cy base vv.2)) (fun xx => G l D cy base RX8 cX8_house 4 (some .int) (gRm 7) (gXm yX8_house) (gZm D cy base 0 0 (some (.int out.1)) gNN (gH cy base out.2)) 74 [(1, .int (z2.1))] [] 0 0 gNN (gH cy base xx)) (fun vv rr hh hin hout => k_X8_house_b56  (z2.1)  vv rr hh hin (fun xx ee => hout xx ee)) gFU (((0 : Int32)), m11) z14 ez14 ?_
    show G l D cy base RX8 cX8_house 4 (some .int) (gRm 7) (gXm yX8_house) (gZm D cy base 0 0 (some (.int out.1)) gNN (gH cy base out.2)) 74 [(1, .int (z2.1))] [] 0 0 gNN (gH cy base z14)
    refine g_iload_n (j := 0) (x := z2.1) dX8_house_74 rfl rfl ?_
    obtain rfl := Option.some.inj hS
    exact g_iret rfl dX8_house_75
  · replace hS := (if_neg hc).symm.trans hS
    refine g_iload_n (j := 0) (x := z2.1) dX8_house_16 rfl rfl ?_
    obtain rfl := Option.some.inj hS
    exact g_iret rfl dX8_house_17
def f_X8_priceOf (μ : Mem) (a1 : Int32) : Option (Int32) :=
  (ldA μ 5 7 (a1)).bind fun y1 =>
  (rfG (gpl μ) isPl).bind fun q2 =>
  (ldA μ (q2 + 3) 7 (a1)).bind fun y3 =>
  some ((mxI ((0 : Int32)) ((((9 : Int32) * y1) - y3))))
set_option maxRecDepth 100000 in
set_option maxHeartbeats 4000000 in
theorem k_X8_priceOf {l : Launch} {D : va_G} {cy : Nat → ClassId} {base : Nat} (μ : Mem) (a1 : Int32)  {out : Int32} (hS : f_X8_priceOf μ a1 = some out) : gC l D cy base yX8_priceOf cX8_priceOf 2 (some .int) 1 [.ref (base + 0), .int (a1)] μ (some (.int out)) μ := by
  refine gC_of (own := RX8) (lv0 := [(0, .ref (base + 0)), (1, .int (a1))]) rfl (by decide) (Nat.le_of_ble_eq_true rfl) rfl ?_
  unfold f_X8_priceOf at hS
  refine g_iconst (v := 0) dX8_priceOf_0 (by decide) ?_
  refine g_bipush (v := 9) dX8_priceOf_1 (by decide) ?_
  refine g_aload_n (j := 0) (x := base + 0) dX8_priceOf_3 rfl rfl ?_
  refine gs_getR (r := 3) lk_RX8_19 (tk_0 _) rfl dX8_priceOf_4 ?_
  refine gs_getR (r := 4) lk_RX8_104 (tk_3 _) rfl dX8_priceOf_7 ?_
  refine gs_getR (r := 5) lk_RX8_108 (tk_4 _) rfl dX8_priceOf_10 ?_
  refine g_iload_n (j := 1) (x := a1) dX8_priceOf_13 rfl rfl ?_
  obtain ⟨y1, ey1, hS⟩ := ob hS
  refine gs_iald (tk_5 _) dX8_priceOf_14 ey1 ?_
  refine g_imul dX8_priceOf_15 ?_
  refine g_aload_n (j := 0) (x := base + 0) dX8_priceOf_16 rfl rfl ?_
  obtain ⟨q2, eq2, hS⟩ := ob hS
  have hq2 := rfG_is eq2
  refine gs_getPl lk_RX8_62 dX8_priceOf_17 eq2 ?_
  refine gs_getR (r := (q2 + 3)) lk_RX8_98 (tkPl_0 hq2 _) rfl dX8_priceOf_20 ?_
  refine g_iload_n (j := 1) (x := a1) dX8_priceOf_23 rfl rfl ?_
  obtain ⟨y3, ey3, hS⟩ := ob hS
  refine gs_iald (tkPl_3 hq2 _) dX8_priceOf_24 ey3 ?_
  refine g_isub dX8_priceOf_25 ?_
  refine gs_mmax cl_RX8_289 sv_J9_max_7cf53 (by decide) (Nat.le_of_ble_eq_true rfl) (Nat.zero_le _) (Nat.zero_le _) dX8_priceOf_26 ?_
  obtain rfl := Option.some.inj hS
  exact g_iret rfl dX8_priceOf_29
def f_X8_stair (μ : Mem) (a1 : Int32) (a2 : Int32) : Option (Int32) :=
  (rfG (gpl μ) isPl).bind fun q1 =>
  (f_X3_hasStair μ (q1) (a1)).bind fun y2 =>
  if y2 = (0 : Int32) then (
    some ((-1 : Int32))
  ) else (
    if a2 = (0 : Int32) then (
      (rfG (gpl μ) isPl).bind fun q4 =>
      (ldA μ (q4 + 1) 7 (a1)).bind fun y5 =>
      some (y5)
    ) else
    if a2 = (1 : Int32) then (
      (rfG (gpl μ) isPl).bind fun q7 =>
      (ldA μ (q7 + 2) 7 (a1)).bind fun y8 =>
      some (y8)
    ) else
    if a2 = (2 : Int32) then (
      (rfG (gpl μ) isPl).bind fun q10 =>
      (ldA μ (q10 + 3) 7 (a1)).bind fun y11 =>
      some (y11)
    ) else
    if a2 = (3 : Int32) then (
      (rfG (gpl μ) isPl).bind fun q13 =>
      (ldA μ (q13 + 4) 7 (a1)).bind fun y14 =>
      some (y14)
    ) else
    if a2 = (4 : Int32) then (
      (ldA μ 5 7 (a1)).bind fun y16 =>
      some (y16)
    ) else
    if a2 = (5 : Int32) then (
      (ldA μ 6 7 (a1)).bind fun y18 =>
      some (y18)
    ) else
    if a2 = (6 : Int32) then (
      (f_X8_priceOf μ (a1)).bind fun y20 =>
      some (y20)
    ) else
    (
      some ((-1 : Int32))
    )
  )
set_option maxRecDepth 100000 in
set_option maxHeartbeats 4000000 in
theorem k_X8_stair {l : Launch} {D : va_G} {cy : Nat → ClassId} {base : Nat} (μ : Mem) (a1 : Int32) (a2 : Int32)  {out : Int32} (hS : f_X8_stair μ a1 a2 = some out) : gC l D cy base yX8_stair cX8_stair 3 (some .int) 2 [.ref (base + 0), .int (a1), .int (a2)] μ (some (.int out)) μ := by
  refine gC_of (own := RX8) (lv0 := [(0, .ref (base + 0)), (1, .int (a1)), (2, .int (a2))]) rfl (by decide) (Nat.le_of_ble_eq_true rfl) rfl ?_
  unfold f_X8_stair at hS
  refine g_aload_n (j := 0) (x := base + 0) dX8_stair_0 rfl rfl ?_
  obtain ⟨q1, eq1, hS⟩ := ob hS
  have hq1 := rfG_is eq1
  refine gs_getPl lk_RX8_62 dX8_stair_1 eq1 ?_
  refine g_iload_n (j := 1) (x := a1) dX8_stair_4 rfl rfl ?_
  obtain ⟨y2, ey2, hS⟩ := ob hS
  refine gs_callVi (As := [.int (a1)]) (st := []) (kr := q1) (k_X3_hasStair μ (q1) (a1) hq1 ey2) cl_RX8_88 sv_X3_hasStair ckk_X3_hasStair (tkPl_0 hq1 _) ⟨by decide, by decide⟩ (Nat.le_of_ble_eq_true rfl) ⟨Nat.zero_le _, Nat.zero_le _⟩ rfl dX8_stair_5 rfl ?_
  refine g_if_ne 13 dX8_stair_8 (by decide) (fun hc => ?_) (fun hc => ?_)
  · replace hS := (if_neg hc).symm.trans hS
    refine g_iload_n (j := 2) (x := a2) dX8_stair_13 rfl rfl ?_
    by_cases hs3 : a2 = (0 : Int32)
    · replace hS := (if_pos hs3).symm.trans hS
      refine gs_table hs3 56 dX8_stair_14 (by decide) (by decide) rfl (by decide) ?_
      refine g_aload_n (j := 0) (x := base + 0) dX8_stair_56 rfl rfl ?_
      obtain ⟨q4, eq4, hS⟩ := ob hS
      have hq4 := rfG_is eq4
      refine gs_getPl lk_RX8_62 dX8_stair_57 eq4 ?_
      refine gs_getR (r := (q4 + 1)) lk_RX8_91 (tkPl_0 hq4 _) rfl dX8_stair_60 ?_
      refine g_iload_n (j := 1) (x := a1) dX8_stair_63 rfl rfl ?_
      obtain ⟨y5, ey5, hS⟩ := ob hS
      refine gs_iald (tkPl_1 hq4 _) dX8_stair_64 ey5 ?_
      obtain rfl := Option.some.inj hS
      exact g_iret rfl dX8_stair_65
    replace hS := (if_neg hs3).symm.trans hS
    by_cases hs6 : a2 = (1 : Int32)
    · replace hS := (if_pos hs6).symm.trans hS
      refine gs_table hs6 66 dX8_stair_14 (by decide) (by decide) rfl (by decide) ?_
      refine g_aload_n (j := 0) (x := base + 0) dX8_stair_66 rfl rfl ?_
      obtain ⟨q7, eq7, hS⟩ := ob hS
      have hq7 := rfG_is eq7
      refine gs_getPl lk_RX8_62 dX8_stair_67 eq7 ?_
      refine gs_getR (r := (q7 + 2)) lk_RX8_95 (tkPl_0 hq7 _) rfl dX8_stair_70 ?_
      refine g_iload_n (j := 1) (x := a1) dX8_stair_73 rfl rfl ?_
      obtain ⟨y8, ey8, hS⟩ := ob hS
      refine gs_iald (tkPl_2 hq7 _) dX8_stair_74 ey8 ?_
      obtain rfl := Option.some.inj hS
      exact g_iret rfl dX8_stair_75
    replace hS := (if_neg hs6).symm.trans hS
    by_cases hs9 : a2 = (2 : Int32)
    · replace hS := (if_pos hs9).symm.trans hS
      refine gs_table hs9 76 dX8_stair_14 (by decide) (by decide) rfl (by decide) ?_
      refine g_aload_n (j := 0) (x := base + 0) dX8_stair_76 rfl rfl ?_
      obtain ⟨q10, eq10, hS⟩ := ob hS
      have hq10 := rfG_is eq10
      refine gs_getPl lk_RX8_62 dX8_stair_77 eq10 ?_
      refine gs_getR (r := (q10 + 3)) lk_RX8_98 (tkPl_0 hq10 _) rfl dX8_stair_80 ?_
      refine g_iload_n (j := 1) (x := a1) dX8_stair_83 rfl rfl ?_
      obtain ⟨y11, ey11, hS⟩ := ob hS
      refine gs_iald (tkPl_3 hq10 _) dX8_stair_84 ey11 ?_
      obtain rfl := Option.some.inj hS
      exact g_iret rfl dX8_stair_85
    replace hS := (if_neg hs9).symm.trans hS
    by_cases hs12 : a2 = (3 : Int32)
    · replace hS := (if_pos hs12).symm.trans hS
      refine gs_table hs12 86 dX8_stair_14 (by decide) (by decide) rfl (by decide) ?_
      refine g_aload_n (j := 0) (x := base + 0) dX8_stair_86 rfl rfl ?_
      obtain ⟨q13, eq13, hS⟩ := ob hS
      have hq13 := rfG_is eq13
      refine gs_getPl lk_RX8_62 dX8_stair_87 eq13 ?_
      refine gs_getR (r := (q13 + 4)) lk_RX8_101 (tkPl_0 hq13 _) rfl dX8_stair_90 ?_
      refine g_iload_n (j := 1) (x := a1) dX8_stair_93 rfl rfl ?_
      obtain ⟨y14, ey14, hS⟩ := ob hS
      refine gs_iald (tkPl_4 hq13 _) dX8_stair_94 ey14 ?_
      obtain rfl := Option.some.inj hS
      exact g_iret rfl dX8_stair_95
    replace hS := (if_neg hs12).symm.trans hS
    by_cases hs15 : a2 = (4 : Int32)
    · replace hS := (if_pos hs15).symm.trans hS
      refine gs_table hs15 96 dX8_stair_14 (by decide) (by decide) rfl (by decide) ?_
      refine g_aload_n (j := 0) (x := base + 0) dX8_stair_96 rfl rfl ?_
      refine gs_getR (r := 3) lk_RX8_19 (tk_0 _) rfl dX8_stair_97 ?_
      refine gs_getR (r := 4) lk_RX8_104 (tk_3 _) rfl dX8_stair_100 ?_
      refine gs_getR (r := 5) lk_RX8_108 (tk_4 _) rfl dX8_stair_103 ?_
      refine g_iload_n (j := 1) (x := a1) dX8_stair_106 rfl rfl ?_
      obtain ⟨y16, ey16, hS⟩ := ob hS
      refine gs_iald (tk_5 _) dX8_stair_107 ey16 ?_
      obtain rfl := Option.some.inj hS
      exact g_iret rfl dX8_stair_108
    replace hS := (if_neg hs15).symm.trans hS
    by_cases hs17 : a2 = (5 : Int32)
    · replace hS := (if_pos hs17).symm.trans hS
      refine gs_table hs17 109 dX8_stair_14 (by decide) (by decide) rfl (by decide) ?_
      refine g_aload_n (j := 0) (x := base + 0) dX8_stair_109 rfl rfl ?_
      refine gs_getR (r := 3) lk_RX8_19 (tk_0 _) rfl dX8_stair_110 ?_
      refine gs_getR (r := 4) lk_RX8_104 (tk_3 _) rfl dX8_stair_113 ?_
      refine gs_getR (r := 6) lk_RX8_113 (tk_4 _) rfl dX8_stair_116 ?_
      refine g_iload_n (j := 1) (x := a1) dX8_stair_119 rfl rfl ?_
      obtain ⟨y18, ey18, hS⟩ := ob hS
      refine gs_iald (tk_6 _) dX8_stair_120 ey18 ?_
      obtain rfl := Option.some.inj hS
      exact g_iret rfl dX8_stair_121
    replace hS := (if_neg hs17).symm.trans hS
    by_cases hs19 : a2 = (6 : Int32)
    · replace hS := (if_pos hs19).symm.trans hS
      refine gs_table hs19 122 dX8_stair_14 (by decide) (by decide) rfl (by decide) ?_
      refine g_aload_n (j := 0) (x := base + 0) dX8_stair_122 rfl rfl ?_
      refine g_iload_n (j := 1) (x := a1) dX8_stair_123 rfl rfl ?_
      obtain ⟨y20, ey20, hS⟩ := ob hS
      refine gs_callVi (As := [.int (a1)]) (st := []) (kr := 0) (k_X8_priceOf μ (a1)  ey20) cl_RX8_116 sv_X8_priceOf ckk_X8_priceOf (tk_0 _) ⟨by decide, by decide⟩ (Nat.le_of_ble_eq_true rfl) ⟨Nat.zero_le _, Nat.zero_le _⟩ rfl dX8_stair_124 rfl ?_
      obtain rfl := Option.some.inj hS
      exact g_iret rfl dX8_stair_127
    replace hS := (if_neg hs19).symm.trans hS
    refine gs_tableOut 7 128 dX8_stair_14 (by decide) (by decide) (fun j hj => by match j, hj with | 0, _ => exact hs3 | 1, _ => exact hs6 | 2, _ => exact hs9 | 3, _ => exact hs12 | 4, _ => exact hs15 | 5, _ => exact hs17 | 6, _ => exact hs19 | j + 7, hj => exact absurd hj (by omega)) (by decide) ?_
    refine g_iconst (v := -1) dX8_stair_128 (by decide) ?_
    obtain rfl := Option.some.inj hS
    exact g_iret rfl dX8_stair_129
  · replace hS := (if_pos hc).symm.trans hS
    refine g_iconst (v := -1) dX8_stair_11 (by decide) ?_
    obtain rfl := Option.some.inj hS
    exact g_iret rfl dX8_stair_12
def f_X8_person (μ : Mem) (a1 : Int32) (a2 : Int32) : Option (Int32) :=
  (rfG (gpl μ) isPl).bind fun q1 =>
  (f_X3_hasPerson μ (q1) (a1)).bind fun y2 =>
  if y2 = (0 : Int32) then (
    some ((-1 : Int32))
  ) else (
    if a2 = (0 : Int32) then (
      (rfG (gpl μ) isPl).bind fun q4 =>
      (ldA μ (q4 + 5) 5 (a1)).bind fun y5 =>
      some (y5)
    ) else
    if a2 = (1 : Int32) then (
      (rfG (gpl μ) isPl).bind fun q7 =>
      (ldA μ (q7 + 6) 5 (a1)).bind fun y8 =>
      some (y8)
    ) else
    if a2 = (2 : Int32) then (
      (rfG (gpl μ) isPl).bind fun q10 =>
      (ldA μ (q10 + 7) 5 (a1)).bind fun y11 =>
      some (y11)
    ) else
    (
      some ((-1 : Int32))
    )
  )
set_option maxRecDepth 100000 in
set_option maxHeartbeats 4000000 in
theorem k_X8_person {l : Launch} {D : va_G} {cy : Nat → ClassId} {base : Nat} (μ : Mem) (a1 : Int32) (a2 : Int32)  {out : Int32} (hS : f_X8_person μ a1 a2 = some out) : gC l D cy base yX8_person cX8_person 3 (some .int) 1 [.ref (base + 0), .int (a1), .int (a2)] μ (some (.int out)) μ := by
  refine gC_of (own := RX8) (lv0 := [(0, .ref (base + 0)), (1, .int (a1)), (2, .int (a2))]) rfl (by decide) (Nat.le_of_ble_eq_true rfl) rfl ?_
  unfold f_X8_person at hS
  refine g_aload_n (j := 0) (x := base + 0) dX8_person_0 rfl rfl ?_
  obtain ⟨q1, eq1, hS⟩ := ob hS
  have hq1 := rfG_is eq1
  refine gs_getPl lk_RX8_62 dX8_person_1 eq1 ?_
  refine g_iload_n (j := 1) (x := a1) dX8_person_4 rfl rfl ?_
  obtain ⟨y2, ey2, hS⟩ := ob hS
  refine gs_callVi (As := [.int (a1)]) (st := []) (kr := q1) (k_X3_hasPerson μ (q1) (a1) hq1 ey2) cl_RX8_120 sv_X3_hasPerson ckk_X3_hasPerson (tkPl_0 hq1 _) ⟨by decide, by decide⟩ (Nat.le_of_ble_eq_true rfl) ⟨Nat.zero_le _, Nat.zero_le _⟩ rfl dX8_person_5 rfl ?_
  refine g_if_ne 13 dX8_person_8 (by decide) (fun hc => ?_) (fun hc => ?_)
  · replace hS := (if_neg hc).symm.trans hS
    refine g_iload_n (j := 2) (x := a2) dX8_person_13 rfl rfl ?_
    by_cases hs3 : a2 = (0 : Int32)
    · replace hS := (if_pos hs3).symm.trans hS
      refine gs_table hs3 40 dX8_person_14 (by decide) (by decide) rfl (by decide) ?_
      refine g_aload_n (j := 0) (x := base + 0) dX8_person_40 rfl rfl ?_
      obtain ⟨q4, eq4, hS⟩ := ob hS
      have hq4 := rfG_is eq4
      refine gs_getPl lk_RX8_62 dX8_person_41 eq4 ?_
      refine gs_getR (r := (q4 + 5)) lk_RX8_123 (tkPl_0 hq4 _) rfl dX8_person_44 ?_
      refine g_iload_n (j := 1) (x := a1) dX8_person_47 rfl rfl ?_
      obtain ⟨y5, ey5, hS⟩ := ob hS
      refine gs_iald (tkPl_5 hq4 _) dX8_person_48 ey5 ?_
      obtain rfl := Option.some.inj hS
      exact g_iret rfl dX8_person_49
    replace hS := (if_neg hs3).symm.trans hS
    by_cases hs6 : a2 = (1 : Int32)
    · replace hS := (if_pos hs6).symm.trans hS
      refine gs_table hs6 50 dX8_person_14 (by decide) (by decide) rfl (by decide) ?_
      refine g_aload_n (j := 0) (x := base + 0) dX8_person_50 rfl rfl ?_
      obtain ⟨q7, eq7, hS⟩ := ob hS
      have hq7 := rfG_is eq7
      refine gs_getPl lk_RX8_62 dX8_person_51 eq7 ?_
      refine gs_getR (r := (q7 + 6)) lk_RX8_126 (tkPl_0 hq7 _) rfl dX8_person_54 ?_
      refine g_iload_n (j := 1) (x := a1) dX8_person_57 rfl rfl ?_
      obtain ⟨y8, ey8, hS⟩ := ob hS
      refine gs_iald (tkPl_6 hq7 _) dX8_person_58 ey8 ?_
      obtain rfl := Option.some.inj hS
      exact g_iret rfl dX8_person_59
    replace hS := (if_neg hs6).symm.trans hS
    by_cases hs9 : a2 = (2 : Int32)
    · replace hS := (if_pos hs9).symm.trans hS
      refine gs_table hs9 60 dX8_person_14 (by decide) (by decide) rfl (by decide) ?_
      refine g_aload_n (j := 0) (x := base + 0) dX8_person_60 rfl rfl ?_
      obtain ⟨q10, eq10, hS⟩ := ob hS
      have hq10 := rfG_is eq10
      refine gs_getPl lk_RX8_62 dX8_person_61 eq10 ?_
      refine gs_getR (r := (q10 + 7)) lk_RX8_129 (tkPl_0 hq10 _) rfl dX8_person_64 ?_
      refine g_iload_n (j := 1) (x := a1) dX8_person_67 rfl rfl ?_
      obtain ⟨y11, ey11, hS⟩ := ob hS
      refine gs_iald (tkPl_7 hq10 _) dX8_person_68 ey11 ?_
      obtain rfl := Option.some.inj hS
      exact g_iret rfl dX8_person_69
    replace hS := (if_neg hs9).symm.trans hS
    refine gs_tableOut 3 70 dX8_person_14 (by decide) (by decide) (fun j hj => by match j, hj with | 0, _ => exact hs3 | 1, _ => exact hs6 | 2, _ => exact hs9 | j + 3, hj => exact absurd hj (by omega)) (by decide) ?_
    refine g_iconst (v := -1) dX8_person_70 (by decide) ?_
    obtain rfl := Option.some.inj hS
    exact g_iret rfl dX8_person_71
  · replace hS := (if_pos hc).symm.trans hS
    refine g_iconst (v := -1) dX8_person_11 (by decide) ?_
    obtain rfl := Option.some.inj hS
    exact g_iret rfl dX8_person_12
def f_X8_bond (μ : Mem) (a1 : Int32) (a2 : Int32) : Option (Int32) :=
  (rfG (gpl μ) isPl).bind fun q1 =>
  (f_X3_hasTwoStairs μ (q1) (a1) (a2)).bind fun y2 =>
  if y2 = (0 : Int32) then (
    some ((-1 : Int32))
  ) else (
    (f_X8_bondAt μ (a1) (a2)).bind fun y3 =>
    (ldA μ 7 49 (y3)).bind fun y4 =>
    some (y4)
  )
set_option maxRecDepth 100000 in
set_option maxHeartbeats 4000000 in
theorem k_X8_bond {l : Launch} {D : va_G} {cy : Nat → ClassId} {base : Nat} (μ : Mem) (a1 : Int32) (a2 : Int32)  {out : Int32} (hS : f_X8_bond μ a1 a2 = some out) : gC l D cy base yX8_bond cX8_bond 3 (some .int) 2 [.ref (base + 0), .int (a1), .int (a2)] μ (some (.int out)) μ := by
  refine gC_of (own := RX8) (lv0 := [(0, .ref (base + 0)), (1, .int (a1)), (2, .int (a2))]) rfl (by decide) (Nat.le_of_ble_eq_true rfl) rfl ?_
  unfold f_X8_bond at hS
  refine g_aload_n (j := 0) (x := base + 0) dX8_bond_0 rfl rfl ?_
  obtain ⟨q1, eq1, hS⟩ := ob hS
  have hq1 := rfG_is eq1
  refine gs_getPl lk_RX8_62 dX8_bond_1 eq1 ?_
  refine g_iload_n (j := 1) (x := a1) dX8_bond_4 rfl rfl ?_
  refine g_iload_n (j := 2) (x := a2) dX8_bond_5 rfl rfl ?_
  obtain ⟨y2, ey2, hS⟩ := ob hS
  refine gs_callVi (As := [.int (a1), .int (a2)]) (st := []) (kr := q1) (k_X3_hasTwoStairs μ (q1) (a1) (a2) hq1 ey2) cl_RX8_132 sv_X3_hasTwoStairs ckk_X3_hasTwoStairs (tkPl_0 hq1 _) ⟨by decide, by decide⟩ (Nat.le_of_ble_eq_true rfl) ⟨Nat.zero_le _, Nat.zero_le _⟩ rfl dX8_bond_6 rfl ?_
  refine g_if_eq 31 dX8_bond_9 (by decide) (fun hc => ?_) (fun hc => ?_)
  · replace hS := (if_pos hc).symm.trans hS
    refine g_iconst (v := -1) dX8_bond_31 (by decide) ?_
    obtain rfl := Option.some.inj hS
    exact g_iret rfl dX8_bond_32
  · replace hS := (if_neg hc).symm.trans hS
    refine g_aload_n (j := 0) (x := base + 0) dX8_bond_12 rfl rfl ?_
    refine gs_getR (r := 3) lk_RX8_19 (tk_0 _) rfl dX8_bond_13 ?_
    refine gs_getR (r := 4) lk_RX8_104 (tk_3 _) rfl dX8_bond_16 ?_
    refine gs_getR (r := 7) lk_RX8_136 (tk_4 _) rfl dX8_bond_19 ?_
    refine g_iload_n (j := 1) (x := a1) dX8_bond_22 rfl rfl ?_
    refine g_iload_n (j := 2) (x := a2) dX8_bond_23 rfl rfl ?_
    obtain ⟨y3, ey3, hS⟩ := ob hS
    refine gs_callSi (As := [.int (a1), .int (a2)]) (st := [.ref (base + 7)]) (k_X8_bondAt μ (a1) (a2)  ey3) cl_RX8_139 sv_X8_bondAt ⟨by decide, by decide⟩ (Nat.le_of_ble_eq_true rfl) ⟨Nat.zero_le _, Nat.zero_le _⟩ rfl dX8_bond_24 rfl ?_
    obtain ⟨y4, ey4, hS⟩ := ob hS
    refine gs_iald (tk_7 _) dX8_bond_27 ey4 ?_
    refine g_goto 32 dX8_bond_28 (by decide) ?_
    obtain rfl := Option.some.inj hS
    exact g_iret rfl dX8_bond_32
def f_X8_falls (μ : Mem) (a1 : Int32) (a2 : Int32) : Option (Int32 × Mem) :=
  (rfG (gpl μ) isPl).bind fun q1 =>
  (f_X3_hasPerson μ (q1) (a1)).bind fun y2 =>
  if y2 = (0 : Int32) then (
    some ((-1 : Int32), μ)
  ) else (
    (rfG (gpl μ) isPl).bind fun q3 =>
    (f_X3_hasStair μ (q3) (a2)).bind fun y4 =>
    if y4 = (0 : Int32) then (
      some ((-1 : Int32), μ)
    ) else (
      (f_X0_remember μ 3).bind fun m6 =>
      (rfG (gpl m6) isPl).bind fun q7 =>
      (ldA m6 (q7 + 7) 5 (a1)).bind fun y8 =>
      (f_X1_addHurt m6 4 (y8)).bind fun m10 =>
      (rfG (gpl m10) isPl).bind fun q11 =>
      (f_X3_halvesOf m10 (q11) (a1)).bind fun y12 =>
      (f_X1_lessen m10 4 (a2) (y12)).bind fun z13 =>
      some (z13.1, z13.2)
    )
  )
set_option maxRecDepth 100000 in
set_option maxHeartbeats 4000000 in
theorem k_X8_falls {l : Launch} {D : va_G} {cy : Nat → ClassId} {base : Nat} (μ : Mem) (a1 : Int32) (a2 : Int32)  {out : Int32 × Mem} (hS : f_X8_falls μ a1 a2 = some out) : gC l D cy base yX8_falls cX8_falls 3 (some .int) 3 [.ref (base + 0), .int (a1), .int (a2)] μ (some (.int out.1)) out.2 := by
  refine gC_of (own := RX8) (lv0 := [(0, .ref (base + 0)), (1, .int (a1)), (2, .int (a2))]) rfl (by decide) (Nat.le_of_ble_eq_true rfl) rfl ?_
  unfold f_X8_falls at hS
  refine g_aload_n (j := 0) (x := base + 0) dX8_falls_0 rfl rfl ?_
  obtain ⟨q1, eq1, hS⟩ := ob hS
  have hq1 := rfG_is eq1
  refine gs_getPl lk_RX8_62 dX8_falls_1 eq1 ?_
  refine g_iload_n (j := 1) (x := a1) dX8_falls_4 rfl rfl ?_
  obtain ⟨y2, ey2, hS⟩ := ob hS
  refine gs_callVi (As := [.int (a1)]) (st := []) (kr := q1) (k_X3_hasPerson μ (q1) (a1) hq1 ey2) cl_RX8_120 sv_X3_hasPerson ckk_X3_hasPerson (tkPl_0 hq1 _) ⟨by decide, by decide⟩ (Nat.le_of_ble_eq_true rfl) ⟨Nat.zero_le _, Nat.zero_le _⟩ rfl dX8_falls_5 rfl ?_
  refine g_if_eq 22 dX8_falls_8 (by decide) (fun hc => ?_) (fun hc => ?_)
  · replace hS := (if_pos hc).symm.trans hS
    refine g_iconst (v := -1) dX8_falls_22 (by decide) ?_
    obtain rfl := Option.some.inj hS
    exact g_iret rfl dX8_falls_23
  · replace hS := (if_neg hc).symm.trans hS
    refine g_aload_n (j := 0) (x := base + 0) dX8_falls_11 rfl rfl ?_
    obtain ⟨q3, eq3, hS⟩ := ob hS
    have hq3 := rfG_is eq3
    refine gs_getPl lk_RX8_62 dX8_falls_12 eq3 ?_
    refine g_iload_n (j := 2) (x := a2) dX8_falls_15 rfl rfl ?_
    obtain ⟨y4, ey4, hS⟩ := ob hS
    refine gs_callVi (As := [.int (a2)]) (st := []) (kr := q3) (k_X3_hasStair μ (q3) (a2) hq3 ey4) cl_RX8_88 sv_X3_hasStair ckk_X3_hasStair (tkPl_0 hq3 _) ⟨by decide, by decide⟩ (Nat.le_of_ble_eq_true rfl) ⟨Nat.zero_le _, Nat.zero_le _⟩ rfl dX8_falls_16 rfl ?_
    refine g_if_ne 24 dX8_falls_19 (by decide) (fun hc => ?_) (fun hc => ?_)
    · replace hS := (if_neg hc).symm.trans hS
      refine g_aload_n (j := 0) (x := base + 0) dX8_falls_24 rfl rfl ?_
      refine gs_getR (r := 3) lk_RX8_19 (tk_0 _) rfl dX8_falls_25 ?_
      obtain ⟨m6, em6, hS⟩ := ob hS
      refine gs_callVv (As := []) (st := []) (kr := 3) (k_X0_remember μ 3 rfl em6) cl_RX8_143 sv_X0_remember ckk_X0_remember (tk_3 _) ⟨by decide, by decide⟩ (Nat.le_of_ble_eq_true rfl) ⟨Nat.zero_le _, Nat.zero_le _⟩ rfl dX8_falls_28 rfl ?_
      refine g_aload_n (j := 0) (x := base + 0) dX8_falls_31 rfl rfl ?_
      refine gs_getR (r := 3) lk_RX8_19 (tk_0 _) rfl dX8_falls_32 ?_
      refine gs_getR (r := 4) lk_RX8_104 (tk_3 _) rfl dX8_falls_35 ?_
      refine g_aload_n (j := 0) (x := base + 0) dX8_falls_38 rfl rfl ?_
      obtain ⟨q7, eq7, hS⟩ := ob hS
      have hq7 := rfG_is eq7
      refine gs_getPl lk_RX8_62 dX8_falls_39 eq7 ?_
      refine gs_getR (r := (q7 + 7)) lk_RX8_129 (tkPl_0 hq7 _) rfl dX8_falls_42 ?_
      refine g_iload_n (j := 1) (x := a1) dX8_falls_45 rfl rfl ?_
      obtain ⟨y8, ey8, hS⟩ := ob hS
      refine gs_iald (tkPl_7 hq7 _) dX8_falls_46 ey8 ?_
      obtain ⟨m10, em10, hS⟩ := ob hS
      refine gs_callVv (As := [.int (y8)]) (st := []) (kr := 4) (k_X1_addHurt m6 4 (y8) rfl em10) cl_RX8_146 sv_X1_addHurt ckk_X1_addHurt (tk_4 _) ⟨by decide, by decide⟩ (Nat.le_of_ble_eq_true rfl) ⟨Nat.zero_le _, Nat.zero_le _⟩ rfl dX8_falls_47 rfl ?_
      refine g_aload_n (j := 0) (x := base + 0) dX8_falls_50 rfl rfl ?_
      refine gs_getR (r := 3) lk_RX8_19 (tk_0 _) rfl dX8_falls_51 ?_
      refine gs_getR (r := 4) lk_RX8_104 (tk_3 _) rfl dX8_falls_54 ?_
      refine g_iload_n (j := 2) (x := a2) dX8_falls_57 rfl rfl ?_
      refine g_aload_n (j := 0) (x := base + 0) dX8_falls_58 rfl rfl ?_
      obtain ⟨q11, eq11, hS⟩ := ob hS
      have hq11 := rfG_is eq11
      refine gs_getPl lk_RX8_62 dX8_falls_59 eq11 ?_
      refine g_iload_n (j := 1) (x := a1) dX8_falls_62 rfl rfl ?_
      obtain ⟨y12, ey12, hS⟩ := ob hS
      refine gs_callVi (As := [.int (a1)]) (st := [.int (a2), .ref (base + 4)]) (kr := q11) (k_X3_halvesOf m10 (q11) (a1) hq11 ey12) cl_RX8_150 sv_X3_halvesOf ckk_X3_halvesOf (tkPl_0 hq11 _) ⟨by decide, by decide⟩ (Nat.le_of_ble_eq_true rfl) ⟨Nat.zero_le _, Nat.zero_le _⟩ rfl dX8_falls_63 rfl ?_
      obtain ⟨z13, ez13, hS⟩ := ob hS
      refine gs_callVi (As := [.int (a2), .int (y12)]) (st := []) (kr := 4) (k_X1_lessen m10 4 (a2) (y12) rfl ez13) cl_RX8_153 sv_X1_lessen ckk_X1_lessen (tk_4 _) ⟨by decide, by decide⟩ (Nat.le_of_ble_eq_true rfl) ⟨Nat.zero_le _, Nat.zero_le _⟩ rfl dX8_falls_66 rfl ?_
      obtain rfl := Option.some.inj hS
      exact g_iret rfl dX8_falls_69
    · replace hS := (if_pos hc).symm.trans hS
      refine g_iconst (v := -1) dX8_falls_22 (by decide) ?_
      obtain rfl := Option.some.inj hS
      exact g_iret rfl dX8_falls_23
def f_X8_together (μ : Mem) (a1 : Int32) (a2 : Int32) (a3 : Int32) : Option (Int32 × Mem) :=
  (rfG (gpl μ) isPl).bind fun q1 =>
  (f_X3_hasPerson μ (q1) (a1)).bind fun y2 =>
  if y2 = (0 : Int32) then (
    some ((-1 : Int32), μ)
  ) else (
    (rfG (gpl μ) isPl).bind fun q3 =>
    (f_X3_hasPerson μ (q3) (a2)).bind fun y4 =>
    if y4 = (0 : Int32) then (
      some ((-1 : Int32), μ)
    ) else (
      if a1 = a2 then (
        some ((-1 : Int32), μ)
      ) else (
        (rfG (gpl μ) isPl).bind fun q5 =>
        (f_X3_hasStair μ (q5) (a3)).bind fun y6 =>
        if y6 = (0 : Int32) then (
          some ((-1 : Int32), μ)
        ) else (
          (f_X0_remember μ 3).bind fun m8 =>
          (rfG (gpl m8) isPl).bind fun q9 =>
          (ldA m8 (q9 + 7) 5 (a1)).bind fun y10 =>
          (rfG (gpl m8) isPl).bind fun q11 =>
          (ldA m8 (q11 + 7) 5 (a2)).bind fun y12 =>
          (f_X1_addHurt m8 4 ((y10 + y12))).bind fun m14 =>
          (rfG (gpl m14) isPl).bind fun q15 =>
          (f_X1_lessen m14 4 (a3) ((gi m14 q15 10))).bind fun z16 =>
          some (z16.1, z16.2)
        )
      )
    )
  )
set_option maxRecDepth 100000 in
set_option maxHeartbeats 4000000 in
theorem k_X8_together {l : Launch} {D : va_G} {cy : Nat → ClassId} {base : Nat} (μ : Mem) (a1 : Int32) (a2 : Int32) (a3 : Int32)  {out : Int32 × Mem} (hS : f_X8_together μ a1 a2 a3 = some out) : gC l D cy base yX8_together cX8_together 4 (some .int) 3 [.ref (base + 0), .int (a1), .int (a2), .int (a3)] μ (some (.int out.1)) out.2 := by
  refine gC_of (own := RX8) (lv0 := [(0, .ref (base + 0)), (1, .int (a1)), (2, .int (a2)), (3, .int (a3))]) rfl (by decide) (Nat.le_of_ble_eq_true rfl) rfl ?_
  unfold f_X8_together at hS
  refine g_aload_n (j := 0) (x := base + 0) dX8_together_0 rfl rfl ?_
  obtain ⟨q1, eq1, hS⟩ := ob hS
  have hq1 := rfG_is eq1
  refine gs_getPl lk_RX8_62 dX8_together_1 eq1 ?_
  refine g_iload_n (j := 1) (x := a1) dX8_together_4 rfl rfl ?_
  obtain ⟨y2, ey2, hS⟩ := ob hS
  refine gs_callVi (As := [.int (a1)]) (st := []) (kr := q1) (k_X3_hasPerson μ (q1) (a1) hq1 ey2) cl_RX8_120 sv_X3_hasPerson ckk_X3_hasPerson (tkPl_0 hq1 _) ⟨by decide, by decide⟩ (Nat.le_of_ble_eq_true rfl) ⟨Nat.zero_le _, Nat.zero_le _⟩ rfl dX8_together_5 rfl ?_
  refine g_if_eq 38 dX8_together_8 (by decide) (fun hc => ?_) (fun hc => ?_)
  · replace hS := (if_pos hc).symm.trans hS
    refine g_iconst (v := -1) dX8_together_38 (by decide) ?_
    obtain rfl := Option.some.inj hS
    exact g_iret rfl dX8_together_39
  · replace hS := (if_neg hc).symm.trans hS
    refine g_aload_n (j := 0) (x := base + 0) dX8_together_11 rfl rfl ?_
    obtain ⟨q3, eq3, hS⟩ := ob hS
    have hq3 := rfG_is eq3
    refine gs_getPl lk_RX8_62 dX8_together_12 eq3 ?_
    refine g_iload_n (j := 2) (x := a2) dX8_together_15 rfl rfl ?_
    obtain ⟨y4, ey4, hS⟩ := ob hS
    refine gs_callVi (As := [.int (a2)]) (st := []) (kr := q3) (k_X3_hasPerson μ (q3) (a2) hq3 ey4) cl_RX8_120 sv_X3_hasPerson ckk_X3_hasPerson (tkPl_0 hq3 _) ⟨by decide, by decide⟩ (Nat.le_of_ble_eq_true rfl) ⟨Nat.zero_le _, Nat.zero_le _⟩ rfl dX8_together_16 rfl ?_
    refine g_if_eq 38 dX8_together_19 (by decide) (fun hc => ?_) (fun hc => ?_)
    · replace hS := (if_pos hc).symm.trans hS
      refine g_iconst (v := -1) dX8_together_38 (by decide) ?_
      obtain rfl := Option.some.inj hS
      exact g_iret rfl dX8_together_39
    · replace hS := (if_neg hc).symm.trans hS
      refine g_iload_n (j := 1) (x := a1) dX8_together_22 rfl rfl ?_
      refine g_iload_n (j := 2) (x := a2) dX8_together_23 rfl rfl ?_
      refine g_icmp_eq 38 dX8_together_24 (by decide) (fun hc => ?_) (fun hc => ?_)
      · replace hS := (if_pos hc).symm.trans hS
        refine g_iconst (v := -1) dX8_together_38 (by decide) ?_
        obtain rfl := Option.some.inj hS
        exact g_iret rfl dX8_together_39
      · replace hS := (if_neg hc).symm.trans hS
        refine g_aload_n (j := 0) (x := base + 0) dX8_together_27 rfl rfl ?_
        obtain ⟨q5, eq5, hS⟩ := ob hS
        have hq5 := rfG_is eq5
        refine gs_getPl lk_RX8_62 dX8_together_28 eq5 ?_
        refine g_iload_n (j := 3) (x := a3) dX8_together_31 rfl rfl ?_
        obtain ⟨y6, ey6, hS⟩ := ob hS
        refine gs_callVi (As := [.int (a3)]) (st := []) (kr := q5) (k_X3_hasStair μ (q5) (a3) hq5 ey6) cl_RX8_88 sv_X3_hasStair ckk_X3_hasStair (tkPl_0 hq5 _) ⟨by decide, by decide⟩ (Nat.le_of_ble_eq_true rfl) ⟨Nat.zero_le _, Nat.zero_le _⟩ rfl dX8_together_32 rfl ?_
        refine g_if_ne 40 dX8_together_35 (by decide) (fun hc => ?_) (fun hc => ?_)
        · replace hS := (if_neg hc).symm.trans hS
          refine g_aload_n (j := 0) (x := base + 0) dX8_together_40 rfl rfl ?_
          refine gs_getR (r := 3) lk_RX8_19 (tk_0 _) rfl dX8_together_41 ?_
          obtain ⟨m8, em8, hS⟩ := ob hS
          refine gs_callVv (As := []) (st := []) (kr := 3) (k_X0_remember μ 3 rfl em8) cl_RX8_143 sv_X0_remember ckk_X0_remember (tk_3 _) ⟨by decide, by decide⟩ (Nat.le_of_ble_eq_true rfl) ⟨Nat.zero_le _, Nat.zero_le _⟩ rfl dX8_together_44 rfl ?_
          refine g_aload_n (j := 0) (x := base + 0) dX8_together_47 rfl rfl ?_
          refine gs_getR (r := 3) lk_RX8_19 (tk_0 _) rfl dX8_together_48 ?_
          refine gs_getR (r := 4) lk_RX8_104 (tk_3 _) rfl dX8_together_51 ?_
          refine g_aload_n (j := 0) (x := base + 0) dX8_together_54 rfl rfl ?_
          obtain ⟨q9, eq9, hS⟩ := ob hS
          have hq9 := rfG_is eq9
          refine gs_getPl lk_RX8_62 dX8_together_55 eq9 ?_
          refine gs_getR (r := (q9 + 7)) lk_RX8_129 (tkPl_0 hq9 _) rfl dX8_together_58 ?_
          refine g_iload_n (j := 1) (x := a1) dX8_together_61 rfl rfl ?_
          obtain ⟨y10, ey10, hS⟩ := ob hS
          refine gs_iald (tkPl_7 hq9 _) dX8_together_62 ey10 ?_
          refine g_aload_n (j := 0) (x := base + 0) dX8_together_63 rfl rfl ?_
          obtain ⟨q11, eq11, hS⟩ := ob hS
          have hq11 := rfG_is eq11
          refine gs_getPl lk_RX8_62 dX8_together_64 eq11 ?_
          refine gs_getR (r := (q11 + 7)) lk_RX8_129 (tkPl_0 hq11 _) rfl dX8_together_67 ?_
          refine g_iload_n (j := 2) (x := a2) dX8_together_70 rfl rfl ?_
          obtain ⟨y12, ey12, hS⟩ := ob hS
          refine gs_iald (tkPl_7 hq11 _) dX8_together_71 ey12 ?_
          refine g_iadd dX8_together_72 ?_
          obtain ⟨m14, em14, hS⟩ := ob hS
          refine gs_callVv (As := [.int ((y10 + y12))]) (st := []) (kr := 4) (k_X1_addHurt m8 4 ((y10 + y12)) rfl em14) cl_RX8_146 sv_X1_addHurt ckk_X1_addHurt (tk_4 _) ⟨by decide, by decide⟩ (Nat.le_of_ble_eq_true rfl) ⟨Nat.zero_le _, Nat.zero_le _⟩ rfl dX8_together_73 rfl ?_
          refine g_aload_n (j := 0) (x := base + 0) dX8_together_76 rfl rfl ?_
          refine gs_getR (r := 3) lk_RX8_19 (tk_0 _) rfl dX8_together_77 ?_
          refine gs_getR (r := 4) lk_RX8_104 (tk_3 _) rfl dX8_together_80 ?_
          refine g_iload_n (j := 3) (x := a3) dX8_together_83 rfl rfl ?_
          refine g_aload_n (j := 0) (x := base + 0) dX8_together_84 rfl rfl ?_
          obtain ⟨q15, eq15, hS⟩ := ob hS
          have hq15 := rfG_is eq15
          refine gs_getPl lk_RX8_62 dX8_together_85 eq15 ?_
          refine gs_getI lk_RX8_156 (tkPl_0 hq15 _) rfl dX8_together_88 ?_
          obtain ⟨z16, ez16, hS⟩ := ob hS
          refine gs_callVi (As := [.int (a3), .int ((gi m14 q15 10))]) (st := []) (kr := 4) (k_X1_lessen m14 4 (a3) ((gi m14 q15 10)) rfl ez16) cl_RX8_153 sv_X1_lessen ckk_X1_lessen (tk_4 _) ⟨by decide, by decide⟩ (Nat.le_of_ble_eq_true rfl) ⟨Nat.zero_le _, Nat.zero_le _⟩ rfl dX8_together_91 rfl ?_
          obtain rfl := Option.some.inj hS
          exact g_iret rfl dX8_together_94
        · replace hS := (if_pos hc).symm.trans hS
          refine g_iconst (v := -1) dX8_together_38 (by decide) ?_
          obtain rfl := Option.some.inj hS
          exact g_iret rfl dX8_together_39
def f_X8_throwsDoll (μ : Mem) (a1 : Int32) : Option (Int32 × Mem) :=
  (rfG (gpl μ) isPl).bind fun q1 =>
  (f_X3_hasStair μ (q1) (a1)).bind fun y2 =>
  if y2 = (0 : Int32) then (
    some ((-1 : Int32), μ)
  ) else (
    (ldA μ 6 7 (a1)).bind fun y3 =>
    (rfG (gpl μ) isPl).bind fun q4 =>
    if y3 < (gi μ q4 9) then (
      (f_X0_remember μ 3).bind fun m6 =>
      (ldA m6 6 7 (a1)).bind fun y7 =>
      (stA m6 6 7 (a1) ((y7 + (1 : Int32)))).bind fun m8 =>
      (f_X1_lessen m8 4 (a1) ((1 : Int32))).bind fun z9 =>
      some (z9.1, z9.2)
    ) else (
      some ((-2 : Int32), μ)
    )
  )
set_option maxRecDepth 100000 in
set_option maxHeartbeats 4000000 in
theorem k_X8_throwsDoll {l : Launch} {D : va_G} {cy : Nat → ClassId} {base : Nat} (μ : Mem) (a1 : Int32)  {out : Int32 × Mem} (hS : f_X8_throwsDoll μ a1 = some out) : gC l D cy base yX8_throwsDoll cX8_throwsDoll 2 (some .int) 3 [.ref (base + 0), .int (a1)] μ (some (.int out.1)) out.2 := by
  refine gC_of (own := RX8) (lv0 := [(0, .ref (base + 0)), (1, .int (a1))]) rfl (by decide) (Nat.le_of_ble_eq_true rfl) rfl ?_
  unfold f_X8_throwsDoll at hS
  refine g_aload_n (j := 0) (x := base + 0) dX8_throwsDoll_0 rfl rfl ?_
  obtain ⟨q1, eq1, hS⟩ := ob hS
  have hq1 := rfG_is eq1
  refine gs_getPl lk_RX8_62 dX8_throwsDoll_1 eq1 ?_
  refine g_iload_n (j := 1) (x := a1) dX8_throwsDoll_4 rfl rfl ?_
  obtain ⟨y2, ey2, hS⟩ := ob hS
  refine gs_callVi (As := [.int (a1)]) (st := []) (kr := q1) (k_X3_hasStair μ (q1) (a1) hq1 ey2) cl_RX8_88 sv_X3_hasStair ckk_X3_hasStair (tkPl_0 hq1 _) ⟨by decide, by decide⟩ (Nat.le_of_ble_eq_true rfl) ⟨Nat.zero_le _, Nat.zero_le _⟩ rfl dX8_throwsDoll_5 rfl ?_
  refine g_if_ne 13 dX8_throwsDoll_8 (by decide) (fun hc => ?_) (fun hc => ?_)
  · replace hS := (if_neg hc).symm.trans hS
    refine g_aload_n (j := 0) (x := base + 0) dX8_throwsDoll_13 rfl rfl ?_
    refine gs_getR (r := 3) lk_RX8_19 (tk_0 _) rfl dX8_throwsDoll_14 ?_
    refine gs_getR (r := 4) lk_RX8_104 (tk_3 _) rfl dX8_throwsDoll_17 ?_
    refine gs_getR (r := 6) lk_RX8_113 (tk_4 _) rfl dX8_throwsDoll_20 ?_
    refine g_iload_n (j := 1) (x := a1) dX8_throwsDoll_23 rfl rfl ?_
    obtain ⟨y3, ey3, hS⟩ := ob hS
    refine gs_iald (tk_6 _) dX8_throwsDoll_24 ey3 ?_
    refine g_aload_n (j := 0) (x := base + 0) dX8_throwsDoll_25 rfl rfl ?_
    obtain ⟨q4, eq4, hS⟩ := ob hS
    have hq4 := rfG_is eq4
    refine gs_getPl lk_RX8_62 dX8_throwsDoll_26 eq4 ?_
    refine gs_getI lk_RX8_159 (tkPl_0 hq4 _) rfl dX8_throwsDoll_29 ?_
    refine g_icmp_lt 38 dX8_throwsDoll_32 (by decide) (fun hc => ?_) (fun hc => ?_)
    · replace hS := (if_pos hc).symm.trans hS
      refine g_aload_n (j := 0) (x := base + 0) dX8_throwsDoll_38 rfl rfl ?_
      refine gs_getR (r := 3) lk_RX8_19 (tk_0 _) rfl dX8_throwsDoll_39 ?_
      obtain ⟨m6, em6, hS⟩ := ob hS
      refine gs_callVv (As := []) (st := []) (kr := 3) (k_X0_remember μ 3 rfl em6) cl_RX8_143 sv_X0_remember ckk_X0_remember (tk_3 _) ⟨by decide, by decide⟩ (Nat.le_of_ble_eq_true rfl) ⟨Nat.zero_le _, Nat.zero_le _⟩ rfl dX8_throwsDoll_42 rfl ?_
      refine g_aload_n (j := 0) (x := base + 0) dX8_throwsDoll_45 rfl rfl ?_
      refine gs_getR (r := 3) lk_RX8_19 (tk_0 _) rfl dX8_throwsDoll_46 ?_
      refine gs_getR (r := 4) lk_RX8_104 (tk_3 _) rfl dX8_throwsDoll_49 ?_
      refine gs_getR (r := 6) lk_RX8_113 (tk_4 _) rfl dX8_throwsDoll_52 ?_
      refine g_iload_n (j := 1) (x := a1) dX8_throwsDoll_55 rfl rfl ?_
      refine g_dup2 dX8_throwsDoll_56 rfl rfl ?_
      obtain ⟨y7, ey7, hS⟩ := ob hS
      refine gs_iald (tk_6 _) dX8_throwsDoll_57 ey7 ?_
      refine g_iconst (v := 1) dX8_throwsDoll_58 (by decide) ?_
      refine g_iadd dX8_throwsDoll_59 ?_
      obtain ⟨m8, em8, hS⟩ := ob hS
      refine gs_iast (tk_6 _) dX8_throwsDoll_60 em8 ?_
      refine g_aload_n (j := 0) (x := base + 0) dX8_throwsDoll_61 rfl rfl ?_
      refine gs_getR (r := 3) lk_RX8_19 (tk_0 _) rfl dX8_throwsDoll_62 ?_
      refine gs_getR (r := 4) lk_RX8_104 (tk_3 _) rfl dX8_throwsDoll_65 ?_
      refine g_iload_n (j := 1) (x := a1) dX8_throwsDoll_68 rfl rfl ?_
      refine g_iconst (v := 1) dX8_throwsDoll_69 (by decide) ?_
      obtain ⟨z9, ez9, hS⟩ := ob hS
      refine gs_callVi (As := [.int (a1), .int ((1 : Int32))]) (st := []) (kr := 4) (k_X1_lessen m8 4 (a1) ((1 : Int32)) rfl ez9) cl_RX8_153 sv_X1_lessen ckk_X1_lessen (tk_4 _) ⟨by decide, by decide⟩ (Nat.le_of_ble_eq_true rfl) ⟨Nat.zero_le _, Nat.zero_le _⟩ rfl dX8_throwsDoll_70 rfl ?_
      obtain rfl := Option.some.inj hS
      exact g_iret rfl dX8_throwsDoll_73
    · replace hS := (if_neg hc).symm.trans hS
      refine g_bipush (v := -2) dX8_throwsDoll_35 (by decide) ?_
      obtain rfl := Option.some.inj hS
      exact g_iret rfl dX8_throwsDoll_37
  · replace hS := (if_pos hc).symm.trans hS
    refine g_iconst (v := -1) dX8_throwsDoll_11 (by decide) ?_
    obtain rfl := Option.some.inj hS
    exact g_iret rfl dX8_throwsDoll_12
def f_X8_sells (μ : Mem) (a1 : Int32) (a2 : Int32) (a3 : Int32) : Option (Int32 × Mem) :=
  (rfG (gpl μ) isPl).bind fun q1 =>
  (f_X3_hasTwoStairs μ (q1) (a1) (a2)).bind fun y2 =>
  if y2 = (0 : Int32) then (
    some ((-1 : Int32), μ)
  ) else (
    if a3 < (1 : Int32) then (
      some ((-1 : Int32), μ)
    ) else (
      if a3 ≤ (99 : Int32) then (
        (ldA μ 5 7 (a1)).bind fun y3 =>
        if a3 ≤ y3 then (
          (ldA μ 5 7 (a2)).bind fun y4 =>
          if (y4 + a3) ≤ (999 : Int32) then (
            (f_X0_remember μ 3).bind fun m6 =>
            (ldA m6 5 7 (a2)).bind fun y7 =>
            (stA m6 5 7 (a2) ((y7 + a3))).bind fun m8 =>
            (f_X8_bondAt m8 (a1) (a2)).bind fun y9 =>
            (ldA m8 7 49 (y9)).bind fun y10 =>
            (stA m8 7 49 (y9) ((y10 + a3))).bind fun m11 =>
            (f_X1_lessen m11 4 (a1) (a3)).bind fun z12 =>
            some (z12.1, z12.2)
          ) else (
            some ((-3 : Int32), μ)
          )
        ) else (
          some ((-2 : Int32), μ)
        )
      ) else (
        some ((-1 : Int32), μ)
      )
    )
  )
set_option maxRecDepth 100000 in
set_option maxHeartbeats 4000000 in
theorem k_X8_sells {l : Launch} {D : va_G} {cy : Nat → ClassId} {base : Nat} (μ : Mem) (a1 : Int32) (a2 : Int32) (a3 : Int32)  {out : Int32 × Mem} (hS : f_X8_sells μ a1 a2 a3 = some out) : gC l D cy base yX8_sells cX8_sells 5 (some .int) 3 [.ref (base + 0), .int (a1), .int (a2), .int (a3)] μ (some (.int out.1)) out.2 := by
  refine gC_of (own := RX8) (lv0 := [(0, .ref (base + 0)), (1, .int (a1)), (2, .int (a2)), (3, .int (a3))]) rfl (by decide) (Nat.le_of_ble_eq_true rfl) rfl ?_
  unfold f_X8_sells at hS
  refine g_aload_n (j := 0) (x := base + 0) dX8_sells_0 rfl rfl ?_
  obtain ⟨q1, eq1, hS⟩ := ob hS
  have hq1 := rfG_is eq1
  refine gs_getPl lk_RX8_62 dX8_sells_1 eq1 ?_
  refine g_iload_n (j := 1) (x := a1) dX8_sells_4 rfl rfl ?_
  refine g_iload_n (j := 2) (x := a2) dX8_sells_5 rfl rfl ?_
  obtain ⟨y2, ey2, hS⟩ := ob hS
  refine gs_callVi (As := [.int (a1), .int (a2)]) (st := []) (kr := q1) (k_X3_hasTwoStairs μ (q1) (a1) (a2) hq1 ey2) cl_RX8_132 sv_X3_hasTwoStairs ckk_X3_hasTwoStairs (tkPl_0 hq1 _) ⟨by decide, by decide⟩ (Nat.le_of_ble_eq_true rfl) ⟨Nat.zero_le _, Nat.zero_le _⟩ rfl dX8_sells_6 rfl ?_
  refine g_if_eq 23 dX8_sells_9 (by decide) (fun hc => ?_) (fun hc => ?_)
  · replace hS := (if_pos hc).symm.trans hS
    refine g_iconst (v := -1) dX8_sells_23 (by decide) ?_
    obtain rfl := Option.some.inj hS
    exact g_iret rfl dX8_sells_24
  · replace hS := (if_neg hc).symm.trans hS
    refine g_iload_n (j := 3) (x := a3) dX8_sells_12 rfl rfl ?_
    refine g_iconst (v := 1) dX8_sells_13 (by decide) ?_
    refine g_icmp_lt 23 dX8_sells_14 (by decide) (fun hc => ?_) (fun hc => ?_)
    · replace hS := (if_pos hc).symm.trans hS
      refine g_iconst (v := -1) dX8_sells_23 (by decide) ?_
      obtain rfl := Option.some.inj hS
      exact g_iret rfl dX8_sells_24
    · replace hS := (if_neg hc).symm.trans hS
      refine g_iload_n (j := 3) (x := a3) dX8_sells_17 rfl rfl ?_
      refine g_bipush (v := 99) dX8_sells_18 (by decide) ?_
      refine g_icmp_le 25 dX8_sells_20 (by decide) (fun hc => ?_) (fun hc => ?_)
      · replace hS := (if_pos hc).symm.trans hS
        refine g_aload_n (j := 0) (x := base + 0) dX8_sells_25 rfl rfl ?_
        refine gs_getR (r := 3) lk_RX8_19 (tk_0 _) rfl dX8_sells_26 ?_
        refine gs_getR (r := 4) lk_RX8_104 (tk_3 _) rfl dX8_sells_29 ?_
        refine g_astore (lvx := [(4, .ref (base + 4)), (0, .ref (base + 0)), (1, .int (a1)), (2, .int (a2)), (3, .int (a3))]) dX8_sells_32 (by decide) rfl ?_
        refine g_aload (j := 0) (x := base + 4) dX8_sells_34 rfl ?_
        refine gs_getR (r := 5) lk_RX8_108 (tk_4 _) rfl dX8_sells_36 ?_
        refine g_iload_n (j := 2) (x := a1) dX8_sells_39 rfl rfl ?_
        obtain ⟨y3, ey3, hS⟩ := ob hS
        refine gs_iald (tk_5 _) dX8_sells_40 ey3 ?_
        refine g_iload_n (j := 4) (x := a3) dX8_sells_41 rfl rfl ?_
        refine g_icmp_ge 48 dX8_sells_42 (by decide) (fun hc => ?_) (fun hc => ?_)
        · replace hS := (if_pos hc).symm.trans hS
          refine g_aload (j := 0) (x := base + 4) dX8_sells_48 rfl ?_
          refine gs_getR (r := 5) lk_RX8_108 (tk_4 _) rfl dX8_sells_50 ?_
          refine g_iload_n (j := 3) (x := a2) dX8_sells_53 rfl rfl ?_
          obtain ⟨y4, ey4, hS⟩ := ob hS
          refine gs_iald (tk_5 _) dX8_sells_54 ey4 ?_
          refine g_iload_n (j := 4) (x := a3) dX8_sells_55 rfl rfl ?_
          refine g_iadd dX8_sells_56 ?_
          refine g_sipush (v := 999) dX8_sells_57 (by decide) ?_
          refine g_icmp_le 66 dX8_sells_60 (by decide) (fun hc => ?_) (fun hc => ?_)
          · replace hS := (if_pos hc).symm.trans hS
            refine g_aload_n (j := 1) (x := base + 0) dX8_sells_66 rfl rfl ?_
            refine gs_getR (r := 3) lk_RX8_19 (tk_0 _) rfl dX8_sells_67 ?_
            obtain ⟨m6, em6, hS⟩ := ob hS
            refine gs_callVv (As := []) (st := []) (kr := 3) (k_X0_remember μ 3 rfl em6) cl_RX8_143 sv_X0_remember ckk_X0_remember (tk_3 _) ⟨by decide, by decide⟩ (Nat.le_of_ble_eq_true rfl) ⟨Nat.zero_le _, Nat.zero_le _⟩ rfl dX8_sells_70 rfl ?_
            refine g_aload (j := 0) (x := base + 4) dX8_sells_73 rfl ?_
            refine gs_getR (r := 5) lk_RX8_108 (tk_4 _) rfl dX8_sells_75 ?_
            refine g_iload_n (j := 3) (x := a2) dX8_sells_78 rfl rfl ?_
            refine g_dup2 dX8_sells_79 rfl rfl ?_
            obtain ⟨y7, ey7, hS⟩ := ob hS
            refine gs_iald (tk_5 _) dX8_sells_80 ey7 ?_
            refine g_iload_n (j := 4) (x := a3) dX8_sells_81 rfl rfl ?_
            refine g_iadd dX8_sells_82 ?_
            obtain ⟨m8, em8, hS⟩ := ob hS
            refine gs_iast (tk_5 _) dX8_sells_83 em8 ?_
            refine g_aload (j := 0) (x := base + 4) dX8_sells_84 rfl ?_
            refine gs_getR (r := 7) lk_RX8_136 (tk_4 _) rfl dX8_sells_86 ?_
            refine g_iload_n (j := 2) (x := a1) dX8_sells_89 rfl rfl ?_
            refine g_iload_n (j := 3) (x := a2) dX8_sells_90 rfl rfl ?_
            obtain ⟨y9, ey9, hS⟩ := ob hS
            refine gs_callSi (As := [.int (a1), .int (a2)]) (st := [.ref (base + 7)]) (k_X8_bondAt m8 (a1) (a2)  ey9) cl_RX8_139 sv_X8_bondAt ⟨by decide, by decide⟩ (Nat.le_of_ble_eq_true rfl) ⟨Nat.zero_le _, Nat.zero_le _⟩ rfl dX8_sells_91 rfl ?_
            refine g_dup2 dX8_sells_94 rfl rfl ?_
            obtain ⟨y10, ey10, hS⟩ := ob hS
            refine gs_iald (tk_7 _) dX8_sells_95 ey10 ?_
            refine g_iload_n (j := 4) (x := a3) dX8_sells_96 rfl rfl ?_
            refine g_iadd dX8_sells_97 ?_
            obtain ⟨m11, em11, hS⟩ := ob hS
            refine gs_iast (tk_7 _) dX8_sells_98 em11 ?_
            refine g_aload (j := 0) (x := base + 4) dX8_sells_99 rfl ?_
            refine g_iload_n (j := 2) (x := a1) dX8_sells_101 rfl rfl ?_
            refine g_iload_n (j := 4) (x := a3) dX8_sells_102 rfl rfl ?_
            obtain ⟨z12, ez12, hS⟩ := ob hS
            refine gs_callVi (As := [.int (a1), .int (a3)]) (st := []) (kr := 4) (k_X1_lessen m11 4 (a1) (a3) rfl ez12) cl_RX8_153 sv_X1_lessen ckk_X1_lessen (tk_4 _) ⟨by decide, by decide⟩ (Nat.le_of_ble_eq_true rfl) ⟨Nat.zero_le _, Nat.zero_le _⟩ rfl dX8_sells_103 rfl ?_
            obtain rfl := Option.some.inj hS
            exact g_iret rfl dX8_sells_106
          · replace hS := (if_neg hc).symm.trans hS
            refine g_bipush (v := -3) dX8_sells_63 (by decide) ?_
            obtain rfl := Option.some.inj hS
            exact g_iret rfl dX8_sells_65
        · replace hS := (if_neg hc).symm.trans hS
          refine g_bipush (v := -2) dX8_sells_45 (by decide) ?_
          obtain rfl := Option.some.inj hS
          exact g_iret rfl dX8_sells_47
      · replace hS := (if_neg hc).symm.trans hS
        refine g_iconst (v := -1) dX8_sells_23 (by decide) ?_
        obtain rfl := Option.some.inj hS
        exact g_iret rfl dX8_sells_24
def f_X8_redeems (μ : Mem) (a1 : Int32) : Option (Int32 × Mem) :=
  (rfG (gpl μ) isPl).bind fun q1 =>
  (f_X3_hasStair μ (q1) (a1)).bind fun y2 =>
  if y2 = (0 : Int32) then (
    some ((-1 : Int32), μ)
  ) else (
    (ldA μ 5 7 (a1)).bind fun y3 =>
    if y3 = (0 : Int32) then (
      some ((-2 : Int32), μ)
    ) else (
      (f_X0_remember μ 3).bind fun m5 =>
      (stA m5 5 7 (a1) ((0 : Int32))).bind fun m6 =>
      some (y3, m6)
    )
  )
set_option maxRecDepth 100000 in
set_option maxHeartbeats 4000000 in
theorem k_X8_redeems {l : Launch} {D : va_G} {cy : Nat → ClassId} {base : Nat} (μ : Mem) (a1 : Int32)  {out : Int32 × Mem} (hS : f_X8_redeems μ a1 = some out) : gC l D cy base yX8_redeems cX8_redeems 3 (some .int) 3 [.ref (base + 0), .int (a1)] μ (some (.int out.1)) out.2 := by
  refine gC_of (own := RX8) (lv0 := [(0, .ref (base + 0)), (1, .int (a1))]) rfl (by decide) (Nat.le_of_ble_eq_true rfl) rfl ?_
  unfold f_X8_redeems at hS
  refine g_aload_n (j := 0) (x := base + 0) dX8_redeems_0 rfl rfl ?_
  obtain ⟨q1, eq1, hS⟩ := ob hS
  have hq1 := rfG_is eq1
  refine gs_getPl lk_RX8_62 dX8_redeems_1 eq1 ?_
  refine g_iload_n (j := 1) (x := a1) dX8_redeems_4 rfl rfl ?_
  obtain ⟨y2, ey2, hS⟩ := ob hS
  refine gs_callVi (As := [.int (a1)]) (st := []) (kr := q1) (k_X3_hasStair μ (q1) (a1) hq1 ey2) cl_RX8_88 sv_X3_hasStair ckk_X3_hasStair (tkPl_0 hq1 _) ⟨by decide, by decide⟩ (Nat.le_of_ble_eq_true rfl) ⟨Nat.zero_le _, Nat.zero_le _⟩ rfl dX8_redeems_5 rfl ?_
  refine g_if_ne 13 dX8_redeems_8 (by decide) (fun hc => ?_) (fun hc => ?_)
  · replace hS := (if_neg hc).symm.trans hS
    refine g_aload_n (j := 0) (x := base + 0) dX8_redeems_13 rfl rfl ?_
    refine gs_getR (r := 3) lk_RX8_19 (tk_0 _) rfl dX8_redeems_14 ?_
    refine gs_getR (r := 4) lk_RX8_104 (tk_3 _) rfl dX8_redeems_17 ?_
    refine gs_getR (r := 5) lk_RX8_108 (tk_4 _) rfl dX8_redeems_20 ?_
    refine g_iload_n (j := 1) (x := a1) dX8_redeems_23 rfl rfl ?_
    obtain ⟨y3, ey3, hS⟩ := ob hS
    refine gs_iald (tk_5 _) dX8_redeems_24 ey3 ?_
    refine g_istore_n (lvx := [(2, .int (y3)), (0, .ref (base + 0)), (1, .int (a1))]) dX8_redeems_25 rfl (by decide) rfl ?_
    refine g_iload_n (j := 0) (x := y3) dX8_redeems_26 rfl rfl ?_
    refine g_if_ne 33 dX8_redeems_27 (by decide) (fun hc => ?_) (fun hc => ?_)
    · replace hS := (if_neg hc).symm.trans hS
      refine g_aload_n (j := 1) (x := base + 0) dX8_redeems_33 rfl rfl ?_
      refine gs_getR (r := 3) lk_RX8_19 (tk_0 _) rfl dX8_redeems_34 ?_
      obtain ⟨m5, em5, hS⟩ := ob hS
      refine gs_callVv (As := []) (st := []) (kr := 3) (k_X0_remember μ 3 rfl em5) cl_RX8_143 sv_X0_remember ckk_X0_remember (tk_3 _) ⟨by decide, by decide⟩ (Nat.le_of_ble_eq_true rfl) ⟨Nat.zero_le _, Nat.zero_le _⟩ rfl dX8_redeems_37 rfl ?_
      refine g_aload_n (j := 1) (x := base + 0) dX8_redeems_40 rfl rfl ?_
      refine gs_getR (r := 3) lk_RX8_19 (tk_0 _) rfl dX8_redeems_41 ?_
      refine gs_getR (r := 4) lk_RX8_104 (tk_3 _) rfl dX8_redeems_44 ?_
      refine gs_getR (r := 5) lk_RX8_108 (tk_4 _) rfl dX8_redeems_47 ?_
      refine g_iload_n (j := 2) (x := a1) dX8_redeems_50 rfl rfl ?_
      refine g_iconst (v := 0) dX8_redeems_51 (by decide) ?_
      obtain ⟨m6, em6, hS⟩ := ob hS
      refine gs_iast (tk_5 _) dX8_redeems_52 em6 ?_
      refine g_iload_n (j := 0) (x := y3) dX8_redeems_53 rfl rfl ?_
      obtain rfl := Option.some.inj hS
      exact g_iret rfl dX8_redeems_54
    · replace hS := (if_pos hc).symm.trans hS
      refine g_bipush (v := -2) dX8_redeems_30 (by decide) ?_
      obtain rfl := Option.some.inj hS
      exact g_iret rfl dX8_redeems_32
  · replace hS := (if_pos hc).symm.trans hS
    refine g_iconst (v := -1) dX8_redeems_11 (by decide) ?_
    obtain rfl := Option.some.inj hS
    exact g_iret rfl dX8_redeems_12
def f_X8_ends (μ : Mem)  : Option (Int32 × Mem) :=
  if (gi μ 4 4) < (99 : Int32) then (
    (f_X0_remember μ 3).bind fun m2 =>
    (rfG (gpl m2) isPl).bind fun q3 =>
    (f_X1_endYear m2 4 (q3)).bind fun m5 =>
    (rfG (gpl m5) isPl).bind fun q6 =>
    (f_X1_dueOfAll m5 4 ((gi m5 q6 7))).bind fun y7 =>
    some (y7, m5)
  ) else (
    some ((-2 : Int32), μ)
  )
set_option maxRecDepth 100000 in
set_option maxHeartbeats 4000000 in
theorem k_X8_ends {l : Launch} {D : va_G} {cy : Nat → ClassId} {base : Nat} (μ : Mem)   {out : Int32 × Mem} (hS : f_X8_ends μ  = some out) : gC l D cy base yX8_ends cX8_ends 1 (some .int) 3 [.ref (base + 0)] μ (some (.int out.1)) out.2 := by
  refine gC_of (own := RX8) (lv0 := [(0, .ref (base + 0))]) rfl (by decide) (Nat.le_of_ble_eq_true rfl) rfl ?_
  unfold f_X8_ends at hS
  refine g_aload_n (j := 0) (x := base + 0) dX8_ends_0 rfl rfl ?_
  refine gs_getR (r := 3) lk_RX8_19 (tk_0 _) rfl dX8_ends_1 ?_
  refine gs_getR (r := 4) lk_RX8_104 (tk_3 _) rfl dX8_ends_4 ?_
  refine gs_getI lk_RX8_162 (tk_4 _) rfl dX8_ends_7 ?_
  refine g_bipush (v := 99) dX8_ends_10 (by decide) ?_
  refine g_icmp_lt 18 dX8_ends_12 (by decide) (fun hc => ?_) (fun hc => ?_)
  · replace hS := (if_pos hc).symm.trans hS
    refine g_aload_n (j := 0) (x := base + 0) dX8_ends_18 rfl rfl ?_
    refine gs_getR (r := 3) lk_RX8_19 (tk_0 _) rfl dX8_ends_19 ?_
    obtain ⟨m2, em2, hS⟩ := ob hS
    refine gs_callVv (As := []) (st := []) (kr := 3) (k_X0_remember μ 3 rfl em2) cl_RX8_143 sv_X0_remember ckk_X0_remember (tk_3 _) ⟨by decide, by decide⟩ (Nat.le_of_ble_eq_true rfl) ⟨Nat.zero_le _, Nat.zero_le _⟩ rfl dX8_ends_22 rfl ?_
    refine g_aload_n (j := 0) (x := base + 0) dX8_ends_25 rfl rfl ?_
    refine gs_getR (r := 3) lk_RX8_19 (tk_0 _) rfl dX8_ends_26 ?_
    refine gs_getR (r := 4) lk_RX8_104 (tk_3 _) rfl dX8_ends_29 ?_
    refine g_aload_n (j := 0) (x := base + 0) dX8_ends_32 rfl rfl ?_
    obtain ⟨q3, eq3, hS⟩ := ob hS
    have hq3 := rfG_is eq3
    refine gs_getPl lk_RX8_62 dX8_ends_33 eq3 ?_
    obtain ⟨m5, em5, hS⟩ := ob hS
    refine gs_callVv (As := [.ref (base + q3)]) (st := []) (kr := 4) (k_X1_endYear m2 4 (q3) rfl hq3 em5) cl_RX8_165 sv_X1_endYear ckk_X1_endYear (tk_4 _) ⟨by decide, by decide⟩ (Nat.le_of_ble_eq_true rfl) ⟨Nat.zero_le _, Nat.zero_le _⟩ rfl dX8_ends_36 rfl ?_
    refine g_aload_n (j := 0) (x := base + 0) dX8_ends_39 rfl rfl ?_
    refine gs_getR (r := 3) lk_RX8_19 (tk_0 _) rfl dX8_ends_40 ?_
    refine gs_getR (r := 4) lk_RX8_104 (tk_3 _) rfl dX8_ends_43 ?_
    refine g_aload_n (j := 0) (x := base + 0) dX8_ends_46 rfl rfl ?_
    obtain ⟨q6, eq6, hS⟩ := ob hS
    have hq6 := rfG_is eq6
    refine gs_getPl lk_RX8_62 dX8_ends_47 eq6 ?_
    refine gs_getI lk_RX8_168 (tkPl_0 hq6 _) rfl dX8_ends_50 ?_
    obtain ⟨y7, ey7, hS⟩ := ob hS
    refine gs_callVi (As := [.int ((gi m5 q6 7))]) (st := []) (kr := 4) (k_X1_dueOfAll m5 4 ((gi m5 q6 7)) rfl ey7) cl_RX8_171 sv_X1_dueOfAll ckk_X1_dueOfAll (tk_4 _) ⟨by decide, by decide⟩ (Nat.le_of_ble_eq_true rfl) ⟨Nat.zero_le _, Nat.zero_le _⟩ rfl dX8_ends_53 rfl ?_
    obtain rfl := Option.some.inj hS
    exact g_iret rfl dX8_ends_56
  · replace hS := (if_neg hc).symm.trans hS
    refine g_bipush (v := -2) dX8_ends_15 (by decide) ?_
    obtain rfl := Option.some.inj hS
    exact g_iret rfl dX8_ends_17
def f_X8_undo (μ : Mem)  : Option (Int32 × Mem) :=
  (f_X0_takeBack μ 3).bind fun z1 =>
  if z1.1 = (0 : Int32) then (
    some ((-2 : Int32), z1.2)
  ) else (
    some ((gi z1.2 3 2), z1.2)
  )
set_option maxRecDepth 100000 in
set_option maxHeartbeats 4000000 in
theorem k_X8_undo {l : Launch} {D : va_G} {cy : Nat → ClassId} {base : Nat} (μ : Mem)   {out : Int32 × Mem} (hS : f_X8_undo μ  = some out) : gC l D cy base yX8_undo cX8_undo 1 (some .int) 3 [.ref (base + 0)] μ (some (.int out.1)) out.2 := by
  refine gC_of (own := RX8) (lv0 := [(0, .ref (base + 0))]) rfl (by decide) (Nat.le_of_ble_eq_true rfl) rfl ?_
  unfold f_X8_undo at hS
  refine g_aload_n (j := 0) (x := base + 0) dX8_undo_0 rfl rfl ?_
  refine gs_getR (r := 3) lk_RX8_19 (tk_0 _) rfl dX8_undo_1 ?_
  obtain ⟨z1, ez1, hS⟩ := ob hS
  refine gs_callVi (As := []) (st := []) (kr := 3) (k_X0_takeBack μ 3 rfl ez1) cl_RX8_174 sv_X0_takeBack ckk_X0_takeBack (tk_3 _) ⟨by decide, by decide⟩ (Nat.le_of_ble_eq_true rfl) ⟨Nat.zero_le _, Nat.zero_le _⟩ rfl dX8_undo_4 rfl ?_
  refine g_if_eq 20 dX8_undo_7 (by decide) (fun hc => ?_) (fun hc => ?_)
  · replace hS := (if_pos hc).symm.trans hS
    refine g_bipush (v := -2) dX8_undo_20 (by decide) ?_
    obtain rfl := Option.some.inj hS
    exact g_iret rfl dX8_undo_22
  · replace hS := (if_neg hc).symm.trans hS
    refine g_aload_n (j := 0) (x := base + 0) dX8_undo_10 rfl rfl ?_
    refine gs_getR (r := 3) lk_RX8_19 (tk_0 _) rfl dX8_undo_11 ?_
    refine gs_getI lk_RX8_178 (tk_3 _) rfl dX8_undo_14 ?_
    refine g_goto 22 dX8_undo_17 (by decide) ?_
    obtain rfl := Option.some.inj hS
    exact g_iret rfl dX8_undo_22
def f_X8_stairsPaidOff_b4 (m1 : Mem)  (v : Int32 × Int32) : Option ((Int32 × Int32) ⊕ ((Int32))) :=
  (rfG (gpl m1) isPl).bind fun q2 =>
  if (gi m1 q2 7) ≤ v.2 then (
    some (.inr (v.1))
  ) else (
    (ldA m1 5 7 (v.2)).bind fun y3 =>
    if y3 = (0 : Int32) then (
      some (.inl (((v.1 ||| ((1 : Int32) <<< (v.2 &&& 31)))), ((v.2 + (1 : Int32)))))
    ) else (
      some (.inl ((v.1), ((v.2 + (1 : Int32)))))
    )
  )
set_option maxRecDepth 100000 in
set_option maxHeartbeats 4000000 in
theorem k_X8_stairsPaidOff_b4 {l : Launch} {D : va_G} {cy : Nat → ClassId} {base : Nat} {X : gX} {Z : gZ} (m1 : Mem)   (v : Int32 × Int32) (r : (Int32 × Int32) ⊕ ((Int32))) (hS : f_X8_stairsPaidOff_b4 m1  v = some r) (hin : ∀ v2, r = .inl v2 → G l D cy base RX8 cX8_stairsPaidOff 3 (some .int) (gRm 0) X Z 4 [(0, .ref (base + 0)), (1, .int (v2.1)), (2, .int (v2.2))] [] 0 0 gNN (gH cy base m1)) (hout0 : ∀ x, r = .inr x → G l D cy base RX8 cX8_stairsPaidOff 3 (some .int) (gRm 0) X Z 42 [(1, .int (x))] [] 0 0 gNN (gH cy base m1)) : G l D cy base RX8 cX8_stairsPaidOff 3 (some .int) (gRm 0) X Z 4 [(0, .ref (base + 0)), (1, .int (v.1)), (2, .int (v.2))] [] 0 0 gNN (gH cy base m1) := by
  unfold f_X8_stairsPaidOff_b4 at hS
  refine g_iload_n (j := 2) (x := v.2) dX8_stairsPaidOff_4 rfl rfl ?_
  refine g_aload_n (j := 0) (x := base + 0) dX8_stairsPaidOff_5 rfl rfl ?_
  obtain ⟨q2, eq2, hS⟩ := ob hS
  have hq2 := rfG_is eq2
  refine gs_getPl lk_RX8_62 dX8_stairsPaidOff_6 eq2 ?_
  refine gs_getI lk_RX8_168 (tkPl_0 hq2 _) rfl dX8_stairsPaidOff_9 ?_
  refine g_icmp_ge 42 dX8_stairsPaidOff_12 (by decide) (fun hc => ?_) (fun hc => ?_)
  · replace hS := (if_pos hc).symm.trans hS
    refine g_sub (lvx := [(1, .int (v.1))]) [1] rfl ?_
    obtain rfl := Option.some.inj hS
    exact hout0 ((v.1)) rfl
  · replace hS := (if_neg hc).symm.trans hS
    refine g_aload_n (j := 0) (x := base + 0) dX8_stairsPaidOff_15 rfl rfl ?_
    refine gs_getR (r := 3) lk_RX8_19 (tk_0 _) rfl dX8_stairsPaidOff_16 ?_
    refine gs_getR (r := 4) lk_RX8_104 (tk_3 _) rfl dX8_stairsPaidOff_19 ?_
    refine gs_getR (r := 5) lk_RX8_108 (tk_4 _) rfl dX8_stairsPaidOff_22 ?_
    refine g_iload_n (j := 2) (x := v.2) dX8_stairsPaidOff_25 rfl rfl ?_
    obtain ⟨y3, ey3, hS⟩ := ob hS
    refine gs_iald (tk_5 _) dX8_stairsPaidOff_26 ey3 ?_
    refine g_if_ne 36 dX8_stairsPaidOff_27 (by decide) (fun hc => ?_) (fun hc => ?_)
    · replace hS := (if_neg hc).symm.trans hS
      refine g_iinc (j := 2) (x := v.2) (v := (v.2 + (1 : Int32))) (lvx := [(2, .int ((v.2 + (1 : Int32)))), (0, .ref (base + 0)), (1, .int (v.1))]) dX8_stairsPaidOff_36 rfl rfl (by decide) rfl ?_
      refine g_goto 4 dX8_stairsPaidOff_39 (by decide) ?_
      refine g_sub (lvx := [(0, .ref (base + 0)), (1, .int (v.1)), (2, .int ((v.2 + (1 : Int32))))]) [1, 2, 0] rfl ?_
      obtain rfl := Option.some.inj hS
      exact hin (((v.1), ((v.2 + (1 : Int32))))) rfl
    · replace hS := (if_pos hc).symm.trans hS
      refine g_iload_n (j := 1) (x := v.1) dX8_stairsPaidOff_30 rfl rfl ?_
      refine g_iconst (v := 1) dX8_stairsPaidOff_31 (by decide) ?_
      refine g_iload_n (j := 2) (x := v.2) dX8_stairsPaidOff_32 rfl rfl ?_
      refine g_ishl dX8_stairsPaidOff_33 ?_
      refine g_ior dX8_stairsPaidOff_34 ?_
      refine g_istore_n (lvx := [(1, .int ((v.1 ||| ((1 : Int32) <<< (v.2 &&& 31))))), (0, .ref (base + 0)), (2, .int (v.2))]) dX8_stairsPaidOff_35 rfl (by decide) rfl ?_
      refine g_iinc (j := 2) (x := v.2) (v := (v.2 + (1 : Int32))) (lvx := [(2, .int ((v.2 + (1 : Int32)))), (1, .int ((v.1 ||| ((1 : Int32) <<< (v.2 &&& 31))))), (0, .ref (base + 0))]) dX8_stairsPaidOff_36 rfl rfl (by decide) rfl ?_
      refine g_goto 4 dX8_stairsPaidOff_39 (by decide) ?_
      refine g_sub (lvx := [(0, .ref (base + 0)), (1, .int ((v.1 ||| ((1 : Int32) <<< (v.2 &&& 31))))), (2, .int ((v.2 + (1 : Int32))))]) [2, 1, 0] rfl ?_
      obtain rfl := Option.some.inj hS
      exact hin ((((v.1 ||| ((1 : Int32) <<< (v.2 &&& 31)))), ((v.2 + (1 : Int32))))) rfl
def f_X8_stairsPaidOff (μ : Mem)  : Option (Int32) :=
  (iter gFU (f_X8_stairsPaidOff_b4 μ ) (((0 : Int32)), ((0 : Int32)))).bind fun z4 =>
  some (z4)
set_option maxRecDepth 100000 in
set_option maxHeartbeats 4000000 in
theorem k_X8_stairsPaidOff {l : Launch} {D : va_G} {cy : Nat → ClassId} {base : Nat} (μ : Mem)   {out : Int32} (hS : f_X8_stairsPaidOff μ  = some out) : gC l D cy base yX8_stairsPaidOff cX8_stairsPaidOff 3 (some .int) 0 [.ref (base + 0)] μ (some (.int out)) μ := by
  refine gC_of (own := RX8) (lv0 := [(0, .ref (base + 0))]) rfl (by decide) (Nat.le_of_ble_eq_true rfl) rfl ?_
  unfold f_X8_stairsPaidOff at hS
  refine g_iconst (v := 0) dX8_stairsPaidOff_0 (by decide) ?_
  refine g_istore_n (lvx := [(1, .int ((0 : Int32))), (0, .ref (base + 0))]) dX8_stairsPaidOff_1 rfl (by decide) rfl ?_
  refine g_iconst (v := 0) dX8_stairsPaidOff_2 (by decide) ?_
  refine g_istore_n (lvx := [(2, .int ((0 : Int32))), (1, .int ((0 : Int32))), (0, .ref (base + 0))]) dX8_stairsPaidOff_3 rfl (by decide) rfl ?_
  obtain ⟨z4, ez4, hS⟩ := ob hS
  refine g_sub (lvx := [(0, .ref (base + 0)), (1, .int ((0 : Int32))), (2, .int ((0 : Int32)))]) [2, 1, 0] rfl ?_
  refine iter_ind (fun vv => G l D cy base RX8 cX8_stairsPaidOff 3 (some .int) (gRm 0) (gXm yX8_stairsPaidOff) (gZm D cy base 0 0 (some (.int out)) gNN (gH cy base μ)) 4 [(0, .ref (base + 0)), (1, .int (vv.1)), (2, .int (vv.2))] [] 0 0 gNN (gH cy base μ)) (fun xx => G l D cy base RX8 cX8_stairsPaidOff 3 (some .int) (gRm 0) (gXm yX8_stairsPaidOff) (gZm D cy base 0 0 (some (.int out)) gNN (gH cy base μ)) 42 [(1, .int (xx))] [] 0 0 gNN (gH cy base μ)) (fun vv rr hh hin hout => k_X8_stairsPaidOff_b4 μ   vv rr hh hin (fun xx ee => hout xx ee)) gFU (((0 : Int32)), ((0 : Int32))) z4 ez4 ?_
  show G l D cy base RX8 cX8_stairsPaidOff 3 (some .int) (gRm 0) (gXm yX8_stairsPaidOff) (gZm D cy base 0 0 (some (.int out)) gNN (gH cy base μ)) 42 [(1, .int (z4))] [] 0 0 gNN (gH cy base μ)
  refine g_iload_n (j := 0) (x := z4) dX8_stairsPaidOff_42 rfl rfl ?_
  obtain rfl := Option.some.inj hS
  exact g_iret rfl dX8_stairsPaidOff_43
def f_X8_dearest_b5 (m1 : Mem)  (v : Int32 × Int32) : Option ((Int32 × Int32) ⊕ ((Int32))) :=
  (rfG (gpl m1) isPl).bind fun q2 =>
  if (gi m1 q2 7) ≤ v.2 then (
    some (.inr (v.1))
  ) else (
    if v.1 = (-9 : Int32) then (
      some (.inl ((v.2), ((v.2 + (1 : Int32)))))
    ) else (
      (f_X8_priceOf m1 (v.2)).bind fun y3 =>
      (f_X8_priceOf m1 (v.1)).bind fun y4 =>
      if y3 ≤ y4 then (
        some (.inl ((v.1), ((v.2 + (1 : Int32)))))
      ) else (
        some (.inl ((v.2), ((v.2 + (1 : Int32)))))
      )
    )
  )
set_option maxRecDepth 100000 in
set_option maxHeartbeats 4000000 in
theorem k_X8_dearest_b5 {l : Launch} {D : va_G} {cy : Nat → ClassId} {base : Nat} {X : gX} {Z : gZ} (m1 : Mem)   (v : Int32 × Int32) (r : (Int32 × Int32) ⊕ ((Int32))) (hS : f_X8_dearest_b5 m1  v = some r) (hin : ∀ v2, r = .inl v2 → G l D cy base RX8 cX8_dearest 3 (some .int) (gRm 2) X Z 5 [(0, .ref (base + 0)), (1, .int (v2.1)), (2, .int (v2.2))] [] 0 0 gNN (gH cy base m1)) (hout0 : ∀ x, r = .inr x → G l D cy base RX8 cX8_dearest 3 (some .int) (gRm 2) X Z 43 [(1, .int (x))] [] 0 0 gNN (gH cy base m1)) : G l D cy base RX8 cX8_dearest 3 (some .int) (gRm 2) X Z 5 [(0, .ref (base + 0)), (1, .int (v.1)), (2, .int (v.2))] [] 0 0 gNN (gH cy base m1) := by
  unfold f_X8_dearest_b5 at hS
  refine g_iload_n (j := 2) (x := v.2) dX8_dearest_5 rfl rfl ?_
  refine g_aload_n (j := 0) (x := base + 0) dX8_dearest_6 rfl rfl ?_
  obtain ⟨q2, eq2, hS⟩ := ob hS
  have hq2 := rfG_is eq2
  refine gs_getPl lk_RX8_62 dX8_dearest_7 eq2 ?_
  refine gs_getI lk_RX8_168 (tkPl_0 hq2 _) rfl dX8_dearest_10 ?_
  refine g_icmp_ge 43 dX8_dearest_13 (by decide) (fun hc => ?_) (fun hc => ?_)
  · replace hS := (if_pos hc).symm.trans hS
    refine g_sub (lvx := [(1, .int (v.1))]) [1] rfl ?_
    obtain rfl := Option.some.inj hS
    exact hout0 ((v.1)) rfl
  · replace hS := (if_neg hc).symm.trans hS
    refine g_iload_n (j := 1) (x := v.1) dX8_dearest_16 rfl rfl ?_
    refine g_bipush (v := -9) dX8_dearest_17 (by decide) ?_
    refine g_icmp_eq 35 dX8_dearest_19 (by decide) (fun hc => ?_) (fun hc => ?_)
    · replace hS := (if_pos hc).symm.trans hS
      refine g_iload_n (j := 2) (x := v.2) dX8_dearest_35 rfl rfl ?_
      refine g_istore_n (lvx := [(1, .int (v.2)), (0, .ref (base + 0)), (2, .int (v.2))]) dX8_dearest_36 rfl (by decide) rfl ?_
      refine g_iinc (j := 2) (x := v.2) (v := (v.2 + (1 : Int32))) (lvx := [(2, .int ((v.2 + (1 : Int32)))), (1, .int (v.2)), (0, .ref (base + 0))]) dX8_dearest_37 rfl rfl (by decide) rfl ?_
      refine g_goto 5 dX8_dearest_40 (by decide) ?_
      refine g_sub (lvx := [(0, .ref (base + 0)), (1, .int (v.2)), (2, .int ((v.2 + (1 : Int32))))]) [2, 1, 0] rfl ?_
      obtain rfl := Option.some.inj hS
      exact hin (((v.2), ((v.2 + (1 : Int32))))) rfl
    · replace hS := (if_neg hc).symm.trans hS
      refine g_aload_n (j := 0) (x := base + 0) dX8_dearest_22 rfl rfl ?_
      refine g_iload_n (j := 2) (x := v.2) dX8_dearest_23 rfl rfl ?_
      obtain ⟨y3, ey3, hS⟩ := ob hS
      refine gs_callVi (As := [.int (v.2)]) (st := []) (kr := 0) (k_X8_priceOf m1 (v.2)  ey3) cl_RX8_116 sv_X8_priceOf ckk_X8_priceOf (tk_0 _) ⟨by decide, by decide⟩ (Nat.le_of_ble_eq_true rfl) ⟨Nat.zero_le _, Nat.zero_le _⟩ rfl dX8_dearest_24 rfl ?_
      refine g_aload_n (j := 0) (x := base + 0) dX8_dearest_27 rfl rfl ?_
      refine g_iload_n (j := 1) (x := v.1) dX8_dearest_28 rfl rfl ?_
      obtain ⟨y4, ey4, hS⟩ := ob hS
      refine gs_callVi (As := [.int (v.1)]) (st := [.int (y3)]) (kr := 0) (k_X8_priceOf m1 (v.1)  ey4) cl_RX8_116 sv_X8_priceOf ckk_X8_priceOf (tk_0 _) ⟨by decide, by decide⟩ (Nat.le_of_ble_eq_true rfl) ⟨Nat.zero_le _, Nat.zero_le _⟩ rfl dX8_dearest_29 rfl ?_
      refine g_icmp_le 37 dX8_dearest_32 (by decide) (fun hc => ?_) (fun hc => ?_)
      · replace hS := (if_pos hc).symm.trans hS
        refine g_iinc (j := 2) (x := v.2) (v := (v.2 + (1 : Int32))) (lvx := [(2, .int ((v.2 + (1 : Int32)))), (0, .ref (base + 0)), (1, .int (v.1))]) dX8_dearest_37 rfl rfl (by decide) rfl ?_
        refine g_goto 5 dX8_dearest_40 (by decide) ?_
        refine g_sub (lvx := [(0, .ref (base + 0)), (1, .int (v.1)), (2, .int ((v.2 + (1 : Int32))))]) [1, 2, 0] rfl ?_
        obtain rfl := Option.some.inj hS
        exact hin (((v.1), ((v.2 + (1 : Int32))))) rfl
      · replace hS := (if_neg hc).symm.trans hS
        refine g_iload_n (j := 2) (x := v.2) dX8_dearest_35 rfl rfl ?_
        refine g_istore_n (lvx := [(1, .int (v.2)), (0, .ref (base + 0)), (2, .int (v.2))]) dX8_dearest_36 rfl (by decide) rfl ?_
        refine g_iinc (j := 2) (x := v.2) (v := (v.2 + (1 : Int32))) (lvx := [(2, .int ((v.2 + (1 : Int32)))), (1, .int (v.2)), (0, .ref (base + 0))]) dX8_dearest_37 rfl rfl (by decide) rfl ?_
        refine g_goto 5 dX8_dearest_40 (by decide) ?_
        refine g_sub (lvx := [(0, .ref (base + 0)), (1, .int (v.2)), (2, .int ((v.2 + (1 : Int32))))]) [2, 1, 0] rfl ?_
        obtain rfl := Option.some.inj hS
        exact hin (((v.2), ((v.2 + (1 : Int32))))) rfl
def f_X8_dearest (μ : Mem)  : Option (Int32) :=
  (iter gFU (f_X8_dearest_b5 μ ) (((-9 : Int32)), ((0 : Int32)))).bind fun z5 =>
  some (z5)
set_option maxRecDepth 100000 in
set_option maxHeartbeats 4000000 in
theorem k_X8_dearest {l : Launch} {D : va_G} {cy : Nat → ClassId} {base : Nat} (μ : Mem)   {out : Int32} (hS : f_X8_dearest μ  = some out) : gC l D cy base yX8_dearest cX8_dearest 3 (some .int) 2 [.ref (base + 0)] μ (some (.int out)) μ := by
  refine gC_of (own := RX8) (lv0 := [(0, .ref (base + 0))]) rfl (by decide) (Nat.le_of_ble_eq_true rfl) rfl ?_
  unfold f_X8_dearest at hS
  refine g_bipush (v := -9) dX8_dearest_0 (by decide) ?_
  refine g_istore_n (lvx := [(1, .int ((-9 : Int32))), (0, .ref (base + 0))]) dX8_dearest_2 rfl (by decide) rfl ?_
  refine g_iconst (v := 0) dX8_dearest_3 (by decide) ?_
  refine g_istore_n (lvx := [(2, .int ((0 : Int32))), (1, .int ((-9 : Int32))), (0, .ref (base + 0))]) dX8_dearest_4 rfl (by decide) rfl ?_
  obtain ⟨z5, ez5, hS⟩ := ob hS
  refine g_sub (lvx := [(0, .ref (base + 0)), (1, .int ((-9 : Int32))), (2, .int ((0 : Int32)))]) [2, 1, 0] rfl ?_
  refine iter_ind (fun vv => G l D cy base RX8 cX8_dearest 3 (some .int) (gRm 2) (gXm yX8_dearest) (gZm D cy base 0 0 (some (.int out)) gNN (gH cy base μ)) 5 [(0, .ref (base + 0)), (1, .int (vv.1)), (2, .int (vv.2))] [] 0 0 gNN (gH cy base μ)) (fun xx => G l D cy base RX8 cX8_dearest 3 (some .int) (gRm 2) (gXm yX8_dearest) (gZm D cy base 0 0 (some (.int out)) gNN (gH cy base μ)) 43 [(1, .int (xx))] [] 0 0 gNN (gH cy base μ)) (fun vv rr hh hin hout => k_X8_dearest_b5 μ   vv rr hh hin (fun xx ee => hout xx ee)) gFU (((-9 : Int32)), ((0 : Int32))) z5 ez5 ?_
  show G l D cy base RX8 cX8_dearest 3 (some .int) (gRm 2) (gXm yX8_dearest) (gZm D cy base 0 0 (some (.int out)) gNN (gH cy base μ)) 43 [(1, .int (z5))] [] 0 0 gNN (gH cy base μ)
  refine g_iload_n (j := 0) (x := z5) dX8_dearest_43 rfl rfl ?_
  obtain rfl := Option.some.inj hS
  exact g_iret rfl dX8_dearest_44
def f_X8_isFloor (μ : Mem) (a0 : Int32) : Option (Int32) :=
  if a0 < (0 : Int32) then (
    some (0 : Int32)
  ) else (
    if (7 : Int32) ≤ a0 then (
      some (0 : Int32)
    ) else (
      some (1 : Int32)
    )
  )
set_option maxRecDepth 100000 in
set_option maxHeartbeats 4000000 in
theorem k_X8_isFloor {l : Launch} {D : va_G} {cy : Nat → ClassId} {base : Nat} (μ : Mem) (a0 : Int32)  {out : Int32} (hS : f_X8_isFloor μ a0 = some out) : gC l D cy base yX8_isFloor cX8_isFloor 1 (some .boolean) 0 [.int (a0)] μ (some (.int out)) μ := by
  refine gC_of (own := RX8) (lv0 := [(0, .int (a0))]) rfl (by decide) (Nat.le_of_ble_eq_true rfl) rfl ?_
  unfold f_X8_isFloor at hS
  refine g_iload_n (j := 0) (x := a0) dX8_isFloor_0 rfl rfl ?_
  refine g_if_lt 14 dX8_isFloor_1 (by decide) (fun hc => ?_) (fun hc => ?_)
  · replace hS := (if_pos hc).symm.trans hS
    refine g_iconst (v := 0) dX8_isFloor_14 (by decide) ?_
    obtain rfl := Option.some.inj hS
    exact g_zret (v := (0 : Int32)) rfl rfl dX8_isFloor_15
  · replace hS := (if_neg hc).symm.trans hS
    refine g_iload_n (j := 0) (x := a0) dX8_isFloor_4 rfl rfl ?_
    refine g_bipush (v := 7) dX8_isFloor_5 (by decide) ?_
    refine g_icmp_ge 14 dX8_isFloor_7 (by decide) (fun hc => ?_) (fun hc => ?_)
    · replace hS := (if_pos hc).symm.trans hS
      refine g_iconst (v := 0) dX8_isFloor_14 (by decide) ?_
      obtain rfl := Option.some.inj hS
      exact g_zret (v := (0 : Int32)) rfl rfl dX8_isFloor_15
    · replace hS := (if_neg hc).symm.trans hS
      refine g_iconst (v := 1) dX8_isFloor_10 (by decide) ?_
      refine g_goto 15 dX8_isFloor_11 (by decide) ?_
      obtain rfl := Option.some.inj hS
      exact g_zret (v := (1 : Int32)) rfl rfl dX8_isFloor_15
def f_X8_surest (μ : Mem) (a1 : Int32) (a2 : Int32) (a3 : Int32) : Option (Int32 × Mem) :=
  (f_X8_isFloor μ (a1)).bind fun y1 =>
  if y1 = (0 : Int32) then (
    some ((-1 : Int32), μ)
  ) else (
    (f_X8_isFloor μ (a2)).bind fun y2 =>
    if y2 = (0 : Int32) then (
      some ((-1 : Int32), μ)
    ) else (
      if a3 < (0 : Int32) then (
        some ((-1 : Int32), μ)
      ) else (
        if a3 ≤ (2 : Int32) then (
          (rfG (gpl μ) isPl).bind fun q3 =>
          (f_X7_measure μ (q3) 4 (a2) ((-9 : Int32))).bind fun m5 =>
          if a3 = (0 : Int32) then (
            (f_X7_dueFrom m5 (a1)).bind fun y7 =>
            some (y7, m5)
          ) else
          if a3 = (1 : Int32) then (
            (f_X7_stepsFrom m5 (a1)).bind fun y9 =>
            some (y9, m5)
          ) else
          (
            (rfG (gpl m5) isPl).bind fun q10 =>
            (f_X7_firstFrom m5 (q10) 4 (a1)).bind fun y11 =>
            some (y11, m5)
          )
        ) else (
          some ((-1 : Int32), μ)
        )
      )
    )
  )
set_option maxRecDepth 100000 in
set_option maxHeartbeats 4000000 in
theorem k_X8_surest {l : Launch} {D : va_G} {cy : Nat → ClassId} {base : Nat} (μ : Mem) (a1 : Int32) (a2 : Int32) (a3 : Int32)  {out : Int32 × Mem} (hS : f_X8_surest μ a1 a2 a3 = some out) : gC l D cy base yX8_surest cX8_surest 4 (some .int) 2 [.ref (base + 0), .int (a1), .int (a2), .int (a3)] μ (some (.int out.1)) out.2 := by
  refine gC_of (own := RX8) (lv0 := [(0, .ref (base + 0)), (1, .int (a1)), (2, .int (a2)), (3, .int (a3))]) rfl (by decide) (Nat.le_of_ble_eq_true rfl) rfl ?_
  unfold f_X8_surest at hS
  refine g_iload_n (j := 1) (x := a1) dX8_surest_0 rfl rfl ?_
  obtain ⟨y1, ey1, hS⟩ := ob hS
  refine gs_callSi (As := [.int (a1)]) (st := []) (k_X8_isFloor μ (a1)  ey1) cl_RX8_195 sv_X8_isFloor ⟨by decide, by decide⟩ (Nat.le_of_ble_eq_true rfl) ⟨Nat.zero_le _, Nat.zero_le _⟩ rfl dX8_surest_1 rfl ?_
  refine g_if_eq 23 dX8_surest_4 (by decide) (fun hc => ?_) (fun hc => ?_)
  · replace hS := (if_pos hc).symm.trans hS
    refine g_iconst (v := -1) dX8_surest_23 (by decide) ?_
    obtain rfl := Option.some.inj hS
    exact g_iret rfl dX8_surest_24
  · replace hS := (if_neg hc).symm.trans hS
    refine g_iload_n (j := 2) (x := a2) dX8_surest_7 rfl rfl ?_
    obtain ⟨y2, ey2, hS⟩ := ob hS
    refine gs_callSi (As := [.int (a2)]) (st := []) (k_X8_isFloor μ (a2)  ey2) cl_RX8_195 sv_X8_isFloor ⟨by decide, by decide⟩ (Nat.le_of_ble_eq_true rfl) ⟨Nat.zero_le _, Nat.zero_le _⟩ rfl dX8_surest_8 rfl ?_
    refine g_if_eq 23 dX8_surest_11 (by decide) (fun hc => ?_) (fun hc => ?_)
    · replace hS := (if_pos hc).symm.trans hS
      refine g_iconst (v := -1) dX8_surest_23 (by decide) ?_
      obtain rfl := Option.some.inj hS
      exact g_iret rfl dX8_surest_24
    · replace hS := (if_neg hc).symm.trans hS
      refine g_iload_n (j := 3) (x := a3) dX8_surest_14 rfl rfl ?_
      refine g_if_lt 23 dX8_surest_15 (by decide) (fun hc => ?_) (fun hc => ?_)
      · replace hS := (if_pos hc).symm.trans hS
        refine g_iconst (v := -1) dX8_surest_23 (by decide) ?_
        obtain rfl := Option.some.inj hS
        exact g_iret rfl dX8_surest_24
      · replace hS := (if_neg hc).symm.trans hS
        refine g_iload_n (j := 3) (x := a3) dX8_surest_18 rfl rfl ?_
        refine g_iconst (v := 2) dX8_surest_19 (by decide) ?_
        refine g_icmp_le 25 dX8_surest_20 (by decide) (fun hc => ?_) (fun hc => ?_)
        · replace hS := (if_pos hc).symm.trans hS
          refine g_aload_n (j := 0) (x := base + 0) dX8_surest_25 rfl rfl ?_
          refine gs_getR (r := 143) lk_RX8_34 (tk_0 _) rfl dX8_surest_26 ?_
          refine g_aload_n (j := 0) (x := base + 0) dX8_surest_29 rfl rfl ?_
          obtain ⟨q3, eq3, hS⟩ := ob hS
          have hq3 := rfG_is eq3
          refine gs_getPl lk_RX8_62 dX8_surest_30 eq3 ?_
          refine g_aload_n (j := 0) (x := base + 0) dX8_surest_33 rfl rfl ?_
          refine gs_getR (r := 3) lk_RX8_19 (tk_0 _) rfl dX8_surest_34 ?_
          refine gs_getR (r := 4) lk_RX8_104 (tk_3 _) rfl dX8_surest_37 ?_
          refine g_iload_n (j := 2) (x := a2) dX8_surest_40 rfl rfl ?_
          refine g_bipush (v := -9) dX8_surest_41 (by decide) ?_
          obtain ⟨m5, em5, hS⟩ := ob hS
          refine gs_callVv (As := [.ref (base + q3), .ref (base + 4), .int (a2), .int ((-9 : Int32))]) (st := []) (kr := 143) (k_X7_measure μ (q3) 4 (a2) ((-9 : Int32)) hq3 rfl em5) cl_RX8_198 sv_X7_measure ckk_X7_measure (tk_143 _) ⟨by decide, by decide⟩ (Nat.le_of_ble_eq_true rfl) ⟨Nat.zero_le _, Nat.zero_le _⟩ rfl dX8_surest_43 rfl ?_
          refine g_iload_n (j := 3) (x := a3) dX8_surest_46 rfl rfl ?_
          by_cases hs6 : a3 = (0 : Int32)
          · replace hS := (if_pos hs6).symm.trans hS
            refine gs_lookup hs6 72 dX8_surest_47 (by decide) rfl (by decide) ?_
            refine g_aload_n (j := 0) (x := base + 0) dX8_surest_72 rfl rfl ?_
            refine gs_getR (r := 143) lk_RX8_34 (tk_0 _) rfl dX8_surest_73 ?_
            refine g_iload_n (j := 1) (x := a1) dX8_surest_76 rfl rfl ?_
            obtain ⟨y7, ey7, hS⟩ := ob hS
            refine gs_callVi (As := [.int (a1)]) (st := []) (kr := 143) (k_X7_dueFrom m5 (a1)  ey7) cl_RX8_202 sv_X7_dueFrom ckk_X7_dueFrom (tk_143 _) ⟨by decide, by decide⟩ (Nat.le_of_ble_eq_true rfl) ⟨Nat.zero_le _, Nat.zero_le _⟩ rfl dX8_surest_77 rfl ?_
            obtain rfl := Option.some.inj hS
            exact g_iret rfl dX8_surest_80
          replace hS := (if_neg hs6).symm.trans hS
          by_cases hs8 : a3 = (1 : Int32)
          · replace hS := (if_pos hs8).symm.trans hS
            refine gs_lookup hs8 81 dX8_surest_47 (by decide) rfl (by decide) ?_
            refine g_aload_n (j := 0) (x := base + 0) dX8_surest_81 rfl rfl ?_
            refine gs_getR (r := 143) lk_RX8_34 (tk_0 _) rfl dX8_surest_82 ?_
            refine g_iload_n (j := 1) (x := a1) dX8_surest_85 rfl rfl ?_
            obtain ⟨y9, ey9, hS⟩ := ob hS
            refine gs_callVi (As := [.int (a1)]) (st := []) (kr := 143) (k_X7_stepsFrom m5 (a1)  ey9) cl_RX8_205 sv_X7_stepsFrom ckk_X7_stepsFrom (tk_143 _) ⟨by decide, by decide⟩ (Nat.le_of_ble_eq_true rfl) ⟨Nat.zero_le _, Nat.zero_le _⟩ rfl dX8_surest_86 rfl ?_
            obtain rfl := Option.some.inj hS
            exact g_iret rfl dX8_surest_89
          replace hS := (if_neg hs8).symm.trans hS
          refine gs_lookupOut 90 dX8_surest_47 (by decide) (fun q hq => by simp only [List.mem_cons, List.not_mem_nil, or_false] at hq; rcases hq with rfl | rfl <;> assumption) (by decide) ?_
          refine g_aload_n (j := 0) (x := base + 0) dX8_surest_90 rfl rfl ?_
          refine gs_getR (r := 143) lk_RX8_34 (tk_0 _) rfl dX8_surest_91 ?_
          refine g_aload_n (j := 0) (x := base + 0) dX8_surest_94 rfl rfl ?_
          obtain ⟨q10, eq10, hS⟩ := ob hS
          have hq10 := rfG_is eq10
          refine gs_getPl lk_RX8_62 dX8_surest_95 eq10 ?_
          refine g_aload_n (j := 0) (x := base + 0) dX8_surest_98 rfl rfl ?_
          refine gs_getR (r := 3) lk_RX8_19 (tk_0 _) rfl dX8_surest_99 ?_
          refine gs_getR (r := 4) lk_RX8_104 (tk_3 _) rfl dX8_surest_102 ?_
          refine g_iload_n (j := 1) (x := a1) dX8_surest_105 rfl rfl ?_
          obtain ⟨y11, ey11, hS⟩ := ob hS
          refine gs_callVi (As := [.ref (base + q10), .ref (base + 4), .int (a1)]) (st := []) (kr := 143) (k_X7_firstFrom m5 (q10) 4 (a1) hq10 rfl ey11) cl_RX8_208 sv_X7_firstFrom ckk_X7_firstFrom (tk_143 _) ⟨by decide, by decide⟩ (Nat.le_of_ble_eq_true rfl) ⟨Nat.zero_le _, Nat.zero_le _⟩ rfl dX8_surest_106 rfl ?_
          obtain rfl := Option.some.inj hS
          exact g_iret rfl dX8_surest_109
        · replace hS := (if_neg hc).symm.trans hS
          refine g_iconst (v := -1) dX8_surest_23 (by decide) ?_
          obtain rfl := Option.some.inj hS
          exact g_iret rfl dX8_surest_24
def f_X8_bars (μ : Mem) (a1 : Int32) (a2 : Int32) : Option (Int32 × Mem) :=
  (f_X8_isFloor μ (a1)).bind fun y1 =>
  if y1 = (0 : Int32) then (
    some ((-1 : Int32), μ)
  ) else (
    (f_X8_isFloor μ (a2)).bind fun y2 =>
    if y2 = (0 : Int32) then (
      some ((-1 : Int32), μ)
    ) else (
      (rfG (gpl μ) isPl).bind fun q3 =>
      (f_X7_barsBetween μ (q3) 4 (a1) (a2)).bind fun z4 =>
      some (z4.1, z4.2)
    )
  )
set_option maxRecDepth 100000 in
set_option maxHeartbeats 4000000 in
theorem k_X8_bars {l : Launch} {D : va_G} {cy : Nat → ClassId} {base : Nat} (μ : Mem) (a1 : Int32) (a2 : Int32)  {out : Int32 × Mem} (hS : f_X8_bars μ a1 a2 = some out) : gC l D cy base yX8_bars cX8_bars 3 (some .int) 3 [.ref (base + 0), .int (a1), .int (a2)] μ (some (.int out.1)) out.2 := by
  refine gC_of (own := RX8) (lv0 := [(0, .ref (base + 0)), (1, .int (a1)), (2, .int (a2))]) rfl (by decide) (Nat.le_of_ble_eq_true rfl) rfl ?_
  unfold f_X8_bars at hS
  refine g_iload_n (j := 1) (x := a1) dX8_bars_0 rfl rfl ?_
  obtain ⟨y1, ey1, hS⟩ := ob hS
  refine gs_callSi (As := [.int (a1)]) (st := []) (k_X8_isFloor μ (a1)  ey1) cl_RX8_195 sv_X8_isFloor ⟨by decide, by decide⟩ (Nat.le_of_ble_eq_true rfl) ⟨Nat.zero_le _, Nat.zero_le _⟩ rfl dX8_bars_1 rfl ?_
  refine g_if_eq 14 dX8_bars_4 (by decide) (fun hc => ?_) (fun hc => ?_)
  · replace hS := (if_pos hc).symm.trans hS
    refine g_iconst (v := -1) dX8_bars_14 (by decide) ?_
    obtain rfl := Option.some.inj hS
    exact g_iret rfl dX8_bars_15
  · replace hS := (if_neg hc).symm.trans hS
    refine g_iload_n (j := 2) (x := a2) dX8_bars_7 rfl rfl ?_
    obtain ⟨y2, ey2, hS⟩ := ob hS
    refine gs_callSi (As := [.int (a2)]) (st := []) (k_X8_isFloor μ (a2)  ey2) cl_RX8_195 sv_X8_isFloor ⟨by decide, by decide⟩ (Nat.le_of_ble_eq_true rfl) ⟨Nat.zero_le _, Nat.zero_le _⟩ rfl dX8_bars_8 rfl ?_
    refine g_if_ne 16 dX8_bars_11 (by decide) (fun hc => ?_) (fun hc => ?_)
    · replace hS := (if_neg hc).symm.trans hS
      refine g_aload_n (j := 0) (x := base + 0) dX8_bars_16 rfl rfl ?_
      refine gs_getR (r := 143) lk_RX8_34 (tk_0 _) rfl dX8_bars_17 ?_
      refine g_aload_n (j := 0) (x := base + 0) dX8_bars_20 rfl rfl ?_
      obtain ⟨q3, eq3, hS⟩ := ob hS
      have hq3 := rfG_is eq3
      refine gs_getPl lk_RX8_62 dX8_bars_21 eq3 ?_
      refine g_aload_n (j := 0) (x := base + 0) dX8_bars_24 rfl rfl ?_
      refine gs_getR (r := 3) lk_RX8_19 (tk_0 _) rfl dX8_bars_25 ?_
      refine gs_getR (r := 4) lk_RX8_104 (tk_3 _) rfl dX8_bars_28 ?_
      refine g_iload_n (j := 1) (x := a1) dX8_bars_31 rfl rfl ?_
      refine g_iload_n (j := 2) (x := a2) dX8_bars_32 rfl rfl ?_
      obtain ⟨z4, ez4, hS⟩ := ob hS
      refine gs_callVi (As := [.ref (base + q3), .ref (base + 4), .int (a1), .int (a2)]) (st := []) (kr := 143) (k_X7_barsBetween μ (q3) 4 (a1) (a2) hq3 rfl ez4) cl_RX8_212 sv_X7_barsBetween ckk_X7_barsBetween (tk_143 _) ⟨by decide, by decide⟩ (Nat.le_of_ble_eq_true rfl) ⟨Nat.zero_le _, Nat.zero_le _⟩ rfl dX8_bars_33 rfl ?_
      obtain rfl := Option.some.inj hS
      exact g_iret rfl dX8_bars_36
    · replace hS := (if_pos hc).symm.trans hS
      refine g_iconst (v := -1) dX8_bars_14 (by decide) ?_
      obtain rfl := Option.some.inj hS
      exact g_iret rfl dX8_bars_15
def f_X8_paid_j51 (m8 : Mem) (q5 : Nat) (x6 : Int32) (x7 : Int32) : Option (Int32 × Mem) :=
  (f_X2_payByFalls m8 (q5) (x6) (x7)).bind fun z9 =>
  some (z9.1, z9.2)
set_option maxRecDepth 100000 in
set_option maxHeartbeats 4000000 in
theorem k_X8_paid_j51 {l : Launch} {D : va_G} {cy : Nat → ClassId} {base : Nat} {X : gX} (m8 : Mem) (q5 : Nat) (x6 : Int32) (x7 : Int32) (hq5 : isPl q5 = true) {out : Int32 × Mem} (hS : f_X8_paid_j51 m8 q5 x6 x7 = some out)  : G l D cy base RX8 cX8_paid 3 (some .int) (gRm 4) X (gZm D cy base 0 0 (some (.int out.1)) gNN (gH cy base out.2)) 51 [] [.int (x7), .int (x6), .ref (base + q5), .ref (base + 145)] 0 0 gNN (gH cy base m8) := by
  unfold f_X8_paid_j51 at hS
  obtain ⟨z9, ez9, hS⟩ := ob hS
  refine gs_callVi (As := [.ref (base + q5), .int (x6), .int (x7)]) (st := []) (kr := 145) (k_X2_payByFalls m8 (q5) (x6) (x7) hq5 ez9) cl_RX8_216 sv_X2_payByFalls ckk_X2_payByFalls (tk_145 _) ⟨by decide, by decide⟩ (Nat.le_of_ble_eq_true rfl) ⟨Nat.zero_le _, Nat.zero_le _⟩ rfl dX8_paid_51 rfl ?_
  obtain rfl := Option.some.inj hS
  exact g_iret rfl dX8_paid_54
def f_X8_paid (μ : Mem) (a1 : Int32) (a2 : Int32) : Option (Int32 × Mem) :=
  (rfG (gpl μ) isPl).bind fun q1 =>
  (f_X3_hasStair μ (q1) (a1)).bind fun y2 =>
  if y2 = (0 : Int32) then (
    some ((-1 : Int32), μ)
  ) else (
    if a2 < (0 : Int32) then (
      some ((-1 : Int32), μ)
    ) else (
      if a2 ≤ (1 : Int32) then (
        (rfG (gpl μ) isPl).bind fun q3 =>
        (ldA μ 5 7 (a1)).bind fun y4 =>
        if a2 = (0 : Int32) then (
          f_X8_paid_j51 μ (q3) (y4) ((1 : Int32))
        ) else (
          f_X8_paid_j51 μ (q3) (y4) ((0 : Int32))
        )
      ) else (
        some ((-1 : Int32), μ)
      )
    )
  )
set_option maxRecDepth 100000 in
set_option maxHeartbeats 4000000 in
theorem k_X8_paid {l : Launch} {D : va_G} {cy : Nat → ClassId} {base : Nat} (μ : Mem) (a1 : Int32) (a2 : Int32)  {out : Int32 × Mem} (hS : f_X8_paid μ a1 a2 = some out) : gC l D cy base yX8_paid cX8_paid 3 (some .int) 4 [.ref (base + 0), .int (a1), .int (a2)] μ (some (.int out.1)) out.2 := by
  refine gC_of (own := RX8) (lv0 := [(0, .ref (base + 0)), (1, .int (a1)), (2, .int (a2))]) rfl (by decide) (Nat.le_of_ble_eq_true rfl) rfl ?_
  unfold f_X8_paid at hS
  refine g_aload_n (j := 0) (x := base + 0) dX8_paid_0 rfl rfl ?_
  obtain ⟨q1, eq1, hS⟩ := ob hS
  have hq1 := rfG_is eq1
  refine gs_getPl lk_RX8_62 dX8_paid_1 eq1 ?_
  refine g_iload_n (j := 1) (x := a1) dX8_paid_4 rfl rfl ?_
  obtain ⟨y2, ey2, hS⟩ := ob hS
  refine gs_callVi (As := [.int (a1)]) (st := []) (kr := q1) (k_X3_hasStair μ (q1) (a1) hq1 ey2) cl_RX8_88 sv_X3_hasStair ckk_X3_hasStair (tkPl_0 hq1 _) ⟨by decide, by decide⟩ (Nat.le_of_ble_eq_true rfl) ⟨Nat.zero_le _, Nat.zero_le _⟩ rfl dX8_paid_5 rfl ?_
  refine g_if_eq 20 dX8_paid_8 (by decide) (fun hc => ?_) (fun hc => ?_)
  · replace hS := (if_pos hc).symm.trans hS
    refine g_iconst (v := -1) dX8_paid_20 (by decide) ?_
    obtain rfl := Option.some.inj hS
    exact g_iret rfl dX8_paid_21
  · replace hS := (if_neg hc).symm.trans hS
    refine g_iload_n (j := 2) (x := a2) dX8_paid_11 rfl rfl ?_
    refine g_if_lt 20 dX8_paid_12 (by decide) (fun hc => ?_) (fun hc => ?_)
    · replace hS := (if_pos hc).symm.trans hS
      refine g_iconst (v := -1) dX8_paid_20 (by decide) ?_
      obtain rfl := Option.some.inj hS
      exact g_iret rfl dX8_paid_21
    · replace hS := (if_neg hc).symm.trans hS
      refine g_iload_n (j := 2) (x := a2) dX8_paid_15 rfl rfl ?_
      refine g_iconst (v := 1) dX8_paid_16 (by decide) ?_
      refine g_icmp_le 22 dX8_paid_17 (by decide) (fun hc => ?_) (fun hc => ?_)
      · replace hS := (if_pos hc).symm.trans hS
        refine g_aload_n (j := 0) (x := base + 0) dX8_paid_22 rfl rfl ?_
        refine gs_getR (r := 145) lk_RX8_41 (tk_0 _) rfl dX8_paid_23 ?_
        refine g_aload_n (j := 0) (x := base + 0) dX8_paid_26 rfl rfl ?_
        obtain ⟨q3, eq3, hS⟩ := ob hS
        have hq3 := rfG_is eq3
        refine gs_getPl lk_RX8_62 dX8_paid_27 eq3 ?_
        refine g_aload_n (j := 0) (x := base + 0) dX8_paid_30 rfl rfl ?_
        refine gs_getR (r := 3) lk_RX8_19 (tk_0 _) rfl dX8_paid_31 ?_
        refine gs_getR (r := 4) lk_RX8_104 (tk_3 _) rfl dX8_paid_34 ?_
        refine gs_getR (r := 5) lk_RX8_108 (tk_4 _) rfl dX8_paid_37 ?_
        refine g_iload_n (j := 1) (x := a1) dX8_paid_40 rfl rfl ?_
        obtain ⟨y4, ey4, hS⟩ := ob hS
        refine gs_iald (tk_5 _) dX8_paid_41 ey4 ?_
        refine g_iload_n (j := 2) (x := a2) dX8_paid_42 rfl rfl ?_
        refine g_if_ne 50 dX8_paid_43 (by decide) (fun hc => ?_) (fun hc => ?_)
        · replace hS := (if_neg hc).symm.trans hS
          refine g_iconst (v := 0) dX8_paid_50 (by decide) ?_
          refine g_sub (lvx := []) [] rfl ?_
          exact k_X8_paid_j51 (μ) (q3) (y4) ((0 : Int32)) hq3 hS
        · replace hS := (if_pos hc).symm.trans hS
          refine g_iconst (v := 1) dX8_paid_46 (by decide) ?_
          refine g_goto 51 dX8_paid_47 (by decide) ?_
          refine g_sub (lvx := []) [] rfl ?_
          exact k_X8_paid_j51 (μ) (q3) (y4) ((1 : Int32)) hq3 hS
      · replace hS := (if_neg hc).symm.trans hS
        refine g_iconst (v := -1) dX8_paid_20 (by decide) ?_
        obtain rfl := Option.some.inj hS
        exact g_iret rfl dX8_paid_21
def f_X8_isAsked (μ : Mem) (a0 : Int32) : Option (Int32) :=
  if a0 < (0 : Int32) then (
    some (0 : Int32)
  ) else (
    if (99 : Int32) < a0 then (
      some (0 : Int32)
    ) else (
      some (1 : Int32)
    )
  )
set_option maxRecDepth 100000 in
set_option maxHeartbeats 4000000 in
theorem k_X8_isAsked {l : Launch} {D : va_G} {cy : Nat → ClassId} {base : Nat} (μ : Mem) (a0 : Int32)  {out : Int32} (hS : f_X8_isAsked μ a0 = some out) : gC l D cy base yX8_isAsked cX8_isAsked 1 (some .boolean) 0 [.int (a0)] μ (some (.int out)) μ := by
  refine gC_of (own := RX8) (lv0 := [(0, .int (a0))]) rfl (by decide) (Nat.le_of_ble_eq_true rfl) rfl ?_
  unfold f_X8_isAsked at hS
  refine g_iload_n (j := 0) (x := a0) dX8_isAsked_0 rfl rfl ?_
  refine g_if_lt 14 dX8_isAsked_1 (by decide) (fun hc => ?_) (fun hc => ?_)
  · replace hS := (if_pos hc).symm.trans hS
    refine g_iconst (v := 0) dX8_isAsked_14 (by decide) ?_
    obtain rfl := Option.some.inj hS
    exact g_zret (v := (0 : Int32)) rfl rfl dX8_isAsked_15
  · replace hS := (if_neg hc).symm.trans hS
    refine g_iload_n (j := 0) (x := a0) dX8_isAsked_4 rfl rfl ?_
    refine g_bipush (v := 99) dX8_isAsked_5 (by decide) ?_
    refine g_icmp_gt 14 dX8_isAsked_7 (by decide) (fun hc => ?_) (fun hc => ?_)
    · replace hS := (if_pos hc).symm.trans hS
      refine g_iconst (v := 0) dX8_isAsked_14 (by decide) ?_
      obtain rfl := Option.some.inj hS
      exact g_zret (v := (0 : Int32)) rfl rfl dX8_isAsked_15
    · replace hS := (if_neg hc).symm.trans hS
      refine g_iconst (v := 1) dX8_isAsked_10 (by decide) ?_
      refine g_goto 15 dX8_isAsked_11 (by decide) ?_
      obtain rfl := Option.some.inj hS
      exact g_zret (v := (1 : Int32)) rfl rfl dX8_isAsked_15
def f_X8_coins_j41 (m11 : Mem) (x9 : Int32) (x10 : Int32) : Option (Int32 × Mem) :=
  (rfG (gpl m11) isPl).bind fun q12 =>
  (f_X2_spend m11 (q12) 4 (x9)).bind fun m14 =>
  if x10 = (-1 : Int32) then (
    (f_X2_leastDue m14 (x9)).bind fun y17 =>
    some (y17, m14)
  ) else (
    if x10 = (-2 : Int32) then (
      (f_X2_fewestCoins m14 (x9)).bind fun y16 =>
      some (y16, m14)
    ) else (
      (f_X2_coinsFor m14 (x10) (x9)).bind fun y15 =>
      some (y15, m14)
    )
  )
set_option maxRecDepth 100000 in
set_option maxHeartbeats 4000000 in
theorem k_X8_coins_j41 {l : Launch} {D : va_G} {cy : Nat → ClassId} {base : Nat} {X : gX} (m11 : Mem) (x9 : Int32) (x10 : Int32)  {out : Int32 × Mem} (hS : f_X8_coins_j41 m11 x9 x10 = some out)  : G l D cy base RX8 cX8_coins 4 (some .int) (gRm 3) X (gZm D cy base 0 0 (some (.int out.1)) gNN (gH cy base out.2)) 41 [(0, .ref (base + 0)), (1, .int (x9)), (2, .int (x10))] [] 0 0 gNN (gH cy base m11) := by
  unfold f_X8_coins_j41 at hS
  refine g_aload_n (j := 0) (x := base + 0) dX8_coins_41 rfl rfl ?_
  refine gs_getR (r := 145) lk_RX8_41 (tk_0 _) rfl dX8_coins_42 ?_
  refine g_aload_n (j := 0) (x := base + 0) dX8_coins_45 rfl rfl ?_
  obtain ⟨q12, eq12, hS⟩ := ob hS
  have hq12 := rfG_is eq12
  refine gs_getPl lk_RX8_62 dX8_coins_46 eq12 ?_
  refine g_aload_n (j := 0) (x := base + 0) dX8_coins_49 rfl rfl ?_
  refine gs_getR (r := 3) lk_RX8_19 (tk_0 _) rfl dX8_coins_50 ?_
  refine gs_getR (r := 4) lk_RX8_104 (tk_3 _) rfl dX8_coins_53 ?_
  refine g_iload_n (j := 1) (x := x9) dX8_coins_56 rfl rfl ?_
  obtain ⟨m14, em14, hS⟩ := ob hS
  refine gs_callVv (As := [.ref (base + q12), .ref (base + 4), .int (x9)]) (st := []) (kr := 145) (k_X2_spend m11 (q12) 4 (x9) hq12 rfl em14) cl_RX8_223 sv_X2_spend ckk_X2_spend (tk_145 _) ⟨by decide, by decide⟩ (Nat.le_of_ble_eq_true rfl) ⟨Nat.zero_le _, Nat.zero_le _⟩ rfl dX8_coins_57 rfl ?_
  refine g_iload_n (j := 2) (x := x10) dX8_coins_60 rfl rfl ?_
  refine g_iconst (v := -1) dX8_coins_61 (by decide) ?_
  refine g_icmp_ne 74 dX8_coins_62 (by decide) (fun hc => ?_) (fun hc => ?_)
  · replace hS := (if_neg hc).symm.trans hS
    refine g_iload_n (j := 2) (x := x10) dX8_coins_74 rfl rfl ?_
    refine g_bipush (v := -2) dX8_coins_75 (by decide) ?_
    refine g_icmp_ne 91 dX8_coins_77 (by decide) (fun hc => ?_) (fun hc => ?_)
    · replace hS := (if_neg hc).symm.trans hS
      refine g_aload_n (j := 0) (x := base + 0) dX8_coins_91 rfl rfl ?_
      refine gs_getR (r := 145) lk_RX8_41 (tk_0 _) rfl dX8_coins_92 ?_
      refine g_iload_n (j := 2) (x := x10) dX8_coins_95 rfl rfl ?_
      refine g_iload_n (j := 1) (x := x9) dX8_coins_96 rfl rfl ?_
      obtain ⟨y15, ey15, hS⟩ := ob hS
      refine gs_callVi (As := [.int (x10), .int (x9)]) (st := []) (kr := 145) (k_X2_coinsFor m14 (x10) (x9)  ey15) cl_RX8_233 sv_X2_coinsFor ckk_X2_coinsFor (tk_145 _) ⟨by decide, by decide⟩ (Nat.le_of_ble_eq_true rfl) ⟨Nat.zero_le _, Nat.zero_le _⟩ rfl dX8_coins_97 rfl ?_
      obtain rfl := Option.some.inj hS
      exact g_iret rfl dX8_coins_100
    · replace hS := (if_pos hc).symm.trans hS
      refine g_aload_n (j := 0) (x := base + 0) dX8_coins_80 rfl rfl ?_
      refine gs_getR (r := 145) lk_RX8_41 (tk_0 _) rfl dX8_coins_81 ?_
      refine g_iload_n (j := 1) (x := x9) dX8_coins_84 rfl rfl ?_
      obtain ⟨y16, ey16, hS⟩ := ob hS
      refine gs_callVi (As := [.int (x9)]) (st := []) (kr := 145) (k_X2_fewestCoins m14 (x9)  ey16) cl_RX8_230 sv_X2_fewestCoins ckk_X2_fewestCoins (tk_145 _) ⟨by decide, by decide⟩ (Nat.le_of_ble_eq_true rfl) ⟨Nat.zero_le _, Nat.zero_le _⟩ rfl dX8_coins_85 rfl ?_
      refine g_goto 100 dX8_coins_88 (by decide) ?_
      obtain rfl := Option.some.inj hS
      exact g_iret rfl dX8_coins_100
  · replace hS := (if_pos hc).symm.trans hS
    refine g_aload_n (j := 0) (x := base + 0) dX8_coins_65 rfl rfl ?_
    refine gs_getR (r := 145) lk_RX8_41 (tk_0 _) rfl dX8_coins_66 ?_
    refine g_iload_n (j := 1) (x := x9) dX8_coins_69 rfl rfl ?_
    obtain ⟨y17, ey17, hS⟩ := ob hS
    refine gs_callVi (As := [.int (x9)]) (st := []) (kr := 145) (k_X2_leastDue m14 (x9)  ey17) cl_RX8_227 sv_X2_leastDue ckk_X2_leastDue (tk_145 _) ⟨by decide, by decide⟩ (Nat.le_of_ble_eq_true rfl) ⟨Nat.zero_le _, Nat.zero_le _⟩ rfl dX8_coins_70 rfl ?_
    obtain rfl := Option.some.inj hS
    exact g_iret rfl dX8_coins_73
def f_X8_coins_j16 (m7 : Mem) (x4 : Int32) (x5 : Int32) (x6 : Int32) : Option (Int32 × Mem) :=
  (f_X8_isAsked m7 (x4)).bind fun y8 =>
  if y8 = (0 : Int32) then (
    some ((-1 : Int32), m7)
  ) else (
    if x6 = (0 : Int32) then (
      (rfG (gpl m7) isPl).bind fun q18 =>
      (f_X3_hasStair m7 (q18) (x5)).bind fun y19 =>
      if y19 = (0 : Int32) then (
        some ((-1 : Int32), m7)
      ) else (
        f_X8_coins_j41 m7 (x4) (x5)
      )
    ) else (
      f_X8_coins_j41 m7 (x4) (x5)
    )
  )
set_option maxRecDepth 100000 in
set_option maxHeartbeats 4000000 in
theorem k_X8_coins_j16 {l : Launch} {D : va_G} {cy : Nat → ClassId} {base : Nat} {X : gX} (m7 : Mem) (x4 : Int32) (x5 : Int32) (x6 : Int32)  {out : Int32 × Mem} (hS : f_X8_coins_j16 m7 x4 x5 x6 = some out)  : G l D cy base RX8 cX8_coins 4 (some .int) (gRm 3) X (gZm D cy base 0 0 (some (.int out.1)) gNN (gH cy base out.2)) 16 [(0, .ref (base + 0)), (1, .int (x4)), (2, .int (x5))] [.int (x6)] 0 0 gNN (gH cy base m7) := by
  unfold f_X8_coins_j16 at hS
  refine g_istore_n (lvx := [(3, .int (x6)), (0, .ref (base + 0)), (1, .int (x4)), (2, .int (x5))]) dX8_coins_16 rfl (by decide) rfl ?_
  refine g_iload_n (j := 2) (x := x4) dX8_coins_17 rfl rfl ?_
  obtain ⟨y8, ey8, hS⟩ := ob hS
  refine gs_callSi (As := [.int (x4)]) (st := []) (k_X8_isAsked m7 (x4)  ey8) cl_RX8_220 sv_X8_isAsked ⟨by decide, by decide⟩ (Nat.le_of_ble_eq_true rfl) ⟨Nat.zero_le _, Nat.zero_le _⟩ rfl dX8_coins_18 rfl ?_
  refine g_if_eq 39 dX8_coins_21 (by decide) (fun hc => ?_) (fun hc => ?_)
  · replace hS := (if_pos hc).symm.trans hS
    refine g_iconst (v := -1) dX8_coins_39 (by decide) ?_
    obtain rfl := Option.some.inj hS
    exact g_iret rfl dX8_coins_40
  · replace hS := (if_neg hc).symm.trans hS
    refine g_iload_n (j := 0) (x := x6) dX8_coins_24 rfl rfl ?_
    refine g_if_ne 41 dX8_coins_25 (by decide) (fun hc => ?_) (fun hc => ?_)
    · replace hS := (if_neg hc).symm.trans hS
      refine g_sub (lvx := [(0, .ref (base + 0)), (1, .int (x4)), (2, .int (x5))]) [1, 2, 3] rfl ?_
      exact k_X8_coins_j41 (m7) (x4) (x5)  hS
    · replace hS := (if_pos hc).symm.trans hS
      refine g_aload_n (j := 1) (x := base + 0) dX8_coins_28 rfl rfl ?_
      obtain ⟨q18, eq18, hS⟩ := ob hS
      have hq18 := rfG_is eq18
      refine gs_getPl lk_RX8_62 dX8_coins_29 eq18 ?_
      refine g_iload_n (j := 3) (x := x5) dX8_coins_32 rfl rfl ?_
      obtain ⟨y19, ey19, hS⟩ := ob hS
      refine gs_callVi (As := [.int (x5)]) (st := []) (kr := q18) (k_X3_hasStair m7 (q18) (x5) hq18 ey19) cl_RX8_88 sv_X3_hasStair ckk_X3_hasStair (tkPl_0 hq18 _) ⟨by decide, by decide⟩ (Nat.le_of_ble_eq_true rfl) ⟨Nat.zero_le _, Nat.zero_le _⟩ rfl dX8_coins_33 rfl ?_
      refine g_if_ne 41 dX8_coins_36 (by decide) (fun hc => ?_) (fun hc => ?_)
      · replace hS := (if_neg hc).symm.trans hS
        refine g_sub (lvx := [(0, .ref (base + 0)), (1, .int (x4)), (2, .int (x5))]) [1, 2, 3] rfl ?_
        exact k_X8_coins_j41 (m7) (x4) (x5)  hS
      · replace hS := (if_pos hc).symm.trans hS
        refine g_iconst (v := -1) dX8_coins_39 (by decide) ?_
        obtain rfl := Option.some.inj hS
        exact g_iret rfl dX8_coins_40
def f_X8_coins_j11 (m3 : Mem) (x1 : Int32) (x2 : Int32) : Option (Int32 × Mem) :=
  f_X8_coins_j16 m3 (x1) (x2) ((1 : Int32))
set_option maxRecDepth 100000 in
set_option maxHeartbeats 4000000 in
theorem k_X8_coins_j11 {l : Launch} {D : va_G} {cy : Nat → ClassId} {base : Nat} {X : gX} (m3 : Mem) (x1 : Int32) (x2 : Int32)  {out : Int32 × Mem} (hS : f_X8_coins_j11 m3 x1 x2 = some out)  : G l D cy base RX8 cX8_coins 4 (some .int) (gRm 3) X (gZm D cy base 0 0 (some (.int out.1)) gNN (gH cy base out.2)) 11 [(0, .ref (base + 0)), (1, .int (x1)), (2, .int (x2))] [] 0 0 gNN (gH cy base m3) := by
  unfold f_X8_coins_j11 at hS
  refine g_iconst (v := 1) dX8_coins_11 (by decide) ?_
  refine g_goto 16 dX8_coins_12 (by decide) ?_
  exact k_X8_coins_j16 (m3) (x1) (x2) ((1 : Int32))  hS
def f_X8_coins (μ : Mem) (a1 : Int32) (a2 : Int32) : Option (Int32 × Mem) :=
  if a2 = (-1 : Int32) then (
    f_X8_coins_j11 μ (a1) (a2)
  ) else (
    if a2 = (-2 : Int32) then (
      f_X8_coins_j11 μ (a1) (a2)
    ) else (
      f_X8_coins_j16 μ (a1) (a2) ((0 : Int32))
    )
  )
set_option maxRecDepth 100000 in
set_option maxHeartbeats 4000000 in
theorem k_X8_coins {l : Launch} {D : va_G} {cy : Nat → ClassId} {base : Nat} (μ : Mem) (a1 : Int32) (a2 : Int32)  {out : Int32 × Mem} (hS : f_X8_coins μ a1 a2 = some out) : gC l D cy base yX8_coins cX8_coins 4 (some .int) 3 [.ref (base + 0), .int (a1), .int (a2)] μ (some (.int out.1)) out.2 := by
  refine gC_of (own := RX8) (lv0 := [(0, .ref (base + 0)), (1, .int (a1)), (2, .int (a2))]) rfl (by decide) (Nat.le_of_ble_eq_true rfl) rfl ?_
  unfold f_X8_coins at hS
  refine g_iload_n (j := 2) (x := a2) dX8_coins_0 rfl rfl ?_
  refine g_iconst (v := -1) dX8_coins_1 (by decide) ?_
  refine g_icmp_eq 11 dX8_coins_2 (by decide) (fun hc => ?_) (fun hc => ?_)
  · replace hS := (if_pos hc).symm.trans hS
    exact k_X8_coins_j11 (μ) (a1) (a2)  hS
  · replace hS := (if_neg hc).symm.trans hS
    refine g_iload_n (j := 2) (x := a2) dX8_coins_5 rfl rfl ?_
    refine g_bipush (v := -2) dX8_coins_6 (by decide) ?_
    refine g_icmp_ne 15 dX8_coins_8 (by decide) (fun hc => ?_) (fun hc => ?_)
    · replace hS := (if_neg hc).symm.trans hS
      refine g_iconst (v := 0) dX8_coins_15 (by decide) ?_
      exact k_X8_coins_j16 (μ) (a1) (a2) ((0 : Int32))  hS
    · replace hS := (if_pos hc).symm.trans hS
      exact k_X8_coins_j11 (μ) (a1) (a2)  hS

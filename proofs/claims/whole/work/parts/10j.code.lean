def f_X9_keep_b13 (x2 : Int32) (v : Int32 × Mem) : Option ((Int32 × Mem) ⊕ ((Mem))) :=
  if (716 : Int32) ≤ v.1 then (
    some (.inr (v.2))
  ) else (
    (ldA v.2 190 716 (v.1)).bind fun y3 =>
    (stA v.2 191 1432 ((((716 : Int32) * x2) + v.1)) (y3)).bind fun m4 =>
    some (.inl (((v.1 + (1 : Int32))), (m4)))
  )
set_option maxRecDepth 100000 in
set_option maxHeartbeats 4000000 in
theorem k_X9_keep_b13 {l : Launch} {D : va_G} {cy : Nat → ClassId} {base : Nat} {X : gX} {Z : gZ} (x2 : Int32)  (v : Int32 × Mem) (r : (Int32 × Mem) ⊕ ((Mem))) (hS : f_X9_keep_b13 x2 v = some r) (hin : ∀ v2, r = .inl v2 → G l D cy base RX9 cX9_keep 3 (some .int) (gRm 1) X Z 13 [(0, .ref (base + 186)), (1, .int (x2)), (2, .int (v2.1))] [] 0 0 gNN (gH cy base v2.2)) (hout0 : ∀ x, r = .inr x → G l D cy base RX9 cX9_keep 3 (some .int) (gRm 1) X Z 44 [(0, .ref (base + 186)), (1, .int (x2))] [] 0 0 gNN (gH cy base x)) : G l D cy base RX9 cX9_keep 3 (some .int) (gRm 1) X Z 13 [(0, .ref (base + 186)), (1, .int (x2)), (2, .int (v.1))] [] 0 0 gNN (gH cy base v.2) := by
  unfold f_X9_keep_b13 at hS
  refine g_iload_n (j := 2) (x := v.1) dX9_keep_13 rfl rfl ?_
  refine g_sipush (v := 716) dX9_keep_14 (by decide) ?_
  refine g_icmp_ge 44 dX9_keep_17 (by decide) (fun hc => ?_) (fun hc => ?_)
  · replace hS := (if_pos hc).symm.trans hS
    refine g_sub (lvx := [(0, .ref (base + 186)), (1, .int (x2))]) [0, 1] rfl ?_
    obtain rfl := Option.some.inj hS
    exact hout0 ((v.2)) rfl
  · replace hS := (if_neg hc).symm.trans hS
    refine g_aload_n (j := 0) (x := base + 186) dX9_keep_20 rfl rfl ?_
    refine gs_getR (r := 191) lk_RX9_22 (tk_186 _) rfl dX9_keep_21 ?_
    refine g_sipush (v := 716) dX9_keep_24 (by decide) ?_
    refine g_iload_n (j := 1) (x := x2) dX9_keep_27 rfl rfl ?_
    refine g_imul dX9_keep_28 ?_
    refine g_iload_n (j := 2) (x := v.1) dX9_keep_29 rfl rfl ?_
    refine g_iadd dX9_keep_30 ?_
    refine g_aload_n (j := 0) (x := base + 186) dX9_keep_31 rfl rfl ?_
    refine gs_getR (r := 190) lk_RX9_19 (tk_186 _) rfl dX9_keep_32 ?_
    refine g_iload_n (j := 2) (x := v.1) dX9_keep_35 rfl rfl ?_
    obtain ⟨y3, ey3, hS⟩ := ob hS
    refine gs_iald (tk_190 _) dX9_keep_36 ey3 ?_
    obtain ⟨m4, em4, hS⟩ := ob hS
    refine gs_iast (tk_191 _) dX9_keep_37 em4 ?_
    refine g_iinc (j := 2) (x := v.1) (v := (v.1 + (1 : Int32))) (lvx := [(2, .int ((v.1 + (1 : Int32)))), (0, .ref (base + 186)), (1, .int (x2))]) dX9_keep_38 rfl rfl (by decide) rfl ?_
    refine g_goto 13 dX9_keep_41 (by decide) ?_
    refine g_sub (lvx := [(0, .ref (base + 186)), (1, .int (x2)), (2, .int ((v.1 + (1 : Int32))))]) [1, 2, 0] rfl ?_
    obtain rfl := Option.some.inj hS
    exact hin ((((v.1 + (1 : Int32))), (m4))) rfl
def f_X9_keep (μ : Mem) (a1 : Int32) : Option (Int32 × Mem) :=
  (f_X9_in μ (a1) ((0 : Int32)) ((1 : Int32))).bind fun y1 =>
  if y1 = (0 : Int32) then (
    some ((-1 : Int32), μ)
  ) else (
    (iter gFU (f_X9_keep_b13  (a1)) (((0 : Int32)), μ)).bind fun z5 =>
    (stZ z5 192 2 (a1) ((1 : Int32))).bind fun m6 =>
    (ldA m6 190 716 ((64 : Int32))).bind fun y7 =>
    some (y7, m6)
  )
set_option maxRecDepth 100000 in
set_option maxHeartbeats 4000000 in
theorem k_X9_keep {l : Launch} {D : va_G} {cy : Nat → ClassId} {base : Nat} (μ : Mem) (a1 : Int32)  {out : Int32 × Mem} (hS : f_X9_keep μ a1 = some out) : gC l D cy base yX9_keep cX9_keep 3 (some .int) 1 [.ref (base + 186), .int (a1)] μ (some (.int out.1)) out.2 := by
  refine gC_of (own := RX9) (lv0 := [(0, .ref (base + 186)), (1, .int (a1))]) rfl (by decide) (Nat.le_of_ble_eq_true rfl) rfl ?_
  unfold f_X9_keep at hS
  refine g_iload_n (j := 1) (x := a1) dX9_keep_0 rfl rfl ?_
  refine g_iconst (v := 0) dX9_keep_1 (by decide) ?_
  refine g_iconst (v := 1) dX9_keep_2 (by decide) ?_
  obtain ⟨y1, ey1, hS⟩ := ob hS
  refine gs_callSi (As := [.int (a1), .int ((0 : Int32)), .int ((1 : Int32))]) (st := []) (k_X9_in μ (a1) ((0 : Int32)) ((1 : Int32))  ey1) cl_RX9_54 sv_X9_in ⟨by decide, by decide⟩ (Nat.le_of_ble_eq_true rfl) ⟨Nat.zero_le _, Nat.zero_le _⟩ rfl dX9_keep_3 rfl ?_
  refine g_if_ne 11 dX9_keep_6 (by decide) (fun hc => ?_) (fun hc => ?_)
  · replace hS := (if_neg hc).symm.trans hS
    refine g_iconst (v := 0) dX9_keep_11 (by decide) ?_
    refine g_istore_n (lvx := [(2, .int ((0 : Int32))), (0, .ref (base + 186)), (1, .int (a1))]) dX9_keep_12 rfl (by decide) rfl ?_
    obtain ⟨z5, ez5, hS⟩ := ob hS
    refine g_sub (lvx := [(0, .ref (base + 186)), (1, .int (a1)), (2, .int ((0 : Int32)))]) [1, 2, 0] rfl ?_
    refine iter_ind (fun vv => G l D cy base RX9 cX9_keep 3 (some .int) (gRm 1) (gXm yX9_keep) (gZm D cy base 0 0 (some (.int out.1)) gNN (gH cy base out.2)) 13 [(0, .ref (base + 186)), (1, .int (a1)), (2, .int (vv.1))] [] 0 0 gNN (gH cy base vv.2)) (fun xx => G l D cy base RX9 cX9_keep 3 (some .int) (gRm 1) (gXm yX9_keep) (gZm D cy base 0 0 (some (.int out.1)) gNN (gH cy base out.2)) 44 [(0, .ref (base + 186)), (1, .int (a1))] [] 0 0 gNN (gH cy base xx)) (fun vv rr hh hin hout => k_X9_keep_b13  (a1)  vv rr hh hin (fun xx ee => hout xx ee)) gFU (((0 : Int32)), μ) z5 ez5 ?_
    show G l D cy base RX9 cX9_keep 3 (some .int) (gRm 1) (gXm yX9_keep) (gZm D cy base 0 0 (some (.int out.1)) gNN (gH cy base out.2)) 44 [(0, .ref (base + 186)), (1, .int (a1))] [] 0 0 gNN (gH cy base z5)
    refine g_aload_n (j := 0) (x := base + 186) dX9_keep_44 rfl rfl ?_
    refine gs_getR (r := 192) lk_RX9_25 (tk_186 _) rfl dX9_keep_45 ?_
    refine g_iload_n (j := 1) (x := a1) dX9_keep_48 rfl rfl ?_
    refine g_iconst (v := 1) dX9_keep_49 (by decide) ?_
    obtain ⟨m6, em6, hS⟩ := ob hS
    refine gs_zast (tk_192 _) dX9_keep_50 em6 ?_
    refine g_aload_n (j := 0) (x := base + 186) dX9_keep_51 rfl rfl ?_
    refine gs_getR (r := 190) lk_RX9_19 (tk_186 _) rfl dX9_keep_52 ?_
    refine g_bipush (v := 64) dX9_keep_55 (by decide) ?_
    obtain ⟨y7, ey7, hS⟩ := ob hS
    refine gs_iald (tk_190 _) dX9_keep_57 ey7 ?_
    obtain rfl := Option.some.inj hS
    exact g_iret rfl dX9_keep_58
  · replace hS := (if_pos hc).symm.trans hS
    refine g_iconst (v := -1) dX9_keep_9 (by decide) ?_
    obtain rfl := Option.some.inj hS
    exact g_iret rfl dX9_keep_10
def f_X9_back_b25 (x3 : Int32) (v : Int32 × Mem) : Option ((Int32 × Mem) ⊕ ((Mem))) :=
  if (716 : Int32) ≤ v.1 then (
    some (.inr (v.2))
  ) else (
    (ldA v.2 191 1432 ((((716 : Int32) * x3) + v.1))).bind fun y4 =>
    (stA v.2 190 716 (v.1) (y4)).bind fun m5 =>
    some (.inl (((v.1 + (1 : Int32))), (m5)))
  )
set_option maxRecDepth 100000 in
set_option maxHeartbeats 4000000 in
theorem k_X9_back_b25 {l : Launch} {D : va_G} {cy : Nat → ClassId} {base : Nat} {X : gX} {Z : gZ} (x3 : Int32)  (v : Int32 × Mem) (r : (Int32 × Mem) ⊕ ((Mem))) (hS : f_X9_back_b25 x3 v = some r) (hin : ∀ v2, r = .inl v2 → G l D cy base RX9 cX9_back 3 (some .int) (gRm 1) X Z 25 [(0, .ref (base + 186)), (1, .int (x3)), (2, .int (v2.1))] [] 0 0 gNN (gH cy base v2.2)) (hout0 : ∀ x, r = .inr x → G l D cy base RX9 cX9_back 3 (some .int) (gRm 1) X Z 56 [(0, .ref (base + 186))] [] 0 0 gNN (gH cy base x)) : G l D cy base RX9 cX9_back 3 (some .int) (gRm 1) X Z 25 [(0, .ref (base + 186)), (1, .int (x3)), (2, .int (v.1))] [] 0 0 gNN (gH cy base v.2) := by
  unfold f_X9_back_b25 at hS
  refine g_iload_n (j := 2) (x := v.1) dX9_back_25 rfl rfl ?_
  refine g_sipush (v := 716) dX9_back_26 (by decide) ?_
  refine g_icmp_ge 56 dX9_back_29 (by decide) (fun hc => ?_) (fun hc => ?_)
  · replace hS := (if_pos hc).symm.trans hS
    refine g_sub (lvx := [(0, .ref (base + 186))]) [0] rfl ?_
    obtain rfl := Option.some.inj hS
    exact hout0 ((v.2)) rfl
  · replace hS := (if_neg hc).symm.trans hS
    refine g_aload_n (j := 0) (x := base + 186) dX9_back_32 rfl rfl ?_
    refine gs_getR (r := 190) lk_RX9_19 (tk_186 _) rfl dX9_back_33 ?_
    refine g_iload_n (j := 2) (x := v.1) dX9_back_36 rfl rfl ?_
    refine g_aload_n (j := 0) (x := base + 186) dX9_back_37 rfl rfl ?_
    refine gs_getR (r := 191) lk_RX9_22 (tk_186 _) rfl dX9_back_38 ?_
    refine g_sipush (v := 716) dX9_back_41 (by decide) ?_
    refine g_iload_n (j := 1) (x := x3) dX9_back_44 rfl rfl ?_
    refine g_imul dX9_back_45 ?_
    refine g_iload_n (j := 2) (x := v.1) dX9_back_46 rfl rfl ?_
    refine g_iadd dX9_back_47 ?_
    obtain ⟨y4, ey4, hS⟩ := ob hS
    refine gs_iald (tk_191 _) dX9_back_48 ey4 ?_
    obtain ⟨m5, em5, hS⟩ := ob hS
    refine gs_iast (tk_190 _) dX9_back_49 em5 ?_
    refine g_iinc (j := 2) (x := v.1) (v := (v.1 + (1 : Int32))) (lvx := [(2, .int ((v.1 + (1 : Int32)))), (0, .ref (base + 186)), (1, .int (x3))]) dX9_back_50 rfl rfl (by decide) rfl ?_
    refine g_goto 25 dX9_back_53 (by decide) ?_
    refine g_sub (lvx := [(0, .ref (base + 186)), (1, .int (x3)), (2, .int ((v.1 + (1 : Int32))))]) [1, 2, 0] rfl ?_
    obtain rfl := Option.some.inj hS
    exact hin ((((v.1 + (1 : Int32))), (m5))) rfl
def f_X9_back (μ : Mem) (a1 : Int32) : Option (Int32 × Mem) :=
  (f_X9_in μ (a1) ((0 : Int32)) ((1 : Int32))).bind fun y1 =>
  if y1 = (0 : Int32) then (
    some ((-1 : Int32), μ)
  ) else (
    (ldA μ 192 2 (a1)).bind fun y2 =>
    if y2 = (0 : Int32) then (
      some ((-2 : Int32), μ)
    ) else (
      (iter gFU (f_X9_back_b25  (a1)) (((0 : Int32)), μ)).bind fun z6 =>
      (ldA z6 190 716 ((64 : Int32))).bind fun y7 =>
      some (y7, z6)
    )
  )
set_option maxRecDepth 100000 in
set_option maxHeartbeats 4000000 in
theorem k_X9_back {l : Launch} {D : va_G} {cy : Nat → ClassId} {base : Nat} (μ : Mem) (a1 : Int32)  {out : Int32 × Mem} (hS : f_X9_back μ a1 = some out) : gC l D cy base yX9_back cX9_back 3 (some .int) 1 [.ref (base + 186), .int (a1)] μ (some (.int out.1)) out.2 := by
  refine gC_of (own := RX9) (lv0 := [(0, .ref (base + 186)), (1, .int (a1))]) rfl (by decide) (Nat.le_of_ble_eq_true rfl) rfl ?_
  unfold f_X9_back at hS
  refine g_iload_n (j := 1) (x := a1) dX9_back_0 rfl rfl ?_
  refine g_iconst (v := 0) dX9_back_1 (by decide) ?_
  refine g_iconst (v := 1) dX9_back_2 (by decide) ?_
  obtain ⟨y1, ey1, hS⟩ := ob hS
  refine gs_callSi (As := [.int (a1), .int ((0 : Int32)), .int ((1 : Int32))]) (st := []) (k_X9_in μ (a1) ((0 : Int32)) ((1 : Int32))  ey1) cl_RX9_54 sv_X9_in ⟨by decide, by decide⟩ (Nat.le_of_ble_eq_true rfl) ⟨Nat.zero_le _, Nat.zero_le _⟩ rfl dX9_back_3 rfl ?_
  refine g_if_ne 11 dX9_back_6 (by decide) (fun hc => ?_) (fun hc => ?_)
  · replace hS := (if_neg hc).symm.trans hS
    refine g_aload_n (j := 0) (x := base + 186) dX9_back_11 rfl rfl ?_
    refine gs_getR (r := 192) lk_RX9_25 (tk_186 _) rfl dX9_back_12 ?_
    refine g_iload_n (j := 1) (x := a1) dX9_back_15 rfl rfl ?_
    obtain ⟨y2, ey2, hS⟩ := ob hS
    refine gs_zald (tk_192 _) dX9_back_16 ey2 ?_
    refine g_if_ne 23 dX9_back_17 (by decide) (fun hc => ?_) (fun hc => ?_)
    · replace hS := (if_neg hc).symm.trans hS
      refine g_iconst (v := 0) dX9_back_23 (by decide) ?_
      refine g_istore_n (lvx := [(2, .int ((0 : Int32))), (0, .ref (base + 186)), (1, .int (a1))]) dX9_back_24 rfl (by decide) rfl ?_
      obtain ⟨z6, ez6, hS⟩ := ob hS
      refine g_sub (lvx := [(0, .ref (base + 186)), (1, .int (a1)), (2, .int ((0 : Int32)))]) [1, 2, 0] rfl ?_
      refine iter_ind (fun vv => G l D cy base RX9 cX9_back 3 (some .int) (gRm 1) (gXm yX9_back) (gZm D cy base 0 0 (some (.int out.1)) gNN (gH cy base out.2)) 25 [(0, .ref (base + 186)), (1, .int (a1)), (2, .int (vv.1))] [] 0 0 gNN (gH cy base vv.2)) (fun xx => G l D cy base RX9 cX9_back 3 (some .int) (gRm 1) (gXm yX9_back) (gZm D cy base 0 0 (some (.int out.1)) gNN (gH cy base out.2)) 56 [(0, .ref (base + 186))] [] 0 0 gNN (gH cy base xx)) (fun vv rr hh hin hout => k_X9_back_b25  (a1)  vv rr hh hin (fun xx ee => hout xx ee)) gFU (((0 : Int32)), μ) z6 ez6 ?_
      show G l D cy base RX9 cX9_back 3 (some .int) (gRm 1) (gXm yX9_back) (gZm D cy base 0 0 (some (.int out.1)) gNN (gH cy base out.2)) 56 [(0, .ref (base + 186))] [] 0 0 gNN (gH cy base z6)
      refine g_aload_n (j := 0) (x := base + 186) dX9_back_56 rfl rfl ?_
      refine gs_getR (r := 190) lk_RX9_19 (tk_186 _) rfl dX9_back_57 ?_
      refine g_bipush (v := 64) dX9_back_60 (by decide) ?_
      obtain ⟨y7, ey7, hS⟩ := ob hS
      refine gs_iald (tk_190 _) dX9_back_62 ey7 ?_
      obtain rfl := Option.some.inj hS
      exact g_iret rfl dX9_back_63
    · replace hS := (if_pos hc).symm.trans hS
      refine g_bipush (v := -2) dX9_back_20 (by decide) ?_
      obtain rfl := Option.some.inj hS
      exact g_iret rfl dX9_back_22
  · replace hS := (if_pos hc).symm.trans hS
    refine g_iconst (v := -1) dX9_back_9 (by decide) ?_
    obtain rfl := Option.some.inj hS
    exact g_iret rfl dX9_back_10
def f_X9_count (μ : Mem) (a1 : Int32) : Option (Int32) :=
  if a1 = (0 : Int32) then (
    (ldA μ 188 49 ((0 : Int32))).bind fun y2 =>
    some (y2)
  ) else
  if a1 = (1 : Int32) then (
    (ldA μ 188 49 ((1 : Int32))).bind fun y4 =>
    some (y4)
  ) else
  if a1 = (2 : Int32) then (
    (ldA μ 188 49 ((2 : Int32))).bind fun y6 =>
    some (y6)
  ) else
  if a1 = (3 : Int32) then (
    (ldA μ 188 49 ((3 : Int32))).bind fun y8 =>
    some (y8)
  ) else
  if a1 = (4 : Int32) then (
    (ldA μ 190 716 ((65 : Int32))).bind fun y10 =>
    some (y10)
  ) else
  if a1 = (5 : Int32) then (
    some ((gi μ 186 2))
  ) else
  (
    some ((-1 : Int32))
  )
set_option maxRecDepth 100000 in
set_option maxHeartbeats 4000000 in
theorem k_X9_count {l : Launch} {D : va_G} {cy : Nat → ClassId} {base : Nat} (μ : Mem) (a1 : Int32)  {out : Int32} (hS : f_X9_count μ a1 = some out) : gC l D cy base yX9_count cX9_count 2 (some .int) 0 [.ref (base + 186), .int (a1)] μ (some (.int out)) μ := by
  refine gC_of (own := RX9) (lv0 := [(0, .ref (base + 186)), (1, .int (a1))]) rfl (by decide) (Nat.le_of_ble_eq_true rfl) rfl ?_
  unfold f_X9_count at hS
  refine g_iload_n (j := 1) (x := a1) dX9_count_0 rfl rfl ?_
  by_cases hs1 : a1 = (0 : Int32)
  · replace hS := (if_pos hs1).symm.trans hS
    refine gs_table hs1 40 dX9_count_1 (by decide) (by decide) rfl (by decide) ?_
    refine g_aload_n (j := 0) (x := base + 186) dX9_count_40 rfl rfl ?_
    refine gs_getR (r := 188) lk_RX9_13 (tk_186 _) rfl dX9_count_41 ?_
    refine g_iconst (v := 0) dX9_count_44 (by decide) ?_
    obtain ⟨y2, ey2, hS⟩ := ob hS
    refine gs_iald (tk_188 _) dX9_count_45 ey2 ?_
    obtain rfl := Option.some.inj hS
    exact g_iret rfl dX9_count_46
  replace hS := (if_neg hs1).symm.trans hS
  by_cases hs3 : a1 = (1 : Int32)
  · replace hS := (if_pos hs3).symm.trans hS
    refine gs_table hs3 47 dX9_count_1 (by decide) (by decide) rfl (by decide) ?_
    refine g_aload_n (j := 0) (x := base + 186) dX9_count_47 rfl rfl ?_
    refine gs_getR (r := 188) lk_RX9_13 (tk_186 _) rfl dX9_count_48 ?_
    refine g_iconst (v := 1) dX9_count_51 (by decide) ?_
    obtain ⟨y4, ey4, hS⟩ := ob hS
    refine gs_iald (tk_188 _) dX9_count_52 ey4 ?_
    obtain rfl := Option.some.inj hS
    exact g_iret rfl dX9_count_53
  replace hS := (if_neg hs3).symm.trans hS
  by_cases hs5 : a1 = (2 : Int32)
  · replace hS := (if_pos hs5).symm.trans hS
    refine gs_table hs5 54 dX9_count_1 (by decide) (by decide) rfl (by decide) ?_
    refine g_aload_n (j := 0) (x := base + 186) dX9_count_54 rfl rfl ?_
    refine gs_getR (r := 188) lk_RX9_13 (tk_186 _) rfl dX9_count_55 ?_
    refine g_iconst (v := 2) dX9_count_58 (by decide) ?_
    obtain ⟨y6, ey6, hS⟩ := ob hS
    refine gs_iald (tk_188 _) dX9_count_59 ey6 ?_
    obtain rfl := Option.some.inj hS
    exact g_iret rfl dX9_count_60
  replace hS := (if_neg hs5).symm.trans hS
  by_cases hs7 : a1 = (3 : Int32)
  · replace hS := (if_pos hs7).symm.trans hS
    refine gs_table hs7 61 dX9_count_1 (by decide) (by decide) rfl (by decide) ?_
    refine g_aload_n (j := 0) (x := base + 186) dX9_count_61 rfl rfl ?_
    refine gs_getR (r := 188) lk_RX9_13 (tk_186 _) rfl dX9_count_62 ?_
    refine g_iconst (v := 3) dX9_count_65 (by decide) ?_
    obtain ⟨y8, ey8, hS⟩ := ob hS
    refine gs_iald (tk_188 _) dX9_count_66 ey8 ?_
    obtain rfl := Option.some.inj hS
    exact g_iret rfl dX9_count_67
  replace hS := (if_neg hs7).symm.trans hS
  by_cases hs9 : a1 = (4 : Int32)
  · replace hS := (if_pos hs9).symm.trans hS
    refine gs_table hs9 68 dX9_count_1 (by decide) (by decide) rfl (by decide) ?_
    refine g_aload_n (j := 0) (x := base + 186) dX9_count_68 rfl rfl ?_
    refine gs_getR (r := 190) lk_RX9_19 (tk_186 _) rfl dX9_count_69 ?_
    refine g_bipush (v := 65) dX9_count_72 (by decide) ?_
    obtain ⟨y10, ey10, hS⟩ := ob hS
    refine gs_iald (tk_190 _) dX9_count_74 ey10 ?_
    obtain rfl := Option.some.inj hS
    exact g_iret rfl dX9_count_75
  replace hS := (if_neg hs9).symm.trans hS
  by_cases hs11 : a1 = (5 : Int32)
  · replace hS := (if_pos hs11).symm.trans hS
    refine gs_table hs11 76 dX9_count_1 (by decide) (by decide) rfl (by decide) ?_
    refine g_aload_n (j := 0) (x := base + 186) dX9_count_76 rfl rfl ?_
    refine gs_getI lk_RX9_58 (tk_186 _) rfl dX9_count_77 ?_
    obtain rfl := Option.some.inj hS
    exact g_iret rfl dX9_count_80
  replace hS := (if_neg hs11).symm.trans hS
  refine gs_tableOut 6 81 dX9_count_1 (by decide) (by decide) (fun j hj => by match j, hj with | 0, _ => exact hs1 | 1, _ => exact hs3 | 2, _ => exact hs5 | 3, _ => exact hs7 | 4, _ => exact hs9 | 5, _ => exact hs11 | j + 6, hj => exact absurd hj (by omega)) (by decide) ?_
  refine g_iconst (v := -1) dX9_count_81 (by decide) ?_
  obtain rfl := Option.some.inj hS
  exact g_iret rfl dX9_count_82
def f_X9_trace (μ : Mem)  : Option (Int64) :=
  some ((gl μ 186))
set_option maxRecDepth 100000 in
set_option maxHeartbeats 4000000 in
theorem k_X9_trace {l : Launch} {D : va_G} {cy : Nat → ClassId} {base : Nat} (μ : Mem)   {out : Int64} (hS : f_X9_trace μ  = some out) : gC l D cy base yX9_trace cX9_trace 1 (some .long) 0 [.ref (base + 186)] μ (some (.long out)) μ := by
  refine gC_of (own := RX9) (lv0 := [(0, .ref (base + 186))]) rfl (by decide) (Nat.le_of_ble_eq_true rfl) rfl ?_
  unfold f_X9_trace at hS
  refine g_aload_n (j := 0) (x := base + 186) dX9_trace_0 rfl rfl ?_
  refine gs_getL lk_RX9_165 (tk_186 _) rfl dX9_trace_1 ?_
  obtain rfl := Option.some.inj hS
  exact g_lret rfl dX9_trace_4

def f_X9_undo_b40 (x5 : Int32) (v : Int32 × Mem) : Option ((Int32 × Mem) ⊕ ((Mem))) :=
  if (65 : Int32) ≤ v.1 then (
    some (.inr (v.2))
  ) else (
    (ldA v.2 190 716 ((x5 + v.1))).bind fun y6 =>
    (stA v.2 190 716 (v.1) (y6)).bind fun m7 =>
    some (.inl (((v.1 + (1 : Int32))), (m7)))
  )
set_option maxRecDepth 100000 in
set_option maxHeartbeats 4000000 in
theorem k_X9_undo_b40 {l : Launch} {D : va_G} {cy : Nat → ClassId} {base : Nat} {X : gX} {Z : gZ} (x5 : Int32)  (v : Int32 × Mem) (r : (Int32 × Mem) ⊕ ((Mem))) (hS : f_X9_undo_b40 x5 v = some r) (hin : ∀ v2, r = .inl v2 → G l D cy base RX9 cX9_undo 3 (some .int) (gRm 0) X Z 40 [(0, .ref (base + 186)), (1, .int (x5)), (2, .int (v2.1))] [] 0 0 gNN (gH cy base v2.2)) (hout0 : ∀ x, r = .inr x → G l D cy base RX9 cX9_undo 3 (some .int) (gRm 0) X Z 66 [(0, .ref (base + 186))] [] 0 0 gNN (gH cy base x)) : G l D cy base RX9 cX9_undo 3 (some .int) (gRm 0) X Z 40 [(0, .ref (base + 186)), (1, .int (x5)), (2, .int (v.1))] [] 0 0 gNN (gH cy base v.2) := by
  unfold f_X9_undo_b40 at hS
  refine g_iload_n (j := 2) (x := v.1) dX9_undo_40 rfl rfl ?_
  refine g_bipush (v := 65) dX9_undo_41 (by decide) ?_
  refine g_icmp_ge 66 dX9_undo_43 (by decide) (fun hc => ?_) (fun hc => ?_)
  · replace hS := (if_pos hc).symm.trans hS
    refine g_sub (lvx := [(0, .ref (base + 186))]) [0] rfl ?_
    obtain rfl := Option.some.inj hS
    exact hout0 ((v.2)) rfl
  · replace hS := (if_neg hc).symm.trans hS
    refine g_aload_n (j := 0) (x := base + 186) dX9_undo_46 rfl rfl ?_
    refine gs_getR (r := 190) lk_RX9_19 (tk_186 _) rfl dX9_undo_47 ?_
    refine g_iload_n (j := 2) (x := v.1) dX9_undo_50 rfl rfl ?_
    refine g_aload_n (j := 0) (x := base + 186) dX9_undo_51 rfl rfl ?_
    refine gs_getR (r := 190) lk_RX9_19 (tk_186 _) rfl dX9_undo_52 ?_
    refine g_iload_n (j := 1) (x := x5) dX9_undo_55 rfl rfl ?_
    refine g_iload_n (j := 2) (x := v.1) dX9_undo_56 rfl rfl ?_
    refine g_iadd dX9_undo_57 ?_
    obtain ⟨y6, ey6, hS⟩ := ob hS
    refine gs_iald (tk_190 _) dX9_undo_58 ey6 ?_
    obtain ⟨m7, em7, hS⟩ := ob hS
    refine gs_iast (tk_190 _) dX9_undo_59 em7 ?_
    refine g_iinc (j := 2) (x := v.1) (v := (v.1 + (1 : Int32))) (lvx := [(2, .int ((v.1 + (1 : Int32)))), (0, .ref (base + 186)), (1, .int (x5))]) dX9_undo_60 rfl rfl (by decide) rfl ?_
    refine g_goto 40 dX9_undo_63 (by decide) ?_
    refine g_sub (lvx := [(0, .ref (base + 186)), (1, .int (x5)), (2, .int ((v.1 + (1 : Int32))))]) [1, 2, 0] rfl ?_
    obtain rfl := Option.some.inj hS
    exact hin ((((v.1 + (1 : Int32))), (m7))) rfl
def f_X9_undo (μ : Mem)  : Option (Int32 × Mem) :=
  (ldA μ 190 716 ((65 : Int32))).bind fun y1 =>
  if y1 = (0 : Int32) then (
    some ((-2 : Int32), μ)
  ) else (
    (ldA μ 190 716 ((65 : Int32))).bind fun y2 =>
    (stA μ 190 716 ((65 : Int32)) ((y2 - (1 : Int32)))).bind fun m3 =>
    (ldA m3 190 716 ((65 : Int32))).bind fun y4 =>
    (iter gFU (f_X9_undo_b40  (((66 : Int32) + ((65 : Int32) * y4)))) (((0 : Int32)), m3)).bind fun z8 =>
    (ldA z8 190 716 ((65 : Int32))).bind fun y9 =>
    some (y9, z8)
  )
set_option maxRecDepth 100000 in
set_option maxHeartbeats 4000000 in
theorem k_X9_undo {l : Launch} {D : va_G} {cy : Nat → ClassId} {base : Nat} (μ : Mem)   {out : Int32 × Mem} (hS : f_X9_undo μ  = some out) : gC l D cy base yX9_undo cX9_undo 3 (some .int) 0 [.ref (base + 186)] μ (some (.int out.1)) out.2 := by
  refine gC_of (own := RX9) (lv0 := [(0, .ref (base + 186))]) rfl (by decide) (Nat.le_of_ble_eq_true rfl) rfl ?_
  unfold f_X9_undo at hS
  refine g_aload_n (j := 0) (x := base + 186) dX9_undo_0 rfl rfl ?_
  refine gs_getR (r := 190) lk_RX9_19 (tk_186 _) rfl dX9_undo_1 ?_
  refine g_bipush (v := 65) dX9_undo_4 (by decide) ?_
  obtain ⟨y1, ey1, hS⟩ := ob hS
  refine gs_iald (tk_190 _) dX9_undo_6 ey1 ?_
  refine g_if_ne 13 dX9_undo_7 (by decide) (fun hc => ?_) (fun hc => ?_)
  · replace hS := (if_neg hc).symm.trans hS
    refine g_aload_n (j := 0) (x := base + 186) dX9_undo_13 rfl rfl ?_
    refine gs_getR (r := 190) lk_RX9_19 (tk_186 _) rfl dX9_undo_14 ?_
    refine g_bipush (v := 65) dX9_undo_17 (by decide) ?_
    refine g_dup2 dX9_undo_19 rfl rfl ?_
    obtain ⟨y2, ey2, hS⟩ := ob hS
    refine gs_iald (tk_190 _) dX9_undo_20 ey2 ?_
    refine g_iconst (v := 1) dX9_undo_21 (by decide) ?_
    refine g_isub dX9_undo_22 ?_
    obtain ⟨m3, em3, hS⟩ := ob hS
    refine gs_iast (tk_190 _) dX9_undo_23 em3 ?_
    refine g_bipush (v := 66) dX9_undo_24 (by decide) ?_
    refine g_bipush (v := 65) dX9_undo_26 (by decide) ?_
    refine g_aload_n (j := 0) (x := base + 186) dX9_undo_28 rfl rfl ?_
    refine gs_getR (r := 190) lk_RX9_19 (tk_186 _) rfl dX9_undo_29 ?_
    refine g_bipush (v := 65) dX9_undo_32 (by decide) ?_
    obtain ⟨y4, ey4, hS⟩ := ob hS
    refine gs_iald (tk_190 _) dX9_undo_34 ey4 ?_
    refine g_imul dX9_undo_35 ?_
    refine g_iadd dX9_undo_36 ?_
    refine g_istore_n (lvx := [(1, .int (((66 : Int32) + ((65 : Int32) * y4)))), (0, .ref (base + 186))]) dX9_undo_37 rfl (by decide) rfl ?_
    refine g_iconst (v := 0) dX9_undo_38 (by decide) ?_
    refine g_istore_n (lvx := [(2, .int ((0 : Int32))), (1, .int (((66 : Int32) + ((65 : Int32) * y4)))), (0, .ref (base + 186))]) dX9_undo_39 rfl (by decide) rfl ?_
    obtain ⟨z8, ez8, hS⟩ := ob hS
    refine g_sub (lvx := [(0, .ref (base + 186)), (1, .int (((66 : Int32) + ((65 : Int32) * y4)))), (2, .int ((0 : Int32)))]) [2, 1, 0] rfl ?_
    refine iter_ind (fun vv => G l D cy base RX9 cX9_undo 3 (some .int) (gRm 0) (gXm yX9_undo) (gZm D cy base 0 0 (some (.int out.1)) gNN (gH cy base out.2)) 40 [(0, .ref (base + 186)), (1, .int (((66 : Int32) + ((65 : Int32) * y4)))), (2, .int (vv.1))] [] 0 0 gNN (gH cy base vv.2)) (fun xx => G l D cy base RX9 cX9_undo 3 (some .int) (gRm 0) (gXm yX9_undo) (gZm D cy base 0 0 (some (.int out.1)) gNN (gH cy base out.2)) 66 [(0, .ref (base + 186))] [] 0 0 gNN (gH cy base xx)) (fun vv rr hh hin hout => k_X9_undo_b40  (((66 : Int32) + ((65 : Int32) * y4)))  vv rr hh hin (fun xx ee => hout xx ee)) gFU (((0 : Int32)), m3) z8 ez8 ?_
    show G l D cy base RX9 cX9_undo 3 (some .int) (gRm 0) (gXm yX9_undo) (gZm D cy base 0 0 (some (.int out.1)) gNN (gH cy base out.2)) 66 [(0, .ref (base + 186))] [] 0 0 gNN (gH cy base z8)
    refine g_aload_n (j := 0) (x := base + 186) dX9_undo_66 rfl rfl ?_
    refine gs_getR (r := 190) lk_RX9_19 (tk_186 _) rfl dX9_undo_67 ?_
    refine g_bipush (v := 65) dX9_undo_70 (by decide) ?_
    obtain ⟨y9, ey9, hS⟩ := ob hS
    refine gs_iald (tk_190 _) dX9_undo_72 ey9 ?_
    obtain rfl := Option.some.inj hS
    exact g_iret rfl dX9_undo_73
  · replace hS := (if_pos hc).symm.trans hS
    refine g_bipush (v := -2) dX9_undo_10 (by decide) ?_
    obtain rfl := Option.some.inj hS
    exact g_iret rfl dX9_undo_12
def f_X9_dear_b12 (m2 : Mem)  (v : Int32 × Int32) : Option ((Int32 × Int32) ⊕ ((Int32))) :=
  if v.2 < (0 : Int32) then (
    some (.inr (v.1))
  ) else (
    if v.1 = (-9 : Int32) then (
      some (.inl ((v.2), ((v.2 + (-1 : Int32)))))
    ) else (
      (f_X9_price m2 (v.2)).bind fun y3 =>
      (f_X9_price m2 (v.1)).bind fun y4 =>
      if y3 < y4 then (
        some (.inl ((v.1), ((v.2 + (-1 : Int32)))))
      ) else (
        some (.inl ((v.2), ((v.2 + (-1 : Int32)))))
      )
    )
  )
set_option maxRecDepth 100000 in
set_option maxHeartbeats 4000000 in
theorem k_X9_dear_b12 {l : Launch} {D : va_G} {cy : Nat → ClassId} {base : Nat} {X : gX} {Z : gZ} (m2 : Mem)   (v : Int32 × Int32) (r : (Int32 × Int32) ⊕ ((Int32))) (hS : f_X9_dear_b12 m2  v = some r) (hin : ∀ v2, r = .inl v2 → G l D cy base RX9 cX9_dear 3 (some .int) (gRm 1) X Z 12 [(0, .ref (base + 186)), (1, .int (v2.1)), (2, .int (v2.2))] [] 0 0 gNN (gH cy base m2)) (hout0 : ∀ x, r = .inr x → G l D cy base RX9 cX9_dear 3 (some .int) (gRm 1) X Z 47 [(1, .int (x))] [] 0 0 gNN (gH cy base m2)) : G l D cy base RX9 cX9_dear 3 (some .int) (gRm 1) X Z 12 [(0, .ref (base + 186)), (1, .int (v.1)), (2, .int (v.2))] [] 0 0 gNN (gH cy base m2) := by
  unfold f_X9_dear_b12 at hS
  refine g_iload_n (j := 2) (x := v.2) dX9_dear_12 rfl rfl ?_
  refine g_if_lt 47 dX9_dear_13 (by decide) (fun hc => ?_) (fun hc => ?_)
  · replace hS := (if_pos hc).symm.trans hS
    refine g_sub (lvx := [(1, .int (v.1))]) [1] rfl ?_
    obtain rfl := Option.some.inj hS
    exact hout0 ((v.1)) rfl
  · replace hS := (if_neg hc).symm.trans hS
    refine g_iload_n (j := 1) (x := v.1) dX9_dear_16 rfl rfl ?_
    refine g_bipush (v := -9) dX9_dear_17 (by decide) ?_
    refine g_icmp_eq 35 dX9_dear_19 (by decide) (fun hc => ?_) (fun hc => ?_)
    · replace hS := (if_pos hc).symm.trans hS
      refine g_iload_n (j := 2) (x := v.2) dX9_dear_35 rfl rfl ?_
      refine g_goto 40 dX9_dear_36 (by decide) ?_
      refine g_istore_n (lvx := [(1, .int (v.2)), (0, .ref (base + 186)), (2, .int (v.2))]) dX9_dear_40 rfl (by decide) rfl ?_
      refine g_iinc (j := 2) (x := v.2) (v := (v.2 + (-1 : Int32))) (lvx := [(2, .int ((v.2 + (-1 : Int32)))), (1, .int (v.2)), (0, .ref (base + 186))]) dX9_dear_41 rfl rfl (by decide) rfl ?_
      refine g_goto 12 dX9_dear_44 (by decide) ?_
      refine g_sub (lvx := [(0, .ref (base + 186)), (1, .int (v.2)), (2, .int ((v.2 + (-1 : Int32))))]) [2, 1, 0] rfl ?_
      obtain rfl := Option.some.inj hS
      exact hin (((v.2), ((v.2 + (-1 : Int32))))) rfl
    · replace hS := (if_neg hc).symm.trans hS
      refine g_aload_n (j := 0) (x := base + 186) dX9_dear_22 rfl rfl ?_
      refine g_iload_n (j := 2) (x := v.2) dX9_dear_23 rfl rfl ?_
      obtain ⟨y3, ey3, hS⟩ := ob hS
      refine gs_callVi (As := [.int (v.2)]) (st := []) (kr := 186) (k_X9_price m2 (v.2)  ey3) cl_RX9_107 sv_X9_price ckk_X9_price (tk_186 _) ⟨by decide, by decide⟩ (Nat.le_of_ble_eq_true rfl) ⟨Nat.zero_le _, Nat.zero_le _⟩ rfl dX9_dear_24 rfl ?_
      refine g_aload_n (j := 0) (x := base + 186) dX9_dear_27 rfl rfl ?_
      refine g_iload_n (j := 1) (x := v.1) dX9_dear_28 rfl rfl ?_
      obtain ⟨y4, ey4, hS⟩ := ob hS
      refine gs_callVi (As := [.int (v.1)]) (st := [.int (y3)]) (kr := 186) (k_X9_price m2 (v.1)  ey4) cl_RX9_107 sv_X9_price ckk_X9_price (tk_186 _) ⟨by decide, by decide⟩ (Nat.le_of_ble_eq_true rfl) ⟨Nat.zero_le _, Nat.zero_le _⟩ rfl dX9_dear_29 rfl ?_
      refine g_icmp_lt 39 dX9_dear_32 (by decide) (fun hc => ?_) (fun hc => ?_)
      · replace hS := (if_pos hc).symm.trans hS
        refine g_iload_n (j := 1) (x := v.1) dX9_dear_39 rfl rfl ?_
        refine g_istore_n (lvx := [(1, .int (v.1)), (0, .ref (base + 186)), (2, .int (v.2))]) dX9_dear_40 rfl (by decide) rfl ?_
        refine g_iinc (j := 2) (x := v.2) (v := (v.2 + (-1 : Int32))) (lvx := [(2, .int ((v.2 + (-1 : Int32)))), (1, .int (v.1)), (0, .ref (base + 186))]) dX9_dear_41 rfl rfl (by decide) rfl ?_
        refine g_goto 12 dX9_dear_44 (by decide) ?_
        refine g_sub (lvx := [(0, .ref (base + 186)), (1, .int (v.1)), (2, .int ((v.2 + (-1 : Int32))))]) [2, 1, 0] rfl ?_
        obtain rfl := Option.some.inj hS
        exact hin (((v.1), ((v.2 + (-1 : Int32))))) rfl
      · replace hS := (if_neg hc).symm.trans hS
        refine g_iload_n (j := 2) (x := v.2) dX9_dear_35 rfl rfl ?_
        refine g_goto 40 dX9_dear_36 (by decide) ?_
        refine g_istore_n (lvx := [(1, .int (v.2)), (0, .ref (base + 186)), (2, .int (v.2))]) dX9_dear_40 rfl (by decide) rfl ?_
        refine g_iinc (j := 2) (x := v.2) (v := (v.2 + (-1 : Int32))) (lvx := [(2, .int ((v.2 + (-1 : Int32)))), (1, .int (v.2)), (0, .ref (base + 186))]) dX9_dear_41 rfl rfl (by decide) rfl ?_
        refine g_goto 12 dX9_dear_44 (by decide) ?_
        refine g_sub (lvx := [(0, .ref (base + 186)), (1, .int (v.2)), (2, .int ((v.2 + (-1 : Int32))))]) [2, 1, 0] rfl ?_
        obtain rfl := Option.some.inj hS
        exact hin (((v.2), ((v.2 + (-1 : Int32))))) rfl
def f_X9_dear (μ : Mem)  : Option (Int32) :=
  (ldA μ 188 49 ((0 : Int32))).bind fun y1 =>
  (iter gFU (f_X9_dear_b12 μ ) (((-9 : Int32)), ((y1 - (1 : Int32))))).bind fun z5 =>
  some (z5)
set_option maxRecDepth 100000 in
set_option maxHeartbeats 4000000 in
theorem k_X9_dear {l : Launch} {D : va_G} {cy : Nat → ClassId} {base : Nat} (μ : Mem)   {out : Int32} (hS : f_X9_dear μ  = some out) : gC l D cy base yX9_dear cX9_dear 3 (some .int) 1 [.ref (base + 186)] μ (some (.int out)) μ := by
  refine gC_of (own := RX9) (lv0 := [(0, .ref (base + 186))]) rfl (by decide) (Nat.le_of_ble_eq_true rfl) rfl ?_
  unfold f_X9_dear at hS
  refine g_bipush (v := -9) dX9_dear_0 (by decide) ?_
  refine g_istore_n (lvx := [(1, .int ((-9 : Int32))), (0, .ref (base + 186))]) dX9_dear_2 rfl (by decide) rfl ?_
  refine g_aload_n (j := 1) (x := base + 186) dX9_dear_3 rfl rfl ?_
  refine gs_getR (r := 188) lk_RX9_13 (tk_186 _) rfl dX9_dear_4 ?_
  refine g_iconst (v := 0) dX9_dear_7 (by decide) ?_
  obtain ⟨y1, ey1, hS⟩ := ob hS
  refine gs_iald (tk_188 _) dX9_dear_8 ey1 ?_
  refine g_iconst (v := 1) dX9_dear_9 (by decide) ?_
  refine g_isub dX9_dear_10 ?_
  refine g_istore_n (lvx := [(2, .int ((y1 - (1 : Int32)))), (1, .int ((-9 : Int32))), (0, .ref (base + 186))]) dX9_dear_11 rfl (by decide) rfl ?_
  obtain ⟨z5, ez5, hS⟩ := ob hS
  refine g_sub (lvx := [(0, .ref (base + 186)), (1, .int ((-9 : Int32))), (2, .int ((y1 - (1 : Int32))))]) [2, 1, 0] rfl ?_
  refine iter_ind (fun vv => G l D cy base RX9 cX9_dear 3 (some .int) (gRm 1) (gXm yX9_dear) (gZm D cy base 0 0 (some (.int out)) gNN (gH cy base μ)) 12 [(0, .ref (base + 186)), (1, .int (vv.1)), (2, .int (vv.2))] [] 0 0 gNN (gH cy base μ)) (fun xx => G l D cy base RX9 cX9_dear 3 (some .int) (gRm 1) (gXm yX9_dear) (gZm D cy base 0 0 (some (.int out)) gNN (gH cy base μ)) 47 [(1, .int (xx))] [] 0 0 gNN (gH cy base μ)) (fun vv rr hh hin hout => k_X9_dear_b12 μ   vv rr hh hin (fun xx ee => hout xx ee)) gFU (((-9 : Int32)), ((y1 - (1 : Int32)))) z5 ez5 ?_
  show G l D cy base RX9 cX9_dear 3 (some .int) (gRm 1) (gXm yX9_dear) (gZm D cy base 0 0 (some (.int out)) gNN (gH cy base μ)) 47 [(1, .int (z5))] [] 0 0 gNN (gH cy base μ)
  refine g_iload_n (j := 0) (x := z5) dX9_dear_47 rfl rfl ?_
  obtain rfl := Option.some.inj hS
  exact g_iret rfl dX9_dear_48
def f_X9_finds_b109 (m17 : Mem) (x15 : Int32) (x16 : Int32) (v : Int32 × Int32) : Option ((Int32 × Int32) ⊕ ((Int32))) :=
  if x16 ≤ v.2 then (
    some (.inr (v.1))
  ) else (
    if v.1 = (0 : Int32) then (
      some (.inl (((0 : Int32)), ((v.2 + (1 : Int32)))))
    ) else (
      (ldA m17 194 8 (v.2)).bind fun y18 =>
      (ldA m17 194 8 (x16)).bind fun y19 =>
      if y18 = y19 then (
        some (.inl (((0 : Int32)), ((v.2 + (1 : Int32)))))
      ) else (
        some (.inl (((1 : Int32)), ((v.2 + (1 : Int32)))))
      )
    )
  )
set_option maxRecDepth 100000 in
set_option maxHeartbeats 4000000 in
theorem k_X9_finds_b109 {l : Launch} {D : va_G} {cy : Nat → ClassId} {base : Nat} {X : gX} {Z : gZ} (m17 : Mem) (x15 : Int32) (x16 : Int32)  (v : Int32 × Int32) (r : (Int32 × Int32) ⊕ ((Int32))) (hS : f_X9_finds_b109 m17 x15 x16 v = some r) (hin : ∀ v2, r = .inl v2 → G l D cy base RX9 cX9_finds 6 (some .boolean) (gRm 0) X Z 109 [(0, .ref (base + 186)), (1, .int (x15)), (2, .int (x16)), (4, .int (v2.1)), (5, .int (v2.2))] [] 0 0 gNN (gH cy base m17)) (hout0 : ∀ x, r = .inr x → G l D cy base RX9 cX9_finds 6 (some .boolean) (gRm 0) X Z 149 [(0, .ref (base + 186)), (1, .int (x15)), (2, .int (x16)), (4, .int (x))] [] 0 0 gNN (gH cy base m17)) : G l D cy base RX9 cX9_finds 6 (some .boolean) (gRm 0) X Z 109 [(0, .ref (base + 186)), (1, .int (x15)), (2, .int (x16)), (4, .int (v.1)), (5, .int (v.2))] [] 0 0 gNN (gH cy base m17) := by
  unfold f_X9_finds_b109 at hS
  refine g_iload (j := 4) (x := v.2) dX9_finds_109 rfl ?_
  refine g_iload_n (j := 2) (x := x16) dX9_finds_111 rfl rfl ?_
  refine g_icmp_ge 149 dX9_finds_112 (by decide) (fun hc => ?_) (fun hc => ?_)
  · replace hS := (if_pos hc).symm.trans hS
    refine g_sub (lvx := [(0, .ref (base + 186)), (1, .int (x15)), (2, .int (x16)), (4, .int (v.1))]) [0, 1, 2, 3] rfl ?_
    obtain rfl := Option.some.inj hS
    exact hout0 ((v.1)) rfl
  · replace hS := (if_neg hc).symm.trans hS
    refine g_iload (j := 3) (x := v.1) dX9_finds_115 rfl ?_
    refine g_if_eq 140 dX9_finds_117 (by decide) (fun hc => ?_) (fun hc => ?_)
    · replace hS := (if_pos hc).symm.trans hS
      refine g_iconst (v := 0) dX9_finds_140 (by decide) ?_
      refine g_istore (lvx := [(4, .int ((0 : Int32))), (0, .ref (base + 186)), (1, .int (x15)), (2, .int (x16)), (5, .int (v.2))]) dX9_finds_141 (by decide) rfl ?_
      refine g_iinc (j := 4) (x := v.2) (v := (v.2 + (1 : Int32))) (lvx := [(5, .int ((v.2 + (1 : Int32)))), (4, .int ((0 : Int32))), (0, .ref (base + 186)), (1, .int (x15)), (2, .int (x16))]) dX9_finds_143 rfl rfl (by decide) rfl ?_
      refine g_goto 109 dX9_finds_146 (by decide) ?_
      refine g_sub (lvx := [(0, .ref (base + 186)), (1, .int (x15)), (2, .int (x16)), (4, .int ((0 : Int32))), (5, .int ((v.2 + (1 : Int32))))]) [2, 3, 4, 1, 0] rfl ?_
      obtain rfl := Option.some.inj hS
      exact hin ((((0 : Int32)), ((v.2 + (1 : Int32))))) rfl
    · replace hS := (if_neg hc).symm.trans hS
      refine g_aload_n (j := 0) (x := base + 186) dX9_finds_120 rfl rfl ?_
      refine gs_getR (r := 194) lk_RX9_32 (tk_186 _) rfl dX9_finds_121 ?_
      refine g_iload (j := 4) (x := v.2) dX9_finds_124 rfl ?_
      obtain ⟨y18, ey18, hS⟩ := ob hS
      refine gs_iald (tk_194 _) dX9_finds_126 ey18 ?_
      refine g_aload_n (j := 0) (x := base + 186) dX9_finds_127 rfl rfl ?_
      refine gs_getR (r := 194) lk_RX9_32 (tk_186 _) rfl dX9_finds_128 ?_
      refine g_iload_n (j := 2) (x := x16) dX9_finds_131 rfl rfl ?_
      obtain ⟨y19, ey19, hS⟩ := ob hS
      refine gs_iald (tk_194 _) dX9_finds_132 ey19 ?_
      refine g_icmp_eq 140 dX9_finds_133 (by decide) (fun hc => ?_) (fun hc => ?_)
      · replace hS := (if_pos hc).symm.trans hS
        refine g_iconst (v := 0) dX9_finds_140 (by decide) ?_
        refine g_istore (lvx := [(4, .int ((0 : Int32))), (0, .ref (base + 186)), (1, .int (x15)), (2, .int (x16)), (5, .int (v.2))]) dX9_finds_141 (by decide) rfl ?_
        refine g_iinc (j := 4) (x := v.2) (v := (v.2 + (1 : Int32))) (lvx := [(5, .int ((v.2 + (1 : Int32)))), (4, .int ((0 : Int32))), (0, .ref (base + 186)), (1, .int (x15)), (2, .int (x16))]) dX9_finds_143 rfl rfl (by decide) rfl ?_
        refine g_goto 109 dX9_finds_146 (by decide) ?_
        refine g_sub (lvx := [(0, .ref (base + 186)), (1, .int (x15)), (2, .int (x16)), (4, .int ((0 : Int32))), (5, .int ((v.2 + (1 : Int32))))]) [2, 3, 4, 1, 0] rfl ?_
        obtain rfl := Option.some.inj hS
        exact hin ((((0 : Int32)), ((v.2 + (1 : Int32))))) rfl
      · replace hS := (if_neg hc).symm.trans hS
        refine g_iconst (v := 1) dX9_finds_136 (by decide) ?_
        refine g_goto 141 dX9_finds_137 (by decide) ?_
        refine g_istore (lvx := [(4, .int ((1 : Int32))), (0, .ref (base + 186)), (1, .int (x15)), (2, .int (x16)), (5, .int (v.2))]) dX9_finds_141 (by decide) rfl ?_
        refine g_iinc (j := 4) (x := v.2) (v := (v.2 + (1 : Int32))) (lvx := [(5, .int ((v.2 + (1 : Int32)))), (4, .int ((1 : Int32))), (0, .ref (base + 186)), (1, .int (x15)), (2, .int (x16))]) dX9_finds_143 rfl rfl (by decide) rfl ?_
        refine g_goto 109 dX9_finds_146 (by decide) ?_
        refine g_sub (lvx := [(0, .ref (base + 186)), (1, .int (x15)), (2, .int (x16)), (4, .int ((1 : Int32))), (5, .int ((v.2 + (1 : Int32))))]) [2, 3, 4, 1, 0] rfl ?_
        obtain rfl := Option.some.inj hS
        exact hin ((((1 : Int32)), ((v.2 + (1 : Int32))))) rfl
def f_X9_finds_j187 (m23 : Mem) (x2 : Int32) (x21 : Int32) (x22 : Int32) : Option ((Int32 × Mem) ⊕ ((Mem) ⊕ (Mem))) :=
  if x22 = (0 : Int32) then (
    some (.inl ((x21), (m23)))
  ) else (
    if x2 ≤ (x21 + (1 : Int32)) then (
      some (.inl ((x21), (m23)))
    ) else (
      (stA m23 194 8 ((x21 + (1 : Int32))) ((-1 : Int32))).bind fun m24 =>
      some (.inl (((x21 + (1 : Int32))), (m24)))
    )
  )
set_option maxRecDepth 100000 in
set_option maxHeartbeats 4000000 in
theorem k_X9_finds_j187 {l : Launch} {D : va_G} {cy : Nat → ClassId} {base : Nat} {X : gX} {Z : gZ} (m23 : Mem) (x2 : Int32) (x21 : Int32) (x22 : Int32)  {r : (Int32 × Mem) ⊕ ((Mem) ⊕ (Mem))} (hS : f_X9_finds_j187 m23 x2 x21 x22 = some r) (hin : ∀ v2, r = .inl v2 → G l D cy base RX9 cX9_finds 6 (some .boolean) (gRm 0) X Z 9 [(0, .ref (base + 186)), (1, .int (x2)), (2, .int (v2.1))] [] 0 0 gNN (gH cy base v2.2)) (hout0 : ∀ x, r = .inr (.inl x) → G l D cy base RX9 cX9_finds 6 (some .boolean) (gRm 0) X Z 185 [] [] 0 0 gNN (gH cy base x)) (hout1 : ∀ x, r = .inr (.inr (x)) → G l D cy base RX9 cX9_finds 6 (some .boolean) (gRm 0) X Z 212 [] [] 0 0 gNN (gH cy base x)) : G l D cy base RX9 cX9_finds 6 (some .boolean) (gRm 0) X Z 187 [(0, .ref (base + 186)), (1, .int (x2)), (2, .int (x21)), (4, .int (x22))] [] 0 0 gNN (gH cy base m23) := by
  unfold f_X9_finds_j187 at hS
  refine g_iload (j := 3) (x := x22) dX9_finds_187 rfl ?_
  refine g_if_eq 209 dX9_finds_189 (by decide) (fun hc => ?_) (fun hc => ?_)
  · replace hS := (if_pos hc).symm.trans hS
    refine g_goto 9 dX9_finds_209 (by decide) ?_
    refine g_sub (lvx := [(0, .ref (base + 186)), (1, .int (x2)), (2, .int (x21))]) [0, 1, 2] rfl ?_
    obtain rfl := Option.some.inj hS
    exact hin (((x21), (m23))) rfl
  · replace hS := (if_neg hc).symm.trans hS
    refine g_iload_n (j := 2) (x := x21) dX9_finds_192 rfl rfl ?_
    refine g_iconst (v := 1) dX9_finds_193 (by decide) ?_
    refine g_iadd dX9_finds_194 ?_
    refine g_iload_n (j := 1) (x := x2) dX9_finds_195 rfl rfl ?_
    refine g_icmp_ge 209 dX9_finds_196 (by decide) (fun hc => ?_) (fun hc => ?_)
    · replace hS := (if_pos hc).symm.trans hS
      refine g_goto 9 dX9_finds_209 (by decide) ?_
      refine g_sub (lvx := [(0, .ref (base + 186)), (1, .int (x2)), (2, .int (x21))]) [0, 1, 2] rfl ?_
      obtain rfl := Option.some.inj hS
      exact hin (((x21), (m23))) rfl
    · replace hS := (if_neg hc).symm.trans hS
      refine g_iinc (j := 2) (x := x21) (v := (x21 + (1 : Int32))) (lvx := [(2, .int ((x21 + (1 : Int32)))), (0, .ref (base + 186)), (1, .int (x2)), (4, .int (x22))]) dX9_finds_199 rfl rfl (by decide) rfl ?_
      refine g_aload_n (j := 1) (x := base + 186) dX9_finds_202 rfl rfl ?_
      refine gs_getR (r := 194) lk_RX9_32 (tk_186 _) rfl dX9_finds_203 ?_
      refine g_iload_n (j := 0) (x := (x21 + (1 : Int32))) dX9_finds_206 rfl rfl ?_
      refine g_iconst (v := -1) dX9_finds_207 (by decide) ?_
      obtain ⟨m24, em24, hS⟩ := ob hS
      refine gs_iast (tk_194 _) dX9_finds_208 em24 ?_
      refine g_goto 9 dX9_finds_209 (by decide) ?_
      refine g_sub (lvx := [(0, .ref (base + 186)), (1, .int (x2)), (2, .int ((x21 + (1 : Int32))))]) [1, 2, 0] rfl ?_
      obtain rfl := Option.some.inj hS
      exact hin ((((x21 + (1 : Int32))), (m24))) rfl
def f_X9_finds_j104 (m14 : Mem) (x2 : Int32) (x12 : Int32) (x13 : Int32) : Option ((Int32 × Mem) ⊕ ((Mem) ⊕ (Mem))) :=
  (iter gFU (f_X9_finds_b109 m14 (x2) (x12)) ((x13), ((0 : Int32)))).bind fun z20 =>
  if z20 = (0 : Int32) then (
    f_X9_finds_j187 m14 x2 (x12) (z20)
  ) else (
    if (x12 + (1 : Int32)) = x2 then (
      (ldA m14 194 8 (x12)).bind fun y27 =>
      (ldA m14 194 8 ((0 : Int32))).bind fun y28 =>
      (ldA m14 193 49 ((((7 : Int32) * y27) + y28))).bind fun y29 =>
      if y29 ≤ (0 : Int32) then (
        f_X9_finds_j187 m14 x2 (x12) (z20)
      ) else (
        some (.inr (.inl (m14)))
      )
    ) else (
      f_X9_finds_j187 m14 x2 (x12) (z20)
    )
  )
set_option maxRecDepth 100000 in
set_option maxHeartbeats 4000000 in
theorem k_X9_finds_j104 {l : Launch} {D : va_G} {cy : Nat → ClassId} {base : Nat} {X : gX} {Z : gZ} (m14 : Mem) (x2 : Int32) (x12 : Int32) (x13 : Int32)  {r : (Int32 × Mem) ⊕ ((Mem) ⊕ (Mem))} (hS : f_X9_finds_j104 m14 x2 x12 x13 = some r) (hin : ∀ v2, r = .inl v2 → G l D cy base RX9 cX9_finds 6 (some .boolean) (gRm 0) X Z 9 [(0, .ref (base + 186)), (1, .int (x2)), (2, .int (v2.1))] [] 0 0 gNN (gH cy base v2.2)) (hout0 : ∀ x, r = .inr (.inl x) → G l D cy base RX9 cX9_finds 6 (some .boolean) (gRm 0) X Z 185 [] [] 0 0 gNN (gH cy base x)) (hout1 : ∀ x, r = .inr (.inr (x)) → G l D cy base RX9 cX9_finds 6 (some .boolean) (gRm 0) X Z 212 [] [] 0 0 gNN (gH cy base x)) : G l D cy base RX9 cX9_finds 6 (some .boolean) (gRm 0) X Z 104 [(0, .ref (base + 186)), (1, .int (x2)), (2, .int (x12))] [.int (x13)] 0 0 gNN (gH cy base m14) := by
  unfold f_X9_finds_j104 at hS
  refine g_istore (lvx := [(4, .int (x13)), (0, .ref (base + 186)), (1, .int (x2)), (2, .int (x12))]) dX9_finds_104 (by decide) rfl ?_
  refine g_iconst (v := 0) dX9_finds_106 (by decide) ?_
  refine g_istore (lvx := [(5, .int ((0 : Int32))), (4, .int (x13)), (0, .ref (base + 186)), (1, .int (x2)), (2, .int (x12))]) dX9_finds_107 (by decide) rfl ?_
  obtain ⟨z20, ez20, hS⟩ := ob hS
  refine g_sub (lvx := [(0, .ref (base + 186)), (1, .int (x2)), (2, .int (x12)), (4, .int (x13)), (5, .int ((0 : Int32)))]) [2, 3, 4, 1, 0] rfl ?_
  refine iter_ind (fun vv => G l D cy base RX9 cX9_finds 6 (some .boolean) (gRm 0) X Z 109 [(0, .ref (base + 186)), (1, .int (x2)), (2, .int (x12)), (4, .int (vv.1)), (5, .int (vv.2))] [] 0 0 gNN (gH cy base m14)) (fun xx => G l D cy base RX9 cX9_finds 6 (some .boolean) (gRm 0) X Z 149 [(0, .ref (base + 186)), (1, .int (x2)), (2, .int (x12)), (4, .int (xx))] [] 0 0 gNN (gH cy base m14)) (fun vv rr hh hin hout => k_X9_finds_b109 m14 (x2) (x12)  vv rr hh hin (fun xx ee => hout xx ee)) gFU ((x13), ((0 : Int32))) z20 ez20 ?_
  show G l D cy base RX9 cX9_finds 6 (some .boolean) (gRm 0) X Z 149 [(0, .ref (base + 186)), (1, .int (x2)), (2, .int (x12)), (4, .int (z20))] [] 0 0 gNN (gH cy base m14)
  refine g_iload (j := 3) (x := z20) dX9_finds_149 rfl ?_
  refine g_if_eq 187 dX9_finds_151 (by decide) (fun hc => ?_) (fun hc => ?_)
  · replace hS := (if_pos hc).symm.trans hS
    exact k_X9_finds_j187 (m14) x2 (x12) (z20)  hS hin hout0 hout1
  · replace hS := (if_neg hc).symm.trans hS
    refine g_iload_n (j := 2) (x := x12) dX9_finds_154 rfl rfl ?_
    refine g_iconst (v := 1) dX9_finds_155 (by decide) ?_
    refine g_iadd dX9_finds_156 ?_
    refine g_iload_n (j := 1) (x := x2) dX9_finds_157 rfl rfl ?_
    refine g_icmp_ne 187 dX9_finds_158 (by decide) (fun hc => ?_) (fun hc => ?_)
    · replace hS := (if_neg hc).symm.trans hS
      exact k_X9_finds_j187 (m14) x2 (x12) (z20)  hS hin hout0 hout1
    · replace hS := (if_pos hc).symm.trans hS
      refine g_aload_n (j := 0) (x := base + 186) dX9_finds_161 rfl rfl ?_
      refine gs_getR (r := 193) lk_RX9_29 (tk_186 _) rfl dX9_finds_162 ?_
      refine g_bipush (v := 7) dX9_finds_165 (by decide) ?_
      refine g_aload_n (j := 0) (x := base + 186) dX9_finds_167 rfl rfl ?_
      refine gs_getR (r := 194) lk_RX9_32 (tk_186 _) rfl dX9_finds_168 ?_
      refine g_iload_n (j := 2) (x := x12) dX9_finds_171 rfl rfl ?_
      obtain ⟨y27, ey27, hS⟩ := ob hS
      refine gs_iald (tk_194 _) dX9_finds_172 ey27 ?_
      refine g_imul dX9_finds_173 ?_
      refine g_aload_n (j := 0) (x := base + 186) dX9_finds_174 rfl rfl ?_
      refine gs_getR (r := 194) lk_RX9_32 (tk_186 _) rfl dX9_finds_175 ?_
      refine g_iconst (v := 0) dX9_finds_178 (by decide) ?_
      obtain ⟨y28, ey28, hS⟩ := ob hS
      refine gs_iald (tk_194 _) dX9_finds_179 ey28 ?_
      refine g_iadd dX9_finds_180 ?_
      obtain ⟨y29, ey29, hS⟩ := ob hS
      refine gs_iald (tk_193 _) dX9_finds_181 ey29 ?_
      refine g_if_le 187 dX9_finds_182 (by decide) (fun hc => ?_) (fun hc => ?_)
      · replace hS := (if_pos hc).symm.trans hS
        exact k_X9_finds_j187 (m14) x2 (x12) (z20)  hS hin hout0 hout1
      · replace hS := (if_neg hc).symm.trans hS
        refine g_sub (lvx := []) [] rfl ?_
        obtain rfl := Option.some.inj hS
        exact hout0 ((m14)) rfl
def f_X9_finds_j99 (m11 : Mem) (x2 : Int32) (x10 : Int32) : Option ((Int32 × Mem) ⊕ ((Mem) ⊕ (Mem))) :=
  f_X9_finds_j104 m11 x2 (x10) ((1 : Int32))
set_option maxRecDepth 100000 in
set_option maxHeartbeats 4000000 in
theorem k_X9_finds_j99 {l : Launch} {D : va_G} {cy : Nat → ClassId} {base : Nat} {X : gX} {Z : gZ} (m11 : Mem) (x2 : Int32) (x10 : Int32)  {r : (Int32 × Mem) ⊕ ((Mem) ⊕ (Mem))} (hS : f_X9_finds_j99 m11 x2 x10 = some r) (hin : ∀ v2, r = .inl v2 → G l D cy base RX9 cX9_finds 6 (some .boolean) (gRm 0) X Z 9 [(0, .ref (base + 186)), (1, .int (x2)), (2, .int (v2.1))] [] 0 0 gNN (gH cy base v2.2)) (hout0 : ∀ x, r = .inr (.inl x) → G l D cy base RX9 cX9_finds 6 (some .boolean) (gRm 0) X Z 185 [] [] 0 0 gNN (gH cy base x)) (hout1 : ∀ x, r = .inr (.inr (x)) → G l D cy base RX9 cX9_finds 6 (some .boolean) (gRm 0) X Z 212 [] [] 0 0 gNN (gH cy base x)) : G l D cy base RX9 cX9_finds 6 (some .boolean) (gRm 0) X Z 99 [(0, .ref (base + 186)), (1, .int (x2)), (2, .int (x10))] [] 0 0 gNN (gH cy base m11) := by
  unfold f_X9_finds_j99 at hS
  refine g_iconst (v := 1) dX9_finds_99 (by decide) ?_
  refine g_goto 104 dX9_finds_100 (by decide) ?_
  exact k_X9_finds_j104 (m11) x2 (x10) ((1 : Int32))  hS hin hout0 hout1
def f_X9_finds_j103 (m35 : Mem) (x2 : Int32) (x34 : Int32) : Option ((Int32 × Mem) ⊕ ((Mem) ⊕ (Mem))) :=
  f_X9_finds_j104 m35 x2 (x34) ((0 : Int32))
set_option maxRecDepth 100000 in
set_option maxHeartbeats 4000000 in
theorem k_X9_finds_j103 {l : Launch} {D : va_G} {cy : Nat → ClassId} {base : Nat} {X : gX} {Z : gZ} (m35 : Mem) (x2 : Int32) (x34 : Int32)  {r : (Int32 × Mem) ⊕ ((Mem) ⊕ (Mem))} (hS : f_X9_finds_j103 m35 x2 x34 = some r) (hin : ∀ v2, r = .inl v2 → G l D cy base RX9 cX9_finds 6 (some .boolean) (gRm 0) X Z 9 [(0, .ref (base + 186)), (1, .int (x2)), (2, .int (v2.1))] [] 0 0 gNN (gH cy base v2.2)) (hout0 : ∀ x, r = .inr (.inl x) → G l D cy base RX9 cX9_finds 6 (some .boolean) (gRm 0) X Z 185 [] [] 0 0 gNN (gH cy base x)) (hout1 : ∀ x, r = .inr (.inr (x)) → G l D cy base RX9 cX9_finds 6 (some .boolean) (gRm 0) X Z 212 [] [] 0 0 gNN (gH cy base x)) : G l D cy base RX9 cX9_finds 6 (some .boolean) (gRm 0) X Z 103 [(0, .ref (base + 186)), (1, .int (x2)), (2, .int (x34))] [] 0 0 gNN (gH cy base m35) := by
  unfold f_X9_finds_j103 at hS
  refine g_iconst (v := 0) dX9_finds_103 (by decide) ?_
  exact k_X9_finds_j104 (m35) x2 (x34) ((0 : Int32))  hS hin hout0 hout1
def f_X9_finds_j43 (m9 : Mem) (x2 : Int32) (x7 : Int32) (x8 : Int32) : Option ((Int32 × Mem) ⊕ ((Mem) ⊕ (Mem))) :=
  if x8 = (0 : Int32) then (
    some (.inl (((x7 + (-1 : Int32))), (m9)))
  ) else (
    if x7 = (0 : Int32) then (
      f_X9_finds_j99 m9 x2 (x7)
    ) else (
      (ldA m9 194 8 (x7)).bind fun y32 =>
      (ldA m9 194 8 ((0 : Int32))).bind fun y33 =>
      if y32 ≤ y33 then (
        f_X9_finds_j103 m9 x2 (x7)
      ) else (
        (ldA m9 194 8 ((x7 - (1 : Int32)))).bind fun y38 =>
        (ldA m9 194 8 (x7)).bind fun y39 =>
        (ldA m9 193 49 ((((7 : Int32) * y38) + y39))).bind fun y40 =>
        if y40 ≤ (0 : Int32) then (
          f_X9_finds_j103 m9 x2 (x7)
        ) else (
          f_X9_finds_j99 m9 x2 (x7)
        )
      )
    )
  )
set_option maxRecDepth 100000 in
set_option maxHeartbeats 4000000 in
theorem k_X9_finds_j43 {l : Launch} {D : va_G} {cy : Nat → ClassId} {base : Nat} {X : gX} {Z : gZ} (m9 : Mem) (x2 : Int32) (x7 : Int32) (x8 : Int32)  {r : (Int32 × Mem) ⊕ ((Mem) ⊕ (Mem))} (hS : f_X9_finds_j43 m9 x2 x7 x8 = some r) (hin : ∀ v2, r = .inl v2 → G l D cy base RX9 cX9_finds 6 (some .boolean) (gRm 0) X Z 9 [(0, .ref (base + 186)), (1, .int (x2)), (2, .int (v2.1))] [] 0 0 gNN (gH cy base v2.2)) (hout0 : ∀ x, r = .inr (.inl x) → G l D cy base RX9 cX9_finds 6 (some .boolean) (gRm 0) X Z 185 [] [] 0 0 gNN (gH cy base x)) (hout1 : ∀ x, r = .inr (.inr (x)) → G l D cy base RX9 cX9_finds 6 (some .boolean) (gRm 0) X Z 212 [] [] 0 0 gNN (gH cy base x)) : G l D cy base RX9 cX9_finds 6 (some .boolean) (gRm 0) X Z 43 [(0, .ref (base + 186)), (1, .int (x2)), (2, .int (x7))] [.int (x8)] 0 0 gNN (gH cy base m9) := by
  unfold f_X9_finds_j43 at hS
  refine g_istore_n (lvx := [(3, .int (x8)), (0, .ref (base + 186)), (1, .int (x2)), (2, .int (x7))]) dX9_finds_43 rfl (by decide) rfl ?_
  refine g_iload_n (j := 0) (x := x8) dX9_finds_44 rfl rfl ?_
  refine g_if_ne 54 dX9_finds_45 (by decide) (fun hc => ?_) (fun hc => ?_)
  · replace hS := (if_neg hc).symm.trans hS
    refine g_iload_n (j := 3) (x := x7) dX9_finds_54 rfl rfl ?_
    refine g_if_eq 99 dX9_finds_55 (by decide) (fun hc => ?_) (fun hc => ?_)
    · replace hS := (if_pos hc).symm.trans hS
      refine g_sub (lvx := [(0, .ref (base + 186)), (1, .int (x2)), (2, .int (x7))]) [1, 2, 3] rfl ?_
      exact k_X9_finds_j99 (m9) x2 (x7)  hS hin hout0 hout1
    · replace hS := (if_neg hc).symm.trans hS
      refine g_aload_n (j := 1) (x := base + 186) dX9_finds_58 rfl rfl ?_
      refine gs_getR (r := 194) lk_RX9_32 (tk_186 _) rfl dX9_finds_59 ?_
      refine g_iload_n (j := 3) (x := x7) dX9_finds_62 rfl rfl ?_
      obtain ⟨y32, ey32, hS⟩ := ob hS
      refine gs_iald (tk_194 _) dX9_finds_63 ey32 ?_
      refine g_aload_n (j := 1) (x := base + 186) dX9_finds_64 rfl rfl ?_
      refine gs_getR (r := 194) lk_RX9_32 (tk_186 _) rfl dX9_finds_65 ?_
      refine g_iconst (v := 0) dX9_finds_68 (by decide) ?_
      obtain ⟨y33, ey33, hS⟩ := ob hS
      refine gs_iald (tk_194 _) dX9_finds_69 ey33 ?_
      refine g_icmp_le 103 dX9_finds_70 (by decide) (fun hc => ?_) (fun hc => ?_)
      · replace hS := (if_pos hc).symm.trans hS
        refine g_sub (lvx := [(0, .ref (base + 186)), (1, .int (x2)), (2, .int (x7))]) [1, 2, 3] rfl ?_
        exact k_X9_finds_j103 (m9) x2 (x7)  hS hin hout0 hout1
      · replace hS := (if_neg hc).symm.trans hS
        refine g_aload_n (j := 1) (x := base + 186) dX9_finds_73 rfl rfl ?_
        refine gs_getR (r := 193) lk_RX9_29 (tk_186 _) rfl dX9_finds_74 ?_
        refine g_bipush (v := 7) dX9_finds_77 (by decide) ?_
        refine g_aload_n (j := 1) (x := base + 186) dX9_finds_79 rfl rfl ?_
        refine gs_getR (r := 194) lk_RX9_32 (tk_186 _) rfl dX9_finds_80 ?_
        refine g_iload_n (j := 3) (x := x7) dX9_finds_83 rfl rfl ?_
        refine g_iconst (v := 1) dX9_finds_84 (by decide) ?_
        refine g_isub dX9_finds_85 ?_
        obtain ⟨y38, ey38, hS⟩ := ob hS
        refine gs_iald (tk_194 _) dX9_finds_86 ey38 ?_
        refine g_imul dX9_finds_87 ?_
        refine g_aload_n (j := 1) (x := base + 186) dX9_finds_88 rfl rfl ?_
        refine gs_getR (r := 194) lk_RX9_32 (tk_186 _) rfl dX9_finds_89 ?_
        refine g_iload_n (j := 3) (x := x7) dX9_finds_92 rfl rfl ?_
        obtain ⟨y39, ey39, hS⟩ := ob hS
        refine gs_iald (tk_194 _) dX9_finds_93 ey39 ?_
        refine g_iadd dX9_finds_94 ?_
        obtain ⟨y40, ey40, hS⟩ := ob hS
        refine gs_iald (tk_193 _) dX9_finds_95 ey40 ?_
        refine g_if_le 103 dX9_finds_96 (by decide) (fun hc => ?_) (fun hc => ?_)
        · replace hS := (if_pos hc).symm.trans hS
          refine g_sub (lvx := [(0, .ref (base + 186)), (1, .int (x2)), (2, .int (x7))]) [1, 2, 3] rfl ?_
          exact k_X9_finds_j103 (m9) x2 (x7)  hS hin hout0 hout1
        · replace hS := (if_neg hc).symm.trans hS
          refine g_sub (lvx := [(0, .ref (base + 186)), (1, .int (x2)), (2, .int (x7))]) [1, 2, 3] rfl ?_
          exact k_X9_finds_j99 (m9) x2 (x7)  hS hin hout0 hout1
  · replace hS := (if_pos hc).symm.trans hS
    refine g_iinc (j := 3) (x := x7) (v := (x7 + (-1 : Int32))) (lvx := [(2, .int ((x7 + (-1 : Int32)))), (3, .int (x8)), (0, .ref (base + 186)), (1, .int (x2))]) dX9_finds_48 rfl rfl (by decide) rfl ?_
    refine g_goto 209 dX9_finds_51 (by decide) ?_
    refine g_goto 9 dX9_finds_209 (by decide) ?_
    refine g_sub (lvx := [(0, .ref (base + 186)), (1, .int (x2)), (2, .int ((x7 + (-1 : Int32))))]) [2, 3, 0] rfl ?_
    obtain rfl := Option.some.inj hS
    exact hin ((((x7 + (-1 : Int32))), (m9))) rfl
def f_X9_finds_b9 (x2 : Int32) (v : Int32 × Mem) : Option ((Int32 × Mem) ⊕ ((Mem) ⊕ (Mem))) :=
  if v.1 < (0 : Int32) then (
    some (.inr (.inr ((v.2))))
  ) else (
    (ldA v.2 194 8 (v.1)).bind fun y3 =>
    (stA v.2 194 8 (v.1) ((y3 + (1 : Int32)))).bind fun m4 =>
    (ldA m4 194 8 (v.1)).bind fun y5 =>
    (ldA m4 188 49 ((0 : Int32))).bind fun y6 =>
    if y6 ≤ y5 then (
      f_X9_finds_j43 m4 x2 (v.1) ((0 : Int32))
    ) else (
      f_X9_finds_j43 m4 x2 (v.1) ((1 : Int32))
    )
  )
set_option maxRecDepth 100000 in
set_option maxHeartbeats 4000000 in
theorem k_X9_finds_b9 {l : Launch} {D : va_G} {cy : Nat → ClassId} {base : Nat} {X : gX} {Z : gZ} (x2 : Int32)  (v : Int32 × Mem) (r : (Int32 × Mem) ⊕ ((Mem) ⊕ (Mem))) (hS : f_X9_finds_b9 x2 v = some r) (hin : ∀ v2, r = .inl v2 → G l D cy base RX9 cX9_finds 6 (some .boolean) (gRm 0) X Z 9 [(0, .ref (base + 186)), (1, .int (x2)), (2, .int (v2.1))] [] 0 0 gNN (gH cy base v2.2)) (hout0 : ∀ x, r = .inr (.inl x) → G l D cy base RX9 cX9_finds 6 (some .boolean) (gRm 0) X Z 185 [] [] 0 0 gNN (gH cy base x)) (hout1 : ∀ x, r = .inr (.inr (x)) → G l D cy base RX9 cX9_finds 6 (some .boolean) (gRm 0) X Z 212 [] [] 0 0 gNN (gH cy base x)) : G l D cy base RX9 cX9_finds 6 (some .boolean) (gRm 0) X Z 9 [(0, .ref (base + 186)), (1, .int (x2)), (2, .int (v.1))] [] 0 0 gNN (gH cy base v.2) := by
  unfold f_X9_finds_b9 at hS
  refine g_iload_n (j := 2) (x := v.1) dX9_finds_9 rfl rfl ?_
  refine g_if_lt 212 dX9_finds_10 (by decide) (fun hc => ?_) (fun hc => ?_)
  · replace hS := (if_pos hc).symm.trans hS
    refine g_sub (lvx := []) [] rfl ?_
    obtain rfl := Option.some.inj hS
    exact hout1 ((v.2)) rfl
  · replace hS := (if_neg hc).symm.trans hS
    refine g_aload_n (j := 0) (x := base + 186) dX9_finds_13 rfl rfl ?_
    refine gs_getR (r := 194) lk_RX9_32 (tk_186 _) rfl dX9_finds_14 ?_
    refine g_iload_n (j := 2) (x := v.1) dX9_finds_17 rfl rfl ?_
    refine g_dup2 dX9_finds_18 rfl rfl ?_
    obtain ⟨y3, ey3, hS⟩ := ob hS
    refine gs_iald (tk_194 _) dX9_finds_19 ey3 ?_
    refine g_iconst (v := 1) dX9_finds_20 (by decide) ?_
    refine g_iadd dX9_finds_21 ?_
    obtain ⟨m4, em4, hS⟩ := ob hS
    refine gs_iast (tk_194 _) dX9_finds_22 em4 ?_
    refine g_aload_n (j := 0) (x := base + 186) dX9_finds_23 rfl rfl ?_
    refine gs_getR (r := 194) lk_RX9_32 (tk_186 _) rfl dX9_finds_24 ?_
    refine g_iload_n (j := 2) (x := v.1) dX9_finds_27 rfl rfl ?_
    obtain ⟨y5, ey5, hS⟩ := ob hS
    refine gs_iald (tk_194 _) dX9_finds_28 ey5 ?_
    refine g_aload_n (j := 0) (x := base + 186) dX9_finds_29 rfl rfl ?_
    refine gs_getR (r := 188) lk_RX9_13 (tk_186 _) rfl dX9_finds_30 ?_
    refine g_iconst (v := 0) dX9_finds_33 (by decide) ?_
    obtain ⟨y6, ey6, hS⟩ := ob hS
    refine gs_iald (tk_188 _) dX9_finds_34 ey6 ?_
    refine g_icmp_ge 42 dX9_finds_35 (by decide) (fun hc => ?_) (fun hc => ?_)
    · replace hS := (if_pos hc).symm.trans hS
      refine g_iconst (v := 0) dX9_finds_42 (by decide) ?_
      exact k_X9_finds_j43 (m4) x2 (v.1) ((0 : Int32))  hS hin hout0 hout1
    · replace hS := (if_neg hc).symm.trans hS
      refine g_iconst (v := 1) dX9_finds_38 (by decide) ?_
      refine g_goto 43 dX9_finds_39 (by decide) ?_
      exact k_X9_finds_j43 (m4) x2 (v.1) ((1 : Int32))  hS hin hout0 hout1
def f_X9_finds (μ : Mem) (a1 : Int32) : Option (Int32 × Mem) :=
  (stA μ 194 8 ((0 : Int32)) ((-1 : Int32))).bind fun m1 =>
  (iter gFU (f_X9_finds_b9  (a1)) (((0 : Int32)), m1)).bind fun z45 =>
  Sum.elim (fun w46 => 
    some ((1 : Int32), w46)
  ) (fun w47 => 
    some ((0 : Int32), w47)
  ) z45
set_option maxRecDepth 100000 in
set_option maxHeartbeats 4000000 in
theorem k_X9_finds {l : Launch} {D : va_G} {cy : Nat → ClassId} {base : Nat} (μ : Mem) (a1 : Int32)  {out : Int32 × Mem} (hS : f_X9_finds μ a1 = some out) : gC l D cy base yX9_finds cX9_finds 6 (some .boolean) 0 [.ref (base + 186), .int (a1)] μ (some (.int out.1)) out.2 := by
  refine gC_of (own := RX9) (lv0 := [(0, .ref (base + 186)), (1, .int (a1))]) rfl (by decide) (Nat.le_of_ble_eq_true rfl) rfl ?_
  unfold f_X9_finds at hS
  refine g_iconst (v := 0) dX9_finds_0 (by decide) ?_
  refine g_istore_n (lvx := [(2, .int ((0 : Int32))), (0, .ref (base + 186)), (1, .int (a1))]) dX9_finds_1 rfl (by decide) rfl ?_
  refine g_aload_n (j := 1) (x := base + 186) dX9_finds_2 rfl rfl ?_
  refine gs_getR (r := 194) lk_RX9_32 (tk_186 _) rfl dX9_finds_3 ?_
  refine g_iconst (v := 0) dX9_finds_6 (by decide) ?_
  refine g_iconst (v := -1) dX9_finds_7 (by decide) ?_
  obtain ⟨m1, em1, hS⟩ := ob hS
  refine gs_iast (tk_194 _) dX9_finds_8 em1 ?_
  obtain ⟨z45, ez45, hS⟩ := ob hS
  refine g_sub (lvx := [(0, .ref (base + 186)), (1, .int (a1)), (2, .int ((0 : Int32)))]) [1, 2, 0] rfl ?_
  refine iter_ind (fun vv => G l D cy base RX9 cX9_finds 6 (some .boolean) (gRm 0) (gXm yX9_finds) (gZm D cy base 0 0 (some (.int out.1)) gNN (gH cy base out.2)) 9 [(0, .ref (base + 186)), (1, .int (a1)), (2, .int (vv.1))] [] 0 0 gNN (gH cy base vv.2)) (fun xx => match xx with | (.inl xx) => G l D cy base RX9 cX9_finds 6 (some .boolean) (gRm 0) (gXm yX9_finds) (gZm D cy base 0 0 (some (.int out.1)) gNN (gH cy base out.2)) 185 [] [] 0 0 gNN (gH cy base xx) | (.inr (xx)) => G l D cy base RX9 cX9_finds 6 (some .boolean) (gRm 0) (gXm yX9_finds) (gZm D cy base 0 0 (some (.int out.1)) gNN (gH cy base out.2)) 212 [] [] 0 0 gNN (gH cy base xx)) (fun vv rr hh hin hout => k_X9_finds_b9  (a1)  vv rr hh hin (fun xx ee => hout (.inl xx) ee) (fun xx ee => hout (.inr (xx)) ee)) gFU (((0 : Int32)), m1) z45 ez45 ?_
  cases z45 with
  | inl w46 =>
    replace hS := (Sum.elim_inl _ _ _).symm.trans hS
    show G l D cy base RX9 cX9_finds 6 (some .boolean) (gRm 0) (gXm yX9_finds) (gZm D cy base 0 0 (some (.int out.1)) gNN (gH cy base out.2)) 185 [] [] 0 0 gNN (gH cy base w46)
    refine g_iconst (v := 1) dX9_finds_185 (by decide) ?_
    obtain rfl := Option.some.inj hS
    exact g_zret (v := (1 : Int32)) rfl rfl dX9_finds_186
  | inr w47 =>
    replace hS := (Sum.elim_inr _ _ _).symm.trans hS
    show G l D cy base RX9 cX9_finds 6 (some .boolean) (gRm 0) (gXm yX9_finds) (gZm D cy base 0 0 (some (.int out.1)) gNN (gH cy base out.2)) 212 [] [] 0 0 gNN (gH cy base w47)
    refine g_iconst (v := 0) dX9_finds_212 (by decide) ?_
    obtain rfl := Option.some.inj hS
    exact g_zret (v := (0 : Int32)) rfl rfl dX9_finds_213
def f_X9_struck_b2  (v : Int32 × Mem) : Option ((Int32 × Mem) ⊕ ((Mem))) :=
  if (49 : Int32) ≤ v.1 then (
    some (.inr (v.2))
  ) else (
    (ldA v.2 190 716 (((14 : Int32) + v.1))).bind fun y1 =>
    (stA v.2 193 49 (v.1) (y1)).bind fun m2 =>
    some (.inl (((v.1 + (1 : Int32))), (m2)))
  )
set_option maxRecDepth 100000 in
set_option maxHeartbeats 4000000 in
theorem k_X9_struck_b2 {l : Launch} {D : va_G} {cy : Nat → ClassId} {base : Nat} {X : gX} {Z : gZ}   (v : Int32 × Mem) (r : (Int32 × Mem) ⊕ ((Mem))) (hS : f_X9_struck_b2  v = some r) (hin : ∀ v2, r = .inl v2 → G l D cy base RX9 cX9_struck 6 (some .int) (gRm 1) X Z 2 [(0, .ref (base + 186)), (1, .int (v2.1))] [] 0 0 gNN (gH cy base v2.2)) (hout0 : ∀ x, r = .inr x → G l D cy base RX9 cX9_struck 6 (some .int) (gRm 1) X Z 29 [(0, .ref (base + 186))] [] 0 0 gNN (gH cy base x)) : G l D cy base RX9 cX9_struck 6 (some .int) (gRm 1) X Z 2 [(0, .ref (base + 186)), (1, .int (v.1))] [] 0 0 gNN (gH cy base v.2) := by
  unfold f_X9_struck_b2 at hS
  refine g_iload_n (j := 1) (x := v.1) dX9_struck_2 rfl rfl ?_
  refine g_bipush (v := 49) dX9_struck_3 (by decide) ?_
  refine g_icmp_ge 29 dX9_struck_5 (by decide) (fun hc => ?_) (fun hc => ?_)
  · replace hS := (if_pos hc).symm.trans hS
    refine g_sub (lvx := [(0, .ref (base + 186))]) [0] rfl ?_
    obtain rfl := Option.some.inj hS
    exact hout0 ((v.2)) rfl
  · replace hS := (if_neg hc).symm.trans hS
    refine g_aload_n (j := 0) (x := base + 186) dX9_struck_8 rfl rfl ?_
    refine gs_getR (r := 193) lk_RX9_29 (tk_186 _) rfl dX9_struck_9 ?_
    refine g_iload_n (j := 1) (x := v.1) dX9_struck_12 rfl rfl ?_
    refine g_aload_n (j := 0) (x := base + 186) dX9_struck_13 rfl rfl ?_
    refine gs_getR (r := 190) lk_RX9_19 (tk_186 _) rfl dX9_struck_14 ?_
    refine g_bipush (v := 14) dX9_struck_17 (by decide) ?_
    refine g_iload_n (j := 1) (x := v.1) dX9_struck_19 rfl rfl ?_
    refine g_iadd dX9_struck_20 ?_
    obtain ⟨y1, ey1, hS⟩ := ob hS
    refine gs_iald (tk_190 _) dX9_struck_21 ey1 ?_
    obtain ⟨m2, em2, hS⟩ := ob hS
    refine gs_iast (tk_193 _) dX9_struck_22 em2 ?_
    refine g_iinc (j := 1) (x := v.1) (v := (v.1 + (1 : Int32))) (lvx := [(1, .int ((v.1 + (1 : Int32)))), (0, .ref (base + 186))]) dX9_struck_23 rfl rfl (by decide) rfl ?_
    refine g_goto 2 dX9_struck_26 (by decide) ?_
    refine g_sub (lvx := [(0, .ref (base + 186)), (1, .int ((v.1 + (1 : Int32))))]) [1, 0] rfl ?_
    obtain rfl := Option.some.inj hS
    exact hin ((((v.1 + (1 : Int32))), (m2))) rfl
def f_X9_struck_b78 (m11 : Mem) (x9 : Int32) (x10 : Int32) (v : Int32 × Int32) : Option ((Int32 × Int32) ⊕ ((Int32))) :=
  if x10 ≤ (v.2 + (1 : Int32)) then (
    some (.inr (v.1))
  ) else (
    (ldA m11 194 8 (v.2)).bind fun y12 =>
    (ldA m11 194 8 ((v.2 + (1 : Int32)))).bind fun y13 =>
    (ldA m11 193 49 ((((7 : Int32) * y12) + y13))).bind fun y14 =>
    if v.1 ≤ y14 then (
      some (.inl ((v.1), ((v.2 + (1 : Int32)))))
    ) else (
      some (.inl ((y14), ((v.2 + (1 : Int32)))))
    )
  )
set_option maxRecDepth 100000 in
set_option maxHeartbeats 4000000 in
theorem k_X9_struck_b78 {l : Launch} {D : va_G} {cy : Nat → ClassId} {base : Nat} {X : gX} {Z : gZ} (m11 : Mem) (x9 : Int32) (x10 : Int32)  (v : Int32 × Int32) (r : (Int32 × Int32) ⊕ ((Int32))) (hS : f_X9_struck_b78 m11 x9 x10 v = some r) (hin : ∀ v2, r = .inl v2 → G l D cy base RX9 cX9_struck 6 (some .int) (gRm 1) X Z 78 [(0, .ref (base + 186)), (1, .int (x9)), (2, .int (x10)), (3, .int (v2.1)), (4, .int (v2.2))] [] 0 0 gNN (gH cy base m11)) (hout0 : ∀ x, r = .inr x → G l D cy base RX9 cX9_struck 6 (some .int) (gRm 1) X Z 132 [(0, .ref (base + 186)), (1, .int (x9)), (2, .int (x10)), (3, .int (x))] [] 0 0 gNN (gH cy base m11)) : G l D cy base RX9 cX9_struck 6 (some .int) (gRm 1) X Z 78 [(0, .ref (base + 186)), (1, .int (x9)), (2, .int (x10)), (3, .int (v.1)), (4, .int (v.2))] [] 0 0 gNN (gH cy base m11) := by
  unfold f_X9_struck_b78 at hS
  refine g_iload (j := 4) (x := v.2) dX9_struck_78 rfl ?_
  refine g_iconst (v := 1) dX9_struck_80 (by decide) ?_
  refine g_iadd dX9_struck_81 ?_
  refine g_iload_n (j := 2) (x := x10) dX9_struck_82 rfl rfl ?_
  refine g_icmp_ge 132 dX9_struck_83 (by decide) (fun hc => ?_) (fun hc => ?_)
  · replace hS := (if_pos hc).symm.trans hS
    refine g_sub (lvx := [(0, .ref (base + 186)), (1, .int (x9)), (2, .int (x10)), (3, .int (v.1))]) [0, 1, 2, 3] rfl ?_
    obtain rfl := Option.some.inj hS
    exact hout0 ((v.1)) rfl
  · replace hS := (if_neg hc).symm.trans hS
    refine g_aload_n (j := 0) (x := base + 186) dX9_struck_86 rfl rfl ?_
    refine gs_getR (r := 193) lk_RX9_29 (tk_186 _) rfl dX9_struck_87 ?_
    refine g_bipush (v := 7) dX9_struck_90 (by decide) ?_
    refine g_aload_n (j := 0) (x := base + 186) dX9_struck_92 rfl rfl ?_
    refine gs_getR (r := 194) lk_RX9_32 (tk_186 _) rfl dX9_struck_93 ?_
    refine g_iload (j := 4) (x := v.2) dX9_struck_96 rfl ?_
    obtain ⟨y12, ey12, hS⟩ := ob hS
    refine gs_iald (tk_194 _) dX9_struck_98 ey12 ?_
    refine g_imul dX9_struck_99 ?_
    refine g_aload_n (j := 0) (x := base + 186) dX9_struck_100 rfl rfl ?_
    refine gs_getR (r := 194) lk_RX9_32 (tk_186 _) rfl dX9_struck_101 ?_
    refine g_iload (j := 4) (x := v.2) dX9_struck_104 rfl ?_
    refine g_iconst (v := 1) dX9_struck_106 (by decide) ?_
    refine g_iadd dX9_struck_107 ?_
    obtain ⟨y13, ey13, hS⟩ := ob hS
    refine gs_iald (tk_194 _) dX9_struck_108 ey13 ?_
    refine g_iadd dX9_struck_109 ?_
    obtain ⟨y14, ey14, hS⟩ := ob hS
    refine gs_iald (tk_193 _) dX9_struck_110 ey14 ?_
    refine g_istore (lvx := [(5, .int (y14)), (0, .ref (base + 186)), (1, .int (x9)), (2, .int (x10)), (3, .int (v.1)), (4, .int (v.2))]) dX9_struck_111 (by decide) rfl ?_
    refine g_iload (j := 0) (x := y14) dX9_struck_113 rfl ?_
    refine g_iload_n (j := 4) (x := v.1) dX9_struck_115 rfl rfl ?_
    refine g_icmp_ge 124 dX9_struck_116 (by decide) (fun hc => ?_) (fun hc => ?_)
    · replace hS := (if_pos hc).symm.trans hS
      refine g_iload_n (j := 4) (x := v.1) dX9_struck_124 rfl rfl ?_
      refine g_istore_n (lvx := [(3, .int (v.1)), (5, .int (y14)), (0, .ref (base + 186)), (1, .int (x9)), (2, .int (x10)), (4, .int (v.2))]) dX9_struck_125 rfl (by decide) rfl ?_
      refine g_iinc (j := 5) (x := v.2) (v := (v.2 + (1 : Int32))) (lvx := [(4, .int ((v.2 + (1 : Int32)))), (3, .int (v.1)), (5, .int (y14)), (0, .ref (base + 186)), (1, .int (x9)), (2, .int (x10))]) dX9_struck_126 rfl rfl (by decide) rfl ?_
      refine g_goto 78 dX9_struck_129 (by decide) ?_
      refine g_sub (lvx := [(0, .ref (base + 186)), (1, .int (x9)), (2, .int (x10)), (3, .int (v.1)), (4, .int ((v.2 + (1 : Int32))))]) [3, 4, 5, 1, 0] rfl ?_
      obtain rfl := Option.some.inj hS
      exact hin (((v.1), ((v.2 + (1 : Int32))))) rfl
    · replace hS := (if_neg hc).symm.trans hS
      refine g_iload (j := 0) (x := y14) dX9_struck_119 rfl ?_
      refine g_goto 125 dX9_struck_121 (by decide) ?_
      refine g_istore_n (lvx := [(3, .int (y14)), (5, .int (y14)), (0, .ref (base + 186)), (1, .int (x9)), (2, .int (x10)), (4, .int (v.2))]) dX9_struck_125 rfl (by decide) rfl ?_
      refine g_iinc (j := 5) (x := v.2) (v := (v.2 + (1 : Int32))) (lvx := [(4, .int ((v.2 + (1 : Int32)))), (3, .int (y14)), (5, .int (y14)), (0, .ref (base + 186)), (1, .int (x9)), (2, .int (x10))]) dX9_struck_126 rfl rfl (by decide) rfl ?_
      refine g_goto 78 dX9_struck_129 (by decide) ?_
      refine g_sub (lvx := [(0, .ref (base + 186)), (1, .int (x9)), (2, .int (x10)), (3, .int (y14)), (4, .int ((v.2 + (1 : Int32))))]) [3, 4, 5, 1, 0] rfl ?_
      obtain rfl := Option.some.inj hS
      exact hin (((y14), ((v.2 + (1 : Int32))))) rfl
def f_X9_struck_b135 (x16 : Int32) (x17 : Int32) (x18 : Int32) (v : Int32 × Mem) : Option ((Int32 × Mem) ⊕ ((Mem))) :=
  if x17 ≤ v.1 then (
    some (.inr (v.2))
  ) else (
    (ldA v.2 194 8 (v.1)).bind fun y19 =>
    (rmI ((v.1 + (1 : Int32))) (x17)).bind fun y20 =>
    (ldA v.2 194 8 (y20)).bind fun y21 =>
    (ldA v.2 193 49 ((((7 : Int32) * y19) + y21))).bind fun y22 =>
    (stA v.2 193 49 ((((7 : Int32) * y19) + y21)) ((y22 - x18))).bind fun m23 =>
    some (.inl (((v.1 + (1 : Int32))), (m23)))
  )
set_option maxRecDepth 100000 in
set_option maxHeartbeats 4000000 in
theorem k_X9_struck_b135 {l : Launch} {D : va_G} {cy : Nat → ClassId} {base : Nat} {X : gX} {Z : gZ} (x16 : Int32) (x17 : Int32) (x18 : Int32)  (v : Int32 × Mem) (r : (Int32 × Mem) ⊕ ((Mem))) (hS : f_X9_struck_b135 x16 x17 x18 v = some r) (hin : ∀ v2, r = .inl v2 → G l D cy base RX9 cX9_struck 6 (some .int) (gRm 1) X Z 135 [(0, .ref (base + 186)), (1, .int (x16)), (2, .int (x17)), (3, .int (x18)), (4, .int (v2.1))] [] 0 0 gNN (gH cy base v2.2)) (hout0 : ∀ x, r = .inr x → G l D cy base RX9 cX9_struck 6 (some .int) (gRm 1) X Z 178 [(0, .ref (base + 186)), (1, .int (x16)), (2, .int (x17)), (3, .int (x18))] [] 0 0 gNN (gH cy base x)) : G l D cy base RX9 cX9_struck 6 (some .int) (gRm 1) X Z 135 [(0, .ref (base + 186)), (1, .int (x16)), (2, .int (x17)), (3, .int (x18)), (4, .int (v.1))] [] 0 0 gNN (gH cy base v.2) := by
  unfold f_X9_struck_b135 at hS
  refine g_iload (j := 4) (x := v.1) dX9_struck_135 rfl ?_
  refine g_iload_n (j := 2) (x := x17) dX9_struck_137 rfl rfl ?_
  refine g_icmp_ge 178 dX9_struck_138 (by decide) (fun hc => ?_) (fun hc => ?_)
  · replace hS := (if_pos hc).symm.trans hS
    refine g_sub (lvx := [(0, .ref (base + 186)), (1, .int (x16)), (2, .int (x17)), (3, .int (x18))]) [0, 1, 2, 3] rfl ?_
    obtain rfl := Option.some.inj hS
    exact hout0 ((v.2)) rfl
  · replace hS := (if_neg hc).symm.trans hS
    refine g_aload_n (j := 0) (x := base + 186) dX9_struck_141 rfl rfl ?_
    refine gs_getR (r := 193) lk_RX9_29 (tk_186 _) rfl dX9_struck_142 ?_
    refine g_bipush (v := 7) dX9_struck_145 (by decide) ?_
    refine g_aload_n (j := 0) (x := base + 186) dX9_struck_147 rfl rfl ?_
    refine gs_getR (r := 194) lk_RX9_32 (tk_186 _) rfl dX9_struck_148 ?_
    refine g_iload (j := 4) (x := v.1) dX9_struck_151 rfl ?_
    obtain ⟨y19, ey19, hS⟩ := ob hS
    refine gs_iald (tk_194 _) dX9_struck_153 ey19 ?_
    refine g_imul dX9_struck_154 ?_
    refine g_aload_n (j := 0) (x := base + 186) dX9_struck_155 rfl rfl ?_
    refine gs_getR (r := 194) lk_RX9_32 (tk_186 _) rfl dX9_struck_156 ?_
    refine g_iload (j := 4) (x := v.1) dX9_struck_159 rfl ?_
    refine g_iconst (v := 1) dX9_struck_161 (by decide) ?_
    refine g_iadd dX9_struck_162 ?_
    refine g_iload_n (j := 2) (x := x17) dX9_struck_163 rfl rfl ?_
    obtain ⟨y20, ey20, hS⟩ := ob hS
    refine gs_irem dX9_struck_164 ey20 ?_
    obtain ⟨y21, ey21, hS⟩ := ob hS
    refine gs_iald (tk_194 _) dX9_struck_165 ey21 ?_
    refine g_iadd dX9_struck_166 ?_
    refine g_dup2 dX9_struck_167 rfl rfl ?_
    obtain ⟨y22, ey22, hS⟩ := ob hS
    refine gs_iald (tk_193 _) dX9_struck_168 ey22 ?_
    refine g_iload_n (j := 3) (x := x18) dX9_struck_169 rfl rfl ?_
    refine g_isub dX9_struck_170 ?_
    obtain ⟨m23, em23, hS⟩ := ob hS
    refine gs_iast (tk_193 _) dX9_struck_171 em23 ?_
    refine g_iinc (j := 4) (x := v.1) (v := (v.1 + (1 : Int32))) (lvx := [(4, .int ((v.1 + (1 : Int32)))), (0, .ref (base + 186)), (1, .int (x16)), (2, .int (x17)), (3, .int (x18))]) dX9_struck_172 rfl rfl (by decide) rfl ?_
    refine g_goto 135 dX9_struck_175 (by decide) ?_
    refine g_sub (lvx := [(0, .ref (base + 186)), (1, .int (x16)), (2, .int (x17)), (3, .int (x18)), (4, .int ((v.1 + (1 : Int32))))]) [1, 2, 3, 4, 0] rfl ?_
    obtain rfl := Option.some.inj hS
    exact hin ((((v.1 + (1 : Int32))), (m23))) rfl
def f_X9_struck_b33  (v : Int32 × Int32 × Mem) : Option ((Int32 × Int32 × Mem) ⊕ ((Int32 × Mem))) :=
  (ldA v.2.2 188 49 ((0 : Int32))).bind fun y4 =>
  if y4 < v.2.1 then (
    some (.inr ((v.1), (v.2.2)))
  ) else (
    (f_X9_finds v.2.2 (v.2.1)).bind fun z5 =>
    if z5.1 = (0 : Int32) then (
      some (.inl ((v.1), ((v.2.1 + (1 : Int32))), (z5.2)))
    ) else (
      (ldA z5.2 194 8 ((v.2.1 - (1 : Int32)))).bind fun y6 =>
      (ldA z5.2 194 8 ((0 : Int32))).bind fun y7 =>
      (ldA z5.2 193 49 ((((7 : Int32) * y6) + y7))).bind fun y8 =>
      (iter gFU (f_X9_struck_b78 z5.2 (v.1) (v.2.1)) ((y8), ((0 : Int32)))).bind fun z15 =>
      (iter gFU (f_X9_struck_b135  (v.1) (v.2.1) (z15)) (((0 : Int32)), z5.2)).bind fun z24 =>
      some (.inl (((v.1 + (v.2.1 * z15))), (v.2.1), (z24)))
    )
  )
set_option maxRecDepth 100000 in
set_option maxHeartbeats 4000000 in
theorem k_X9_struck_b33 {l : Launch} {D : va_G} {cy : Nat → ClassId} {base : Nat} {X : gX} {Z : gZ}   (v : Int32 × Int32 × Mem) (r : (Int32 × Int32 × Mem) ⊕ ((Int32 × Mem))) (hS : f_X9_struck_b33  v = some r) (hin : ∀ v2, r = .inl v2 → G l D cy base RX9 cX9_struck 6 (some .int) (gRm 1) X Z 33 [(0, .ref (base + 186)), (1, .int (v2.1)), (2, .int (v2.2.1))] [] 0 0 gNN (gH cy base v2.2.2)) (hout0 : ∀ x, r = .inr x → G l D cy base RX9 cX9_struck 6 (some .int) (gRm 1) X Z 193 [(1, .int (x.1))] [] 0 0 gNN (gH cy base x.2)) : G l D cy base RX9 cX9_struck 6 (some .int) (gRm 1) X Z 33 [(0, .ref (base + 186)), (1, .int (v.1)), (2, .int (v.2.1))] [] 0 0 gNN (gH cy base v.2.2) := by
  unfold f_X9_struck_b33 at hS
  refine g_iload_n (j := 2) (x := v.2.1) dX9_struck_33 rfl rfl ?_
  refine g_aload_n (j := 0) (x := base + 186) dX9_struck_34 rfl rfl ?_
  refine gs_getR (r := 188) lk_RX9_13 (tk_186 _) rfl dX9_struck_35 ?_
  refine g_iconst (v := 0) dX9_struck_38 (by decide) ?_
  obtain ⟨y4, ey4, hS⟩ := ob hS
  refine gs_iald (tk_188 _) dX9_struck_39 ey4 ?_
  refine g_icmp_gt 193 dX9_struck_40 (by decide) (fun hc => ?_) (fun hc => ?_)
  · replace hS := (if_pos hc).symm.trans hS
    refine g_sub (lvx := [(1, .int (v.1))]) [1] rfl ?_
    obtain rfl := Option.some.inj hS
    exact hout0 (((v.1), (v.2.2))) rfl
  · replace hS := (if_neg hc).symm.trans hS
    refine g_aload_n (j := 0) (x := base + 186) dX9_struck_43 rfl rfl ?_
    refine g_iload_n (j := 2) (x := v.2.1) dX9_struck_44 rfl rfl ?_
    obtain ⟨z5, ez5, hS⟩ := ob hS
    refine gs_callVi (As := [.int (v.2.1)]) (st := []) (kr := 186) (k_X9_finds v.2.2 (v.2.1)  ez5) cl_RX9_132 sv_X9_finds ckk_X9_finds (tk_186 _) ⟨by decide, by decide⟩ (Nat.le_of_ble_eq_true rfl) ⟨Nat.zero_le _, Nat.zero_le _⟩ rfl dX9_struck_45 rfl ?_
    refine g_if_eq 187 dX9_struck_48 (by decide) (fun hc => ?_) (fun hc => ?_)
    · replace hS := (if_pos hc).symm.trans hS
      refine g_iinc (j := 2) (x := v.2.1) (v := (v.2.1 + (1 : Int32))) (lvx := [(2, .int ((v.2.1 + (1 : Int32)))), (0, .ref (base + 186)), (1, .int (v.1))]) dX9_struck_187 rfl rfl (by decide) rfl ?_
      refine g_goto 33 dX9_struck_190 (by decide) ?_
      refine g_sub (lvx := [(0, .ref (base + 186)), (1, .int (v.1)), (2, .int ((v.2.1 + (1 : Int32))))]) [1, 2, 0] rfl ?_
      obtain rfl := Option.some.inj hS
      exact hin (((v.1), ((v.2.1 + (1 : Int32))), (z5.2))) rfl
    · replace hS := (if_neg hc).symm.trans hS
      refine g_aload_n (j := 0) (x := base + 186) dX9_struck_51 rfl rfl ?_
      refine gs_getR (r := 193) lk_RX9_29 (tk_186 _) rfl dX9_struck_52 ?_
      refine g_bipush (v := 7) dX9_struck_55 (by decide) ?_
      refine g_aload_n (j := 0) (x := base + 186) dX9_struck_57 rfl rfl ?_
      refine gs_getR (r := 194) lk_RX9_32 (tk_186 _) rfl dX9_struck_58 ?_
      refine g_iload_n (j := 2) (x := v.2.1) dX9_struck_61 rfl rfl ?_
      refine g_iconst (v := 1) dX9_struck_62 (by decide) ?_
      refine g_isub dX9_struck_63 ?_
      obtain ⟨y6, ey6, hS⟩ := ob hS
      refine gs_iald (tk_194 _) dX9_struck_64 ey6 ?_
      refine g_imul dX9_struck_65 ?_
      refine g_aload_n (j := 0) (x := base + 186) dX9_struck_66 rfl rfl ?_
      refine gs_getR (r := 194) lk_RX9_32 (tk_186 _) rfl dX9_struck_67 ?_
      refine g_iconst (v := 0) dX9_struck_70 (by decide) ?_
      obtain ⟨y7, ey7, hS⟩ := ob hS
      refine gs_iald (tk_194 _) dX9_struck_71 ey7 ?_
      refine g_iadd dX9_struck_72 ?_
      obtain ⟨y8, ey8, hS⟩ := ob hS
      refine gs_iald (tk_193 _) dX9_struck_73 ey8 ?_
      refine g_istore_n (lvx := [(3, .int (y8)), (0, .ref (base + 186)), (1, .int (v.1)), (2, .int (v.2.1))]) dX9_struck_74 rfl (by decide) rfl ?_
      refine g_iconst (v := 0) dX9_struck_75 (by decide) ?_
      refine g_istore (lvx := [(4, .int ((0 : Int32))), (3, .int (y8)), (0, .ref (base + 186)), (1, .int (v.1)), (2, .int (v.2.1))]) dX9_struck_76 (by decide) rfl ?_
      obtain ⟨z15, ez15, hS⟩ := ob hS
      refine g_sub (lvx := [(0, .ref (base + 186)), (1, .int (v.1)), (2, .int (v.2.1)), (3, .int (y8)), (4, .int ((0 : Int32)))]) [2, 3, 4, 1, 0] rfl ?_
      refine iter_ind (fun vv => G l D cy base RX9 cX9_struck 6 (some .int) (gRm 1) X Z 78 [(0, .ref (base + 186)), (1, .int (v.1)), (2, .int (v.2.1)), (3, .int (vv.1)), (4, .int (vv.2))] [] 0 0 gNN (gH cy base z5.2)) (fun xx => G l D cy base RX9 cX9_struck 6 (some .int) (gRm 1) X Z 132 [(0, .ref (base + 186)), (1, .int (v.1)), (2, .int (v.2.1)), (3, .int (xx))] [] 0 0 gNN (gH cy base z5.2)) (fun vv rr hh hin hout => k_X9_struck_b78 z5.2 (v.1) (v.2.1)  vv rr hh hin (fun xx ee => hout xx ee)) gFU ((y8), ((0 : Int32))) z15 ez15 ?_
      show G l D cy base RX9 cX9_struck 6 (some .int) (gRm 1) X Z 132 [(0, .ref (base + 186)), (1, .int (v.1)), (2, .int (v.2.1)), (3, .int (z15))] [] 0 0 gNN (gH cy base z5.2)
      refine g_iconst (v := 0) dX9_struck_132 (by decide) ?_
      refine g_istore (lvx := [(4, .int ((0 : Int32))), (0, .ref (base + 186)), (1, .int (v.1)), (2, .int (v.2.1)), (3, .int (z15))]) dX9_struck_133 (by decide) rfl ?_
      obtain ⟨z24, ez24, hS⟩ := ob hS
      refine g_sub (lvx := [(0, .ref (base + 186)), (1, .int (v.1)), (2, .int (v.2.1)), (3, .int (z15)), (4, .int ((0 : Int32)))]) [1, 2, 3, 4, 0] rfl ?_
      refine iter_ind (fun vv => G l D cy base RX9 cX9_struck 6 (some .int) (gRm 1) X Z 135 [(0, .ref (base + 186)), (1, .int (v.1)), (2, .int (v.2.1)), (3, .int (z15)), (4, .int (vv.1))] [] 0 0 gNN (gH cy base vv.2)) (fun xx => G l D cy base RX9 cX9_struck 6 (some .int) (gRm 1) X Z 178 [(0, .ref (base + 186)), (1, .int (v.1)), (2, .int (v.2.1)), (3, .int (z15))] [] 0 0 gNN (gH cy base xx)) (fun vv rr hh hin hout => k_X9_struck_b135  (v.1) (v.2.1) (z15)  vv rr hh hin (fun xx ee => hout xx ee)) gFU (((0 : Int32)), z5.2) z24 ez24 ?_
      show G l D cy base RX9 cX9_struck 6 (some .int) (gRm 1) X Z 178 [(0, .ref (base + 186)), (1, .int (v.1)), (2, .int (v.2.1)), (3, .int (z15))] [] 0 0 gNN (gH cy base z24)
      refine g_iload_n (j := 1) (x := v.1) dX9_struck_178 rfl rfl ?_
      refine g_iload_n (j := 2) (x := v.2.1) dX9_struck_179 rfl rfl ?_
      refine g_iload_n (j := 3) (x := z15) dX9_struck_180 rfl rfl ?_
      refine g_imul dX9_struck_181 ?_
      refine g_iadd dX9_struck_182 ?_
      refine g_istore_n (lvx := [(1, .int ((v.1 + (v.2.1 * z15)))), (0, .ref (base + 186)), (2, .int (v.2.1)), (3, .int (z15))]) dX9_struck_183 rfl (by decide) rfl ?_
      refine g_goto 33 dX9_struck_184 (by decide) ?_
      refine g_sub (lvx := [(0, .ref (base + 186)), (1, .int ((v.1 + (v.2.1 * z15)))), (2, .int (v.2.1))]) [1, 0, 2] rfl ?_
      obtain rfl := Option.some.inj hS
      exact hin ((((v.1 + (v.2.1 * z15))), (v.2.1), (z24))) rfl
def f_X9_struck (μ : Mem)  : Option (Int32 × Mem) :=
  (iter gFU (f_X9_struck_b2  ) (((0 : Int32)), μ)).bind fun z3 =>
  (iter gFU (f_X9_struck_b33  ) (((0 : Int32)), ((2 : Int32)), z3)).bind fun z25 =>
  some (z25.1, z25.2)
set_option maxRecDepth 100000 in
set_option maxHeartbeats 4000000 in
theorem k_X9_struck {l : Launch} {D : va_G} {cy : Nat → ClassId} {base : Nat} (μ : Mem)   {out : Int32 × Mem} (hS : f_X9_struck μ  = some out) : gC l D cy base yX9_struck cX9_struck 6 (some .int) 1 [.ref (base + 186)] μ (some (.int out.1)) out.2 := by
  refine gC_of (own := RX9) (lv0 := [(0, .ref (base + 186))]) rfl (by decide) (Nat.le_of_ble_eq_true rfl) rfl ?_
  unfold f_X9_struck at hS
  refine g_iconst (v := 0) dX9_struck_0 (by decide) ?_
  refine g_istore_n (lvx := [(1, .int ((0 : Int32))), (0, .ref (base + 186))]) dX9_struck_1 rfl (by decide) rfl ?_
  obtain ⟨z3, ez3, hS⟩ := ob hS
  refine g_sub (lvx := [(0, .ref (base + 186)), (1, .int ((0 : Int32)))]) [1, 0] rfl ?_
  refine iter_ind (fun vv => G l D cy base RX9 cX9_struck 6 (some .int) (gRm 1) (gXm yX9_struck) (gZm D cy base 0 0 (some (.int out.1)) gNN (gH cy base out.2)) 2 [(0, .ref (base + 186)), (1, .int (vv.1))] [] 0 0 gNN (gH cy base vv.2)) (fun xx => G l D cy base RX9 cX9_struck 6 (some .int) (gRm 1) (gXm yX9_struck) (gZm D cy base 0 0 (some (.int out.1)) gNN (gH cy base out.2)) 29 [(0, .ref (base + 186))] [] 0 0 gNN (gH cy base xx)) (fun vv rr hh hin hout => k_X9_struck_b2    vv rr hh hin (fun xx ee => hout xx ee)) gFU (((0 : Int32)), μ) z3 ez3 ?_
  show G l D cy base RX9 cX9_struck 6 (some .int) (gRm 1) (gXm yX9_struck) (gZm D cy base 0 0 (some (.int out.1)) gNN (gH cy base out.2)) 29 [(0, .ref (base + 186))] [] 0 0 gNN (gH cy base z3)
  refine g_iconst (v := 0) dX9_struck_29 (by decide) ?_
  refine g_istore_n (lvx := [(1, .int ((0 : Int32))), (0, .ref (base + 186))]) dX9_struck_30 rfl (by decide) rfl ?_
  refine g_iconst (v := 2) dX9_struck_31 (by decide) ?_
  refine g_istore_n (lvx := [(2, .int ((2 : Int32))), (1, .int ((0 : Int32))), (0, .ref (base + 186))]) dX9_struck_32 rfl (by decide) rfl ?_
  obtain ⟨z25, ez25, hS⟩ := ob hS
  refine g_sub (lvx := [(0, .ref (base + 186)), (1, .int ((0 : Int32))), (2, .int ((2 : Int32)))]) [2, 1, 0] rfl ?_
  refine iter_ind (fun vv => G l D cy base RX9 cX9_struck 6 (some .int) (gRm 1) (gXm yX9_struck) (gZm D cy base 0 0 (some (.int out.1)) gNN (gH cy base out.2)) 33 [(0, .ref (base + 186)), (1, .int (vv.1)), (2, .int (vv.2.1))] [] 0 0 gNN (gH cy base vv.2.2)) (fun xx => G l D cy base RX9 cX9_struck 6 (some .int) (gRm 1) (gXm yX9_struck) (gZm D cy base 0 0 (some (.int out.1)) gNN (gH cy base out.2)) 193 [(1, .int (xx.1))] [] 0 0 gNN (gH cy base xx.2)) (fun vv rr hh hin hout => k_X9_struck_b33    vv rr hh hin (fun xx ee => hout xx ee)) gFU (((0 : Int32)), ((2 : Int32)), z3) z25 ez25 ?_
  show G l D cy base RX9 cX9_struck 6 (some .int) (gRm 1) (gXm yX9_struck) (gZm D cy base 0 0 (some (.int out.1)) gNN (gH cy base out.2)) 193 [(1, .int (z25.1))] [] 0 0 gNN (gH cy base z25.2)
  refine g_iload_n (j := 0) (x := z25.1) dX9_struck_193 rfl rfl ?_
  obtain rfl := Option.some.inj hS
  exact g_iret rfl dX9_struck_194
def f_X9_now_b4 (m2 : Mem) (x1 : Int32) (v : Int32 × Int32) : Option ((Int32 × Int32) ⊕ ((Int32))) :=
  (ldA m2 188 49 ((0 : Int32))).bind fun y3 =>
  if y3 ≤ v.2 then (
    some (.inr (v.1))
  ) else (
    (ldA m2 190 716 (v.2)).bind fun y4 =>
    if y4 = (0 : Int32) then (
      some (.inl (((v.1 ||| ((1 : Int32) <<< (v.2 &&& 31)))), ((v.2 + (1 : Int32)))))
    ) else (
      some (.inl (((v.1 ||| (0 : Int32))), ((v.2 + (1 : Int32)))))
    )
  )
set_option maxRecDepth 100000 in
set_option maxHeartbeats 4000000 in
theorem k_X9_now_b4 {l : Launch} {D : va_G} {cy : Nat → ClassId} {base : Nat} {X : gX} {Z : gZ} (m2 : Mem) (x1 : Int32)  (v : Int32 × Int32) (r : (Int32 × Int32) ⊕ ((Int32))) (hS : f_X9_now_b4 m2 x1 v = some r) (hin : ∀ v2, r = .inl v2 → G l D cy base RX9 cX9_now 4 (some .int) (gRm 2) X Z 4 [(0, .ref (base + 186)), (1, .int (x1)), (2, .int (v2.1)), (3, .int (v2.2))] [] 0 0 gNN (gH cy base m2)) (hout0 : ∀ x, r = .inr x → G l D cy base RX9 cX9_now 4 (some .int) (gRm 2) X Z 39 [(0, .ref (base + 186)), (1, .int (x1)), (2, .int (x))] [] 0 0 gNN (gH cy base m2)) : G l D cy base RX9 cX9_now 4 (some .int) (gRm 2) X Z 4 [(0, .ref (base + 186)), (1, .int (x1)), (2, .int (v.1)), (3, .int (v.2))] [] 0 0 gNN (gH cy base m2) := by
  unfold f_X9_now_b4 at hS
  refine g_iload_n (j := 3) (x := v.2) dX9_now_4 rfl rfl ?_
  refine g_aload_n (j := 0) (x := base + 186) dX9_now_5 rfl rfl ?_
  refine gs_getR (r := 188) lk_RX9_13 (tk_186 _) rfl dX9_now_6 ?_
  refine g_iconst (v := 0) dX9_now_9 (by decide) ?_
  obtain ⟨y3, ey3, hS⟩ := ob hS
  refine gs_iald (tk_188 _) dX9_now_10 ey3 ?_
  refine g_icmp_ge 39 dX9_now_11 (by decide) (fun hc => ?_) (fun hc => ?_)
  · replace hS := (if_pos hc).symm.trans hS
    refine g_sub (lvx := [(0, .ref (base + 186)), (1, .int (x1)), (2, .int (v.1))]) [0, 1, 2] rfl ?_
    obtain rfl := Option.some.inj hS
    exact hout0 ((v.1)) rfl
  · replace hS := (if_neg hc).symm.trans hS
    refine g_iload_n (j := 2) (x := v.1) dX9_now_14 rfl rfl ?_
    refine g_aload_n (j := 0) (x := base + 186) dX9_now_15 rfl rfl ?_
    refine gs_getR (r := 190) lk_RX9_19 (tk_186 _) rfl dX9_now_16 ?_
    refine g_iload_n (j := 3) (x := v.2) dX9_now_19 rfl rfl ?_
    obtain ⟨y4, ey4, hS⟩ := ob hS
    refine gs_iald (tk_190 _) dX9_now_20 ey4 ?_
    refine g_if_ne 30 dX9_now_21 (by decide) (fun hc => ?_) (fun hc => ?_)
    · replace hS := (if_neg hc).symm.trans hS
      refine g_iconst (v := 0) dX9_now_30 (by decide) ?_
      refine g_ior dX9_now_31 ?_
      refine g_istore_n (lvx := [(2, .int ((v.1 ||| (0 : Int32)))), (0, .ref (base + 186)), (1, .int (x1)), (3, .int (v.2))]) dX9_now_32 rfl (by decide) rfl ?_
      refine g_iinc (j := 3) (x := v.2) (v := (v.2 + (1 : Int32))) (lvx := [(3, .int ((v.2 + (1 : Int32)))), (2, .int ((v.1 ||| (0 : Int32)))), (0, .ref (base + 186)), (1, .int (x1))]) dX9_now_33 rfl rfl (by decide) rfl ?_
      refine g_goto 4 dX9_now_36 (by decide) ?_
      refine g_sub (lvx := [(0, .ref (base + 186)), (1, .int (x1)), (2, .int ((v.1 ||| (0 : Int32)))), (3, .int ((v.2 + (1 : Int32))))]) [2, 3, 1, 0] rfl ?_
      obtain rfl := Option.some.inj hS
      exact hin ((((v.1 ||| (0 : Int32))), ((v.2 + (1 : Int32))))) rfl
    · replace hS := (if_pos hc).symm.trans hS
      refine g_iconst (v := 1) dX9_now_24 (by decide) ?_
      refine g_iload_n (j := 3) (x := v.2) dX9_now_25 rfl rfl ?_
      refine g_ishl dX9_now_26 ?_
      refine g_goto 31 dX9_now_27 (by decide) ?_
      refine g_ior dX9_now_31 ?_
      refine g_istore_n (lvx := [(2, .int ((v.1 ||| ((1 : Int32) <<< (v.2 &&& 31))))), (0, .ref (base + 186)), (1, .int (x1)), (3, .int (v.2))]) dX9_now_32 rfl (by decide) rfl ?_
      refine g_iinc (j := 3) (x := v.2) (v := (v.2 + (1 : Int32))) (lvx := [(3, .int ((v.2 + (1 : Int32)))), (2, .int ((v.1 ||| ((1 : Int32) <<< (v.2 &&& 31))))), (0, .ref (base + 186)), (1, .int (x1))]) dX9_now_33 rfl rfl (by decide) rfl ?_
      refine g_goto 4 dX9_now_36 (by decide) ?_
      refine g_sub (lvx := [(0, .ref (base + 186)), (1, .int (x1)), (2, .int ((v.1 ||| ((1 : Int32) <<< (v.2 &&& 31))))), (3, .int ((v.2 + (1 : Int32))))]) [2, 3, 1, 0] rfl ?_
      obtain rfl := Option.some.inj hS
      exact hin ((((v.1 ||| ((1 : Int32) <<< (v.2 &&& 31)))), ((v.2 + (1 : Int32))))) rfl
def f_X9_now (μ : Mem) (a1 : Int32) : Option (Int32 × Mem) :=
  (iter gFU (f_X9_now_b4 μ (a1)) (((0 : Int32)), ((0 : Int32)))).bind fun z5 =>
  if a1 = (0 : Int32) then (
    (ldA μ 190 716 ((64 : Int32))).bind fun y7 =>
    some (y7, μ)
  ) else
  if a1 = (1 : Int32) then (
    (f_X9_all μ ).bind fun y9 =>
    some (y9, μ)
  ) else
  if a1 = (2 : Int32) then (
    some (z5, μ)
  ) else
  if a1 = (3 : Int32) then (
    (ldA μ 190 716 ((63 : Int32))).bind fun y12 =>
    some (y12, μ)
  ) else
  if a1 = (4 : Int32) then (
    (f_X9_dear μ ).bind fun y14 =>
    some (y14, μ)
  ) else
  if a1 = (5 : Int32) then (
    (f_X9_struck μ ).bind fun z16 =>
    some (z16.1, z16.2)
  ) else
  (
    some ((-1 : Int32), μ)
  )
set_option maxRecDepth 100000 in
set_option maxHeartbeats 4000000 in
theorem k_X9_now {l : Launch} {D : va_G} {cy : Nat → ClassId} {base : Nat} (μ : Mem) (a1 : Int32)  {out : Int32 × Mem} (hS : f_X9_now μ a1 = some out) : gC l D cy base yX9_now cX9_now 4 (some .int) 2 [.ref (base + 186), .int (a1)] μ (some (.int out.1)) out.2 := by
  refine gC_of (own := RX9) (lv0 := [(0, .ref (base + 186)), (1, .int (a1))]) rfl (by decide) (Nat.le_of_ble_eq_true rfl) rfl ?_
  unfold f_X9_now at hS
  refine g_iconst (v := 0) dX9_now_0 (by decide) ?_
  refine g_istore_n (lvx := [(2, .int ((0 : Int32))), (0, .ref (base + 186)), (1, .int (a1))]) dX9_now_1 rfl (by decide) rfl ?_
  refine g_iconst (v := 0) dX9_now_2 (by decide) ?_
  refine g_istore_n (lvx := [(3, .int ((0 : Int32))), (2, .int ((0 : Int32))), (0, .ref (base + 186)), (1, .int (a1))]) dX9_now_3 rfl (by decide) rfl ?_
  obtain ⟨z5, ez5, hS⟩ := ob hS
  refine g_sub (lvx := [(0, .ref (base + 186)), (1, .int (a1)), (2, .int ((0 : Int32))), (3, .int ((0 : Int32)))]) [2, 3, 1, 0] rfl ?_
  refine iter_ind (fun vv => G l D cy base RX9 cX9_now 4 (some .int) (gRm 2) (gXm yX9_now) (gZm D cy base 0 0 (some (.int out.1)) gNN (gH cy base out.2)) 4 [(0, .ref (base + 186)), (1, .int (a1)), (2, .int (vv.1)), (3, .int (vv.2))] [] 0 0 gNN (gH cy base μ)) (fun xx => G l D cy base RX9 cX9_now 4 (some .int) (gRm 2) (gXm yX9_now) (gZm D cy base 0 0 (some (.int out.1)) gNN (gH cy base out.2)) 39 [(0, .ref (base + 186)), (1, .int (a1)), (2, .int (xx))] [] 0 0 gNN (gH cy base μ)) (fun vv rr hh hin hout => k_X9_now_b4 μ (a1)  vv rr hh hin (fun xx ee => hout xx ee)) gFU (((0 : Int32)), ((0 : Int32))) z5 ez5 ?_
  show G l D cy base RX9 cX9_now 4 (some .int) (gRm 2) (gXm yX9_now) (gZm D cy base 0 0 (some (.int out.1)) gNN (gH cy base out.2)) 39 [(0, .ref (base + 186)), (1, .int (a1)), (2, .int (z5))] [] 0 0 gNN (gH cy base μ)
  refine g_iload_n (j := 1) (x := a1) dX9_now_39 rfl rfl ?_
  by_cases hs6 : a1 = (0 : Int32)
  · replace hS := (if_pos hs6).symm.trans hS
    refine gs_table hs6 80 dX9_now_40 (by decide) (by decide) rfl (by decide) ?_
    refine g_aload_n (j := 0) (x := base + 186) dX9_now_80 rfl rfl ?_
    refine gs_getR (r := 190) lk_RX9_19 (tk_186 _) rfl dX9_now_81 ?_
    refine g_bipush (v := 64) dX9_now_84 (by decide) ?_
    obtain ⟨y7, ey7, hS⟩ := ob hS
    refine gs_iald (tk_190 _) dX9_now_86 ey7 ?_
    obtain rfl := Option.some.inj hS
    exact g_iret rfl dX9_now_87
  replace hS := (if_neg hs6).symm.trans hS
  by_cases hs8 : a1 = (1 : Int32)
  · replace hS := (if_pos hs8).symm.trans hS
    refine gs_table hs8 88 dX9_now_40 (by decide) (by decide) rfl (by decide) ?_
    refine g_aload_n (j := 0) (x := base + 186) dX9_now_88 rfl rfl ?_
    obtain ⟨y9, ey9, hS⟩ := ob hS
    refine gs_callVi (As := []) (st := []) (kr := 186) (k_X9_all μ   ey9) cl_RX9_128 sv_X9_all ckk_X9_all (tk_186 _) ⟨by decide, by decide⟩ (Nat.le_of_ble_eq_true rfl) ⟨Nat.zero_le _, Nat.zero_le _⟩ rfl dX9_now_89 rfl ?_
    obtain rfl := Option.some.inj hS
    exact g_iret rfl dX9_now_92
  replace hS := (if_neg hs8).symm.trans hS
  by_cases hs10 : a1 = (2 : Int32)
  · replace hS := (if_pos hs10).symm.trans hS
    refine gs_table hs10 93 dX9_now_40 (by decide) (by decide) rfl (by decide) ?_
    refine g_iload_n (j := 2) (x := z5) dX9_now_93 rfl rfl ?_
    obtain rfl := Option.some.inj hS
    exact g_iret rfl dX9_now_94
  replace hS := (if_neg hs10).symm.trans hS
  by_cases hs11 : a1 = (3 : Int32)
  · replace hS := (if_pos hs11).symm.trans hS
    refine gs_table hs11 95 dX9_now_40 (by decide) (by decide) rfl (by decide) ?_
    refine g_aload_n (j := 0) (x := base + 186) dX9_now_95 rfl rfl ?_
    refine gs_getR (r := 190) lk_RX9_19 (tk_186 _) rfl dX9_now_96 ?_
    refine g_bipush (v := 63) dX9_now_99 (by decide) ?_
    obtain ⟨y12, ey12, hS⟩ := ob hS
    refine gs_iald (tk_190 _) dX9_now_101 ey12 ?_
    obtain rfl := Option.some.inj hS
    exact g_iret rfl dX9_now_102
  replace hS := (if_neg hs11).symm.trans hS
  by_cases hs13 : a1 = (4 : Int32)
  · replace hS := (if_pos hs13).symm.trans hS
    refine gs_table hs13 103 dX9_now_40 (by decide) (by decide) rfl (by decide) ?_
    refine g_aload_n (j := 0) (x := base + 186) dX9_now_103 rfl rfl ?_
    obtain ⟨y14, ey14, hS⟩ := ob hS
    refine gs_callVi (As := []) (st := []) (kr := 186) (k_X9_dear μ   ey14) cl_RX9_135 sv_X9_dear ckk_X9_dear (tk_186 _) ⟨by decide, by decide⟩ (Nat.le_of_ble_eq_true rfl) ⟨Nat.zero_le _, Nat.zero_le _⟩ rfl dX9_now_104 rfl ?_
    obtain rfl := Option.some.inj hS
    exact g_iret rfl dX9_now_107
  replace hS := (if_neg hs13).symm.trans hS
  by_cases hs15 : a1 = (5 : Int32)
  · replace hS := (if_pos hs15).symm.trans hS
    refine gs_table hs15 108 dX9_now_40 (by decide) (by decide) rfl (by decide) ?_
    refine g_aload_n (j := 0) (x := base + 186) dX9_now_108 rfl rfl ?_
    obtain ⟨z16, ez16, hS⟩ := ob hS
    refine gs_callVi (As := []) (st := []) (kr := 186) (k_X9_struck μ   ez16) cl_RX9_138 sv_X9_struck ckk_X9_struck (tk_186 _) ⟨by decide, by decide⟩ (Nat.le_of_ble_eq_true rfl) ⟨Nat.zero_le _, Nat.zero_le _⟩ rfl dX9_now_109 rfl ?_
    obtain rfl := Option.some.inj hS
    exact g_iret rfl dX9_now_112
  replace hS := (if_neg hs15).symm.trans hS
  refine gs_tableOut 6 113 dX9_now_40 (by decide) (by decide) (fun j hj => by match j, hj with | 0, _ => exact hs6 | 1, _ => exact hs8 | 2, _ => exact hs10 | 3, _ => exact hs11 | 4, _ => exact hs13 | 5, _ => exact hs15 | j + 6, hj => exact absurd hj (by omega)) (by decide) ?_
  refine g_iconst (v := -1) dX9_now_113 (by decide) ?_
  obtain rfl := Option.some.inj hS
  exact g_iret rfl dX9_now_114
def f_X9_other (μ : Mem) (a1 : Int32) (a2 : Int32) : Option (Int32) :=
  (ldA μ 188 49 (((6 : Int32) + a1))).bind fun y1 =>
  if y1 = a2 then (
    (ldA μ 188 49 (((13 : Int32) + a1))).bind fun y4 =>
    some (y4)
  ) else (
    (ldA μ 188 49 (((13 : Int32) + a1))).bind fun y2 =>
    if y2 = a2 then (
      (ldA μ 188 49 (((6 : Int32) + a1))).bind fun y3 =>
      some (y3)
    ) else (
      some ((-1 : Int32))
    )
  )
set_option maxRecDepth 100000 in
set_option maxHeartbeats 4000000 in
theorem k_X9_other {l : Launch} {D : va_G} {cy : Nat → ClassId} {base : Nat} (μ : Mem) (a1 : Int32) (a2 : Int32)  {out : Int32} (hS : f_X9_other μ a1 a2 = some out) : gC l D cy base yX9_other cX9_other 3 (some .int) 0 [.ref (base + 186), .int (a1), .int (a2)] μ (some (.int out)) μ := by
  refine gC_of (own := RX9) (lv0 := [(0, .ref (base + 186)), (1, .int (a1)), (2, .int (a2))]) rfl (by decide) (Nat.le_of_ble_eq_true rfl) rfl ?_
  unfold f_X9_other at hS
  refine g_aload_n (j := 0) (x := base + 186) dX9_other_0 rfl rfl ?_
  refine gs_getR (r := 188) lk_RX9_13 (tk_186 _) rfl dX9_other_1 ?_
  refine g_bipush (v := 6) dX9_other_4 (by decide) ?_
  refine g_iload_n (j := 1) (x := a1) dX9_other_6 rfl rfl ?_
  refine g_iadd dX9_other_7 ?_
  obtain ⟨y1, ey1, hS⟩ := ob hS
  refine gs_iald (tk_188 _) dX9_other_8 ey1 ?_
  refine g_iload_n (j := 2) (x := a2) dX9_other_9 rfl rfl ?_
  refine g_icmp_ne 25 dX9_other_10 (by decide) (fun hc => ?_) (fun hc => ?_)
  · replace hS := (if_neg hc).symm.trans hS
    refine g_aload_n (j := 0) (x := base + 186) dX9_other_25 rfl rfl ?_
    refine gs_getR (r := 188) lk_RX9_13 (tk_186 _) rfl dX9_other_26 ?_
    refine g_bipush (v := 13) dX9_other_29 (by decide) ?_
    refine g_iload_n (j := 1) (x := a1) dX9_other_31 rfl rfl ?_
    refine g_iadd dX9_other_32 ?_
    obtain ⟨y2, ey2, hS⟩ := ob hS
    refine gs_iald (tk_188 _) dX9_other_33 ey2 ?_
    refine g_iload_n (j := 2) (x := a2) dX9_other_34 rfl rfl ?_
    refine g_icmp_ne 50 dX9_other_35 (by decide) (fun hc => ?_) (fun hc => ?_)
    · replace hS := (if_neg hc).symm.trans hS
      refine g_iconst (v := -1) dX9_other_50 (by decide) ?_
      obtain rfl := Option.some.inj hS
      exact g_iret rfl dX9_other_51
    · replace hS := (if_pos hc).symm.trans hS
      refine g_aload_n (j := 0) (x := base + 186) dX9_other_38 rfl rfl ?_
      refine gs_getR (r := 188) lk_RX9_13 (tk_186 _) rfl dX9_other_39 ?_
      refine g_bipush (v := 6) dX9_other_42 (by decide) ?_
      refine g_iload_n (j := 1) (x := a1) dX9_other_44 rfl rfl ?_
      refine g_iadd dX9_other_45 ?_
      obtain ⟨y3, ey3, hS⟩ := ob hS
      refine gs_iald (tk_188 _) dX9_other_46 ey3 ?_
      refine g_goto 51 dX9_other_47 (by decide) ?_
      obtain rfl := Option.some.inj hS
      exact g_iret rfl dX9_other_51
  · replace hS := (if_pos hc).symm.trans hS
    refine g_aload_n (j := 0) (x := base + 186) dX9_other_13 rfl rfl ?_
    refine gs_getR (r := 188) lk_RX9_13 (tk_186 _) rfl dX9_other_14 ?_
    refine g_bipush (v := 13) dX9_other_17 (by decide) ?_
    refine g_iload_n (j := 1) (x := a1) dX9_other_19 rfl rfl ?_
    refine g_iadd dX9_other_20 ?_
    obtain ⟨y4, ey4, hS⟩ := ob hS
    refine gs_iald (tk_188 _) dX9_other_21 ey4 ?_
    refine g_goto 51 dX9_other_22 (by decide) ?_
    obtain rfl := Option.some.inj hS
    exact g_iret rfl dX9_other_51
def f_X9_weight (μ : Mem) (a1 : Int32) : Option (Int32) :=
  (ldA μ 190 716 (a1)).bind fun y1 =>
  (ldA μ 188 49 (((20 : Int32) + a1))).bind fun y2 =>
  some ((((1000 : Int32) * y1) + y2))
set_option maxRecDepth 100000 in
set_option maxHeartbeats 4000000 in
theorem k_X9_weight {l : Launch} {D : va_G} {cy : Nat → ClassId} {base : Nat} (μ : Mem) (a1 : Int32)  {out : Int32} (hS : f_X9_weight μ a1 = some out) : gC l D cy base yX9_weight cX9_weight 2 (some .int) 0 [.ref (base + 186), .int (a1)] μ (some (.int out)) μ := by
  refine gC_of (own := RX9) (lv0 := [(0, .ref (base + 186)), (1, .int (a1))]) rfl (by decide) (Nat.le_of_ble_eq_true rfl) rfl ?_
  unfold f_X9_weight at hS
  refine g_sipush (v := 1000) dX9_weight_0 (by decide) ?_
  refine g_aload_n (j := 0) (x := base + 186) dX9_weight_3 rfl rfl ?_
  refine gs_getR (r := 190) lk_RX9_19 (tk_186 _) rfl dX9_weight_4 ?_
  refine g_iload_n (j := 1) (x := a1) dX9_weight_7 rfl rfl ?_
  obtain ⟨y1, ey1, hS⟩ := ob hS
  refine gs_iald (tk_190 _) dX9_weight_8 ey1 ?_
  refine g_imul dX9_weight_9 ?_
  refine g_aload_n (j := 0) (x := base + 186) dX9_weight_10 rfl rfl ?_
  refine gs_getR (r := 188) lk_RX9_13 (tk_186 _) rfl dX9_weight_11 ?_
  refine g_bipush (v := 20) dX9_weight_14 (by decide) ?_
  refine g_iload_n (j := 1) (x := a1) dX9_weight_16 rfl rfl ?_
  refine g_iadd dX9_weight_17 ?_
  obtain ⟨y2, ey2, hS⟩ := ob hS
  refine gs_iald (tk_188 _) dX9_weight_18 ey2 ?_
  refine g_iadd dX9_weight_19 ?_
  obtain rfl := Option.some.inj hS
  exact g_iret rfl dX9_weight_20
def f_X9_lays_b2 (x1 : Int32) (v : Int32 × Mem) : Option ((Int32 × Mem) ⊕ ((Mem))) :=
  if (7 : Int32) ≤ v.1 then (
    some (.inr (v.2))
  ) else (
    if v.1 = x1 then (
      (stA v.2 195 7 (v.1) ((0 : Int32))).bind fun m3 =>
      some (.inl (((v.1 + (1 : Int32))), (m3)))
    ) else (
      (stA v.2 195 7 (v.1) ((-1 : Int32))).bind fun m2 =>
      some (.inl (((v.1 + (1 : Int32))), (m2)))
    )
  )
set_option maxRecDepth 100000 in
set_option maxHeartbeats 4000000 in
theorem k_X9_lays_b2 {l : Launch} {D : va_G} {cy : Nat → ClassId} {base : Nat} {X : gX} {Z : gZ} (x1 : Int32)  (v : Int32 × Mem) (r : (Int32 × Mem) ⊕ ((Mem))) (hS : f_X9_lays_b2 x1 v = some r) (hin : ∀ v2, r = .inl v2 → G l D cy base RX9 cX9_lays 8 none (gRm 1) X Z 2 [(0, .ref (base + 186)), (1, .int (x1)), (2, .int (v2.1))] [] 0 0 gNN (gH cy base v2.2)) (hout0 : ∀ x, r = .inr x → G l D cy base RX9 cX9_lays 8 none (gRm 1) X Z 30 [(0, .ref (base + 186))] [] 0 0 gNN (gH cy base x)) : G l D cy base RX9 cX9_lays 8 none (gRm 1) X Z 2 [(0, .ref (base + 186)), (1, .int (x1)), (2, .int (v.1))] [] 0 0 gNN (gH cy base v.2) := by
  unfold f_X9_lays_b2 at hS
  refine g_iload_n (j := 2) (x := v.1) dX9_lays_2 rfl rfl ?_
  refine g_bipush (v := 7) dX9_lays_3 (by decide) ?_
  refine g_icmp_ge 30 dX9_lays_5 (by decide) (fun hc => ?_) (fun hc => ?_)
  · replace hS := (if_pos hc).symm.trans hS
    refine g_sub (lvx := [(0, .ref (base + 186))]) [0] rfl ?_
    obtain rfl := Option.some.inj hS
    exact hout0 ((v.2)) rfl
  · replace hS := (if_neg hc).symm.trans hS
    refine g_aload_n (j := 0) (x := base + 186) dX9_lays_8 rfl rfl ?_
    refine gs_getR (r := 195) lk_RX9_35 (tk_186 _) rfl dX9_lays_9 ?_
    refine g_iload_n (j := 2) (x := v.1) dX9_lays_12 rfl rfl ?_
    refine g_iload_n (j := 2) (x := v.1) dX9_lays_13 rfl rfl ?_
    refine g_iload_n (j := 1) (x := x1) dX9_lays_14 rfl rfl ?_
    refine g_icmp_ne 22 dX9_lays_15 (by decide) (fun hc => ?_) (fun hc => ?_)
    · replace hS := (if_neg hc).symm.trans hS
      refine g_iconst (v := -1) dX9_lays_22 (by decide) ?_
      obtain ⟨m2, em2, hS⟩ := ob hS
      refine gs_iast (tk_195 _) dX9_lays_23 em2 ?_
      refine g_iinc (j := 2) (x := v.1) (v := (v.1 + (1 : Int32))) (lvx := [(2, .int ((v.1 + (1 : Int32)))), (0, .ref (base + 186)), (1, .int (x1))]) dX9_lays_24 rfl rfl (by decide) rfl ?_
      refine g_goto 2 dX9_lays_27 (by decide) ?_
      refine g_sub (lvx := [(0, .ref (base + 186)), (1, .int (x1)), (2, .int ((v.1 + (1 : Int32))))]) [1, 2, 0] rfl ?_
      obtain rfl := Option.some.inj hS
      exact hin ((((v.1 + (1 : Int32))), (m2))) rfl
    · replace hS := (if_pos hc).symm.trans hS
      refine g_iconst (v := 0) dX9_lays_18 (by decide) ?_
      refine g_goto 23 dX9_lays_19 (by decide) ?_
      obtain ⟨m3, em3, hS⟩ := ob hS
      refine gs_iast (tk_195 _) dX9_lays_23 em3 ?_
      refine g_iinc (j := 2) (x := v.1) (v := (v.1 + (1 : Int32))) (lvx := [(2, .int ((v.1 + (1 : Int32)))), (0, .ref (base + 186)), (1, .int (x1))]) dX9_lays_24 rfl rfl (by decide) rfl ?_
      refine g_goto 2 dX9_lays_27 (by decide) ?_
      refine g_sub (lvx := [(0, .ref (base + 186)), (1, .int (x1)), (2, .int ((v.1 + (1 : Int32))))]) [1, 2, 0] rfl ?_
      obtain rfl := Option.some.inj hS
      exact hin ((((v.1 + (1 : Int32))), (m3))) rfl
def f_X9_lays_j142 (m24 : Mem) (x7 : Int32) (x8 : Int32) (x21 : Int32) (x22 : Int32) (x23 : Int32) : Option ((Int32 × Mem) ⊕ ((Mem))) :=
  if x23 < (0 : Int32) then (
    (ldA m24 195 7 (x22)).bind fun y25 =>
    (stA m24 195 7 (x22) (y25)).bind fun m26 =>
    some (.inl (((x21 + (1 : Int32))), (m26)))
  ) else (
    (ldA m24 195 7 (x22)).bind fun y27 =>
    if y27 < (0 : Int32) then (
      (stA m24 195 7 (x22) (x23)).bind fun m28 =>
      some (.inl (((x21 + (1 : Int32))), (m28)))
    ) else (
      (ldA m24 195 7 (x22)).bind fun y29 =>
      if y29 ≤ x23 then (
        (ldA m24 195 7 (x22)).bind fun y30 =>
        (stA m24 195 7 (x22) (y30)).bind fun m31 =>
        some (.inl (((x21 + (1 : Int32))), (m31)))
      ) else (
        (stA m24 195 7 (x22) (x23)).bind fun m32 =>
        some (.inl (((x21 + (1 : Int32))), (m32)))
      )
    )
  )
set_option maxRecDepth 100000 in
set_option maxHeartbeats 4000000 in
theorem k_X9_lays_j142 {l : Launch} {D : va_G} {cy : Nat → ClassId} {base : Nat} {X : gX} {Z : gZ} (m24 : Mem) (x7 : Int32) (x8 : Int32) (x21 : Int32) (x22 : Int32) (x23 : Int32)  {r : (Int32 × Mem) ⊕ ((Mem))} (hS : f_X9_lays_j142 m24 x7 x8 x21 x22 x23 = some r) (hin : ∀ v2, r = .inl v2 → G l D cy base RX9 cX9_lays 8 none (gRm 1) X Z 53 [(0, .ref (base + 186)), (2, .int (x7)), (3, .int (x8)), (4, .int (v2.1))] [] 0 0 gNN (gH cy base v2.2)) (hout0 : ∀ x, r = .inr x → G l D cy base RX9 cX9_lays 8 none (gRm 1) X Z 196 [(0, .ref (base + 186)), (2, .int (x7)), (3, .int (x8))] [] 0 0 gNN (gH cy base x)) : G l D cy base RX9 cX9_lays 8 none (gRm 1) X Z 142 [(0, .ref (base + 186)), (2, .int (x7)), (3, .int (x8)), (4, .int (x21)), (5, .int (x22))] [.int (x23)] 0 0 gNN (gH cy base m24) := by
  unfold f_X9_lays_j142 at hS
  refine g_istore (lvx := [(7, .int (x23)), (0, .ref (base + 186)), (2, .int (x7)), (3, .int (x8)), (4, .int (x21)), (5, .int (x22))]) dX9_lays_142 (by decide) rfl ?_
  refine g_aload_n (j := 1) (x := base + 186) dX9_lays_144 rfl rfl ?_
  refine gs_getR (r := 195) lk_RX9_35 (tk_186 _) rfl dX9_lays_145 ?_
  refine g_iload (j := 5) (x := x22) dX9_lays_148 rfl ?_
  refine g_iload (j := 0) (x := x23) dX9_lays_150 rfl ?_
  refine g_if_lt 182 dX9_lays_152 (by decide) (fun hc => ?_) (fun hc => ?_)
  · replace hS := (if_pos hc).symm.trans hS
    refine g_aload_n (j := 1) (x := base + 186) dX9_lays_182 rfl rfl ?_
    refine gs_getR (r := 195) lk_RX9_35 (tk_186 _) rfl dX9_lays_183 ?_
    refine g_iload (j := 5) (x := x22) dX9_lays_186 rfl ?_
    obtain ⟨y25, ey25, hS⟩ := ob hS
    refine gs_iald (tk_195 _) dX9_lays_188 ey25 ?_
    obtain ⟨m26, em26, hS⟩ := ob hS
    refine gs_iast (tk_195 _) dX9_lays_189 em26 ?_
    refine g_iinc (j := 4) (x := x21) (v := (x21 + (1 : Int32))) (lvx := [(4, .int ((x21 + (1 : Int32)))), (7, .int (x23)), (0, .ref (base + 186)), (2, .int (x7)), (3, .int (x8)), (5, .int (x22))]) dX9_lays_190 rfl rfl (by decide) rfl ?_
    refine g_goto 53 dX9_lays_193 (by decide) ?_
    refine g_sub (lvx := [(0, .ref (base + 186)), (2, .int (x7)), (3, .int (x8)), (4, .int ((x21 + (1 : Int32))))]) [2, 3, 4, 0] rfl ?_
    obtain rfl := Option.some.inj hS
    exact hin ((((x21 + (1 : Int32))), (m26))) rfl
  · replace hS := (if_neg hc).symm.trans hS
    refine g_aload_n (j := 1) (x := base + 186) dX9_lays_155 rfl rfl ?_
    refine gs_getR (r := 195) lk_RX9_35 (tk_186 _) rfl dX9_lays_156 ?_
    refine g_iload (j := 5) (x := x22) dX9_lays_159 rfl ?_
    obtain ⟨y27, ey27, hS⟩ := ob hS
    refine gs_iald (tk_195 _) dX9_lays_161 ey27 ?_
    refine g_if_lt 177 dX9_lays_162 (by decide) (fun hc => ?_) (fun hc => ?_)
    · replace hS := (if_pos hc).symm.trans hS
      refine g_iload (j := 0) (x := x23) dX9_lays_177 rfl ?_
      refine g_goto 189 dX9_lays_179 (by decide) ?_
      obtain ⟨m28, em28, hS⟩ := ob hS
      refine gs_iast (tk_195 _) dX9_lays_189 em28 ?_
      refine g_iinc (j := 4) (x := x21) (v := (x21 + (1 : Int32))) (lvx := [(4, .int ((x21 + (1 : Int32)))), (7, .int (x23)), (0, .ref (base + 186)), (2, .int (x7)), (3, .int (x8)), (5, .int (x22))]) dX9_lays_190 rfl rfl (by decide) rfl ?_
      refine g_goto 53 dX9_lays_193 (by decide) ?_
      refine g_sub (lvx := [(0, .ref (base + 186)), (2, .int (x7)), (3, .int (x8)), (4, .int ((x21 + (1 : Int32))))]) [2, 3, 4, 0] rfl ?_
      obtain rfl := Option.some.inj hS
      exact hin ((((x21 + (1 : Int32))), (m28))) rfl
    · replace hS := (if_neg hc).symm.trans hS
      refine g_iload (j := 0) (x := x23) dX9_lays_165 rfl ?_
      refine g_aload_n (j := 1) (x := base + 186) dX9_lays_167 rfl rfl ?_
      refine gs_getR (r := 195) lk_RX9_35 (tk_186 _) rfl dX9_lays_168 ?_
      refine g_iload (j := 5) (x := x22) dX9_lays_171 rfl ?_
      obtain ⟨y29, ey29, hS⟩ := ob hS
      refine gs_iald (tk_195 _) dX9_lays_173 ey29 ?_
      refine g_icmp_ge 182 dX9_lays_174 (by decide) (fun hc => ?_) (fun hc => ?_)
      · replace hS := (if_pos hc).symm.trans hS
        refine g_aload_n (j := 1) (x := base + 186) dX9_lays_182 rfl rfl ?_
        refine gs_getR (r := 195) lk_RX9_35 (tk_186 _) rfl dX9_lays_183 ?_
        refine g_iload (j := 5) (x := x22) dX9_lays_186 rfl ?_
        obtain ⟨y30, ey30, hS⟩ := ob hS
        refine gs_iald (tk_195 _) dX9_lays_188 ey30 ?_
        obtain ⟨m31, em31, hS⟩ := ob hS
        refine gs_iast (tk_195 _) dX9_lays_189 em31 ?_
        refine g_iinc (j := 4) (x := x21) (v := (x21 + (1 : Int32))) (lvx := [(4, .int ((x21 + (1 : Int32)))), (7, .int (x23)), (0, .ref (base + 186)), (2, .int (x7)), (3, .int (x8)), (5, .int (x22))]) dX9_lays_190 rfl rfl (by decide) rfl ?_
        refine g_goto 53 dX9_lays_193 (by decide) ?_
        refine g_sub (lvx := [(0, .ref (base + 186)), (2, .int (x7)), (3, .int (x8)), (4, .int ((x21 + (1 : Int32))))]) [2, 3, 4, 0] rfl ?_
        obtain rfl := Option.some.inj hS
        exact hin ((((x21 + (1 : Int32))), (m31))) rfl
      · replace hS := (if_neg hc).symm.trans hS
        refine g_iload (j := 0) (x := x23) dX9_lays_177 rfl ?_
        refine g_goto 189 dX9_lays_179 (by decide) ?_
        obtain ⟨m32, em32, hS⟩ := ob hS
        refine gs_iast (tk_195 _) dX9_lays_189 em32 ?_
        refine g_iinc (j := 4) (x := x21) (v := (x21 + (1 : Int32))) (lvx := [(4, .int ((x21 + (1 : Int32)))), (7, .int (x23)), (0, .ref (base + 186)), (2, .int (x7)), (3, .int (x8)), (5, .int (x22))]) dX9_lays_190 rfl rfl (by decide) rfl ?_
        refine g_goto 53 dX9_lays_193 (by decide) ?_
        refine g_sub (lvx := [(0, .ref (base + 186)), (2, .int (x7)), (3, .int (x8)), (4, .int ((x21 + (1 : Int32))))]) [2, 3, 4, 0] rfl ?_
        obtain rfl := Option.some.inj hS
        exact hin ((((x21 + (1 : Int32))), (m32))) rfl
def f_X9_lays_j113 (m17 : Mem) (x7 : Int32) (x8 : Int32) (x14 : Int32) (x15 : Int32) (x16 : Int32) : Option ((Int32 × Mem) ⊕ ((Mem))) :=
  (ldA m17 195 7 (x16)).bind fun y18 =>
  if (0 : Int32) ≤ y18 then (
    (ldA m17 195 7 (x16)).bind fun y19 =>
    (f_X9_weight m17 (x8)).bind fun y20 =>
    f_X9_lays_j142 m17 x7 x8 (x14) (x15) ((y19 + y20))
  ) else (
    f_X9_lays_j142 m17 x7 x8 (x14) (x15) ((-1 : Int32))
  )
set_option maxRecDepth 100000 in
set_option maxHeartbeats 4000000 in
theorem k_X9_lays_j113 {l : Launch} {D : va_G} {cy : Nat → ClassId} {base : Nat} {X : gX} {Z : gZ} (m17 : Mem) (x7 : Int32) (x8 : Int32) (x14 : Int32) (x15 : Int32) (x16 : Int32)  {r : (Int32 × Mem) ⊕ ((Mem))} (hS : f_X9_lays_j113 m17 x7 x8 x14 x15 x16 = some r) (hin : ∀ v2, r = .inl v2 → G l D cy base RX9 cX9_lays 8 none (gRm 1) X Z 53 [(0, .ref (base + 186)), (2, .int (x7)), (3, .int (x8)), (4, .int (v2.1))] [] 0 0 gNN (gH cy base v2.2)) (hout0 : ∀ x, r = .inr x → G l D cy base RX9 cX9_lays 8 none (gRm 1) X Z 196 [(0, .ref (base + 186)), (2, .int (x7)), (3, .int (x8))] [] 0 0 gNN (gH cy base x)) : G l D cy base RX9 cX9_lays 8 none (gRm 1) X Z 113 [(0, .ref (base + 186)), (2, .int (x7)), (3, .int (x8)), (4, .int (x14)), (5, .int (x15))] [.int (x16)] 0 0 gNN (gH cy base m17) := by
  unfold f_X9_lays_j113 at hS
  refine g_istore (lvx := [(6, .int (x16)), (0, .ref (base + 186)), (2, .int (x7)), (3, .int (x8)), (4, .int (x14)), (5, .int (x15))]) dX9_lays_113 (by decide) rfl ?_
  refine g_aload_n (j := 1) (x := base + 186) dX9_lays_115 rfl rfl ?_
  refine gs_getR (r := 195) lk_RX9_35 (tk_186 _) rfl dX9_lays_116 ?_
  refine g_iload (j := 0) (x := x16) dX9_lays_119 rfl ?_
  obtain ⟨y18, ey18, hS⟩ := ob hS
  refine gs_iald (tk_195 _) dX9_lays_121 ey18 ?_
  refine g_if_ge 129 dX9_lays_122 (by decide) (fun hc => ?_) (fun hc => ?_)
  · replace hS := (if_pos hc).symm.trans hS
    refine g_aload_n (j := 1) (x := base + 186) dX9_lays_129 rfl rfl ?_
    refine gs_getR (r := 195) lk_RX9_35 (tk_186 _) rfl dX9_lays_130 ?_
    refine g_iload (j := 0) (x := x16) dX9_lays_133 rfl ?_
    obtain ⟨y19, ey19, hS⟩ := ob hS
    refine gs_iald (tk_195 _) dX9_lays_135 ey19 ?_
    refine g_aload_n (j := 1) (x := base + 186) dX9_lays_136 rfl rfl ?_
    refine g_iload_n (j := 3) (x := x8) dX9_lays_137 rfl rfl ?_
    obtain ⟨y20, ey20, hS⟩ := ob hS
    refine gs_callVi (As := [.int (x8)]) (st := [.int (y19)]) (kr := 186) (k_X9_weight m17 (x8)  ey20) cl_RX9_141 sv_X9_weight ckk_X9_weight (tk_186 _) ⟨by decide, by decide⟩ (Nat.le_of_ble_eq_true rfl) ⟨Nat.zero_le _, Nat.zero_le _⟩ rfl dX9_lays_138 rfl ?_
    refine g_iadd dX9_lays_141 ?_
    refine g_sub (lvx := [(0, .ref (base + 186)), (2, .int (x7)), (3, .int (x8)), (4, .int (x14)), (5, .int (x15))]) [1, 2, 3, 4, 5] rfl ?_
    exact k_X9_lays_j142 (m17) x7 x8 (x14) (x15) ((y19 + y20))  hS hin hout0
  · replace hS := (if_neg hc).symm.trans hS
    refine g_iconst (v := -1) dX9_lays_125 (by decide) ?_
    refine g_goto 142 dX9_lays_126 (by decide) ?_
    refine g_sub (lvx := [(0, .ref (base + 186)), (2, .int (x7)), (3, .int (x8)), (4, .int (x14)), (5, .int (x15))]) [1, 2, 3, 4, 5] rfl ?_
    exact k_X9_lays_j142 (m17) x7 x8 (x14) (x15) ((-1 : Int32))  hS hin hout0
def f_X9_lays_j85 (m12 : Mem) (x7 : Int32) (x8 : Int32) (x10 : Int32) (x11 : Int32) : Option ((Int32 × Mem) ⊕ ((Mem))) :=
  if x10 = (0 : Int32) then (
    (ldA m12 188 49 (((13 : Int32) + x8))).bind fun y36 =>
    f_X9_lays_j113 m12 x7 x8 (x10) (x11) (y36)
  ) else (
    (ldA m12 188 49 (((6 : Int32) + x8))).bind fun y13 =>
    f_X9_lays_j113 m12 x7 x8 (x10) (x11) (y13)
  )
set_option maxRecDepth 100000 in
set_option maxHeartbeats 4000000 in
theorem k_X9_lays_j85 {l : Launch} {D : va_G} {cy : Nat → ClassId} {base : Nat} {X : gX} {Z : gZ} (m12 : Mem) (x7 : Int32) (x8 : Int32) (x10 : Int32) (x11 : Int32)  {r : (Int32 × Mem) ⊕ ((Mem))} (hS : f_X9_lays_j85 m12 x7 x8 x10 x11 = some r) (hin : ∀ v2, r = .inl v2 → G l D cy base RX9 cX9_lays 8 none (gRm 1) X Z 53 [(0, .ref (base + 186)), (2, .int (x7)), (3, .int (x8)), (4, .int (v2.1))] [] 0 0 gNN (gH cy base v2.2)) (hout0 : ∀ x, r = .inr x → G l D cy base RX9 cX9_lays 8 none (gRm 1) X Z 196 [(0, .ref (base + 186)), (2, .int (x7)), (3, .int (x8))] [] 0 0 gNN (gH cy base x)) : G l D cy base RX9 cX9_lays 8 none (gRm 1) X Z 85 [(0, .ref (base + 186)), (2, .int (x7)), (3, .int (x8)), (4, .int (x10))] [.int (x11)] 0 0 gNN (gH cy base m12) := by
  unfold f_X9_lays_j85 at hS
  refine g_istore (lvx := [(5, .int (x11)), (0, .ref (base + 186)), (2, .int (x7)), (3, .int (x8)), (4, .int (x10))]) dX9_lays_85 (by decide) rfl ?_
  refine g_iload (j := 4) (x := x10) dX9_lays_87 rfl ?_
  refine g_if_ne 104 dX9_lays_89 (by decide) (fun hc => ?_) (fun hc => ?_)
  · replace hS := (if_neg hc).symm.trans hS
    refine g_aload_n (j := 1) (x := base + 186) dX9_lays_104 rfl rfl ?_
    refine gs_getR (r := 188) lk_RX9_13 (tk_186 _) rfl dX9_lays_105 ?_
    refine g_bipush (v := 6) dX9_lays_108 (by decide) ?_
    refine g_iload_n (j := 3) (x := x8) dX9_lays_110 rfl rfl ?_
    refine g_iadd dX9_lays_111 ?_
    obtain ⟨y13, ey13, hS⟩ := ob hS
    refine gs_iald (tk_188 _) dX9_lays_112 ey13 ?_
    refine g_sub (lvx := [(0, .ref (base + 186)), (2, .int (x7)), (3, .int (x8)), (4, .int (x10)), (5, .int (x11))]) [1, 2, 3, 4, 0] rfl ?_
    exact k_X9_lays_j113 (m12) x7 x8 (x10) (x11) (y13)  hS hin hout0
  · replace hS := (if_pos hc).symm.trans hS
    refine g_aload_n (j := 1) (x := base + 186) dX9_lays_92 rfl rfl ?_
    refine gs_getR (r := 188) lk_RX9_13 (tk_186 _) rfl dX9_lays_93 ?_
    refine g_bipush (v := 13) dX9_lays_96 (by decide) ?_
    refine g_iload_n (j := 3) (x := x8) dX9_lays_98 rfl rfl ?_
    refine g_iadd dX9_lays_99 ?_
    obtain ⟨y36, ey36, hS⟩ := ob hS
    refine gs_iald (tk_188 _) dX9_lays_100 ey36 ?_
    refine g_goto 113 dX9_lays_101 (by decide) ?_
    refine g_sub (lvx := [(0, .ref (base + 186)), (2, .int (x7)), (3, .int (x8)), (4, .int (x10)), (5, .int (x11))]) [1, 2, 3, 4, 0] rfl ?_
    exact k_X9_lays_j113 (m12) x7 x8 (x10) (x11) (y36)  hS hin hout0
def f_X9_lays_b53 (x7 : Int32) (x8 : Int32) (v : Int32 × Mem) : Option ((Int32 × Mem) ⊕ ((Mem))) :=
  if (2 : Int32) ≤ v.1 then (
    some (.inr (v.2))
  ) else (
    if v.1 = (0 : Int32) then (
      (ldA v.2 188 49 (((6 : Int32) + x8))).bind fun y40 =>
      f_X9_lays_j85 v.2 x7 x8 (v.1) (y40)
    ) else (
      (ldA v.2 188 49 (((13 : Int32) + x8))).bind fun y9 =>
      f_X9_lays_j85 v.2 x7 x8 (v.1) (y9)
    )
  )
set_option maxRecDepth 100000 in
set_option maxHeartbeats 4000000 in
theorem k_X9_lays_b53 {l : Launch} {D : va_G} {cy : Nat → ClassId} {base : Nat} {X : gX} {Z : gZ} (x7 : Int32) (x8 : Int32)  (v : Int32 × Mem) (r : (Int32 × Mem) ⊕ ((Mem))) (hS : f_X9_lays_b53 x7 x8 v = some r) (hin : ∀ v2, r = .inl v2 → G l D cy base RX9 cX9_lays 8 none (gRm 1) X Z 53 [(0, .ref (base + 186)), (2, .int (x7)), (3, .int (x8)), (4, .int (v2.1))] [] 0 0 gNN (gH cy base v2.2)) (hout0 : ∀ x, r = .inr x → G l D cy base RX9 cX9_lays 8 none (gRm 1) X Z 196 [(0, .ref (base + 186)), (2, .int (x7)), (3, .int (x8))] [] 0 0 gNN (gH cy base x)) : G l D cy base RX9 cX9_lays 8 none (gRm 1) X Z 53 [(0, .ref (base + 186)), (2, .int (x7)), (3, .int (x8)), (4, .int (v.1))] [] 0 0 gNN (gH cy base v.2) := by
  unfold f_X9_lays_b53 at hS
  refine g_iload (j := 3) (x := v.1) dX9_lays_53 rfl ?_
  refine g_iconst (v := 2) dX9_lays_55 (by decide) ?_
  refine g_icmp_ge 196 dX9_lays_56 (by decide) (fun hc => ?_) (fun hc => ?_)
  · replace hS := (if_pos hc).symm.trans hS
    refine g_sub (lvx := [(0, .ref (base + 186)), (2, .int (x7)), (3, .int (x8))]) [0, 1, 2] rfl ?_
    obtain rfl := Option.some.inj hS
    exact hout0 ((v.2)) rfl
  · replace hS := (if_neg hc).symm.trans hS
    refine g_iload (j := 3) (x := v.1) dX9_lays_59 rfl ?_
    refine g_if_ne 76 dX9_lays_61 (by decide) (fun hc => ?_) (fun hc => ?_)
    · replace hS := (if_neg hc).symm.trans hS
      refine g_aload_n (j := 0) (x := base + 186) dX9_lays_76 rfl rfl ?_
      refine gs_getR (r := 188) lk_RX9_13 (tk_186 _) rfl dX9_lays_77 ?_
      refine g_bipush (v := 13) dX9_lays_80 (by decide) ?_
      refine g_iload_n (j := 2) (x := x8) dX9_lays_82 rfl rfl ?_
      refine g_iadd dX9_lays_83 ?_
      obtain ⟨y9, ey9, hS⟩ := ob hS
      refine gs_iald (tk_188 _) dX9_lays_84 ey9 ?_
      exact k_X9_lays_j85 (v.2) x7 x8 (v.1) (y9)  hS hin hout0
    · replace hS := (if_pos hc).symm.trans hS
      refine g_aload_n (j := 0) (x := base + 186) dX9_lays_64 rfl rfl ?_
      refine gs_getR (r := 188) lk_RX9_13 (tk_186 _) rfl dX9_lays_65 ?_
      refine g_bipush (v := 6) dX9_lays_68 (by decide) ?_
      refine g_iload_n (j := 2) (x := x8) dX9_lays_70 rfl rfl ?_
      refine g_iadd dX9_lays_71 ?_
      obtain ⟨y40, ey40, hS⟩ := ob hS
      refine gs_iald (tk_188 _) dX9_lays_72 ey40 ?_
      refine g_goto 85 dX9_lays_73 (by decide) ?_
      exact k_X9_lays_j85 (v.2) x7 x8 (v.1) (y40)  hS hin hout0
def f_X9_lays_b40 (x5 : Int32) (v : Int32 × Mem) : Option ((Int32 × Mem) ⊕ ((Mem))) :=
  (ldA v.2 188 49 ((0 : Int32))).bind fun y6 =>
  if y6 ≤ v.1 then (
    some (.inr (v.2))
  ) else (
    (iter gFU (f_X9_lays_b53  (x5) (v.1)) (((0 : Int32)), v.2)).bind fun z43 =>
    some (.inl (((v.1 + (1 : Int32))), (z43)))
  )
set_option maxRecDepth 100000 in
set_option maxHeartbeats 4000000 in
theorem k_X9_lays_b40 {l : Launch} {D : va_G} {cy : Nat → ClassId} {base : Nat} {X : gX} {Z : gZ} (x5 : Int32)  (v : Int32 × Mem) (r : (Int32 × Mem) ⊕ ((Mem))) (hS : f_X9_lays_b40 x5 v = some r) (hin : ∀ v2, r = .inl v2 → G l D cy base RX9 cX9_lays 8 none (gRm 1) X Z 40 [(0, .ref (base + 186)), (2, .int (x5)), (3, .int (v2.1))] [] 0 0 gNN (gH cy base v2.2)) (hout0 : ∀ x, r = .inr x → G l D cy base RX9 cX9_lays 8 none (gRm 1) X Z 202 [(0, .ref (base + 186)), (2, .int (x5))] [] 0 0 gNN (gH cy base x)) : G l D cy base RX9 cX9_lays 8 none (gRm 1) X Z 40 [(0, .ref (base + 186)), (2, .int (x5)), (3, .int (v.1))] [] 0 0 gNN (gH cy base v.2) := by
  unfold f_X9_lays_b40 at hS
  refine g_iload_n (j := 2) (x := v.1) dX9_lays_40 rfl rfl ?_
  refine g_aload_n (j := 0) (x := base + 186) dX9_lays_41 rfl rfl ?_
  refine gs_getR (r := 188) lk_RX9_13 (tk_186 _) rfl dX9_lays_42 ?_
  refine g_iconst (v := 0) dX9_lays_45 (by decide) ?_
  obtain ⟨y6, ey6, hS⟩ := ob hS
  refine gs_iald (tk_188 _) dX9_lays_46 ey6 ?_
  refine g_icmp_ge 202 dX9_lays_47 (by decide) (fun hc => ?_) (fun hc => ?_)
  · replace hS := (if_pos hc).symm.trans hS
    refine g_sub (lvx := [(0, .ref (base + 186)), (2, .int (x5))]) [0, 1] rfl ?_
    obtain rfl := Option.some.inj hS
    exact hout0 ((v.2)) rfl
  · replace hS := (if_neg hc).symm.trans hS
    refine g_iconst (v := 0) dX9_lays_50 (by decide) ?_
    refine g_istore (lvx := [(4, .int ((0 : Int32))), (0, .ref (base + 186)), (2, .int (x5)), (3, .int (v.1))]) dX9_lays_51 (by decide) rfl ?_
    obtain ⟨z43, ez43, hS⟩ := ob hS
    refine g_sub (lvx := [(0, .ref (base + 186)), (2, .int (x5)), (3, .int (v.1)), (4, .int ((0 : Int32)))]) [1, 2, 3, 0] rfl ?_
    refine iter_ind (fun vv => G l D cy base RX9 cX9_lays 8 none (gRm 1) X Z 53 [(0, .ref (base + 186)), (2, .int (x5)), (3, .int (v.1)), (4, .int (vv.1))] [] 0 0 gNN (gH cy base vv.2)) (fun xx => G l D cy base RX9 cX9_lays 8 none (gRm 1) X Z 196 [(0, .ref (base + 186)), (2, .int (x5)), (3, .int (v.1))] [] 0 0 gNN (gH cy base xx)) (fun vv rr hh hin hout => k_X9_lays_b53  (x5) (v.1)  vv rr hh hin (fun xx ee => hout xx ee)) gFU (((0 : Int32)), v.2) z43 ez43 ?_
    show G l D cy base RX9 cX9_lays 8 none (gRm 1) X Z 196 [(0, .ref (base + 186)), (2, .int (x5)), (3, .int (v.1))] [] 0 0 gNN (gH cy base z43)
    refine g_iinc (j := 2) (x := v.1) (v := (v.1 + (1 : Int32))) (lvx := [(3, .int ((v.1 + (1 : Int32)))), (0, .ref (base + 186)), (2, .int (x5))]) dX9_lays_196 rfl rfl (by decide) rfl ?_
    refine g_goto 40 dX9_lays_199 (by decide) ?_
    refine g_sub (lvx := [(0, .ref (base + 186)), (2, .int (x5)), (3, .int ((v.1 + (1 : Int32))))]) [1, 2, 0] rfl ?_
    obtain rfl := Option.some.inj hS
    exact hin ((((v.1 + (1 : Int32))), (z43))) rfl
def f_X9_lays_b32  (v : Int32 × Mem) : Option ((Int32 × Mem) ⊕ ((Mem))) :=
  if (7 : Int32) ≤ v.1 then (
    some (.inr (v.2))
  ) else (
    (iter gFU (f_X9_lays_b40  (v.1)) (((0 : Int32)), v.2)).bind fun z44 =>
    some (.inl (((v.1 + (1 : Int32))), (z44)))
  )
set_option maxRecDepth 100000 in
set_option maxHeartbeats 4000000 in
theorem k_X9_lays_b32 {l : Launch} {D : va_G} {cy : Nat → ClassId} {base : Nat} {X : gX} {Z : gZ}   (v : Int32 × Mem) (r : (Int32 × Mem) ⊕ ((Mem))) (hS : f_X9_lays_b32  v = some r) (hin : ∀ v2, r = .inl v2 → G l D cy base RX9 cX9_lays 8 none (gRm 1) X Z 32 [(0, .ref (base + 186)), (2, .int (v2.1))] [] 0 0 gNN (gH cy base v2.2)) (hout0 : ∀ x, r = .inr x → G l D cy base RX9 cX9_lays 8 none (gRm 1) X Z 208 [] [] 0 0 gNN (gH cy base x)) : G l D cy base RX9 cX9_lays 8 none (gRm 1) X Z 32 [(0, .ref (base + 186)), (2, .int (v.1))] [] 0 0 gNN (gH cy base v.2) := by
  unfold f_X9_lays_b32 at hS
  refine g_iload_n (j := 1) (x := v.1) dX9_lays_32 rfl rfl ?_
  refine g_bipush (v := 7) dX9_lays_33 (by decide) ?_
  refine g_icmp_ge 208 dX9_lays_35 (by decide) (fun hc => ?_) (fun hc => ?_)
  · replace hS := (if_pos hc).symm.trans hS
    refine g_sub (lvx := []) [] rfl ?_
    obtain rfl := Option.some.inj hS
    exact hout0 ((v.2)) rfl
  · replace hS := (if_neg hc).symm.trans hS
    refine g_iconst (v := 0) dX9_lays_38 (by decide) ?_
    refine g_istore_n (lvx := [(3, .int ((0 : Int32))), (0, .ref (base + 186)), (2, .int (v.1))]) dX9_lays_39 rfl (by decide) rfl ?_
    obtain ⟨z44, ez44, hS⟩ := ob hS
    refine g_sub (lvx := [(0, .ref (base + 186)), (2, .int (v.1)), (3, .int ((0 : Int32)))]) [1, 2, 0] rfl ?_
    refine iter_ind (fun vv => G l D cy base RX9 cX9_lays 8 none (gRm 1) X Z 40 [(0, .ref (base + 186)), (2, .int (v.1)), (3, .int (vv.1))] [] 0 0 gNN (gH cy base vv.2)) (fun xx => G l D cy base RX9 cX9_lays 8 none (gRm 1) X Z 202 [(0, .ref (base + 186)), (2, .int (v.1))] [] 0 0 gNN (gH cy base xx)) (fun vv rr hh hin hout => k_X9_lays_b40  (v.1)  vv rr hh hin (fun xx ee => hout xx ee)) gFU (((0 : Int32)), v.2) z44 ez44 ?_
    show G l D cy base RX9 cX9_lays 8 none (gRm 1) X Z 202 [(0, .ref (base + 186)), (2, .int (v.1))] [] 0 0 gNN (gH cy base z44)
    refine g_iinc (j := 1) (x := v.1) (v := (v.1 + (1 : Int32))) (lvx := [(2, .int ((v.1 + (1 : Int32)))), (0, .ref (base + 186))]) dX9_lays_202 rfl rfl (by decide) rfl ?_
    refine g_goto 32 dX9_lays_205 (by decide) ?_
    refine g_sub (lvx := [(0, .ref (base + 186)), (2, .int ((v.1 + (1 : Int32))))]) [1, 0] rfl ?_
    obtain rfl := Option.some.inj hS
    exact hin ((((v.1 + (1 : Int32))), (z44))) rfl
def f_X9_lays (μ : Mem) (a1 : Int32) : Option (Mem) :=
  (iter gFU (f_X9_lays_b2  (a1)) (((0 : Int32)), μ)).bind fun z4 =>
  (iter gFU (f_X9_lays_b32  ) (((0 : Int32)), z4)).bind fun z45 =>
  some z45
set_option maxRecDepth 100000 in
set_option maxHeartbeats 4000000 in
theorem k_X9_lays {l : Launch} {D : va_G} {cy : Nat → ClassId} {base : Nat} (μ : Mem) (a1 : Int32)  {out : Mem} (hS : f_X9_lays μ a1 = some out) : gC l D cy base yX9_lays cX9_lays 8 none 1 [.ref (base + 186), .int (a1)] μ none out := by
  refine gC_of (own := RX9) (lv0 := [(0, .ref (base + 186)), (1, .int (a1))]) rfl (by decide) (Nat.le_of_ble_eq_true rfl) rfl ?_
  unfold f_X9_lays at hS
  refine g_iconst (v := 0) dX9_lays_0 (by decide) ?_
  refine g_istore_n (lvx := [(2, .int ((0 : Int32))), (0, .ref (base + 186)), (1, .int (a1))]) dX9_lays_1 rfl (by decide) rfl ?_
  obtain ⟨z4, ez4, hS⟩ := ob hS
  refine g_sub (lvx := [(0, .ref (base + 186)), (1, .int (a1)), (2, .int ((0 : Int32)))]) [1, 2, 0] rfl ?_
  refine iter_ind (fun vv => G l D cy base RX9 cX9_lays 8 none (gRm 1) (gXm yX9_lays) (gZm D cy base 0 0 none gNN (gH cy base out)) 2 [(0, .ref (base + 186)), (1, .int (a1)), (2, .int (vv.1))] [] 0 0 gNN (gH cy base vv.2)) (fun xx => G l D cy base RX9 cX9_lays 8 none (gRm 1) (gXm yX9_lays) (gZm D cy base 0 0 none gNN (gH cy base out)) 30 [(0, .ref (base + 186))] [] 0 0 gNN (gH cy base xx)) (fun vv rr hh hin hout => k_X9_lays_b2  (a1)  vv rr hh hin (fun xx ee => hout xx ee)) gFU (((0 : Int32)), μ) z4 ez4 ?_
  show G l D cy base RX9 cX9_lays 8 none (gRm 1) (gXm yX9_lays) (gZm D cy base 0 0 none gNN (gH cy base out)) 30 [(0, .ref (base + 186))] [] 0 0 gNN (gH cy base z4)
  refine g_iconst (v := 0) dX9_lays_30 (by decide) ?_
  refine g_istore_n (lvx := [(2, .int ((0 : Int32))), (0, .ref (base + 186))]) dX9_lays_31 rfl (by decide) rfl ?_
  obtain ⟨z45, ez45, hS⟩ := ob hS
  refine g_sub (lvx := [(0, .ref (base + 186)), (2, .int ((0 : Int32)))]) [1, 0] rfl ?_
  refine iter_ind (fun vv => G l D cy base RX9 cX9_lays 8 none (gRm 1) (gXm yX9_lays) (gZm D cy base 0 0 none gNN (gH cy base out)) 32 [(0, .ref (base + 186)), (2, .int (vv.1))] [] 0 0 gNN (gH cy base vv.2)) (fun xx => G l D cy base RX9 cX9_lays 8 none (gRm 1) (gXm yX9_lays) (gZm D cy base 0 0 none gNN (gH cy base out)) 208 [] [] 0 0 gNN (gH cy base xx)) (fun vv rr hh hin hout => k_X9_lays_b32    vv rr hh hin (fun xx ee => hout xx ee)) gFU (((0 : Int32)), z4) z45 ez45 ?_
  show G l D cy base RX9 cX9_lays 8 none (gRm 1) (gXm yX9_lays) (gZm D cy base 0 0 none gNN (gH cy base out)) 208 [] [] 0 0 gNN (gH cy base z45)
  obtain rfl := Option.some.inj hS
  exact g_vret rfl dX9_lays_208

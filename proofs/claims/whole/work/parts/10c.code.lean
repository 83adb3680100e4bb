def f_X4_readInto_b13 (q4 : Nat) (v : Int32 × Int32 × Mem) : Option ((Int32 × Int32 × Mem) ⊕ ((Int32 × Mem) ⊕ (Mem) ⊕ (Int32 × Mem))) :=
  if (200 : Int32) < v.2.1 then (
    some (.inr (.inr ((.inr (((v.1), (v.2.2)))))))
  ) else (
    (f_X4_nextToken v.2.2 ).bind fun m6 =>
    if (gi m6 1 4) = (0 : Int32) then (
      some (.inr (.inl ((v.1), (m6))))
    ) else (
      (f_X4_readItem m6 (q4)).bind fun z7 =>
      if z7.1 = (0 : Int32) then (
        some (.inr (.inr ((.inl (z7.2)))))
      ) else (
        some (.inl (((v.1 + (1 : Int32))), ((v.2.1 + (1 : Int32))), (z7.2)))
      )
    )
  )
set_option maxRecDepth 100000 in
set_option maxHeartbeats 4000000 in
theorem k_X4_readInto_b13 {l : Launch} {D : va_G} {cy : Nat → ClassId} {base : Nat} {X : gX} {Z : gZ} (q4 : Nat) (hq4 : isPl q4 = true) (v : Int32 × Int32 × Mem) (r : (Int32 × Int32 × Mem) ⊕ ((Int32 × Mem) ⊕ (Mem) ⊕ (Int32 × Mem))) (hS : f_X4_readInto_b13 q4 v = some r) (hin : ∀ v2, r = .inl v2 → G l D cy base RX4 cX4_readInto 4 (some .int) (gRm 6) X Z 13 [(0, .ref (base + 1)), (1, .ref (base + q4)), (2, .int (v2.1)), (3, .int (v2.2.1))] [] 0 0 gNN (gH cy base v2.2.2)) (hout0 : ∀ x, r = .inr (.inl x) → G l D cy base RX4 cX4_readInto 4 (some .int) (gRm 6) X Z 31 [(2, .int (x.1))] [] 0 0 gNN (gH cy base x.2)) (hout1 : ∀ x, r = .inr (.inr ((.inl x))) → G l D cy base RX4 cX4_readInto 4 (some .int) (gRm 6) X Z 41 [(0, .ref (base + 1))] [] 0 0 gNN (gH cy base x)) (hout2 : ∀ x, r = .inr (.inr ((.inr (x)))) → G l D cy base RX4 cX4_readInto 4 (some .int) (gRm 6) X Z 58 [(2, .int (x.1))] [] 0 0 gNN (gH cy base x.2)) : G l D cy base RX4 cX4_readInto 4 (some .int) (gRm 6) X Z 13 [(0, .ref (base + 1)), (1, .ref (base + q4)), (2, .int (v.1)), (3, .int (v.2.1))] [] 0 0 gNN (gH cy base v.2.2) := by
  unfold f_X4_readInto_b13 at hS
  refine g_iload_n (j := 3) (x := v.2.1) dX4_readInto_13 rfl rfl ?_
  refine g_sipush (v := 200) dX4_readInto_14 (by decide) ?_
  refine g_icmp_gt 58 dX4_readInto_17 (by decide) (fun hc => ?_) (fun hc => ?_)
  · replace hS := (if_pos hc).symm.trans hS
    refine g_sub (lvx := [(2, .int (v.1))]) [2] rfl ?_
    obtain rfl := Option.some.inj hS
    exact hout2 (((v.1), (v.2.2))) rfl
  · replace hS := (if_neg hc).symm.trans hS
    refine g_aload_n (j := 0) (x := base + 1) dX4_readInto_20 rfl rfl ?_
    obtain ⟨m6, em6, hS⟩ := ob hS
    refine gs_callVv (As := []) (st := []) (kr := 1) (k_X4_nextToken v.2.2   em6) cl_RX4_36 sv_X4_nextToken ckk_X4_nextToken (tk_1 _) ⟨by decide, by decide⟩ (Nat.le_of_ble_eq_true rfl) ⟨Nat.zero_le _, Nat.zero_le _⟩ rfl dX4_readInto_21 rfl ?_
    refine g_aload_n (j := 0) (x := base + 1) dX4_readInto_24 rfl rfl ?_
    refine gs_getI lk_RX4_25 (tk_1 _) rfl dX4_readInto_25 ?_
    refine g_if_ne 33 dX4_readInto_28 (by decide) (fun hc => ?_) (fun hc => ?_)
    · replace hS := (if_neg hc).symm.trans hS
      refine g_aload_n (j := 0) (x := base + 1) dX4_readInto_33 rfl rfl ?_
      refine g_aload_n (j := 1) (x := base + q4) dX4_readInto_34 rfl rfl ?_
      obtain ⟨z7, ez7, hS⟩ := ob hS
      refine gs_callVi (As := [.ref (base + q4)]) (st := []) (kr := 1) (k_X4_readItem m6 (q4) hq4 ez7) cl_RX4_39 sv_X4_readItem ckk_X4_readItem (tk_1 _) ⟨by decide, by decide⟩ (Nat.le_of_ble_eq_true rfl) ⟨Nat.zero_le _, Nat.zero_le _⟩ rfl dX4_readInto_35 rfl ?_
      refine g_if_ne 49 dX4_readInto_38 (by decide) (fun hc => ?_) (fun hc => ?_)
      · replace hS := (if_neg hc).symm.trans hS
        refine g_iinc (j := 2) (x := v.1) (v := (v.1 + (1 : Int32))) (lvx := [(2, .int ((v.1 + (1 : Int32)))), (0, .ref (base + 1)), (1, .ref (base + q4)), (3, .int (v.2.1))]) dX4_readInto_49 rfl rfl (by decide) rfl ?_
        refine g_iinc (j := 3) (x := v.2.1) (v := (v.2.1 + (1 : Int32))) (lvx := [(3, .int ((v.2.1 + (1 : Int32)))), (2, .int ((v.1 + (1 : Int32)))), (0, .ref (base + 1)), (1, .ref (base + q4))]) dX4_readInto_52 rfl rfl (by decide) rfl ?_
        refine g_goto 13 dX4_readInto_55 (by decide) ?_
        refine g_sub (lvx := [(0, .ref (base + 1)), (1, .ref (base + q4)), (2, .int ((v.1 + (1 : Int32)))), (3, .int ((v.2.1 + (1 : Int32))))]) [2, 3, 1, 0] rfl ?_
        obtain rfl := Option.some.inj hS
        exact hin ((((v.1 + (1 : Int32))), ((v.2.1 + (1 : Int32))), (z7.2))) rfl
      · replace hS := (if_pos hc).symm.trans hS
        refine g_sub (lvx := [(0, .ref (base + 1))]) [0] rfl ?_
        obtain rfl := Option.some.inj hS
        exact hout1 ((z7.2)) rfl
    · replace hS := (if_pos hc).symm.trans hS
      refine g_sub (lvx := [(2, .int (v.1))]) [2] rfl ?_
      obtain rfl := Option.some.inj hS
      exact hout0 (((v.1), (m6))) rfl
def f_X4_readInto (μ : Mem) (q1a : Nat) : Option (Int32 × Mem) :=
  (f_X3_forget μ (q1a)).bind fun m2 =>
  (stI m2 1 2 ((0 : Int32))).bind fun m3 =>
  (iter gFU (f_X4_readInto_b13  (q1a)) (((0 : Int32)), ((0 : Int32)), m3)).bind fun z8 =>
  Sum.elim (fun w9 => 
    some (w9.1, w9.2)
  ) (fun w10 => 
    Sum.elim (fun w11 => 
      some (((-10 : Int32) - (gi w11 1 3)), w11)
    ) (fun w12 => 
      some (w12.1, w12.2)
    ) w10
  ) z8
set_option maxRecDepth 100000 in
set_option maxHeartbeats 4000000 in
theorem k_X4_readInto {l : Launch} {D : va_G} {cy : Nat → ClassId} {base : Nat} (μ : Mem) (q1a : Nat) (hq1a : isPl q1a = true) {out : Int32 × Mem} (hS : f_X4_readInto μ q1a = some out) : gC l D cy base yX4_readInto cX4_readInto 4 (some .int) 6 [.ref (base + 1), .ref (base + q1a)] μ (some (.int out.1)) out.2 := by
  refine gC_of (own := RX4) (lv0 := [(0, .ref (base + 1)), (1, .ref (base + q1a))]) rfl (by decide) (Nat.le_of_ble_eq_true rfl) rfl ?_
  unfold f_X4_readInto at hS
  refine g_aload_n (j := 1) (x := base + q1a) dX4_readInto_0 rfl rfl ?_
  obtain ⟨m2, em2, hS⟩ := ob hS
  refine gs_callVv (As := []) (st := []) (kr := q1a) (k_X3_forget μ (q1a) hq1a em2) cl_RX4_31 sv_X3_forget ckk_X3_forget (tkPl_0 hq1a _) ⟨by decide, by decide⟩ (Nat.le_of_ble_eq_true rfl) ⟨Nat.zero_le _, Nat.zero_le _⟩ rfl dX4_readInto_1 rfl ?_
  refine g_aload_n (j := 0) (x := base + 1) dX4_readInto_4 rfl rfl ?_
  refine g_iconst (v := 0) dX4_readInto_5 (by decide) ?_
  obtain ⟨m3, em3, hS⟩ := ob hS
  refine gs_putI lw_RX4_19 (tk_1 _) rfl rfl rfl dX4_readInto_6 em3 ?_
  refine g_iconst (v := 0) dX4_readInto_9 (by decide) ?_
  refine g_istore_n (lvx := [(2, .int ((0 : Int32))), (0, .ref (base + 1)), (1, .ref (base + q1a))]) dX4_readInto_10 rfl (by decide) rfl ?_
  refine g_iconst (v := 0) dX4_readInto_11 (by decide) ?_
  refine g_istore_n (lvx := [(3, .int ((0 : Int32))), (2, .int ((0 : Int32))), (0, .ref (base + 1)), (1, .ref (base + q1a))]) dX4_readInto_12 rfl (by decide) rfl ?_
  obtain ⟨z8, ez8, hS⟩ := ob hS
  refine g_sub (lvx := [(0, .ref (base + 1)), (1, .ref (base + q1a)), (2, .int ((0 : Int32))), (3, .int ((0 : Int32)))]) [2, 3, 1, 0] rfl ?_
  refine iter_ind (fun vv => G l D cy base RX4 cX4_readInto 4 (some .int) (gRm 6) (gXm yX4_readInto) (gZm D cy base 0 0 (some (.int out.1)) gNN (gH cy base out.2)) 13 [(0, .ref (base + 1)), (1, .ref (base + q1a)), (2, .int (vv.1)), (3, .int (vv.2.1))] [] 0 0 gNN (gH cy base vv.2.2)) (fun xx => match xx with | (.inl xx) => G l D cy base RX4 cX4_readInto 4 (some .int) (gRm 6) (gXm yX4_readInto) (gZm D cy base 0 0 (some (.int out.1)) gNN (gH cy base out.2)) 31 [(2, .int (xx.1))] [] 0 0 gNN (gH cy base xx.2) | (.inr ((.inl xx))) => G l D cy base RX4 cX4_readInto 4 (some .int) (gRm 6) (gXm yX4_readInto) (gZm D cy base 0 0 (some (.int out.1)) gNN (gH cy base out.2)) 41 [(0, .ref (base + 1))] [] 0 0 gNN (gH cy base xx) | (.inr ((.inr (xx)))) => G l D cy base RX4 cX4_readInto 4 (some .int) (gRm 6) (gXm yX4_readInto) (gZm D cy base 0 0 (some (.int out.1)) gNN (gH cy base out.2)) 58 [(2, .int (xx.1))] [] 0 0 gNN (gH cy base xx.2)) (fun vv rr hh hin hout => k_X4_readInto_b13  (q1a) hq1a vv rr hh hin (fun xx ee => hout (.inl xx) ee) (fun xx ee => hout (.inr ((.inl xx))) ee) (fun xx ee => hout (.inr ((.inr (xx)))) ee)) gFU (((0 : Int32)), ((0 : Int32)), m3) z8 ez8 ?_
  cases z8 with
  | inl w9 =>
    replace hS := (Sum.elim_inl _ _ _).symm.trans hS
    show G l D cy base RX4 cX4_readInto 4 (some .int) (gRm 6) (gXm yX4_readInto) (gZm D cy base 0 0 (some (.int out.1)) gNN (gH cy base out.2)) 31 [(2, .int (w9.1))] [] 0 0 gNN (gH cy base w9.2)
    refine g_iload_n (j := 0) (x := w9.1) dX4_readInto_31 rfl rfl ?_
    obtain rfl := Option.some.inj hS
    exact g_iret rfl dX4_readInto_32
  | inr w10 =>
    replace hS := (Sum.elim_inr _ _ _).symm.trans hS
    cases w10 with
    | inl w11 =>
      replace hS := (Sum.elim_inl _ _ _).symm.trans hS
      show G l D cy base RX4 cX4_readInto 4 (some .int) (gRm 6) (gXm yX4_readInto) (gZm D cy base 0 0 (some (.int out.1)) gNN (gH cy base out.2)) 41 [(0, .ref (base + 1))] [] 0 0 gNN (gH cy base w11)
      refine g_bipush (v := -10) dX4_readInto_41 (by decide) ?_
      refine g_aload_n (j := 0) (x := base + 1) dX4_readInto_43 rfl rfl ?_
      refine gs_getI lk_RX4_22 (tk_1 _) rfl dX4_readInto_44 ?_
      refine g_isub dX4_readInto_47 ?_
      obtain rfl := Option.some.inj hS
      exact g_iret rfl dX4_readInto_48
    | inr w12 =>
      replace hS := (Sum.elim_inr _ _ _).symm.trans hS
      show G l D cy base RX4 cX4_readInto 4 (some .int) (gRm 6) (gXm yX4_readInto) (gZm D cy base 0 0 (some (.int out.1)) gNN (gH cy base out.2)) 58 [(2, .int (w12.1))] [] 0 0 gNN (gH cy base w12.2)
      refine g_iload_n (j := 0) (x := w12.1) dX4_readInto_58 rfl rfl ?_
      obtain rfl := Option.some.inj hS
      exact g_iret rfl dX4_readInto_59
def f_X8_bondAt (μ : Mem) (a0 : Int32) (a1 : Int32) : Option (Int32) :=
  some (((a0 * (7 : Int32)) + a1))
set_option maxRecDepth 100000 in
set_option maxHeartbeats 4000000 in
theorem k_X8_bondAt {l : Launch} {D : va_G} {cy : Nat → ClassId} {base : Nat} (μ : Mem) (a0 : Int32) (a1 : Int32)  {out : Int32} (hS : f_X8_bondAt μ a0 a1 = some out) : gC l D cy base yX8_bondAt cX8_bondAt 2 (some .int) 0 [.int (a0), .int (a1)] μ (some (.int out)) μ := by
  refine gC_of (own := RX8) (lv0 := [(0, .int (a0)), (1, .int (a1))]) rfl (by decide) (Nat.le_of_ble_eq_true rfl) rfl ?_
  unfold f_X8_bondAt at hS
  refine g_iload_n (j := 0) (x := a0) dX8_bondAt_0 rfl rfl ?_
  refine g_bipush (v := 7) dX8_bondAt_1 (by decide) ?_
  refine g_imul dX8_bondAt_3 ?_
  refine g_iload_n (j := 1) (x := a1) dX8_bondAt_4 rfl rfl ?_
  refine g_iadd dX8_bondAt_5 ?_
  obtain rfl := Option.some.inj hS
  exact g_iret rfl dX8_bondAt_6
def f_X5_linkAt_j33 (m5 : Mem) (x3 : Int32) (x4 : Int32) : Option (Int32) :=
  (f_X8_bondAt m5 (x3) (x4)).bind fun y6 =>
  some (y6)
set_option maxRecDepth 100000 in
set_option maxHeartbeats 4000000 in
theorem k_X5_linkAt_j33 {l : Launch} {D : va_G} {cy : Nat → ClassId} {base : Nat} {X : gX} (m5 : Mem) (x3 : Int32) (x4 : Int32)  {out : Int32} (hS : f_X5_linkAt_j33 m5 x3 x4 = some out)  : G l D cy base RX5 cX5_linkAt 2 (some .int) (gRm 1) X (gZm D cy base 0 0 (some (.int out)) gNN (gH cy base m5)) 33 [] [.int (x4), .int (x3)] 0 0 gNN (gH cy base m5) := by
  unfold f_X5_linkAt_j33 at hS
  obtain ⟨y6, ey6, hS⟩ := ob hS
  refine gs_callSNi (As := [.int (x3), .int (x4)]) (st := []) (k_X8_bondAt m5 (x3) (x4)  ey6) cn_RX5_41 sv_X8_bondAt ⟨by decide, by decide⟩ (Nat.le_of_ble_eq_true rfl) ⟨Nat.zero_le _, Nat.zero_le _⟩ rfl dX5_linkAt_33 rfl ?_
  obtain rfl := Option.some.inj hS
  exact g_iret rfl dX5_linkAt_36
def f_X5_linkAt (μ : Mem) (a1 : Int32) : Option (Int32) :=
  (ldA μ 167 7 (a1)).bind fun y1 =>
  if (gi μ 165 2) ≤ (a1 + (1 : Int32)) then (
    (ldA μ 167 7 ((0 : Int32))).bind fun y2 =>
    f_X5_linkAt_j33 μ (y1) (y2)
  ) else (
    (ldA μ 167 7 ((a1 + (1 : Int32)))).bind fun y7 =>
    f_X5_linkAt_j33 μ (y1) (y7)
  )
set_option maxRecDepth 100000 in
set_option maxHeartbeats 4000000 in
theorem k_X5_linkAt {l : Launch} {D : va_G} {cy : Nat → ClassId} {base : Nat} (μ : Mem) (a1 : Int32)  {out : Int32} (hS : f_X5_linkAt μ a1 = some out) : gC l D cy base yX5_linkAt cX5_linkAt 2 (some .int) 1 [.ref (base + 165), .int (a1)] μ (some (.int out)) μ := by
  refine gC_of (own := RX5) (lv0 := [(0, .ref (base + 165)), (1, .int (a1))]) rfl (by decide) (Nat.le_of_ble_eq_true rfl) rfl ?_
  unfold f_X5_linkAt at hS
  refine g_aload_n (j := 0) (x := base + 165) dX5_linkAt_0 rfl rfl ?_
  refine gs_getR (r := 167) lk_RX5_15 (tk_165 _) rfl dX5_linkAt_1 ?_
  refine g_iload_n (j := 1) (x := a1) dX5_linkAt_4 rfl rfl ?_
  obtain ⟨y1, ey1, hS⟩ := ob hS
  refine gs_iald (tk_167 _) dX5_linkAt_5 ey1 ?_
  refine g_iload_n (j := 1) (x := a1) dX5_linkAt_6 rfl rfl ?_
  refine g_iconst (v := 1) dX5_linkAt_7 (by decide) ?_
  refine g_iadd dX5_linkAt_8 ?_
  refine g_aload_n (j := 0) (x := base + 165) dX5_linkAt_9 rfl rfl ?_
  refine gs_getI lk_RX5_18 (tk_165 _) rfl dX5_linkAt_10 ?_
  refine g_icmp_ge 27 dX5_linkAt_13 (by decide) (fun hc => ?_) (fun hc => ?_)
  · replace hS := (if_pos hc).symm.trans hS
    refine g_aload_n (j := 0) (x := base + 165) dX5_linkAt_27 rfl rfl ?_
    refine gs_getR (r := 167) lk_RX5_15 (tk_165 _) rfl dX5_linkAt_28 ?_
    refine g_iconst (v := 0) dX5_linkAt_31 (by decide) ?_
    obtain ⟨y2, ey2, hS⟩ := ob hS
    refine gs_iald (tk_167 _) dX5_linkAt_32 ey2 ?_
    refine g_sub (lvx := []) [] rfl ?_
    exact k_X5_linkAt_j33 (μ) (y1) (y2)  hS
  · replace hS := (if_neg hc).symm.trans hS
    refine g_aload_n (j := 0) (x := base + 165) dX5_linkAt_16 rfl rfl ?_
    refine gs_getR (r := 167) lk_RX5_15 (tk_165 _) rfl dX5_linkAt_17 ?_
    refine g_iload_n (j := 1) (x := a1) dX5_linkAt_20 rfl rfl ?_
    refine g_iconst (v := 1) dX5_linkAt_21 (by decide) ?_
    refine g_iadd dX5_linkAt_22 ?_
    obtain ⟨y7, ey7, hS⟩ := ob hS
    refine gs_iald (tk_167 _) dX5_linkAt_23 ey7 ?_
    refine g_goto 33 dX5_linkAt_24 (by decide) ?_
    refine g_sub (lvx := []) [] rfl ?_
    exact k_X5_linkAt_j33 (μ) (y1) (y7)  hS
def f_X5_strikeRow_b5 (m1 : Mem)  (v : Int32 × Int32) : Option ((Int32 × Int32) ⊕ ((Int32))) :=
  if (gi m1 165 2) ≤ v.2 then (
    some (.inr (v.1))
  ) else (
    (f_X5_linkAt m1 (v.2)).bind fun y2 =>
    (ldA m1 166 49 (y2)).bind fun y3 =>
    some (.inl (((mnI (v.1) (y3))), ((v.2 + (1 : Int32)))))
  )
set_option maxRecDepth 100000 in
set_option maxHeartbeats 4000000 in
theorem k_X5_strikeRow_b5 {l : Launch} {D : va_G} {cy : Nat → ClassId} {base : Nat} {X : gX} {Z : gZ} (m1 : Mem)   (v : Int32 × Int32) (r : (Int32 × Int32) ⊕ ((Int32))) (hS : f_X5_strikeRow_b5 m1  v = some r) (hin : ∀ v2, r = .inl v2 → G l D cy base RX5 cX5_strikeRow 3 none (gRm 2) X Z 5 [(0, .ref (base + 165)), (1, .int (v2.1)), (2, .int (v2.2))] [] 0 0 gNN (gH cy base m1)) (hout0 : ∀ x, r = .inr x → G l D cy base RX5 cX5_strikeRow 3 none (gRm 2) X Z 34 [(0, .ref (base + 165)), (1, .int (x))] [] 0 0 gNN (gH cy base m1)) : G l D cy base RX5 cX5_strikeRow 3 none (gRm 2) X Z 5 [(0, .ref (base + 165)), (1, .int (v.1)), (2, .int (v.2))] [] 0 0 gNN (gH cy base m1) := by
  unfold f_X5_strikeRow_b5 at hS
  refine g_iload_n (j := 2) (x := v.2) dX5_strikeRow_5 rfl rfl ?_
  refine g_aload_n (j := 0) (x := base + 165) dX5_strikeRow_6 rfl rfl ?_
  refine gs_getI lk_RX5_18 (tk_165 _) rfl dX5_strikeRow_7 ?_
  refine g_icmp_ge 34 dX5_strikeRow_10 (by decide) (fun hc => ?_) (fun hc => ?_)
  · replace hS := (if_pos hc).symm.trans hS
    refine g_sub (lvx := [(0, .ref (base + 165)), (1, .int (v.1))]) [0, 1] rfl ?_
    obtain rfl := Option.some.inj hS
    exact hout0 ((v.1)) rfl
  · replace hS := (if_neg hc).symm.trans hS
    refine g_iload_n (j := 1) (x := v.1) dX5_strikeRow_13 rfl rfl ?_
    refine g_aload_n (j := 0) (x := base + 165) dX5_strikeRow_14 rfl rfl ?_
    refine gs_getR (r := 166) lk_RX5_9 (tk_165 _) rfl dX5_strikeRow_15 ?_
    refine g_aload_n (j := 0) (x := base + 165) dX5_strikeRow_18 rfl rfl ?_
    refine g_iload_n (j := 2) (x := v.2) dX5_strikeRow_19 rfl rfl ?_
    obtain ⟨y2, ey2, hS⟩ := ob hS
    refine gs_callVi (As := [.int (v.2)]) (st := [.ref (base + 166), .int (v.1)]) (kr := 165) (k_X5_linkAt m1 (v.2)  ey2) cl_RX5_46 sv_X5_linkAt ckk_X5_linkAt (tk_165 _) ⟨by decide, by decide⟩ (Nat.le_of_ble_eq_true rfl) ⟨Nat.zero_le _, Nat.zero_le _⟩ rfl dX5_strikeRow_20 rfl ?_
    obtain ⟨y3, ey3, hS⟩ := ob hS
    refine gs_iald (tk_166 _) dX5_strikeRow_23 ey3 ?_
    refine gs_mmin cl_RX5_50 sv_J9_min_7cf53 (by decide) (Nat.le_of_ble_eq_true rfl) (Nat.zero_le _) (Nat.zero_le _) dX5_strikeRow_24 ?_
    refine g_istore_n (lvx := [(1, .int ((mnI (v.1) (y3)))), (0, .ref (base + 165)), (2, .int (v.2))]) dX5_strikeRow_27 rfl (by decide) rfl ?_
    refine g_iinc (j := 2) (x := v.2) (v := (v.2 + (1 : Int32))) (lvx := [(2, .int ((v.2 + (1 : Int32)))), (1, .int ((mnI (v.1) (y3)))), (0, .ref (base + 165))]) dX5_strikeRow_28 rfl rfl (by decide) rfl ?_
    refine g_goto 5 dX5_strikeRow_31 (by decide) ?_
    refine g_sub (lvx := [(0, .ref (base + 165)), (1, .int ((mnI (v.1) (y3)))), (2, .int ((v.2 + (1 : Int32))))]) [2, 1, 0] rfl ?_
    obtain rfl := Option.some.inj hS
    exact hin ((((mnI (v.1) (y3))), ((v.2 + (1 : Int32))))) rfl
def f_X5_strikeRow_b36 (x5 : Int32) (v : Int32 × Mem) : Option ((Int32 × Mem) ⊕ ((Mem))) :=
  if (gi v.2 165 2) ≤ v.1 then (
    some (.inr (v.2))
  ) else (
    (f_X5_linkAt v.2 (v.1)).bind fun y6 =>
    (ldA v.2 166 49 (y6)).bind fun y7 =>
    (stA v.2 166 49 (y6) ((y7 - x5))).bind fun m8 =>
    some (.inl (((v.1 + (1 : Int32))), (m8)))
  )
set_option maxRecDepth 100000 in
set_option maxHeartbeats 4000000 in
theorem k_X5_strikeRow_b36 {l : Launch} {D : va_G} {cy : Nat → ClassId} {base : Nat} {X : gX} {Z : gZ} (x5 : Int32)  (v : Int32 × Mem) (r : (Int32 × Mem) ⊕ ((Mem))) (hS : f_X5_strikeRow_b36 x5 v = some r) (hin : ∀ v2, r = .inl v2 → G l D cy base RX5 cX5_strikeRow 3 none (gRm 2) X Z 36 [(0, .ref (base + 165)), (1, .int (x5)), (2, .int (v2.1))] [] 0 0 gNN (gH cy base v2.2)) (hout0 : ∀ x, r = .inr x → G l D cy base RX5 cX5_strikeRow 3 none (gRm 2) X Z 64 [(0, .ref (base + 165)), (1, .int (x5))] [] 0 0 gNN (gH cy base x)) : G l D cy base RX5 cX5_strikeRow 3 none (gRm 2) X Z 36 [(0, .ref (base + 165)), (1, .int (x5)), (2, .int (v.1))] [] 0 0 gNN (gH cy base v.2) := by
  unfold f_X5_strikeRow_b36 at hS
  refine g_iload_n (j := 2) (x := v.1) dX5_strikeRow_36 rfl rfl ?_
  refine g_aload_n (j := 0) (x := base + 165) dX5_strikeRow_37 rfl rfl ?_
  refine gs_getI lk_RX5_18 (tk_165 _) rfl dX5_strikeRow_38 ?_
  refine g_icmp_ge 64 dX5_strikeRow_41 (by decide) (fun hc => ?_) (fun hc => ?_)
  · replace hS := (if_pos hc).symm.trans hS
    refine g_sub (lvx := [(0, .ref (base + 165)), (1, .int (x5))]) [0, 1] rfl ?_
    obtain rfl := Option.some.inj hS
    exact hout0 ((v.2)) rfl
  · replace hS := (if_neg hc).symm.trans hS
    refine g_aload_n (j := 0) (x := base + 165) dX5_strikeRow_44 rfl rfl ?_
    refine gs_getR (r := 166) lk_RX5_9 (tk_165 _) rfl dX5_strikeRow_45 ?_
    refine g_aload_n (j := 0) (x := base + 165) dX5_strikeRow_48 rfl rfl ?_
    refine g_iload_n (j := 2) (x := v.1) dX5_strikeRow_49 rfl rfl ?_
    obtain ⟨y6, ey6, hS⟩ := ob hS
    refine gs_callVi (As := [.int (v.1)]) (st := [.ref (base + 166)]) (kr := 165) (k_X5_linkAt v.2 (v.1)  ey6) cl_RX5_46 sv_X5_linkAt ckk_X5_linkAt (tk_165 _) ⟨by decide, by decide⟩ (Nat.le_of_ble_eq_true rfl) ⟨Nat.zero_le _, Nat.zero_le _⟩ rfl dX5_strikeRow_50 rfl ?_
    refine g_dup2 dX5_strikeRow_53 rfl rfl ?_
    obtain ⟨y7, ey7, hS⟩ := ob hS
    refine gs_iald (tk_166 _) dX5_strikeRow_54 ey7 ?_
    refine g_iload_n (j := 1) (x := x5) dX5_strikeRow_55 rfl rfl ?_
    refine g_isub dX5_strikeRow_56 ?_
    obtain ⟨m8, em8, hS⟩ := ob hS
    refine gs_iast (tk_166 _) dX5_strikeRow_57 em8 ?_
    refine g_iinc (j := 2) (x := v.1) (v := (v.1 + (1 : Int32))) (lvx := [(2, .int ((v.1 + (1 : Int32)))), (0, .ref (base + 165)), (1, .int (x5))]) dX5_strikeRow_58 rfl rfl (by decide) rfl ?_
    refine g_goto 36 dX5_strikeRow_61 (by decide) ?_
    refine g_sub (lvx := [(0, .ref (base + 165)), (1, .int (x5)), (2, .int ((v.1 + (1 : Int32))))]) [1, 2, 0] rfl ?_
    obtain rfl := Option.some.inj hS
    exact hin ((((v.1 + (1 : Int32))), (m8))) rfl
def f_X5_strikeRow (μ : Mem)  : Option (Mem) :=
  (iter gFU (f_X5_strikeRow_b5 μ ) (((1000000000 : Int32)), ((0 : Int32)))).bind fun z4 =>
  (iter gFU (f_X5_strikeRow_b36  (z4)) (((0 : Int32)), μ)).bind fun z9 =>
  (stI z9 165 4 (((gi z9 165 4) + (z4 * (gi z9 165 2))))).bind fun m10 =>
  some m10
set_option maxRecDepth 100000 in
set_option maxHeartbeats 4000000 in
theorem k_X5_strikeRow {l : Launch} {D : va_G} {cy : Nat → ClassId} {base : Nat} (μ : Mem)   {out : Mem} (hS : f_X5_strikeRow μ  = some out) : gC l D cy base yX5_strikeRow cX5_strikeRow 3 none 2 [.ref (base + 165)] μ none out := by
  refine gC_of (own := RX5) (lv0 := [(0, .ref (base + 165))]) rfl (by decide) (Nat.le_of_ble_eq_true rfl) rfl ?_
  unfold f_X5_strikeRow at hS
  refine g_ldc cs_RX5_45 dX5_strikeRow_0 ?_
  refine g_istore_n (lvx := [(1, .int ((1000000000 : Int32))), (0, .ref (base + 165))]) dX5_strikeRow_2 rfl (by decide) rfl ?_
  refine g_iconst (v := 0) dX5_strikeRow_3 (by decide) ?_
  refine g_istore_n (lvx := [(2, .int ((0 : Int32))), (1, .int ((1000000000 : Int32))), (0, .ref (base + 165))]) dX5_strikeRow_4 rfl (by decide) rfl ?_
  obtain ⟨z4, ez4, hS⟩ := ob hS
  refine g_sub (lvx := [(0, .ref (base + 165)), (1, .int ((1000000000 : Int32))), (2, .int ((0 : Int32)))]) [2, 1, 0] rfl ?_
  refine iter_ind (fun vv => G l D cy base RX5 cX5_strikeRow 3 none (gRm 2) (gXm yX5_strikeRow) (gZm D cy base 0 0 none gNN (gH cy base out)) 5 [(0, .ref (base + 165)), (1, .int (vv.1)), (2, .int (vv.2))] [] 0 0 gNN (gH cy base μ)) (fun xx => G l D cy base RX5 cX5_strikeRow 3 none (gRm 2) (gXm yX5_strikeRow) (gZm D cy base 0 0 none gNN (gH cy base out)) 34 [(0, .ref (base + 165)), (1, .int (xx))] [] 0 0 gNN (gH cy base μ)) (fun vv rr hh hin hout => k_X5_strikeRow_b5 μ   vv rr hh hin (fun xx ee => hout xx ee)) gFU (((1000000000 : Int32)), ((0 : Int32))) z4 ez4 ?_
  show G l D cy base RX5 cX5_strikeRow 3 none (gRm 2) (gXm yX5_strikeRow) (gZm D cy base 0 0 none gNN (gH cy base out)) 34 [(0, .ref (base + 165)), (1, .int (z4))] [] 0 0 gNN (gH cy base μ)
  refine g_iconst (v := 0) dX5_strikeRow_34 (by decide) ?_
  refine g_istore_n (lvx := [(2, .int ((0 : Int32))), (0, .ref (base + 165)), (1, .int (z4))]) dX5_strikeRow_35 rfl (by decide) rfl ?_
  obtain ⟨z9, ez9, hS⟩ := ob hS
  refine g_sub (lvx := [(0, .ref (base + 165)), (1, .int (z4)), (2, .int ((0 : Int32)))]) [1, 2, 0] rfl ?_
  refine iter_ind (fun vv => G l D cy base RX5 cX5_strikeRow 3 none (gRm 2) (gXm yX5_strikeRow) (gZm D cy base 0 0 none gNN (gH cy base out)) 36 [(0, .ref (base + 165)), (1, .int (z4)), (2, .int (vv.1))] [] 0 0 gNN (gH cy base vv.2)) (fun xx => G l D cy base RX5 cX5_strikeRow 3 none (gRm 2) (gXm yX5_strikeRow) (gZm D cy base 0 0 none gNN (gH cy base out)) 64 [(0, .ref (base + 165)), (1, .int (z4))] [] 0 0 gNN (gH cy base xx)) (fun vv rr hh hin hout => k_X5_strikeRow_b36  (z4)  vv rr hh hin (fun xx ee => hout xx ee)) gFU (((0 : Int32)), μ) z9 ez9 ?_
  show G l D cy base RX5 cX5_strikeRow 3 none (gRm 2) (gXm yX5_strikeRow) (gZm D cy base 0 0 none gNN (gH cy base out)) 64 [(0, .ref (base + 165)), (1, .int (z4))] [] 0 0 gNN (gH cy base z9)
  refine g_aload_n (j := 0) (x := base + 165) dX5_strikeRow_64 rfl rfl ?_
  refine g_dup dX5_strikeRow_65 rfl ?_
  refine gs_getI lk_RX5_25 (tk_165 _) rfl dX5_strikeRow_66 ?_
  refine g_iload_n (j := 1) (x := z4) dX5_strikeRow_69 rfl rfl ?_
  refine g_aload_n (j := 0) (x := base + 165) dX5_strikeRow_70 rfl rfl ?_
  refine gs_getI lk_RX5_18 (tk_165 _) rfl dX5_strikeRow_71 ?_
  refine g_imul dX5_strikeRow_74 ?_
  refine g_iadd dX5_strikeRow_75 ?_
  obtain ⟨m10, em10, hS⟩ := ob hS
  refine gs_putI lw_RX5_25 (tk_165 _) rfl rfl rfl dX5_strikeRow_76 em10 ?_
  obtain rfl := Option.some.inj hS
  exact g_vret rfl dX5_strikeRow_79
def f_X6_note (μ : Mem) (a1 : Int32) : Option (Mem) :=
  (stI μ 168 1 (((gi μ 168 1) + (1 : Int32)))).bind fun m1 =>
  (stI m1 168 2 (((gi m1 168 2) &&& a1))).bind fun m2 =>
  (stI m2 168 3 (((gi m2 168 3) ||| a1))).bind fun m3 =>
  some m3
set_option maxRecDepth 100000 in
set_option maxHeartbeats 4000000 in
theorem k_X6_note {l : Launch} {D : va_G} {cy : Nat → ClassId} {base : Nat} (μ : Mem) (a1 : Int32)  {out : Mem} (hS : f_X6_note μ a1 = some out) : gC l D cy base yX6_note cX6_note 2 none 0 [.ref (base + 168), .int (a1)] μ none out := by
  refine gC_of (own := RX6) (lv0 := [(0, .ref (base + 168)), (1, .int (a1))]) rfl (by decide) (Nat.le_of_ble_eq_true rfl) rfl ?_
  unfold f_X6_note at hS
  refine g_aload_n (j := 0) (x := base + 168) dX6_note_0 rfl rfl ?_
  refine g_dup dX6_note_1 rfl ?_
  refine gs_getI lk_RX6_15 (tk_168 _) rfl dX6_note_2 ?_
  refine g_iconst (v := 1) dX6_note_5 (by decide) ?_
  refine g_iadd dX6_note_6 ?_
  obtain ⟨m1, em1, hS⟩ := ob hS
  refine gs_putI lw_RX6_15 (tk_168 _) rfl rfl rfl dX6_note_7 em1 ?_
  refine g_aload_n (j := 0) (x := base + 168) dX6_note_10 rfl rfl ?_
  refine g_dup dX6_note_11 rfl ?_
  refine gs_getI lk_RX6_19 (tk_168 _) rfl dX6_note_12 ?_
  refine g_iload_n (j := 1) (x := a1) dX6_note_15 rfl rfl ?_
  refine g_iand dX6_note_16 ?_
  obtain ⟨m2, em2, hS⟩ := ob hS
  refine gs_putI lw_RX6_19 (tk_168 _) rfl rfl rfl dX6_note_17 em2 ?_
  refine g_aload_n (j := 0) (x := base + 168) dX6_note_20 rfl rfl ?_
  refine g_dup dX6_note_21 rfl ?_
  refine gs_getI lk_RX6_22 (tk_168 _) rfl dX6_note_22 ?_
  refine g_iload_n (j := 1) (x := a1) dX6_note_25 rfl rfl ?_
  refine g_ior dX6_note_26 ?_
  obtain ⟨m3, em3, hS⟩ := ob hS
  refine gs_putI lw_RX6_22 (tk_168 _) rfl rfl rfl dX6_note_27 em3 ?_
  obtain rfl := Option.some.inj hS
  exact g_vret rfl dX6_note_30
def f_X6_spreadChances_j74 (m12 : Mem) (q6 : Nat) (x7 : Int32) (x8 : Int32) (x9 : Int32) (x10 : Int32) (x11 : Int32) : Option ((Int32 × Mem) ⊕ ((Mem))) :=
  (ldA m12 169 11 (x10)).bind fun y13 =>
  (ldA m12 (q6 + 6) 5 (x8)).bind fun y14 =>
  (stA m12 169 11 (x10) (((y13 * y14) + x11))).bind fun m15 =>
  some (.inl (((x10 + (-1 : Int32))), (m15)))
set_option maxRecDepth 100000 in
set_option maxHeartbeats 4000000 in
theorem k_X6_spreadChances_j74 {l : Launch} {D : va_G} {cy : Nat → ClassId} {base : Nat} {X : gX} {Z : gZ} (m12 : Mem) (q6 : Nat) (x7 : Int32) (x8 : Int32) (x9 : Int32) (x10 : Int32) (x11 : Int32) (hq6 : isPl q6 = true) {r : (Int32 × Mem) ⊕ ((Mem))} (hS : f_X6_spreadChances_j74 m12 q6 x7 x8 x9 x10 x11 = some r) (hin : ∀ v2, r = .inl v2 → G l D cy base RX6 cX6_spreadChances 7 (some .int) (gRm 1) X Z 38 [(0, .ref (base + 168)), (1, .ref (base + q6)), (2, .int (x7)), (3, .int (x8)), (4, .int (x9)), (5, .int (v2.1))] [] 0 0 gNN (gH cy base v2.2)) (hout0 : ∀ x, r = .inr x → G l D cy base RX6 cX6_spreadChances 7 (some .int) (gRm 1) X Z 106 [(0, .ref (base + 168)), (1, .ref (base + q6)), (2, .int (x7)), (3, .int (x8))] [] 0 0 gNN (gH cy base x)) : G l D cy base RX6 cX6_spreadChances 7 (some .int) (gRm 1) X Z 74 [(0, .ref (base + 168)), (1, .ref (base + q6)), (2, .int (x7)), (3, .int (x8)), (4, .int (x9)), (5, .int (x10))] [.int (x11)] 0 0 gNN (gH cy base m12) := by
  unfold f_X6_spreadChances_j74 at hS
  refine g_istore (lvx := [(6, .int (x11)), (0, .ref (base + 168)), (1, .ref (base + q6)), (2, .int (x7)), (3, .int (x8)), (4, .int (x9)), (5, .int (x10))]) dX6_spreadChances_74 (by decide) rfl ?_
  refine g_aload_n (j := 1) (x := base + 168) dX6_spreadChances_76 rfl rfl ?_
  refine gs_getR (r := 169) lk_RX6_11 (tk_168 _) rfl dX6_spreadChances_77 ?_
  refine g_iload (j := 6) (x := x10) dX6_spreadChances_80 rfl ?_
  refine g_aload_n (j := 1) (x := base + 168) dX6_spreadChances_82 rfl rfl ?_
  refine gs_getR (r := 169) lk_RX6_11 (tk_168 _) rfl dX6_spreadChances_83 ?_
  refine g_iload (j := 6) (x := x10) dX6_spreadChances_86 rfl ?_
  obtain ⟨y13, ey13, hS⟩ := ob hS
  refine gs_iald (tk_169 _) dX6_spreadChances_88 ey13 ?_
  refine g_aload_n (j := 2) (x := base + q6) dX6_spreadChances_89 rfl rfl ?_
  refine gs_getR (r := (q6 + 6)) lk_RX6_59 (tkPl_0 hq6 _) rfl dX6_spreadChances_90 ?_
  refine g_iload_n (j := 4) (x := x8) dX6_spreadChances_93 rfl rfl ?_
  obtain ⟨y14, ey14, hS⟩ := ob hS
  refine gs_iald (tkPl_6 hq6 _) dX6_spreadChances_94 ey14 ?_
  refine g_imul dX6_spreadChances_95 ?_
  refine g_iload (j := 0) (x := x11) dX6_spreadChances_96 rfl ?_
  refine g_iadd dX6_spreadChances_98 ?_
  obtain ⟨m15, em15, hS⟩ := ob hS
  refine gs_iast (tk_169 _) dX6_spreadChances_99 em15 ?_
  refine g_iinc (j := 6) (x := x10) (v := (x10 + (-1 : Int32))) (lvx := [(5, .int ((x10 + (-1 : Int32)))), (6, .int (x11)), (0, .ref (base + 168)), (1, .ref (base + q6)), (2, .int (x7)), (3, .int (x8)), (4, .int (x9))]) dX6_spreadChances_100 rfl rfl (by decide) rfl ?_
  refine g_goto 38 dX6_spreadChances_103 (by decide) ?_
  refine g_sub (lvx := [(0, .ref (base + 168)), (1, .ref (base + q6)), (2, .int (x7)), (3, .int (x8)), (4, .int (x9)), (5, .int ((x10 + (-1 : Int32))))]) [2, 3, 4, 5, 6, 0] rfl ?_
  obtain rfl := Option.some.inj hS
  exact hin ((((x10 + (-1 : Int32))), (m15))) rfl
def f_X6_spreadChances_b38 (q6 : Nat) (x7 : Int32) (x8 : Int32) (x9 : Int32) (v : Int32 × Mem) : Option ((Int32 × Mem) ⊕ ((Mem))) :=
  if v.1 < (0 : Int32) then (
    some (.inr (v.2))
  ) else (
    if v.1 < x9 then (
      f_X6_spreadChances_j74 v.2 q6 x7 x8 x9 (v.1) ((0 : Int32))
    ) else (
      (ldA v.2 169 11 ((v.1 - x9))).bind fun y16 =>
      (ldA v.2 (q6 + 6) 5 (x8)).bind fun y17 =>
      f_X6_spreadChances_j74 v.2 q6 x7 x8 x9 (v.1) ((y16 * ((10 : Int32) - y17)))
    )
  )
set_option maxRecDepth 100000 in
set_option maxHeartbeats 4000000 in
theorem k_X6_spreadChances_b38 {l : Launch} {D : va_G} {cy : Nat → ClassId} {base : Nat} {X : gX} {Z : gZ} (q6 : Nat) (x7 : Int32) (x8 : Int32) (x9 : Int32) (hq6 : isPl q6 = true) (v : Int32 × Mem) (r : (Int32 × Mem) ⊕ ((Mem))) (hS : f_X6_spreadChances_b38 q6 x7 x8 x9 v = some r) (hin : ∀ v2, r = .inl v2 → G l D cy base RX6 cX6_spreadChances 7 (some .int) (gRm 1) X Z 38 [(0, .ref (base + 168)), (1, .ref (base + q6)), (2, .int (x7)), (3, .int (x8)), (4, .int (x9)), (5, .int (v2.1))] [] 0 0 gNN (gH cy base v2.2)) (hout0 : ∀ x, r = .inr x → G l D cy base RX6 cX6_spreadChances 7 (some .int) (gRm 1) X Z 106 [(0, .ref (base + 168)), (1, .ref (base + q6)), (2, .int (x7)), (3, .int (x8))] [] 0 0 gNN (gH cy base x)) : G l D cy base RX6 cX6_spreadChances 7 (some .int) (gRm 1) X Z 38 [(0, .ref (base + 168)), (1, .ref (base + q6)), (2, .int (x7)), (3, .int (x8)), (4, .int (x9)), (5, .int (v.1))] [] 0 0 gNN (gH cy base v.2) := by
  unfold f_X6_spreadChances_b38 at hS
  refine g_iload (j := 5) (x := v.1) dX6_spreadChances_38 rfl ?_
  refine g_if_lt 106 dX6_spreadChances_40 (by decide) (fun hc => ?_) (fun hc => ?_)
  · replace hS := (if_pos hc).symm.trans hS
    refine g_sub (lvx := [(0, .ref (base + 168)), (1, .ref (base + q6)), (2, .int (x7)), (3, .int (x8))]) [0, 1, 2, 3] rfl ?_
    obtain rfl := Option.some.inj hS
    exact hout0 ((v.2)) rfl
  · replace hS := (if_neg hc).symm.trans hS
    refine g_iload (j := 5) (x := v.1) dX6_spreadChances_43 rfl ?_
    refine g_iload (j := 4) (x := x9) dX6_spreadChances_45 rfl ?_
    refine g_icmp_lt 73 dX6_spreadChances_47 (by decide) (fun hc => ?_) (fun hc => ?_)
    · replace hS := (if_pos hc).symm.trans hS
      refine g_iconst (v := 0) dX6_spreadChances_73 (by decide) ?_
      exact k_X6_spreadChances_j74 (v.2) q6 x7 x8 x9 (v.1) ((0 : Int32)) hq6 hS hin hout0
    · replace hS := (if_neg hc).symm.trans hS
      refine g_aload_n (j := 0) (x := base + 168) dX6_spreadChances_50 rfl rfl ?_
      refine gs_getR (r := 169) lk_RX6_11 (tk_168 _) rfl dX6_spreadChances_51 ?_
      refine g_iload (j := 5) (x := v.1) dX6_spreadChances_54 rfl ?_
      refine g_iload (j := 4) (x := x9) dX6_spreadChances_56 rfl ?_
      refine g_isub dX6_spreadChances_58 ?_
      obtain ⟨y16, ey16, hS⟩ := ob hS
      refine gs_iald (tk_169 _) dX6_spreadChances_59 ey16 ?_
      refine g_bipush (v := 10) dX6_spreadChances_60 (by decide) ?_
      refine g_aload_n (j := 1) (x := base + q6) dX6_spreadChances_62 rfl rfl ?_
      refine gs_getR (r := (q6 + 6)) lk_RX6_59 (tkPl_0 hq6 _) rfl dX6_spreadChances_63 ?_
      refine g_iload_n (j := 3) (x := x8) dX6_spreadChances_66 rfl rfl ?_
      obtain ⟨y17, ey17, hS⟩ := ob hS
      refine gs_iald (tkPl_6 hq6 _) dX6_spreadChances_67 ey17 ?_
      refine g_isub dX6_spreadChances_68 ?_
      refine g_imul dX6_spreadChances_69 ?_
      refine g_goto 74 dX6_spreadChances_70 (by decide) ?_
      exact k_X6_spreadChances_j74 (v.2) q6 x7 x8 x9 (v.1) ((y16 * ((10 : Int32) - y17))) hq6 hS hin hout0
def f_X6_spreadChances_b19 (q4 : Nat) (v : Int32 × Int32 × Mem) : Option ((Int32 × Int32 × Mem) ⊕ ((Int32 × Mem))) :=
  if (gi v.2.2 q4 8) ≤ v.2.1 then (
    some (.inr ((v.1), (v.2.2)))
  ) else (
    (f_X3_halvesOf v.2.2 (q4) (v.2.1)).bind fun y5 =>
    (iter gFU (f_X6_spreadChances_b38  (q4) (v.1) (v.2.1) (y5)) (((10 : Int32)), v.2.2)).bind fun z20 =>
    some (.inl (((v.1 * (10 : Int32))), ((v.2.1 + (1 : Int32))), (z20)))
  )
set_option maxRecDepth 100000 in
set_option maxHeartbeats 4000000 in
theorem k_X6_spreadChances_b19 {l : Launch} {D : va_G} {cy : Nat → ClassId} {base : Nat} {X : gX} {Z : gZ} (q4 : Nat) (hq4 : isPl q4 = true) (v : Int32 × Int32 × Mem) (r : (Int32 × Int32 × Mem) ⊕ ((Int32 × Mem))) (hS : f_X6_spreadChances_b19 q4 v = some r) (hin : ∀ v2, r = .inl v2 → G l D cy base RX6 cX6_spreadChances 7 (some .int) (gRm 1) X Z 19 [(0, .ref (base + 168)), (1, .ref (base + q4)), (2, .int (v2.1)), (3, .int (v2.2.1))] [] 0 0 gNN (gH cy base v2.2.2)) (hout0 : ∀ x, r = .inr x → G l D cy base RX6 cX6_spreadChances 7 (some .int) (gRm 1) X Z 117 [(2, .int (x.1))] [] 0 0 gNN (gH cy base x.2)) : G l D cy base RX6 cX6_spreadChances 7 (some .int) (gRm 1) X Z 19 [(0, .ref (base + 168)), (1, .ref (base + q4)), (2, .int (v.1)), (3, .int (v.2.1))] [] 0 0 gNN (gH cy base v.2.2) := by
  unfold f_X6_spreadChances_b19 at hS
  refine g_iload_n (j := 3) (x := v.2.1) dX6_spreadChances_19 rfl rfl ?_
  refine g_aload_n (j := 1) (x := base + q4) dX6_spreadChances_20 rfl rfl ?_
  refine gs_getI lk_RX6_29 (tkPl_0 hq4 _) rfl dX6_spreadChances_21 ?_
  refine g_icmp_ge 117 dX6_spreadChances_24 (by decide) (fun hc => ?_) (fun hc => ?_)
  · replace hS := (if_pos hc).symm.trans hS
    refine g_sub (lvx := [(2, .int (v.1))]) [2] rfl ?_
    obtain rfl := Option.some.inj hS
    exact hout0 (((v.1), (v.2.2))) rfl
  · replace hS := (if_neg hc).symm.trans hS
    refine g_aload_n (j := 1) (x := base + q4) dX6_spreadChances_27 rfl rfl ?_
    refine g_iload_n (j := 3) (x := v.2.1) dX6_spreadChances_28 rfl rfl ?_
    obtain ⟨y5, ey5, hS⟩ := ob hS
    refine gs_callVi (As := [.int (v.2.1)]) (st := []) (kr := q4) (k_X3_halvesOf v.2.2 (q4) (v.2.1) hq4 ey5) cl_RX6_38 sv_X3_halvesOf ckk_X3_halvesOf (tkPl_0 hq4 _) ⟨by decide, by decide⟩ (Nat.le_of_ble_eq_true rfl) ⟨Nat.zero_le _, Nat.zero_le _⟩ rfl dX6_spreadChances_29 rfl ?_
    refine g_istore (lvx := [(4, .int (y5)), (0, .ref (base + 168)), (1, .ref (base + q4)), (2, .int (v.1)), (3, .int (v.2.1))]) dX6_spreadChances_32 (by decide) rfl ?_
    refine g_bipush (v := 10) dX6_spreadChances_34 (by decide) ?_
    refine g_istore (lvx := [(5, .int ((10 : Int32))), (4, .int (y5)), (0, .ref (base + 168)), (1, .ref (base + q4)), (2, .int (v.1)), (3, .int (v.2.1))]) dX6_spreadChances_36 (by decide) rfl ?_
    obtain ⟨z20, ez20, hS⟩ := ob hS
    refine g_sub (lvx := [(0, .ref (base + 168)), (1, .ref (base + q4)), (2, .int (v.1)), (3, .int (v.2.1)), (4, .int (y5)), (5, .int ((10 : Int32)))]) [2, 3, 4, 5, 1, 0] rfl ?_
    refine iter_ind (fun vv => G l D cy base RX6 cX6_spreadChances 7 (some .int) (gRm 1) X Z 38 [(0, .ref (base + 168)), (1, .ref (base + q4)), (2, .int (v.1)), (3, .int (v.2.1)), (4, .int (y5)), (5, .int (vv.1))] [] 0 0 gNN (gH cy base vv.2)) (fun xx => G l D cy base RX6 cX6_spreadChances 7 (some .int) (gRm 1) X Z 106 [(0, .ref (base + 168)), (1, .ref (base + q4)), (2, .int (v.1)), (3, .int (v.2.1))] [] 0 0 gNN (gH cy base xx)) (fun vv rr hh hin hout => k_X6_spreadChances_b38  (q4) (v.1) (v.2.1) (y5) hq4 vv rr hh hin (fun xx ee => hout xx ee)) gFU (((10 : Int32)), v.2.2) z20 ez20 ?_
    show G l D cy base RX6 cX6_spreadChances 7 (some .int) (gRm 1) X Z 106 [(0, .ref (base + 168)), (1, .ref (base + q4)), (2, .int (v.1)), (3, .int (v.2.1))] [] 0 0 gNN (gH cy base z20)
    refine g_iload_n (j := 2) (x := v.1) dX6_spreadChances_106 rfl rfl ?_
    refine g_bipush (v := 10) dX6_spreadChances_107 (by decide) ?_
    refine g_imul dX6_spreadChances_109 ?_
    refine g_istore_n (lvx := [(2, .int ((v.1 * (10 : Int32)))), (0, .ref (base + 168)), (1, .ref (base + q4)), (3, .int (v.2.1))]) dX6_spreadChances_110 rfl (by decide) rfl ?_
    refine g_iinc (j := 3) (x := v.2.1) (v := (v.2.1 + (1 : Int32))) (lvx := [(3, .int ((v.2.1 + (1 : Int32)))), (2, .int ((v.1 * (10 : Int32)))), (0, .ref (base + 168)), (1, .ref (base + q4))]) dX6_spreadChances_111 rfl rfl (by decide) rfl ?_
    refine g_goto 19 dX6_spreadChances_114 (by decide) ?_
    refine g_sub (lvx := [(0, .ref (base + 168)), (1, .ref (base + q4)), (2, .int ((v.1 * (10 : Int32)))), (3, .int ((v.2.1 + (1 : Int32))))]) [2, 3, 1, 0] rfl ?_
    obtain rfl := Option.some.inj hS
    exact hin ((((v.1 * (10 : Int32))), ((v.2.1 + (1 : Int32))), (z20))) rfl
def f_X6_spreadChances (μ : Mem) (q1a : Nat) : Option (Int32 × Mem) :=
  (f_J7_fill_53178 μ (169) 11 ((0 : Int32))).bind fun m2 =>
  (stA m2 169 11 ((0 : Int32)) ((1 : Int32))).bind fun m3 =>
  (iter gFU (f_X6_spreadChances_b19  (q1a)) (((1 : Int32)), ((0 : Int32)), m3)).bind fun z21 =>
  some (z21.1, z21.2)
set_option maxRecDepth 100000 in
set_option maxHeartbeats 4000000 in
theorem k_X6_spreadChances {l : Launch} {D : va_G} {cy : Nat → ClassId} {base : Nat} (μ : Mem) (q1a : Nat) (hq1a : isPl q1a = true) {out : Int32 × Mem} (hS : f_X6_spreadChances μ q1a = some out) : gC l D cy base yX6_spreadChances cX6_spreadChances 7 (some .int) 1 [.ref (base + 168), .ref (base + q1a)] μ (some (.int out.1)) out.2 := by
  refine gC_of (own := RX6) (lv0 := [(0, .ref (base + 168)), (1, .ref (base + q1a))]) rfl (by decide) (Nat.le_of_ble_eq_true rfl) rfl ?_
  unfold f_X6_spreadChances at hS
  refine g_aload_n (j := 0) (x := base + 168) dX6_spreadChances_0 rfl rfl ?_
  refine gs_getR (r := 169) lk_RX6_11 (tk_168 _) rfl dX6_spreadChances_1 ?_
  refine g_iconst (v := 0) dX6_spreadChances_4 (by decide) ?_
  obtain ⟨m2, em2, hS⟩ := ob hS
  refine gs_callSv (As := [.ref (base + 169), .int ((0 : Int32))]) (st := []) (k_J7_fill_53178 μ (169) 11 ((0 : Int32)) tk_169 em2) cl_RX6_53 sv_J7_fill_53178 ⟨by decide, by decide⟩ (Nat.le_of_ble_eq_true rfl) ⟨Nat.zero_le _, Nat.zero_le _⟩ rfl dX6_spreadChances_5 rfl ?_
  refine g_aload_n (j := 0) (x := base + 168) dX6_spreadChances_8 rfl rfl ?_
  refine gs_getR (r := 169) lk_RX6_11 (tk_168 _) rfl dX6_spreadChances_9 ?_
  refine g_iconst (v := 0) dX6_spreadChances_12 (by decide) ?_
  refine g_iconst (v := 1) dX6_spreadChances_13 (by decide) ?_
  obtain ⟨m3, em3, hS⟩ := ob hS
  refine gs_iast (tk_169 _) dX6_spreadChances_14 em3 ?_
  refine g_iconst (v := 1) dX6_spreadChances_15 (by decide) ?_
  refine g_istore_n (lvx := [(2, .int ((1 : Int32))), (0, .ref (base + 168)), (1, .ref (base + q1a))]) dX6_spreadChances_16 rfl (by decide) rfl ?_
  refine g_iconst (v := 0) dX6_spreadChances_17 (by decide) ?_
  refine g_istore_n (lvx := [(3, .int ((0 : Int32))), (2, .int ((1 : Int32))), (0, .ref (base + 168)), (1, .ref (base + q1a))]) dX6_spreadChances_18 rfl (by decide) rfl ?_
  obtain ⟨z21, ez21, hS⟩ := ob hS
  refine g_sub (lvx := [(0, .ref (base + 168)), (1, .ref (base + q1a)), (2, .int ((1 : Int32))), (3, .int ((0 : Int32)))]) [2, 3, 1, 0] rfl ?_
  refine iter_ind (fun vv => G l D cy base RX6 cX6_spreadChances 7 (some .int) (gRm 1) (gXm yX6_spreadChances) (gZm D cy base 0 0 (some (.int out.1)) gNN (gH cy base out.2)) 19 [(0, .ref (base + 168)), (1, .ref (base + q1a)), (2, .int (vv.1)), (3, .int (vv.2.1))] [] 0 0 gNN (gH cy base vv.2.2)) (fun xx => G l D cy base RX6 cX6_spreadChances 7 (some .int) (gRm 1) (gXm yX6_spreadChances) (gZm D cy base 0 0 (some (.int out.1)) gNN (gH cy base out.2)) 117 [(2, .int (xx.1))] [] 0 0 gNN (gH cy base xx.2)) (fun vv rr hh hin hout => k_X6_spreadChances_b19  (q1a) hq1a vv rr hh hin (fun xx ee => hout xx ee)) gFU (((1 : Int32)), ((0 : Int32)), m3) z21 ez21 ?_
  show G l D cy base RX6 cX6_spreadChances 7 (some .int) (gRm 1) (gXm yX6_spreadChances) (gZm D cy base 0 0 (some (.int out.1)) gNN (gH cy base out.2)) 117 [(2, .int (z21.1))] [] 0 0 gNN (gH cy base z21.2)
  refine g_iload_n (j := 0) (x := z21.1) dX6_spreadChances_117 rfl rfl ?_
  obtain rfl := Option.some.inj hS
  exact g_iret rfl dX6_spreadChances_118
def f_X6_commonDivisor_b2 (m1 : Mem)  (v : Int32 × Int32 × Int32) : Option ((Int32 × Int32 × Int32) ⊕ ((Int32))) :=
  if (64 : Int32) ≤ v.2.2 then (
    some (.inr (v.1))
  ) else (
    if v.2.1 = (0 : Int32) then (
      some (.inr (v.1))
    ) else (
      (rmI (v.1) (v.2.1)).bind fun y2 =>
      some (.inl ((v.2.1), (y2), ((v.2.2 + (1 : Int32)))))
    )
  )
set_option maxRecDepth 100000 in
set_option maxHeartbeats 4000000 in
theorem k_X6_commonDivisor_b2 {l : Launch} {D : va_G} {cy : Nat → ClassId} {base : Nat} {X : gX} {Z : gZ} (m1 : Mem)   (v : Int32 × Int32 × Int32) (r : (Int32 × Int32 × Int32) ⊕ ((Int32))) (hS : f_X6_commonDivisor_b2 m1  v = some r) (hin : ∀ v2, r = .inl v2 → G l D cy base RX6 cX6_commonDivisor 4 (some .int) (gRm 0) X Z 2 [(0, .int (v2.1)), (1, .int (v2.2.1)), (2, .int (v2.2.2))] [] 0 0 gNN (gH cy base m1)) (hout0 : ∀ x, r = .inr x → G l D cy base RX6 cX6_commonDivisor 4 (some .int) (gRm 0) X Z 26 [(0, .int (x))] [] 0 0 gNN (gH cy base m1)) : G l D cy base RX6 cX6_commonDivisor 4 (some .int) (gRm 0) X Z 2 [(0, .int (v.1)), (1, .int (v.2.1)), (2, .int (v.2.2))] [] 0 0 gNN (gH cy base m1) := by
  unfold f_X6_commonDivisor_b2 at hS
  refine g_iload_n (j := 2) (x := v.2.2) dX6_commonDivisor_2 rfl rfl ?_
  refine g_bipush (v := 64) dX6_commonDivisor_3 (by decide) ?_
  refine g_icmp_ge 26 dX6_commonDivisor_5 (by decide) (fun hc => ?_) (fun hc => ?_)
  · replace hS := (if_pos hc).symm.trans hS
    refine g_sub (lvx := [(0, .int (v.1))]) [0] rfl ?_
    obtain rfl := Option.some.inj hS
    exact hout0 ((v.1)) rfl
  · replace hS := (if_neg hc).symm.trans hS
    refine g_iload_n (j := 1) (x := v.2.1) dX6_commonDivisor_8 rfl rfl ?_
    refine g_if_eq 26 dX6_commonDivisor_9 (by decide) (fun hc => ?_) (fun hc => ?_)
    · replace hS := (if_pos hc).symm.trans hS
      refine g_sub (lvx := [(0, .int (v.1))]) [0] rfl ?_
      obtain rfl := Option.some.inj hS
      exact hout0 ((v.1)) rfl
    · replace hS := (if_neg hc).symm.trans hS
      refine g_iload_n (j := 0) (x := v.1) dX6_commonDivisor_12 rfl rfl ?_
      refine g_iload_n (j := 1) (x := v.2.1) dX6_commonDivisor_13 rfl rfl ?_
      obtain ⟨y2, ey2, hS⟩ := ob hS
      refine gs_irem dX6_commonDivisor_14 ey2 ?_
      refine g_istore_n (lvx := [(3, .int (y2)), (0, .int (v.1)), (1, .int (v.2.1)), (2, .int (v.2.2))]) dX6_commonDivisor_15 rfl (by decide) rfl ?_
      refine g_iload_n (j := 2) (x := v.2.1) dX6_commonDivisor_16 rfl rfl ?_
      refine g_istore_n (lvx := [(0, .int (v.2.1)), (3, .int (y2)), (1, .int (v.2.1)), (2, .int (v.2.2))]) dX6_commonDivisor_17 rfl (by decide) rfl ?_
      refine g_iload_n (j := 1) (x := y2) dX6_commonDivisor_18 rfl rfl ?_
      refine g_istore_n (lvx := [(1, .int (y2)), (0, .int (v.2.1)), (3, .int (y2)), (2, .int (v.2.2))]) dX6_commonDivisor_19 rfl (by decide) rfl ?_
      refine g_iinc (j := 3) (x := v.2.2) (v := (v.2.2 + (1 : Int32))) (lvx := [(2, .int ((v.2.2 + (1 : Int32)))), (1, .int (y2)), (0, .int (v.2.1)), (3, .int (y2))]) dX6_commonDivisor_20 rfl rfl (by decide) rfl ?_
      refine g_goto 2 dX6_commonDivisor_23 (by decide) ?_
      refine g_sub (lvx := [(0, .int (v.2.1)), (1, .int (y2)), (2, .int ((v.2.2 + (1 : Int32))))]) [2, 1, 0] rfl ?_
      obtain rfl := Option.some.inj hS
      exact hin (((v.2.1), (y2), ((v.2.2 + (1 : Int32))))) rfl
def f_X6_commonDivisor (μ : Mem) (a0 : Int32) (a1 : Int32) : Option (Int32) :=
  (iter gFU (f_X6_commonDivisor_b2 μ ) ((a0), (a1), ((0 : Int32)))).bind fun z3 =>
  some (z3)
set_option maxRecDepth 100000 in
set_option maxHeartbeats 4000000 in
theorem k_X6_commonDivisor {l : Launch} {D : va_G} {cy : Nat → ClassId} {base : Nat} (μ : Mem) (a0 : Int32) (a1 : Int32)  {out : Int32} (hS : f_X6_commonDivisor μ a0 a1 = some out) : gC l D cy base yX6_commonDivisor cX6_commonDivisor 4 (some .int) 0 [.int (a0), .int (a1)] μ (some (.int out)) μ := by
  refine gC_of (own := RX6) (lv0 := [(0, .int (a0)), (1, .int (a1))]) rfl (by decide) (Nat.le_of_ble_eq_true rfl) rfl ?_
  unfold f_X6_commonDivisor at hS
  refine g_iconst (v := 0) dX6_commonDivisor_0 (by decide) ?_
  refine g_istore_n (lvx := [(2, .int ((0 : Int32))), (0, .int (a0)), (1, .int (a1))]) dX6_commonDivisor_1 rfl (by decide) rfl ?_
  obtain ⟨z3, ez3, hS⟩ := ob hS
  refine g_sub (lvx := [(0, .int (a0)), (1, .int (a1)), (2, .int ((0 : Int32)))]) [1, 2, 0] rfl ?_
  refine iter_ind (fun vv => G l D cy base RX6 cX6_commonDivisor 4 (some .int) (gRm 0) (gXm yX6_commonDivisor) (gZm D cy base 0 0 (some (.int out)) gNN (gH cy base μ)) 2 [(0, .int (vv.1)), (1, .int (vv.2.1)), (2, .int (vv.2.2))] [] 0 0 gNN (gH cy base μ)) (fun xx => G l D cy base RX6 cX6_commonDivisor 4 (some .int) (gRm 0) (gXm yX6_commonDivisor) (gZm D cy base 0 0 (some (.int out)) gNN (gH cy base μ)) 26 [(0, .int (xx))] [] 0 0 gNN (gH cy base μ)) (fun vv rr hh hin hout => k_X6_commonDivisor_b2 μ   vv rr hh hin (fun xx ee => hout xx ee)) gFU ((a0), (a1), ((0 : Int32))) z3 ez3 ?_
  show G l D cy base RX6 cX6_commonDivisor 4 (some .int) (gRm 0) (gXm yX6_commonDivisor) (gZm D cy base 0 0 (some (.int out)) gNN (gH cy base μ)) 26 [(0, .int (z3))] [] 0 0 gNN (gH cy base μ)
  refine g_iload_n (j := 0) (x := z3) dX6_commonDivisor_26 rfl rfl ?_
  obtain rfl := Option.some.inj hS
  exact g_iret rfl dX6_commonDivisor_27
def f_X6_oddsOf_b13 (m4 : Mem) (x2 : Int32) (x3 : Int32) (v : Int32 × Int32) : Option ((Int32 × Int32) ⊕ ((Int32))) :=
  if (10 : Int32) < v.2 then (
    some (.inr (v.1))
  ) else (
    (ldA m4 169 11 (v.2)).bind fun y5 =>
    some (.inl (((v.1 + y5)), ((v.2 + (1 : Int32)))))
  )
set_option maxRecDepth 100000 in
set_option maxHeartbeats 4000000 in
theorem k_X6_oddsOf_b13 {l : Launch} {D : va_G} {cy : Nat → ClassId} {base : Nat} {X : gX} {Z : gZ} (m4 : Mem) (x2 : Int32) (x3 : Int32)  (v : Int32 × Int32) (r : (Int32 × Int32) ⊕ ((Int32))) (hS : f_X6_oddsOf_b13 m4 x2 x3 v = some r) (hin : ∀ v2, r = .inl v2 → G l D cy base RX6 cX6_oddsOf 7 (some .int) (gRm 2) X Z 13 [(0, .ref (base + 168)), (3, .int (x2)), (4, .int (x3)), (5, .int (v2.1)), (6, .int (v2.2))] [] 0 0 gNN (gH cy base m4)) (hout0 : ∀ x, r = .inr x → G l D cy base RX6 cX6_oddsOf 7 (some .int) (gRm 2) X Z 38 [(3, .int (x2)), (4, .int (x3)), (5, .int (x))] [] 0 0 gNN (gH cy base m4)) : G l D cy base RX6 cX6_oddsOf 7 (some .int) (gRm 2) X Z 13 [(0, .ref (base + 168)), (3, .int (x2)), (4, .int (x3)), (5, .int (v.1)), (6, .int (v.2))] [] 0 0 gNN (gH cy base m4) := by
  unfold f_X6_oddsOf_b13 at hS
  refine g_iload (j := 4) (x := v.2) dX6_oddsOf_13 rfl ?_
  refine g_bipush (v := 10) dX6_oddsOf_15 (by decide) ?_
  refine g_icmp_gt 38 dX6_oddsOf_17 (by decide) (fun hc => ?_) (fun hc => ?_)
  · replace hS := (if_pos hc).symm.trans hS
    refine g_sub (lvx := [(3, .int (x2)), (4, .int (x3)), (5, .int (v.1))]) [1, 2, 3] rfl ?_
    obtain rfl := Option.some.inj hS
    exact hout0 ((v.1)) rfl
  · replace hS := (if_neg hc).symm.trans hS
    refine g_iload (j := 3) (x := v.1) dX6_oddsOf_20 rfl ?_
    refine g_aload_n (j := 0) (x := base + 168) dX6_oddsOf_22 rfl rfl ?_
    refine gs_getR (r := 169) lk_RX6_11 (tk_168 _) rfl dX6_oddsOf_23 ?_
    refine g_iload (j := 4) (x := v.2) dX6_oddsOf_26 rfl ?_
    obtain ⟨y5, ey5, hS⟩ := ob hS
    refine gs_iald (tk_169 _) dX6_oddsOf_28 ey5 ?_
    refine g_iadd dX6_oddsOf_29 ?_
    refine g_istore (lvx := [(5, .int ((v.1 + y5))), (0, .ref (base + 168)), (3, .int (x2)), (4, .int (x3)), (6, .int (v.2))]) dX6_oddsOf_30 (by decide) rfl ?_
    refine g_iinc (j := 4) (x := v.2) (v := (v.2 + (1 : Int32))) (lvx := [(6, .int ((v.2 + (1 : Int32)))), (5, .int ((v.1 + y5))), (0, .ref (base + 168)), (3, .int (x2)), (4, .int (x3))]) dX6_oddsOf_32 rfl rfl (by decide) rfl ?_
    refine g_goto 13 dX6_oddsOf_35 (by decide) ?_
    refine g_sub (lvx := [(0, .ref (base + 168)), (3, .int (x2)), (4, .int (x3)), (5, .int ((v.1 + y5))), (6, .int ((v.2 + (1 : Int32))))]) [2, 3, 4, 1, 0] rfl ?_
    obtain rfl := Option.some.inj hS
    exact hin ((((v.1 + y5)), ((v.2 + (1 : Int32))))) rfl
def f_X6_oddsOf (μ : Mem) (q1a : Nat) (a2 : Int32) (a3 : Int32) : Option (Int32 × Mem) :=
  (f_X6_spreadChances μ (q1a)).bind fun z1 =>
  (iter gFU (f_X6_oddsOf_b13 z1.2 (a3) (z1.1)) (((0 : Int32)), (a2))).bind fun z6 =>
  (f_X6_commonDivisor z1.2 (z1.1) (z6)).bind fun y7 =>
  if (0 : Int32) < y7 then (
    if a3 = (0 : Int32) then (
      (dvI (z1.1) (y7)).bind fun y8 =>
      some (y8, z1.2)
    ) else (
      (dvI (z6) (y7)).bind fun y9 =>
      some (y9, z1.2)
    )
  ) else (
    some ((-9 : Int32), z1.2)
  )
set_option maxRecDepth 100000 in
set_option maxHeartbeats 4000000 in
theorem k_X6_oddsOf {l : Launch} {D : va_G} {cy : Nat → ClassId} {base : Nat} (μ : Mem) (q1a : Nat) (a2 : Int32) (a3 : Int32) (hq1a : isPl q1a = true) {out : Int32 × Mem} (hS : f_X6_oddsOf μ q1a a2 a3 = some out) : gC l D cy base yX6_oddsOf cX6_oddsOf 7 (some .int) 2 [.ref (base + 168), .ref (base + q1a), .int (a2), .int (a3)] μ (some (.int out.1)) out.2 := by
  refine gC_of (own := RX6) (lv0 := [(0, .ref (base + 168)), (1, .ref (base + q1a)), (2, .int (a2)), (3, .int (a3))]) rfl (by decide) (Nat.le_of_ble_eq_true rfl) rfl ?_
  unfold f_X6_oddsOf at hS
  refine g_aload_n (j := 0) (x := base + 168) dX6_oddsOf_0 rfl rfl ?_
  refine g_aload_n (j := 1) (x := base + q1a) dX6_oddsOf_1 rfl rfl ?_
  obtain ⟨z1, ez1, hS⟩ := ob hS
  refine gs_callVi (As := [.ref (base + q1a)]) (st := []) (kr := 168) (k_X6_spreadChances μ (q1a) hq1a ez1) cl_RX6_45 sv_X6_spreadChances ckk_X6_spreadChances (tk_168 _) ⟨by decide, by decide⟩ (Nat.le_of_ble_eq_true rfl) ⟨Nat.zero_le _, Nat.zero_le _⟩ rfl dX6_oddsOf_2 rfl ?_
  refine g_istore (lvx := [(4, .int (z1.1)), (0, .ref (base + 168)), (1, .ref (base + q1a)), (2, .int (a2)), (3, .int (a3))]) dX6_oddsOf_5 (by decide) rfl ?_
  refine g_iconst (v := 0) dX6_oddsOf_7 (by decide) ?_
  refine g_istore (lvx := [(5, .int ((0 : Int32))), (4, .int (z1.1)), (0, .ref (base + 168)), (1, .ref (base + q1a)), (2, .int (a2)), (3, .int (a3))]) dX6_oddsOf_8 (by decide) rfl ?_
  refine g_iload_n (j := 4) (x := a2) dX6_oddsOf_10 rfl rfl ?_
  refine g_istore (lvx := [(6, .int (a2)), (5, .int ((0 : Int32))), (4, .int (z1.1)), (0, .ref (base + 168)), (1, .ref (base + q1a)), (2, .int (a2)), (3, .int (a3))]) dX6_oddsOf_11 (by decide) rfl ?_
  obtain ⟨z6, ez6, hS⟩ := ob hS
  refine g_sub (lvx := [(0, .ref (base + 168)), (3, .int (a3)), (4, .int (z1.1)), (5, .int ((0 : Int32))), (6, .int (a2))]) [3, 6, 2, 1, 0] rfl ?_
  refine iter_ind (fun vv => G l D cy base RX6 cX6_oddsOf 7 (some .int) (gRm 2) (gXm yX6_oddsOf) (gZm D cy base 0 0 (some (.int out.1)) gNN (gH cy base out.2)) 13 [(0, .ref (base + 168)), (3, .int (a3)), (4, .int (z1.1)), (5, .int (vv.1)), (6, .int (vv.2))] [] 0 0 gNN (gH cy base z1.2)) (fun xx => G l D cy base RX6 cX6_oddsOf 7 (some .int) (gRm 2) (gXm yX6_oddsOf) (gZm D cy base 0 0 (some (.int out.1)) gNN (gH cy base out.2)) 38 [(3, .int (a3)), (4, .int (z1.1)), (5, .int (xx))] [] 0 0 gNN (gH cy base z1.2)) (fun vv rr hh hin hout => k_X6_oddsOf_b13 z1.2 (a3) (z1.1)  vv rr hh hin (fun xx ee => hout xx ee)) gFU (((0 : Int32)), (a2)) z6 ez6 ?_
  show G l D cy base RX6 cX6_oddsOf 7 (some .int) (gRm 2) (gXm yX6_oddsOf) (gZm D cy base 0 0 (some (.int out.1)) gNN (gH cy base out.2)) 38 [(3, .int (a3)), (4, .int (z1.1)), (5, .int (z6))] [] 0 0 gNN (gH cy base z1.2)
  refine g_iload (j := 1) (x := z1.1) dX6_oddsOf_38 rfl ?_
  refine g_iload (j := 2) (x := z6) dX6_oddsOf_40 rfl ?_
  obtain ⟨y7, ey7, hS⟩ := ob hS
  refine gs_callSi (As := [.int (z1.1), .int (z6)]) (st := []) (k_X6_commonDivisor z1.2 (z1.1) (z6)  ey7) cl_RX6_49 sv_X6_commonDivisor ⟨by decide, by decide⟩ (Nat.le_of_ble_eq_true rfl) ⟨Nat.zero_le _, Nat.zero_le _⟩ rfl dX6_oddsOf_42 rfl ?_
  refine g_istore (lvx := [(6, .int (y7)), (3, .int (a3)), (4, .int (z1.1)), (5, .int (z6))]) dX6_oddsOf_45 (by decide) rfl ?_
  refine g_iload (j := 0) (x := y7) dX6_oddsOf_47 rfl ?_
  refine g_if_gt 55 dX6_oddsOf_49 (by decide) (fun hc => ?_) (fun hc => ?_)
  · replace hS := (if_pos hc).symm.trans hS
    refine g_iload_n (j := 1) (x := a3) dX6_oddsOf_55 rfl rfl ?_
    refine g_if_eq 64 dX6_oddsOf_56 (by decide) (fun hc => ?_) (fun hc => ?_)
    · replace hS := (if_pos hc).symm.trans hS
      refine g_iload (j := 2) (x := z1.1) dX6_oddsOf_64 rfl ?_
      refine g_iload (j := 0) (x := y7) dX6_oddsOf_66 rfl ?_
      obtain ⟨y8, ey8, hS⟩ := ob hS
      refine gs_idiv dX6_oddsOf_68 ey8 ?_
      obtain rfl := Option.some.inj hS
      exact g_iret rfl dX6_oddsOf_69
    · replace hS := (if_neg hc).symm.trans hS
      refine g_iload (j := 3) (x := z6) dX6_oddsOf_59 rfl ?_
      refine g_goto 66 dX6_oddsOf_61 (by decide) ?_
      refine g_iload (j := 0) (x := y7) dX6_oddsOf_66 rfl ?_
      obtain ⟨y9, ey9, hS⟩ := ob hS
      refine gs_idiv dX6_oddsOf_68 ey9 ?_
      obtain rfl := Option.some.inj hS
      exact g_iret rfl dX6_oddsOf_69
  · replace hS := (if_neg hc).symm.trans hS
    refine g_bipush (v := -9) dX6_oddsOf_52 (by decide) ?_
    obtain rfl := Option.some.inj hS
    exact g_iret rfl dX6_oddsOf_54
def f_X7_weight (μ : Mem) (q0a : Nat) (q1a : Nat) (a2 : Int32) : Option (Int32) :=
  (ldA μ (q1a + 1) 7 (a2)).bind fun y1 =>
  (ldA μ (q0a + 3) 7 (a2)).bind fun y2 =>
  some (((y1 * (1000 : Int32)) + y2))
set_option maxRecDepth 100000 in
set_option maxHeartbeats 4000000 in
theorem k_X7_weight {l : Launch} {D : va_G} {cy : Nat → ClassId} {base : Nat} (μ : Mem) (q0a : Nat) (q1a : Nat) (a2 : Int32) (hq0a : isPl q0a = true) (hq1a : isMo q1a = true) {out : Int32} (hS : f_X7_weight μ q0a q1a a2 = some out) : gC l D cy base yX7_weight cX7_weight 3 (some .int) 0 [.ref (base + q0a), .ref (base + q1a), .int (a2)] μ (some (.int out)) μ := by
  refine gC_of (own := RX7) (lv0 := [(0, .ref (base + q0a)), (1, .ref (base + q1a)), (2, .int (a2))]) rfl (by decide) (Nat.le_of_ble_eq_true rfl) rfl ?_
  unfold f_X7_weight at hS
  refine g_aload_n (j := 1) (x := base + q1a) dX7_weight_0 rfl rfl ?_
  refine gs_getR (r := (q1a + 1)) lk_RX7_42 (tkMo_0 hq1a _) rfl dX7_weight_1 ?_
  refine g_iload_n (j := 2) (x := a2) dX7_weight_4 rfl rfl ?_
  obtain ⟨y1, ey1, hS⟩ := ob hS
  refine gs_iald (tkMo_1 hq1a _) dX7_weight_5 ey1 ?_
  refine g_sipush (v := 1000) dX7_weight_6 (by decide) ?_
  refine g_imul dX7_weight_9 ?_
  refine g_aload_n (j := 0) (x := base + q0a) dX7_weight_10 rfl rfl ?_
  refine gs_getR (r := (q0a + 3)) lk_RX7_47 (tkPl_0 hq0a _) rfl dX7_weight_11 ?_
  refine g_iload_n (j := 2) (x := a2) dX7_weight_14 rfl rfl ?_
  obtain ⟨y2, ey2, hS⟩ := ob hS
  refine gs_iald (tkPl_3 hq0a _) dX7_weight_15 ey2 ?_
  refine g_iadd dX7_weight_16 ?_
  obtain rfl := Option.some.inj hS
  exact g_iret rfl dX7_weight_17
def f_X7_goBy (μ : Mem) (a1 : Int32) (a2 : Int32) (a3 : Int32) : Option (Mem) :=
  (ldA μ 144 7 (a2)).bind fun y1 =>
  if y1 = (1000000000 : Int32) then (
    some μ
  ) else (
    (ldA μ 144 7 (a2)).bind fun y2 =>
    (ldA μ 144 7 (a1)).bind fun y3 =>
    if y3 ≤ (y2 + a3) then (
      some μ
    ) else (
      (ldA μ 144 7 (a2)).bind fun y4 =>
      (stA μ 144 7 (a1) ((y4 + a3))).bind fun m5 =>
      some m5
    )
  )
set_option maxRecDepth 100000 in
set_option maxHeartbeats 4000000 in
theorem k_X7_goBy {l : Launch} {D : va_G} {cy : Nat → ClassId} {base : Nat} (μ : Mem) (a1 : Int32) (a2 : Int32) (a3 : Int32)  {out : Mem} (hS : f_X7_goBy μ a1 a2 a3 = some out) : gC l D cy base yX7_goBy cX7_goBy 4 none 0 [.ref (base + 143), .int (a1), .int (a2), .int (a3)] μ none out := by
  refine gC_of (own := RX7) (lv0 := [(0, .ref (base + 143)), (1, .int (a1)), (2, .int (a2)), (3, .int (a3))]) rfl (by decide) (Nat.le_of_ble_eq_true rfl) rfl ?_
  unfold f_X7_goBy at hS
  refine g_aload_n (j := 0) (x := base + 143) dX7_goBy_0 rfl rfl ?_
  refine gs_getR (r := 144) lk_RX7_9 (tk_143 _) rfl dX7_goBy_1 ?_
  refine g_iload_n (j := 2) (x := a2) dX7_goBy_4 rfl rfl ?_
  obtain ⟨y1, ey1, hS⟩ := ob hS
  refine gs_iald (tk_144 _) dX7_goBy_5 ey1 ?_
  refine g_ldc cs_RX7_15 dX7_goBy_6 ?_
  refine g_icmp_eq 42 dX7_goBy_8 (by decide) (fun hc => ?_) (fun hc => ?_)
  · replace hS := (if_pos hc).symm.trans hS
    obtain rfl := Option.some.inj hS
    exact g_vret rfl dX7_goBy_42
  · replace hS := (if_neg hc).symm.trans hS
    refine g_aload_n (j := 0) (x := base + 143) dX7_goBy_11 rfl rfl ?_
    refine gs_getR (r := 144) lk_RX7_9 (tk_143 _) rfl dX7_goBy_12 ?_
    refine g_iload_n (j := 2) (x := a2) dX7_goBy_15 rfl rfl ?_
    obtain ⟨y2, ey2, hS⟩ := ob hS
    refine gs_iald (tk_144 _) dX7_goBy_16 ey2 ?_
    refine g_iload_n (j := 3) (x := a3) dX7_goBy_17 rfl rfl ?_
    refine g_iadd dX7_goBy_18 ?_
    refine g_aload_n (j := 0) (x := base + 143) dX7_goBy_19 rfl rfl ?_
    refine gs_getR (r := 144) lk_RX7_9 (tk_143 _) rfl dX7_goBy_20 ?_
    refine g_iload_n (j := 1) (x := a1) dX7_goBy_23 rfl rfl ?_
    obtain ⟨y3, ey3, hS⟩ := ob hS
    refine gs_iald (tk_144 _) dX7_goBy_24 ey3 ?_
    refine g_icmp_ge 42 dX7_goBy_25 (by decide) (fun hc => ?_) (fun hc => ?_)
    · replace hS := (if_pos hc).symm.trans hS
      obtain rfl := Option.some.inj hS
      exact g_vret rfl dX7_goBy_42
    · replace hS := (if_neg hc).symm.trans hS
      refine g_aload_n (j := 0) (x := base + 143) dX7_goBy_28 rfl rfl ?_
      refine gs_getR (r := 144) lk_RX7_9 (tk_143 _) rfl dX7_goBy_29 ?_
      refine g_iload_n (j := 1) (x := a1) dX7_goBy_32 rfl rfl ?_
      refine g_aload_n (j := 0) (x := base + 143) dX7_goBy_33 rfl rfl ?_
      refine gs_getR (r := 144) lk_RX7_9 (tk_143 _) rfl dX7_goBy_34 ?_
      refine g_iload_n (j := 2) (x := a2) dX7_goBy_37 rfl rfl ?_
      obtain ⟨y4, ey4, hS⟩ := ob hS
      refine gs_iald (tk_144 _) dX7_goBy_38 ey4 ?_
      refine g_iload_n (j := 3) (x := a3) dX7_goBy_39 rfl rfl ?_
      refine g_iadd dX7_goBy_40 ?_
      obtain ⟨m5, em5, hS⟩ := ob hS
      refine gs_iast (tk_144 _) dX7_goBy_41 em5 ?_
      obtain rfl := Option.some.inj hS
      exact g_vret rfl dX7_goBy_42
def f_X7_measure_b29 (q7 : Nat) (q8 : Nat) (x9 : Int32) (x10 : Int32) (v : Int32 × Mem) : Option ((Int32 × Mem) ⊕ ((Mem))) :=
  if (gi v.2 q7 7) ≤ v.1 then (
    some (.inr (v.2))
  ) else (
    if v.1 = x9 then (
      some (.inl (((v.1 + (1 : Int32))), (v.2)))
    ) else (
      (ldA v.2 (q7 + 1) 7 (v.1)).bind fun y11 =>
      (ldA v.2 (q7 + 2) 7 (v.1)).bind fun y12 =>
      (f_X7_weight v.2 (q7) (q8) (v.1)).bind fun y13 =>
      (f_X7_goBy v.2 (y11) (y12) (y13)).bind fun m15 =>
      (ldA m15 (q7 + 2) 7 (v.1)).bind fun y16 =>
      (ldA m15 (q7 + 1) 7 (v.1)).bind fun y17 =>
      (f_X7_weight m15 (q7) (q8) (v.1)).bind fun y18 =>
      (f_X7_goBy m15 (y16) (y17) (y18)).bind fun m20 =>
      some (.inl (((v.1 + (1 : Int32))), (m20)))
    )
  )
set_option maxRecDepth 100000 in
set_option maxHeartbeats 4000000 in
theorem k_X7_measure_b29 {l : Launch} {D : va_G} {cy : Nat → ClassId} {base : Nat} {X : gX} {Z : gZ} (q7 : Nat) (q8 : Nat) (x9 : Int32) (x10 : Int32) (hq7 : isPl q7 = true) (hq8 : isMo q8 = true) (v : Int32 × Mem) (r : (Int32 × Mem) ⊕ ((Mem))) (hS : f_X7_measure_b29 q7 q8 x9 x10 v = some r) (hin : ∀ v2, r = .inl v2 → G l D cy base RX7 cX7_measure 7 none (gRm 1) X Z 29 [(0, .ref (base + 143)), (1, .ref (base + q7)), (2, .ref (base + q8)), (4, .int (x9)), (5, .int (x10)), (6, .int (v2.1))] [] 0 0 gNN (gH cy base v2.2)) (hout0 : ∀ x, r = .inr x → G l D cy base RX7 cX7_measure 7 none (gRm 1) X Z 101 [(0, .ref (base + 143)), (1, .ref (base + q7)), (2, .ref (base + q8)), (4, .int (x9)), (5, .int (x10))] [] 0 0 gNN (gH cy base x)) : G l D cy base RX7 cX7_measure 7 none (gRm 1) X Z 29 [(0, .ref (base + 143)), (1, .ref (base + q7)), (2, .ref (base + q8)), (4, .int (x9)), (5, .int (x10)), (6, .int (v.1))] [] 0 0 gNN (gH cy base v.2) := by
  unfold f_X7_measure_b29 at hS
  refine g_iload (j := 5) (x := v.1) dX7_measure_29 rfl ?_
  refine g_aload_n (j := 1) (x := base + q7) dX7_measure_31 rfl rfl ?_
  refine gs_getI lk_RX7_22 (tkPl_0 hq7 _) rfl dX7_measure_32 ?_
  refine g_icmp_ge 101 dX7_measure_35 (by decide) (fun hc => ?_) (fun hc => ?_)
  · replace hS := (if_pos hc).symm.trans hS
    refine g_sub (lvx := [(0, .ref (base + 143)), (1, .ref (base + q7)), (2, .ref (base + q8)), (4, .int (x9)), (5, .int (x10))]) [0, 1, 2, 3, 4] rfl ?_
    obtain rfl := Option.some.inj hS
    exact hout0 ((v.2)) rfl
  · replace hS := (if_neg hc).symm.trans hS
    refine g_iload (j := 5) (x := v.1) dX7_measure_38 rfl ?_
    refine g_iload (j := 3) (x := x9) dX7_measure_40 rfl ?_
    refine g_icmp_eq 95 dX7_measure_42 (by decide) (fun hc => ?_) (fun hc => ?_)
    · replace hS := (if_pos hc).symm.trans hS
      refine g_iinc (j := 5) (x := v.1) (v := (v.1 + (1 : Int32))) (lvx := [(6, .int ((v.1 + (1 : Int32)))), (0, .ref (base + 143)), (1, .ref (base + q7)), (2, .ref (base + q8)), (4, .int (x9)), (5, .int (x10))]) dX7_measure_95 rfl rfl (by decide) rfl ?_
      refine g_goto 29 dX7_measure_98 (by decide) ?_
      refine g_sub (lvx := [(0, .ref (base + 143)), (1, .ref (base + q7)), (2, .ref (base + q8)), (4, .int (x9)), (5, .int (x10)), (6, .int ((v.1 + (1 : Int32))))]) [1, 2, 3, 4, 5, 0] rfl ?_
      obtain rfl := Option.some.inj hS
      exact hin ((((v.1 + (1 : Int32))), (v.2))) rfl
    · replace hS := (if_neg hc).symm.trans hS
      refine g_aload_n (j := 0) (x := base + 143) dX7_measure_45 rfl rfl ?_
      refine g_aload_n (j := 1) (x := base + q7) dX7_measure_46 rfl rfl ?_
      refine gs_getR (r := (q7 + 1)) lk_RX7_28 (tkPl_0 hq7 _) rfl dX7_measure_47 ?_
      refine g_iload (j := 5) (x := v.1) dX7_measure_50 rfl ?_
      obtain ⟨y11, ey11, hS⟩ := ob hS
      refine gs_iald (tkPl_1 hq7 _) dX7_measure_52 ey11 ?_
      refine g_aload_n (j := 1) (x := base + q7) dX7_measure_53 rfl rfl ?_
      refine gs_getR (r := (q7 + 2)) lk_RX7_31 (tkPl_0 hq7 _) rfl dX7_measure_54 ?_
      refine g_iload (j := 5) (x := v.1) dX7_measure_57 rfl ?_
      obtain ⟨y12, ey12, hS⟩ := ob hS
      refine gs_iald (tkPl_2 hq7 _) dX7_measure_59 ey12 ?_
      refine g_aload_n (j := 1) (x := base + q7) dX7_measure_60 rfl rfl ?_
      refine g_aload_n (j := 2) (x := base + q8) dX7_measure_61 rfl rfl ?_
      refine g_iload (j := 5) (x := v.1) dX7_measure_62 rfl ?_
      obtain ⟨y13, ey13, hS⟩ := ob hS
      refine gs_callSi (As := [.ref (base + q7), .ref (base + q8), .int (v.1)]) (st := [.int (y12), .int (y11), .ref (base + 143)]) (k_X7_weight v.2 (q7) (q8) (v.1) hq7 hq8 ey13) cl_RX7_34 sv_X7_weight ⟨by decide, by decide⟩ (Nat.le_of_ble_eq_true rfl) ⟨Nat.zero_le _, Nat.zero_le _⟩ rfl dX7_measure_64 rfl ?_
      obtain ⟨m15, em15, hS⟩ := ob hS
      refine gs_callVv (As := [.int (y11), .int (y12), .int (y13)]) (st := []) (kr := 143) (k_X7_goBy v.2 (y11) (y12) (y13)  em15) cl_RX7_38 sv_X7_goBy ckk_X7_goBy (tk_143 _) ⟨by decide, by decide⟩ (Nat.le_of_ble_eq_true rfl) ⟨Nat.zero_le _, Nat.zero_le _⟩ rfl dX7_measure_67 rfl ?_
      refine g_aload_n (j := 0) (x := base + 143) dX7_measure_70 rfl rfl ?_
      refine g_aload_n (j := 1) (x := base + q7) dX7_measure_71 rfl rfl ?_
      refine gs_getR (r := (q7 + 2)) lk_RX7_31 (tkPl_0 hq7 _) rfl dX7_measure_72 ?_
      refine g_iload (j := 5) (x := v.1) dX7_measure_75 rfl ?_
      obtain ⟨y16, ey16, hS⟩ := ob hS
      refine gs_iald (tkPl_2 hq7 _) dX7_measure_77 ey16 ?_
      refine g_aload_n (j := 1) (x := base + q7) dX7_measure_78 rfl rfl ?_
      refine gs_getR (r := (q7 + 1)) lk_RX7_28 (tkPl_0 hq7 _) rfl dX7_measure_79 ?_
      refine g_iload (j := 5) (x := v.1) dX7_measure_82 rfl ?_
      obtain ⟨y17, ey17, hS⟩ := ob hS
      refine gs_iald (tkPl_1 hq7 _) dX7_measure_84 ey17 ?_
      refine g_aload_n (j := 1) (x := base + q7) dX7_measure_85 rfl rfl ?_
      refine g_aload_n (j := 2) (x := base + q8) dX7_measure_86 rfl rfl ?_
      refine g_iload (j := 5) (x := v.1) dX7_measure_87 rfl ?_
      obtain ⟨y18, ey18, hS⟩ := ob hS
      refine gs_callSi (As := [.ref (base + q7), .ref (base + q8), .int (v.1)]) (st := [.int (y17), .int (y16), .ref (base + 143)]) (k_X7_weight m15 (q7) (q8) (v.1) hq7 hq8 ey18) cl_RX7_34 sv_X7_weight ⟨by decide, by decide⟩ (Nat.le_of_ble_eq_true rfl) ⟨Nat.zero_le _, Nat.zero_le _⟩ rfl dX7_measure_89 rfl ?_
      obtain ⟨m20, em20, hS⟩ := ob hS
      refine gs_callVv (As := [.int (y16), .int (y17), .int (y18)]) (st := []) (kr := 143) (k_X7_goBy m15 (y16) (y17) (y18)  em20) cl_RX7_38 sv_X7_goBy ckk_X7_goBy (tk_143 _) ⟨by decide, by decide⟩ (Nat.le_of_ble_eq_true rfl) ⟨Nat.zero_le _, Nat.zero_le _⟩ rfl dX7_measure_92 rfl ?_
      refine g_iinc (j := 5) (x := v.1) (v := (v.1 + (1 : Int32))) (lvx := [(6, .int ((v.1 + (1 : Int32)))), (0, .ref (base + 143)), (1, .ref (base + q7)), (2, .ref (base + q8)), (4, .int (x9)), (5, .int (x10))]) dX7_measure_95 rfl rfl (by decide) rfl ?_
      refine g_goto 29 dX7_measure_98 (by decide) ?_
      refine g_sub (lvx := [(0, .ref (base + 143)), (1, .ref (base + q7)), (2, .ref (base + q8)), (4, .int (x9)), (5, .int (x10)), (6, .int ((v.1 + (1 : Int32))))]) [1, 2, 3, 4, 5, 0] rfl ?_
      obtain rfl := Option.some.inj hS
      exact hin ((((v.1 + (1 : Int32))), (m20))) rfl
def f_X7_measure_b19 (q4 : Nat) (q5 : Nat) (x6 : Int32) (v : Int32 × Mem) : Option ((Int32 × Mem) ⊕ ((Mem))) :=
  if (7 : Int32) ≤ v.1 then (
    some (.inr (v.2))
  ) else (
    (iter gFU (f_X7_measure_b29  (q4) (q5) (x6) (v.1)) (((0 : Int32)), v.2)).bind fun z21 =>
    some (.inl (((v.1 + (1 : Int32))), (z21)))
  )
set_option maxRecDepth 100000 in
set_option maxHeartbeats 4000000 in
theorem k_X7_measure_b19 {l : Launch} {D : va_G} {cy : Nat → ClassId} {base : Nat} {X : gX} {Z : gZ} (q4 : Nat) (q5 : Nat) (x6 : Int32) (hq4 : isPl q4 = true) (hq5 : isMo q5 = true) (v : Int32 × Mem) (r : (Int32 × Mem) ⊕ ((Mem))) (hS : f_X7_measure_b19 q4 q5 x6 v = some r) (hin : ∀ v2, r = .inl v2 → G l D cy base RX7 cX7_measure 7 none (gRm 1) X Z 19 [(0, .ref (base + 143)), (1, .ref (base + q4)), (2, .ref (base + q5)), (4, .int (x6)), (5, .int (v2.1))] [] 0 0 gNN (gH cy base v2.2)) (hout0 : ∀ x, r = .inr x → G l D cy base RX7 cX7_measure 7 none (gRm 1) X Z 107 [] [] 0 0 gNN (gH cy base x)) : G l D cy base RX7 cX7_measure 7 none (gRm 1) X Z 19 [(0, .ref (base + 143)), (1, .ref (base + q4)), (2, .ref (base + q5)), (4, .int (x6)), (5, .int (v.1))] [] 0 0 gNN (gH cy base v.2) := by
  unfold f_X7_measure_b19 at hS
  refine g_iload (j := 4) (x := v.1) dX7_measure_19 rfl ?_
  refine g_bipush (v := 7) dX7_measure_21 (by decide) ?_
  refine g_icmp_ge 107 dX7_measure_23 (by decide) (fun hc => ?_) (fun hc => ?_)
  · replace hS := (if_pos hc).symm.trans hS
    refine g_sub (lvx := []) [] rfl ?_
    obtain rfl := Option.some.inj hS
    exact hout0 ((v.2)) rfl
  · replace hS := (if_neg hc).symm.trans hS
    refine g_iconst (v := 0) dX7_measure_26 (by decide) ?_
    refine g_istore (lvx := [(6, .int ((0 : Int32))), (0, .ref (base + 143)), (1, .ref (base + q4)), (2, .ref (base + q5)), (4, .int (x6)), (5, .int (v.1))]) dX7_measure_27 (by decide) rfl ?_
    obtain ⟨z21, ez21, hS⟩ := ob hS
    refine g_sub (lvx := [(0, .ref (base + 143)), (1, .ref (base + q4)), (2, .ref (base + q5)), (4, .int (x6)), (5, .int (v.1)), (6, .int ((0 : Int32)))]) [1, 2, 3, 4, 5, 0] rfl ?_
    refine iter_ind (fun vv => G l D cy base RX7 cX7_measure 7 none (gRm 1) X Z 29 [(0, .ref (base + 143)), (1, .ref (base + q4)), (2, .ref (base + q5)), (4, .int (x6)), (5, .int (v.1)), (6, .int (vv.1))] [] 0 0 gNN (gH cy base vv.2)) (fun xx => G l D cy base RX7 cX7_measure 7 none (gRm 1) X Z 101 [(0, .ref (base + 143)), (1, .ref (base + q4)), (2, .ref (base + q5)), (4, .int (x6)), (5, .int (v.1))] [] 0 0 gNN (gH cy base xx)) (fun vv rr hh hin hout => k_X7_measure_b29  (q4) (q5) (x6) (v.1) hq4 hq5 vv rr hh hin (fun xx ee => hout xx ee)) gFU (((0 : Int32)), v.2) z21 ez21 ?_
    show G l D cy base RX7 cX7_measure 7 none (gRm 1) X Z 101 [(0, .ref (base + 143)), (1, .ref (base + q4)), (2, .ref (base + q5)), (4, .int (x6)), (5, .int (v.1))] [] 0 0 gNN (gH cy base z21)
    refine g_iinc (j := 4) (x := v.1) (v := (v.1 + (1 : Int32))) (lvx := [(5, .int ((v.1 + (1 : Int32)))), (0, .ref (base + 143)), (1, .ref (base + q4)), (2, .ref (base + q5)), (4, .int (x6))]) dX7_measure_101 rfl rfl (by decide) rfl ?_
    refine g_goto 19 dX7_measure_104 (by decide) ?_
    refine g_sub (lvx := [(0, .ref (base + 143)), (1, .ref (base + q4)), (2, .ref (base + q5)), (4, .int (x6)), (5, .int ((v.1 + (1 : Int32))))]) [1, 2, 3, 4, 0] rfl ?_
    obtain rfl := Option.some.inj hS
    exact hin ((((v.1 + (1 : Int32))), (z21))) rfl
def f_X7_measure (μ : Mem) (q1a : Nat) (q2a : Nat) (a3 : Int32) (a4 : Int32) : Option (Mem) :=
  (f_J7_fill_53178 μ (144) 7 ((1000000000 : Int32))).bind fun m2 =>
  (stA m2 144 7 (a3) ((0 : Int32))).bind fun m3 =>
  (iter gFU (f_X7_measure_b19  (q1a) (q2a) (a4)) (((1 : Int32)), m3)).bind fun z22 =>
  some z22
set_option maxRecDepth 100000 in
set_option maxHeartbeats 4000000 in
theorem k_X7_measure {l : Launch} {D : va_G} {cy : Nat → ClassId} {base : Nat} (μ : Mem) (q1a : Nat) (q2a : Nat) (a3 : Int32) (a4 : Int32) (hq1a : isPl q1a = true) (hq2a : isMo q2a = true) {out : Mem} (hS : f_X7_measure μ q1a q2a a3 a4 = some out) : gC l D cy base yX7_measure cX7_measure 7 none 1 [.ref (base + 143), .ref (base + q1a), .ref (base + q2a), .int (a3), .int (a4)] μ none out := by
  refine gC_of (own := RX7) (lv0 := [(0, .ref (base + 143)), (1, .ref (base + q1a)), (2, .ref (base + q2a)), (3, .int (a3)), (4, .int (a4))]) rfl (by decide) (Nat.le_of_ble_eq_true rfl) rfl ?_
  unfold f_X7_measure at hS
  refine g_aload_n (j := 0) (x := base + 143) dX7_measure_0 rfl rfl ?_
  refine gs_getR (r := 144) lk_RX7_9 (tk_143 _) rfl dX7_measure_1 ?_
  refine g_ldc cs_RX7_15 dX7_measure_4 ?_
  obtain ⟨m2, em2, hS⟩ := ob hS
  refine gs_callSv (As := [.ref (base + 144), .int ((1000000000 : Int32))]) (st := []) (k_J7_fill_53178 μ (144) 7 ((1000000000 : Int32)) tk_144 em2) cl_RX7_16 sv_J7_fill_53178 ⟨by decide, by decide⟩ (Nat.le_of_ble_eq_true rfl) ⟨Nat.zero_le _, Nat.zero_le _⟩ rfl dX7_measure_6 rfl ?_
  refine g_aload_n (j := 0) (x := base + 143) dX7_measure_9 rfl rfl ?_
  refine gs_getR (r := 144) lk_RX7_9 (tk_143 _) rfl dX7_measure_10 ?_
  refine g_iload_n (j := 3) (x := a3) dX7_measure_13 rfl rfl ?_
  refine g_iconst (v := 0) dX7_measure_14 (by decide) ?_
  obtain ⟨m3, em3, hS⟩ := ob hS
  refine gs_iast (tk_144 _) dX7_measure_15 em3 ?_
  refine g_iconst (v := 1) dX7_measure_16 (by decide) ?_
  refine g_istore (lvx := [(5, .int ((1 : Int32))), (0, .ref (base + 143)), (1, .ref (base + q1a)), (2, .ref (base + q2a)), (3, .int (a3)), (4, .int (a4))]) dX7_measure_17 (by decide) rfl ?_
  obtain ⟨z22, ez22, hS⟩ := ob hS
  refine g_sub (lvx := [(0, .ref (base + 143)), (1, .ref (base + q1a)), (2, .ref (base + q2a)), (4, .int (a4)), (5, .int ((1 : Int32)))]) [1, 2, 3, 5, 0] rfl ?_
  refine iter_ind (fun vv => G l D cy base RX7 cX7_measure 7 none (gRm 1) (gXm yX7_measure) (gZm D cy base 0 0 none gNN (gH cy base out)) 19 [(0, .ref (base + 143)), (1, .ref (base + q1a)), (2, .ref (base + q2a)), (4, .int (a4)), (5, .int (vv.1))] [] 0 0 gNN (gH cy base vv.2)) (fun xx => G l D cy base RX7 cX7_measure 7 none (gRm 1) (gXm yX7_measure) (gZm D cy base 0 0 none gNN (gH cy base out)) 107 [] [] 0 0 gNN (gH cy base xx)) (fun vv rr hh hin hout => k_X7_measure_b19  (q1a) (q2a) (a4) hq1a hq2a vv rr hh hin (fun xx ee => hout xx ee)) gFU (((1 : Int32)), m3) z22 ez22 ?_
  show G l D cy base RX7 cX7_measure 7 none (gRm 1) (gXm yX7_measure) (gZm D cy base 0 0 none gNN (gH cy base out)) 107 [] [] 0 0 gNN (gH cy base z22)
  obtain rfl := Option.some.inj hS
  exact g_vret rfl dX7_measure_107
def f_X7_dueFrom (μ : Mem) (a1 : Int32) : Option (Int32) :=
  (ldA μ 144 7 (a1)).bind fun y1 =>
  if y1 = (1000000000 : Int32) then (
    some ((-9 : Int32))
  ) else (
    (ldA μ 144 7 (a1)).bind fun y2 =>
    (dvI (y2) ((1000 : Int32))).bind fun y3 =>
    some (y3)
  )
set_option maxRecDepth 100000 in
set_option maxHeartbeats 4000000 in
theorem k_X7_dueFrom {l : Launch} {D : va_G} {cy : Nat → ClassId} {base : Nat} (μ : Mem) (a1 : Int32)  {out : Int32} (hS : f_X7_dueFrom μ a1 = some out) : gC l D cy base yX7_dueFrom cX7_dueFrom 2 (some .int) 0 [.ref (base + 143), .int (a1)] μ (some (.int out)) μ := by
  refine gC_of (own := RX7) (lv0 := [(0, .ref (base + 143)), (1, .int (a1))]) rfl (by decide) (Nat.le_of_ble_eq_true rfl) rfl ?_
  unfold f_X7_dueFrom at hS
  refine g_aload_n (j := 0) (x := base + 143) dX7_dueFrom_0 rfl rfl ?_
  refine gs_getR (r := 144) lk_RX7_9 (tk_143 _) rfl dX7_dueFrom_1 ?_
  refine g_iload_n (j := 1) (x := a1) dX7_dueFrom_4 rfl rfl ?_
  obtain ⟨y1, ey1, hS⟩ := ob hS
  refine gs_iald (tk_144 _) dX7_dueFrom_5 ey1 ?_
  refine g_ldc cs_RX7_15 dX7_dueFrom_6 ?_
  refine g_icmp_ne 16 dX7_dueFrom_8 (by decide) (fun hc => ?_) (fun hc => ?_)
  · replace hS := (if_neg hc).symm.trans hS
    refine g_aload_n (j := 0) (x := base + 143) dX7_dueFrom_16 rfl rfl ?_
    refine gs_getR (r := 144) lk_RX7_9 (tk_143 _) rfl dX7_dueFrom_17 ?_
    refine g_iload_n (j := 1) (x := a1) dX7_dueFrom_20 rfl rfl ?_
    obtain ⟨y2, ey2, hS⟩ := ob hS
    refine gs_iald (tk_144 _) dX7_dueFrom_21 ey2 ?_
    refine g_sipush (v := 1000) dX7_dueFrom_22 (by decide) ?_
    obtain ⟨y3, ey3, hS⟩ := ob hS
    refine gs_idiv dX7_dueFrom_25 ey3 ?_
    obtain rfl := Option.some.inj hS
    exact g_iret rfl dX7_dueFrom_26
  · replace hS := (if_pos hc).symm.trans hS
    refine g_bipush (v := -9) dX7_dueFrom_11 (by decide) ?_
    refine g_goto 26 dX7_dueFrom_13 (by decide) ?_
    obtain rfl := Option.some.inj hS
    exact g_iret rfl dX7_dueFrom_26
def f_X7_stepsFrom (μ : Mem) (a1 : Int32) : Option (Int32) :=
  (ldA μ 144 7 (a1)).bind fun y1 =>
  if y1 = (1000000000 : Int32) then (
    some ((-9 : Int32))
  ) else (
    (ldA μ 144 7 (a1)).bind fun y2 =>
    (rmI (y2) ((1000 : Int32))).bind fun y3 =>
    some (y3)
  )
set_option maxRecDepth 100000 in
set_option maxHeartbeats 4000000 in
theorem k_X7_stepsFrom {l : Launch} {D : va_G} {cy : Nat → ClassId} {base : Nat} (μ : Mem) (a1 : Int32)  {out : Int32} (hS : f_X7_stepsFrom μ a1 = some out) : gC l D cy base yX7_stepsFrom cX7_stepsFrom 2 (some .int) 0 [.ref (base + 143), .int (a1)] μ (some (.int out)) μ := by
  refine gC_of (own := RX7) (lv0 := [(0, .ref (base + 143)), (1, .int (a1))]) rfl (by decide) (Nat.le_of_ble_eq_true rfl) rfl ?_
  unfold f_X7_stepsFrom at hS
  refine g_aload_n (j := 0) (x := base + 143) dX7_stepsFrom_0 rfl rfl ?_
  refine gs_getR (r := 144) lk_RX7_9 (tk_143 _) rfl dX7_stepsFrom_1 ?_
  refine g_iload_n (j := 1) (x := a1) dX7_stepsFrom_4 rfl rfl ?_
  obtain ⟨y1, ey1, hS⟩ := ob hS
  refine gs_iald (tk_144 _) dX7_stepsFrom_5 ey1 ?_
  refine g_ldc cs_RX7_15 dX7_stepsFrom_6 ?_
  refine g_icmp_ne 16 dX7_stepsFrom_8 (by decide) (fun hc => ?_) (fun hc => ?_)
  · replace hS := (if_neg hc).symm.trans hS
    refine g_aload_n (j := 0) (x := base + 143) dX7_stepsFrom_16 rfl rfl ?_
    refine gs_getR (r := 144) lk_RX7_9 (tk_143 _) rfl dX7_stepsFrom_17 ?_
    refine g_iload_n (j := 1) (x := a1) dX7_stepsFrom_20 rfl rfl ?_
    obtain ⟨y2, ey2, hS⟩ := ob hS
    refine gs_iald (tk_144 _) dX7_stepsFrom_21 ey2 ?_
    refine g_sipush (v := 1000) dX7_stepsFrom_22 (by decide) ?_
    obtain ⟨y3, ey3, hS⟩ := ob hS
    refine gs_irem dX7_stepsFrom_25 ey3 ?_
    obtain rfl := Option.some.inj hS
    exact g_iret rfl dX7_stepsFrom_26
  · replace hS := (if_pos hc).symm.trans hS
    refine g_bipush (v := -9) dX7_stepsFrom_11 (by decide) ?_
    refine g_goto 26 dX7_stepsFrom_13 (by decide) ?_
    obtain rfl := Option.some.inj hS
    exact g_iret rfl dX7_stepsFrom_26
def f_X7_firstFrom_j82 (m6 : Mem) (q3 : Nat) (q4 : Nat) (x5 : Int32) (x10 : Int32) (x11 : Int32) : Option ((Int32) ⊕ ((Int32) ⊕ (Int32) ⊕ (Unit))) :=
  (ldA m6 (q3 + 2) 7 (x10)).bind fun y12 =>
  if y12 = x5 then (
    (ldA m6 (q3 + 1) 7 (x10)).bind fun y13 =>
    (ldA m6 144 7 (y13)).bind fun y14 =>
    if y14 = x11 then (
      some (.inr (.inr ((.inl (x10)))))
    ) else (
      some (.inl ((x10 + (1 : Int32))))
    )
  ) else (
    some (.inl ((x10 + (1 : Int32))))
  )
set_option maxRecDepth 100000 in
set_option maxHeartbeats 4000000 in
theorem k_X7_firstFrom_j82 {l : Launch} {D : va_G} {cy : Nat → ClassId} {base : Nat} {X : gX} {Z : gZ} (m6 : Mem) (q3 : Nat) (q4 : Nat) (x5 : Int32) (x10 : Int32) (x11 : Int32) (hq3 : isPl q3 = true) (hq4 : isMo q4 = true) {r : (Int32) ⊕ ((Int32) ⊕ (Int32) ⊕ (Unit))} (hS : f_X7_firstFrom_j82 m6 q3 q4 x5 x10 x11 = some r) (hin : ∀ v2, r = .inl v2 → G l D cy base RX7 cX7_firstFrom 6 (some .int) (gRm 1) X Z 26 [(0, .ref (base + 143)), (1, .ref (base + q3)), (2, .ref (base + q4)), (3, .int (x5)), (4, .int (v2))] [] 0 0 gNN (gH cy base m6)) (hout0 : ∀ x, r = .inr (.inl x) → G l D cy base RX7 cX7_firstFrom 6 (some .int) (gRm 1) X Z 79 [(4, .int (x))] [] 0 0 gNN (gH cy base m6)) (hout1 : ∀ x, r = .inr (.inr ((.inl x))) → G l D cy base RX7 cX7_firstFrom 6 (some .int) (gRm 1) X Z 110 [(4, .int (x))] [] 0 0 gNN (gH cy base m6)) (hout2 : ∀ x, r = .inr (.inr ((.inr (x)))) → G l D cy base RX7 cX7_firstFrom 6 (some .int) (gRm 1) X Z 119 [] [] 0 0 gNN (gH cy base m6)) : G l D cy base RX7 cX7_firstFrom 6 (some .int) (gRm 1) X Z 82 [(0, .ref (base + 143)), (1, .ref (base + q3)), (2, .ref (base + q4)), (3, .int (x5)), (4, .int (x10)), (5, .int (x11))] [] 0 0 gNN (gH cy base m6) := by
  unfold f_X7_firstFrom_j82 at hS
  refine g_aload_n (j := 1) (x := base + q3) dX7_firstFrom_82 rfl rfl ?_
  refine gs_getR (r := (q3 + 2)) lk_RX7_31 (tkPl_0 hq3 _) rfl dX7_firstFrom_83 ?_
  refine g_iload (j := 4) (x := x10) dX7_firstFrom_86 rfl ?_
  obtain ⟨y12, ey12, hS⟩ := ob hS
  refine gs_iald (tkPl_2 hq3 _) dX7_firstFrom_88 ey12 ?_
  refine g_iload_n (j := 3) (x := x5) dX7_firstFrom_89 rfl rfl ?_
  refine g_icmp_ne 113 dX7_firstFrom_90 (by decide) (fun hc => ?_) (fun hc => ?_)
  · replace hS := (if_neg hc).symm.trans hS
    refine g_iinc (j := 4) (x := x10) (v := (x10 + (1 : Int32))) (lvx := [(4, .int ((x10 + (1 : Int32)))), (0, .ref (base + 143)), (1, .ref (base + q3)), (2, .ref (base + q4)), (3, .int (x5)), (5, .int (x11))]) dX7_firstFrom_113 rfl rfl (by decide) rfl ?_
    refine g_goto 26 dX7_firstFrom_116 (by decide) ?_
    refine g_sub (lvx := [(0, .ref (base + 143)), (1, .ref (base + q3)), (2, .ref (base + q4)), (3, .int (x5)), (4, .int ((x10 + (1 : Int32))))]) [1, 2, 3, 4, 0] rfl ?_
    obtain rfl := Option.some.inj hS
    exact hin (((x10 + (1 : Int32)))) rfl
  · replace hS := (if_pos hc).symm.trans hS
    refine g_aload_n (j := 0) (x := base + 143) dX7_firstFrom_93 rfl rfl ?_
    refine gs_getR (r := 144) lk_RX7_9 (tk_143 _) rfl dX7_firstFrom_94 ?_
    refine g_aload_n (j := 1) (x := base + q3) dX7_firstFrom_97 rfl rfl ?_
    refine gs_getR (r := (q3 + 1)) lk_RX7_28 (tkPl_0 hq3 _) rfl dX7_firstFrom_98 ?_
    refine g_iload (j := 4) (x := x10) dX7_firstFrom_101 rfl ?_
    obtain ⟨y13, ey13, hS⟩ := ob hS
    refine gs_iald (tkPl_1 hq3 _) dX7_firstFrom_103 ey13 ?_
    obtain ⟨y14, ey14, hS⟩ := ob hS
    refine gs_iald (tk_144 _) dX7_firstFrom_104 ey14 ?_
    refine g_iload (j := 5) (x := x11) dX7_firstFrom_105 rfl ?_
    refine g_icmp_ne 113 dX7_firstFrom_107 (by decide) (fun hc => ?_) (fun hc => ?_)
    · replace hS := (if_neg hc).symm.trans hS
      refine g_iinc (j := 4) (x := x10) (v := (x10 + (1 : Int32))) (lvx := [(4, .int ((x10 + (1 : Int32)))), (0, .ref (base + 143)), (1, .ref (base + q3)), (2, .ref (base + q4)), (3, .int (x5)), (5, .int (x11))]) dX7_firstFrom_113 rfl rfl (by decide) rfl ?_
      refine g_goto 26 dX7_firstFrom_116 (by decide) ?_
      refine g_sub (lvx := [(0, .ref (base + 143)), (1, .ref (base + q3)), (2, .ref (base + q4)), (3, .int (x5)), (4, .int ((x10 + (1 : Int32))))]) [1, 2, 3, 4, 0] rfl ?_
      obtain rfl := Option.some.inj hS
      exact hin (((x10 + (1 : Int32)))) rfl
    · replace hS := (if_pos hc).symm.trans hS
      refine g_sub (lvx := [(4, .int (x10))]) [4] rfl ?_
      obtain rfl := Option.some.inj hS
      exact hout1 ((x10)) rfl
def f_X7_firstFrom_b26 (m6 : Mem) (q3 : Nat) (q4 : Nat) (x5 : Int32) (v : Int32) : Option ((Int32) ⊕ ((Int32) ⊕ (Int32) ⊕ (Unit))) :=
  if (gi m6 q3 7) ≤ v then (
    some (.inr (.inr ((.inr (())))))
  ) else (
    (ldA m6 144 7 (x5)).bind fun y7 =>
    (f_X7_weight m6 (q3) (q4) (v)).bind fun y8 =>
    (ldA m6 (q3 + 1) 7 (v)).bind fun y9 =>
    if y9 = x5 then (
      (ldA m6 (q3 + 2) 7 (v)).bind fun y15 =>
      (ldA m6 144 7 (y15)).bind fun y16 =>
      if y16 = (y7 - y8) then (
        some (.inr (.inl (v)))
      ) else (
        f_X7_firstFrom_j82 m6 q3 q4 x5 (v) ((y7 - y8))
      )
    ) else (
      f_X7_firstFrom_j82 m6 q3 q4 x5 (v) ((y7 - y8))
    )
  )
set_option maxRecDepth 100000 in
set_option maxHeartbeats 4000000 in
theorem k_X7_firstFrom_b26 {l : Launch} {D : va_G} {cy : Nat → ClassId} {base : Nat} {X : gX} {Z : gZ} (m6 : Mem) (q3 : Nat) (q4 : Nat) (x5 : Int32) (hq3 : isPl q3 = true) (hq4 : isMo q4 = true) (v : Int32) (r : (Int32) ⊕ ((Int32) ⊕ (Int32) ⊕ (Unit))) (hS : f_X7_firstFrom_b26 m6 q3 q4 x5 v = some r) (hin : ∀ v2, r = .inl v2 → G l D cy base RX7 cX7_firstFrom 6 (some .int) (gRm 1) X Z 26 [(0, .ref (base + 143)), (1, .ref (base + q3)), (2, .ref (base + q4)), (3, .int (x5)), (4, .int (v2))] [] 0 0 gNN (gH cy base m6)) (hout0 : ∀ x, r = .inr (.inl x) → G l D cy base RX7 cX7_firstFrom 6 (some .int) (gRm 1) X Z 79 [(4, .int (x))] [] 0 0 gNN (gH cy base m6)) (hout1 : ∀ x, r = .inr (.inr ((.inl x))) → G l D cy base RX7 cX7_firstFrom 6 (some .int) (gRm 1) X Z 110 [(4, .int (x))] [] 0 0 gNN (gH cy base m6)) (hout2 : ∀ x, r = .inr (.inr ((.inr (x)))) → G l D cy base RX7 cX7_firstFrom 6 (some .int) (gRm 1) X Z 119 [] [] 0 0 gNN (gH cy base m6)) : G l D cy base RX7 cX7_firstFrom 6 (some .int) (gRm 1) X Z 26 [(0, .ref (base + 143)), (1, .ref (base + q3)), (2, .ref (base + q4)), (3, .int (x5)), (4, .int (v))] [] 0 0 gNN (gH cy base m6) := by
  unfold f_X7_firstFrom_b26 at hS
  refine g_iload (j := 4) (x := v) dX7_firstFrom_26 rfl ?_
  refine g_aload_n (j := 1) (x := base + q3) dX7_firstFrom_28 rfl rfl ?_
  refine gs_getI lk_RX7_22 (tkPl_0 hq3 _) rfl dX7_firstFrom_29 ?_
  refine g_icmp_ge 119 dX7_firstFrom_32 (by decide) (fun hc => ?_) (fun hc => ?_)
  · replace hS := (if_pos hc).symm.trans hS
    refine g_sub (lvx := []) [] rfl ?_
    obtain rfl := Option.some.inj hS
    exact hout2 (()) rfl
  · replace hS := (if_neg hc).symm.trans hS
    refine g_aload_n (j := 0) (x := base + 143) dX7_firstFrom_35 rfl rfl ?_
    refine gs_getR (r := 144) lk_RX7_9 (tk_143 _) rfl dX7_firstFrom_36 ?_
    refine g_iload_n (j := 3) (x := x5) dX7_firstFrom_39 rfl rfl ?_
    obtain ⟨y7, ey7, hS⟩ := ob hS
    refine gs_iald (tk_144 _) dX7_firstFrom_40 ey7 ?_
    refine g_aload_n (j := 1) (x := base + q3) dX7_firstFrom_41 rfl rfl ?_
    refine g_aload_n (j := 2) (x := base + q4) dX7_firstFrom_42 rfl rfl ?_
    refine g_iload (j := 4) (x := v) dX7_firstFrom_43 rfl ?_
    obtain ⟨y8, ey8, hS⟩ := ob hS
    refine gs_callSi (As := [.ref (base + q3), .ref (base + q4), .int (v)]) (st := [.int (y7)]) (k_X7_weight m6 (q3) (q4) (v) hq3 hq4 ey8) cl_RX7_34 sv_X7_weight ⟨by decide, by decide⟩ (Nat.le_of_ble_eq_true rfl) ⟨Nat.zero_le _, Nat.zero_le _⟩ rfl dX7_firstFrom_45 rfl ?_
    refine g_isub dX7_firstFrom_48 ?_
    refine g_istore (lvx := [(5, .int ((y7 - y8))), (0, .ref (base + 143)), (1, .ref (base + q3)), (2, .ref (base + q4)), (3, .int (x5)), (4, .int (v))]) dX7_firstFrom_49 (by decide) rfl ?_
    refine g_aload_n (j := 2) (x := base + q3) dX7_firstFrom_51 rfl rfl ?_
    refine gs_getR (r := (q3 + 1)) lk_RX7_28 (tkPl_0 hq3 _) rfl dX7_firstFrom_52 ?_
    refine g_iload (j := 5) (x := v) dX7_firstFrom_55 rfl ?_
    obtain ⟨y9, ey9, hS⟩ := ob hS
    refine gs_iald (tkPl_1 hq3 _) dX7_firstFrom_57 ey9 ?_
    refine g_iload_n (j := 4) (x := x5) dX7_firstFrom_58 rfl rfl ?_
    refine g_icmp_ne 82 dX7_firstFrom_59 (by decide) (fun hc => ?_) (fun hc => ?_)
    · replace hS := (if_neg hc).symm.trans hS
      refine g_sub (lvx := [(0, .ref (base + 143)), (1, .ref (base + q3)), (2, .ref (base + q4)), (3, .int (x5)), (4, .int (v)), (5, .int ((y7 - y8)))]) [1, 2, 3, 4, 5, 0] rfl ?_
      exact k_X7_firstFrom_j82 (m6) q3 q4 x5 (v) ((y7 - y8)) hq3 hq4 hS hin hout0 hout1 hout2
    · replace hS := (if_pos hc).symm.trans hS
      refine g_aload_n (j := 1) (x := base + 143) dX7_firstFrom_62 rfl rfl ?_
      refine gs_getR (r := 144) lk_RX7_9 (tk_143 _) rfl dX7_firstFrom_63 ?_
      refine g_aload_n (j := 2) (x := base + q3) dX7_firstFrom_66 rfl rfl ?_
      refine gs_getR (r := (q3 + 2)) lk_RX7_31 (tkPl_0 hq3 _) rfl dX7_firstFrom_67 ?_
      refine g_iload (j := 5) (x := v) dX7_firstFrom_70 rfl ?_
      obtain ⟨y15, ey15, hS⟩ := ob hS
      refine gs_iald (tkPl_2 hq3 _) dX7_firstFrom_72 ey15 ?_
      obtain ⟨y16, ey16, hS⟩ := ob hS
      refine gs_iald (tk_144 _) dX7_firstFrom_73 ey16 ?_
      refine g_iload (j := 0) (x := (y7 - y8)) dX7_firstFrom_74 rfl ?_
      refine g_icmp_ne 82 dX7_firstFrom_76 (by decide) (fun hc => ?_) (fun hc => ?_)
      · replace hS := (if_neg hc).symm.trans hS
        refine g_sub (lvx := [(0, .ref (base + 143)), (1, .ref (base + q3)), (2, .ref (base + q4)), (3, .int (x5)), (4, .int (v)), (5, .int ((y7 - y8)))]) [1, 2, 3, 4, 5, 0] rfl ?_
        exact k_X7_firstFrom_j82 (m6) q3 q4 x5 (v) ((y7 - y8)) hq3 hq4 hS hin hout0 hout1 hout2
      · replace hS := (if_pos hc).symm.trans hS
        refine g_sub (lvx := [(4, .int (v))]) [5] rfl ?_
        obtain rfl := Option.some.inj hS
        exact hout0 ((v)) rfl
def f_X7_firstFrom (μ : Mem) (q1a : Nat) (q2a : Nat) (a3 : Int32) : Option (Int32) :=
  (ldA μ 144 7 (a3)).bind fun y1 =>
  if y1 = (1000000000 : Int32) then (
    some ((-9 : Int32))
  ) else (
    (ldA μ 144 7 (a3)).bind fun y2 =>
    if y2 = (0 : Int32) then (
      some ((-9 : Int32))
    ) else (
      (iter gFU (f_X7_firstFrom_b26 μ (q1a) (q2a) (a3)) ((0 : Int32))).bind fun z19 =>
      Sum.elim (fun w20 => 
        some (w20)
      ) (fun w21 => 
        Sum.elim (fun w22 => 
          some (w22)
        ) (fun w23 => 
          some ((-9 : Int32))
        ) w21
      ) z19
    )
  )
set_option maxRecDepth 100000 in
set_option maxHeartbeats 4000000 in
theorem k_X7_firstFrom {l : Launch} {D : va_G} {cy : Nat → ClassId} {base : Nat} (μ : Mem) (q1a : Nat) (q2a : Nat) (a3 : Int32) (hq1a : isPl q1a = true) (hq2a : isMo q2a = true) {out : Int32} (hS : f_X7_firstFrom μ q1a q2a a3 = some out) : gC l D cy base yX7_firstFrom cX7_firstFrom 6 (some .int) 1 [.ref (base + 143), .ref (base + q1a), .ref (base + q2a), .int (a3)] μ (some (.int out)) μ := by
  refine gC_of (own := RX7) (lv0 := [(0, .ref (base + 143)), (1, .ref (base + q1a)), (2, .ref (base + q2a)), (3, .int (a3))]) rfl (by decide) (Nat.le_of_ble_eq_true rfl) rfl ?_
  unfold f_X7_firstFrom at hS
  refine g_aload_n (j := 0) (x := base + 143) dX7_firstFrom_0 rfl rfl ?_
  refine gs_getR (r := 144) lk_RX7_9 (tk_143 _) rfl dX7_firstFrom_1 ?_
  refine g_iload_n (j := 3) (x := a3) dX7_firstFrom_4 rfl rfl ?_
  obtain ⟨y1, ey1, hS⟩ := ob hS
  refine gs_iald (tk_144 _) dX7_firstFrom_5 ey1 ?_
  refine g_ldc cs_RX7_15 dX7_firstFrom_6 ?_
  refine g_icmp_eq 20 dX7_firstFrom_8 (by decide) (fun hc => ?_) (fun hc => ?_)
  · replace hS := (if_pos hc).symm.trans hS
    refine g_bipush (v := -9) dX7_firstFrom_20 (by decide) ?_
    obtain rfl := Option.some.inj hS
    exact g_iret rfl dX7_firstFrom_22
  · replace hS := (if_neg hc).symm.trans hS
    refine g_aload_n (j := 0) (x := base + 143) dX7_firstFrom_11 rfl rfl ?_
    refine gs_getR (r := 144) lk_RX7_9 (tk_143 _) rfl dX7_firstFrom_12 ?_
    refine g_iload_n (j := 3) (x := a3) dX7_firstFrom_15 rfl rfl ?_
    obtain ⟨y2, ey2, hS⟩ := ob hS
    refine gs_iald (tk_144 _) dX7_firstFrom_16 ey2 ?_
    refine g_if_ne 23 dX7_firstFrom_17 (by decide) (fun hc => ?_) (fun hc => ?_)
    · replace hS := (if_neg hc).symm.trans hS
      refine g_iconst (v := 0) dX7_firstFrom_23 (by decide) ?_
      refine g_istore (lvx := [(4, .int ((0 : Int32))), (0, .ref (base + 143)), (1, .ref (base + q1a)), (2, .ref (base + q2a)), (3, .int (a3))]) dX7_firstFrom_24 (by decide) rfl ?_
      obtain ⟨z19, ez19, hS⟩ := ob hS
      refine g_sub (lvx := [(0, .ref (base + 143)), (1, .ref (base + q1a)), (2, .ref (base + q2a)), (3, .int (a3)), (4, .int ((0 : Int32)))]) [1, 2, 3, 4, 0] rfl ?_
      refine iter_ind (fun vv => G l D cy base RX7 cX7_firstFrom 6 (some .int) (gRm 1) (gXm yX7_firstFrom) (gZm D cy base 0 0 (some (.int out)) gNN (gH cy base μ)) 26 [(0, .ref (base + 143)), (1, .ref (base + q1a)), (2, .ref (base + q2a)), (3, .int (a3)), (4, .int (vv))] [] 0 0 gNN (gH cy base μ)) (fun xx => match xx with | (.inl xx) => G l D cy base RX7 cX7_firstFrom 6 (some .int) (gRm 1) (gXm yX7_firstFrom) (gZm D cy base 0 0 (some (.int out)) gNN (gH cy base μ)) 79 [(4, .int (xx))] [] 0 0 gNN (gH cy base μ) | (.inr ((.inl xx))) => G l D cy base RX7 cX7_firstFrom 6 (some .int) (gRm 1) (gXm yX7_firstFrom) (gZm D cy base 0 0 (some (.int out)) gNN (gH cy base μ)) 110 [(4, .int (xx))] [] 0 0 gNN (gH cy base μ) | (.inr ((.inr (xx)))) => G l D cy base RX7 cX7_firstFrom 6 (some .int) (gRm 1) (gXm yX7_firstFrom) (gZm D cy base 0 0 (some (.int out)) gNN (gH cy base μ)) 119 [] [] 0 0 gNN (gH cy base μ)) (fun vv rr hh hin hout => k_X7_firstFrom_b26 μ (q1a) (q2a) (a3) hq1a hq2a vv rr hh hin (fun xx ee => hout (.inl xx) ee) (fun xx ee => hout (.inr ((.inl xx))) ee) (fun xx ee => hout (.inr ((.inr (xx)))) ee)) gFU ((0 : Int32)) z19 ez19 ?_
      cases z19 with
      | inl w20 =>
        replace hS := (Sum.elim_inl _ _ _).symm.trans hS
        show G l D cy base RX7 cX7_firstFrom 6 (some .int) (gRm 1) (gXm yX7_firstFrom) (gZm D cy base 0 0 (some (.int out)) gNN (gH cy base μ)) 79 [(4, .int (w20))] [] 0 0 gNN (gH cy base μ)
        refine g_iload (j := 0) (x := w20) dX7_firstFrom_79 rfl ?_
        obtain rfl := Option.some.inj hS
        exact g_iret rfl dX7_firstFrom_81
      | inr w21 =>
        replace hS := (Sum.elim_inr _ _ _).symm.trans hS
        cases w21 with
        | inl w22 =>
          replace hS := (Sum.elim_inl _ _ _).symm.trans hS
          show G l D cy base RX7 cX7_firstFrom 6 (some .int) (gRm 1) (gXm yX7_firstFrom) (gZm D cy base 0 0 (some (.int out)) gNN (gH cy base μ)) 110 [(4, .int (w22))] [] 0 0 gNN (gH cy base μ)
          refine g_iload (j := 0) (x := w22) dX7_firstFrom_110 rfl ?_
          obtain rfl := Option.some.inj hS
          exact g_iret rfl dX7_firstFrom_112
        | inr w23 =>
          replace hS := (Sum.elim_inr _ _ _).symm.trans hS
          show G l D cy base RX7 cX7_firstFrom 6 (some .int) (gRm 1) (gXm yX7_firstFrom) (gZm D cy base 0 0 (some (.int out)) gNN (gH cy base μ)) 119 [] [] 0 0 gNN (gH cy base μ)
          refine g_bipush (v := -9) dX7_firstFrom_119 (by decide) ?_
          obtain rfl := Option.some.inj hS
          exact g_iret rfl dX7_firstFrom_121
    · replace hS := (if_pos hc).symm.trans hS
      refine g_bipush (v := -9) dX7_firstFrom_20 (by decide) ?_
      obtain rfl := Option.some.inj hS
      exact g_iret rfl dX7_firstFrom_22
def f_X7_barsBetween_b29 (q4 : Nat) (q5 : Nat) (x6 : Int32) (x7 : Int32) (v : Int32 × Int32 × Mem) : Option ((Int32 × Int32 × Mem) ⊕ ((Int32 × Mem))) :=
  if (gi v.2.2 q4 7) ≤ v.2.1 then (
    some (.inr ((v.1), (v.2.2)))
  ) else (
    (f_X7_measure v.2.2 (q4) (q5) (x7) (v.2.1)).bind fun m9 =>
    (ldA m9 144 7 (x6)).bind fun y10 =>
    if y10 = (1000000000 : Int32) then (
      some (.inl (((v.1 ||| ((1 : Int32) <<< (v.2.1 &&& 31)))), ((v.2.1 + (1 : Int32))), (m9)))
    ) else (
      some (.inl ((v.1), ((v.2.1 + (1 : Int32))), (m9)))
    )
  )
set_option maxRecDepth 100000 in
set_option maxHeartbeats 4000000 in
theorem k_X7_barsBetween_b29 {l : Launch} {D : va_G} {cy : Nat → ClassId} {base : Nat} {X : gX} {Z : gZ} (q4 : Nat) (q5 : Nat) (x6 : Int32) (x7 : Int32) (hq4 : isPl q4 = true) (hq5 : isMo q5 = true) (v : Int32 × Int32 × Mem) (r : (Int32 × Int32 × Mem) ⊕ ((Int32 × Mem))) (hS : f_X7_barsBetween_b29 q4 q5 x6 x7 v = some r) (hin : ∀ v2, r = .inl v2 → G l D cy base RX7 cX7_barsBetween 7 (some .int) (gRm 2) X Z 29 [(0, .ref (base + 143)), (1, .ref (base + q4)), (2, .ref (base + q5)), (3, .int (x6)), (4, .int (x7)), (5, .int (v2.1)), (6, .int (v2.2.1))] [] 0 0 gNN (gH cy base v2.2.2)) (hout0 : ∀ x, r = .inr x → G l D cy base RX7 cX7_barsBetween 7 (some .int) (gRm 2) X Z 74 [(5, .int (x.1))] [] 0 0 gNN (gH cy base x.2)) : G l D cy base RX7 cX7_barsBetween 7 (some .int) (gRm 2) X Z 29 [(0, .ref (base + 143)), (1, .ref (base + q4)), (2, .ref (base + q5)), (3, .int (x6)), (4, .int (x7)), (5, .int (v.1)), (6, .int (v.2.1))] [] 0 0 gNN (gH cy base v.2.2) := by
  unfold f_X7_barsBetween_b29 at hS
  refine g_iload (j := 6) (x := v.2.1) dX7_barsBetween_29 rfl ?_
  refine g_aload_n (j := 1) (x := base + q4) dX7_barsBetween_31 rfl rfl ?_
  refine gs_getI lk_RX7_22 (tkPl_0 hq4 _) rfl dX7_barsBetween_32 ?_
  refine g_icmp_ge 74 dX7_barsBetween_35 (by decide) (fun hc => ?_) (fun hc => ?_)
  · replace hS := (if_pos hc).symm.trans hS
    refine g_sub (lvx := [(5, .int (v.1))]) [5] rfl ?_
    obtain rfl := Option.some.inj hS
    exact hout0 (((v.1), (v.2.2))) rfl
  · replace hS := (if_neg hc).symm.trans hS
    refine g_aload_n (j := 0) (x := base + 143) dX7_barsBetween_38 rfl rfl ?_
    refine g_aload_n (j := 1) (x := base + q4) dX7_barsBetween_39 rfl rfl ?_
    refine g_aload_n (j := 2) (x := base + q5) dX7_barsBetween_40 rfl rfl ?_
    refine g_iload (j := 4) (x := x7) dX7_barsBetween_41 rfl ?_
    refine g_iload (j := 6) (x := v.2.1) dX7_barsBetween_43 rfl ?_
    obtain ⟨m9, em9, hS⟩ := ob hS
    refine gs_callVv (As := [.ref (base + q4), .ref (base + q5), .int (x7), .int (v.2.1)]) (st := []) (kr := 143) (k_X7_measure v.2.2 (q4) (q5) (x7) (v.2.1) hq4 hq5 em9) cl_RX7_50 sv_X7_measure ckk_X7_measure (tk_143 _) ⟨by decide, by decide⟩ (Nat.le_of_ble_eq_true rfl) ⟨Nat.zero_le _, Nat.zero_le _⟩ rfl dX7_barsBetween_45 rfl ?_
    refine g_aload_n (j := 0) (x := base + 143) dX7_barsBetween_48 rfl rfl ?_
    refine gs_getR (r := 144) lk_RX7_9 (tk_143 _) rfl dX7_barsBetween_49 ?_
    refine g_iload_n (j := 3) (x := x6) dX7_barsBetween_52 rfl rfl ?_
    obtain ⟨y10, ey10, hS⟩ := ob hS
    refine gs_iald (tk_144 _) dX7_barsBetween_53 ey10 ?_
    refine g_ldc cs_RX7_15 dX7_barsBetween_54 ?_
    refine g_icmp_ne 68 dX7_barsBetween_56 (by decide) (fun hc => ?_) (fun hc => ?_)
    · replace hS := (if_neg hc).symm.trans hS
      refine g_iinc (j := 6) (x := v.2.1) (v := (v.2.1 + (1 : Int32))) (lvx := [(6, .int ((v.2.1 + (1 : Int32)))), (0, .ref (base + 143)), (1, .ref (base + q4)), (2, .ref (base + q5)), (3, .int (x6)), (4, .int (x7)), (5, .int (v.1))]) dX7_barsBetween_68 rfl rfl (by decide) rfl ?_
      refine g_goto 29 dX7_barsBetween_71 (by decide) ?_
      refine g_sub (lvx := [(0, .ref (base + 143)), (1, .ref (base + q4)), (2, .ref (base + q5)), (3, .int (x6)), (4, .int (x7)), (5, .int (v.1)), (6, .int ((v.2.1 + (1 : Int32))))]) [1, 2, 3, 4, 5, 6, 0] rfl ?_
      obtain rfl := Option.some.inj hS
      exact hin (((v.1), ((v.2.1 + (1 : Int32))), (m9))) rfl
    · replace hS := (if_pos hc).symm.trans hS
      refine g_iload (j := 5) (x := v.1) dX7_barsBetween_59 rfl ?_
      refine g_iconst (v := 1) dX7_barsBetween_61 (by decide) ?_
      refine g_iload (j := 6) (x := v.2.1) dX7_barsBetween_62 rfl ?_
      refine g_ishl dX7_barsBetween_64 ?_
      refine g_ior dX7_barsBetween_65 ?_
      refine g_istore (lvx := [(5, .int ((v.1 ||| ((1 : Int32) <<< (v.2.1 &&& 31))))), (0, .ref (base + 143)), (1, .ref (base + q4)), (2, .ref (base + q5)), (3, .int (x6)), (4, .int (x7)), (6, .int (v.2.1))]) dX7_barsBetween_66 (by decide) rfl ?_
      refine g_iinc (j := 6) (x := v.2.1) (v := (v.2.1 + (1 : Int32))) (lvx := [(6, .int ((v.2.1 + (1 : Int32)))), (5, .int ((v.1 ||| ((1 : Int32) <<< (v.2.1 &&& 31))))), (0, .ref (base + 143)), (1, .ref (base + q4)), (2, .ref (base + q5)), (3, .int (x6)), (4, .int (x7))]) dX7_barsBetween_68 rfl rfl (by decide) rfl ?_
      refine g_goto 29 dX7_barsBetween_71 (by decide) ?_
      refine g_sub (lvx := [(0, .ref (base + 143)), (1, .ref (base + q4)), (2, .ref (base + q5)), (3, .int (x6)), (4, .int (x7)), (5, .int ((v.1 ||| ((1 : Int32) <<< (v.2.1 &&& 31))))), (6, .int ((v.2.1 + (1 : Int32))))]) [2, 3, 4, 5, 6, 1, 0] rfl ?_
      obtain rfl := Option.some.inj hS
      exact hin ((((v.1 ||| ((1 : Int32) <<< (v.2.1 &&& 31)))), ((v.2.1 + (1 : Int32))), (m9))) rfl
def f_X7_barsBetween (μ : Mem) (q1a : Nat) (q2a : Nat) (a3 : Int32) (a4 : Int32) : Option (Int32 × Mem) :=
  (f_X7_measure μ (q1a) (q2a) (a4) ((-9 : Int32))).bind fun m2 =>
  (ldA m2 144 7 (a3)).bind fun y3 =>
  if y3 = (1000000000 : Int32) then (
    some ((0 : Int32), m2)
  ) else (
    (iter gFU (f_X7_barsBetween_b29  (q1a) (q2a) (a3) (a4)) (((0 : Int32)), ((0 : Int32)), m2)).bind fun z11 =>
    some (z11.1, z11.2)
  )
set_option maxRecDepth 100000 in
set_option maxHeartbeats 4000000 in
theorem k_X7_barsBetween {l : Launch} {D : va_G} {cy : Nat → ClassId} {base : Nat} (μ : Mem) (q1a : Nat) (q2a : Nat) (a3 : Int32) (a4 : Int32) (hq1a : isPl q1a = true) (hq2a : isMo q2a = true) {out : Int32 × Mem} (hS : f_X7_barsBetween μ q1a q2a a3 a4 = some out) : gC l D cy base yX7_barsBetween cX7_barsBetween 7 (some .int) 2 [.ref (base + 143), .ref (base + q1a), .ref (base + q2a), .int (a3), .int (a4)] μ (some (.int out.1)) out.2 := by
  refine gC_of (own := RX7) (lv0 := [(0, .ref (base + 143)), (1, .ref (base + q1a)), (2, .ref (base + q2a)), (3, .int (a3)), (4, .int (a4))]) rfl (by decide) (Nat.le_of_ble_eq_true rfl) rfl ?_
  unfold f_X7_barsBetween at hS
  refine g_aload_n (j := 0) (x := base + 143) dX7_barsBetween_0 rfl rfl ?_
  refine g_aload_n (j := 1) (x := base + q1a) dX7_barsBetween_1 rfl rfl ?_
  refine g_aload_n (j := 2) (x := base + q2a) dX7_barsBetween_2 rfl rfl ?_
  refine g_iload (j := 4) (x := a4) dX7_barsBetween_3 rfl ?_
  refine g_bipush (v := -9) dX7_barsBetween_5 (by decide) ?_
  obtain ⟨m2, em2, hS⟩ := ob hS
  refine gs_callVv (As := [.ref (base + q1a), .ref (base + q2a), .int (a4), .int ((-9 : Int32))]) (st := []) (kr := 143) (k_X7_measure μ (q1a) (q2a) (a4) ((-9 : Int32)) hq1a hq2a em2) cl_RX7_50 sv_X7_measure ckk_X7_measure (tk_143 _) ⟨by decide, by decide⟩ (Nat.le_of_ble_eq_true rfl) ⟨Nat.zero_le _, Nat.zero_le _⟩ rfl dX7_barsBetween_7 rfl ?_
  refine g_aload_n (j := 0) (x := base + 143) dX7_barsBetween_10 rfl rfl ?_
  refine gs_getR (r := 144) lk_RX7_9 (tk_143 _) rfl dX7_barsBetween_11 ?_
  refine g_iload_n (j := 3) (x := a3) dX7_barsBetween_14 rfl rfl ?_
  obtain ⟨y3, ey3, hS⟩ := ob hS
  refine gs_iald (tk_144 _) dX7_barsBetween_15 ey3 ?_
  refine g_ldc cs_RX7_15 dX7_barsBetween_16 ?_
  refine g_icmp_ne 23 dX7_barsBetween_18 (by decide) (fun hc => ?_) (fun hc => ?_)
  · replace hS := (if_neg hc).symm.trans hS
    refine g_iconst (v := 0) dX7_barsBetween_23 (by decide) ?_
    refine g_istore (lvx := [(5, .int ((0 : Int32))), (0, .ref (base + 143)), (1, .ref (base + q1a)), (2, .ref (base + q2a)), (3, .int (a3)), (4, .int (a4))]) dX7_barsBetween_24 (by decide) rfl ?_
    refine g_iconst (v := 0) dX7_barsBetween_26 (by decide) ?_
    refine g_istore (lvx := [(6, .int ((0 : Int32))), (5, .int ((0 : Int32))), (0, .ref (base + 143)), (1, .ref (base + q1a)), (2, .ref (base + q2a)), (3, .int (a3)), (4, .int (a4))]) dX7_barsBetween_27 (by decide) rfl ?_
    obtain ⟨z11, ez11, hS⟩ := ob hS
    refine g_sub (lvx := [(0, .ref (base + 143)), (1, .ref (base + q1a)), (2, .ref (base + q2a)), (3, .int (a3)), (4, .int (a4)), (5, .int ((0 : Int32))), (6, .int ((0 : Int32)))]) [2, 3, 4, 5, 6, 1, 0] rfl ?_
    refine iter_ind (fun vv => G l D cy base RX7 cX7_barsBetween 7 (some .int) (gRm 2) (gXm yX7_barsBetween) (gZm D cy base 0 0 (some (.int out.1)) gNN (gH cy base out.2)) 29 [(0, .ref (base + 143)), (1, .ref (base + q1a)), (2, .ref (base + q2a)), (3, .int (a3)), (4, .int (a4)), (5, .int (vv.1)), (6, .int (vv.2.1))] [] 0 0 gNN (gH cy base vv.2.2)) (fun xx => G l D cy base RX7 cX7_barsBetween 7 (some .int) (gRm 2) (gXm yX7_barsBetween) (gZm D cy base 0 0 (some (.int out.1)) gNN (gH cy base out.2)) 74 [(5, .int (xx.1))] [] 0 0 gNN (gH cy base xx.2)) (fun vv rr hh hin hout => k_X7_barsBetween_b29  (q1a) (q2a) (a3) (a4) hq1a hq2a vv rr hh hin (fun xx ee => hout xx ee)) gFU (((0 : Int32)), ((0 : Int32)), m2) z11 ez11 ?_
    show G l D cy base RX7 cX7_barsBetween 7 (some .int) (gRm 2) (gXm yX7_barsBetween) (gZm D cy base 0 0 (some (.int out.1)) gNN (gH cy base out.2)) 74 [(5, .int (z11.1))] [] 0 0 gNN (gH cy base z11.2)
    refine g_iload (j := 0) (x := z11.1) dX7_barsBetween_74 rfl ?_
    obtain rfl := Option.some.inj hS
    exact g_iret rfl dX7_barsBetween_76
  · replace hS := (if_pos hc).symm.trans hS
    refine g_iconst (v := 0) dX7_barsBetween_21 (by decide) ?_
    obtain rfl := Option.some.inj hS
    exact g_iret rfl dX7_barsBetween_22

def f_X2_leastDue (μ : Mem) (a1 : Int32) : Option (Int32) :=
  (rfA 156 8 1 ((0 : Int32)) isAny).bind fun q1 =>
  (ldA μ q1 100 (a1)).bind fun y2 =>
  (dvI (y2) ((1000 : Int32))).bind fun y3 =>
  some (y3)
set_option maxRecDepth 100000 in
set_option maxHeartbeats 4000000 in
theorem k_X2_leastDue {l : Launch} {D : va_G} {cy : Nat → ClassId} {base : Nat} (μ : Mem) (a1 : Int32)  {out : Int32} (hS : f_X2_leastDue μ a1 = some out) : gC l D cy base yX2_leastDue cX2_leastDue 2 (some .int) 0 [.ref (base + 145), .int (a1)] μ (some (.int out)) μ := by
  refine gC_of (own := RX2) (lv0 := [(0, .ref (base + 145)), (1, .int (a1))]) rfl (by decide) (Nat.le_of_ble_eq_true rfl) rfl ?_
  unfold f_X2_leastDue at hS
  refine g_aload_n (j := 0) (x := base + 145) dX2_leastDue_0 rfl rfl ?_
  refine gs_getR (r := 156) lk_RX2_23 (tk_145 _) rfl dX2_leastDue_1 ?_
  refine g_iconst (v := 0) dX2_leastDue_4 (by decide) ?_
  obtain ⟨q1, eq1, hS⟩ := ob hS
  refine gs_aald (t0 := 4) (sd := 0) (ty := .array .int) (tk_156 _) rfl rfl dX2_leastDue_5 eq1 ?_
  refine g_iload_n (j := 1) (x := a1) dX2_leastDue_6 rfl rfl ?_
  obtain ⟨y2, ey2, hS⟩ := ob hS
  refine gs_iald (tkR156 eq1 _) dX2_leastDue_7 ey2 ?_
  refine g_sipush (v := 1000) dX2_leastDue_8 (by decide) ?_
  obtain ⟨y3, ey3, hS⟩ := ob hS
  refine gs_idiv dX2_leastDue_11 ey3 ?_
  obtain rfl := Option.some.inj hS
  exact g_iret rfl dX2_leastDue_12
def f_X2_fewestCoins (μ : Mem) (a1 : Int32) : Option (Int32) :=
  (rfA 156 8 1 ((0 : Int32)) isAny).bind fun q1 =>
  (ldA μ q1 100 (a1)).bind fun y2 =>
  (rmI (y2) ((1000 : Int32))).bind fun y3 =>
  some (y3)
set_option maxRecDepth 100000 in
set_option maxHeartbeats 4000000 in
theorem k_X2_fewestCoins {l : Launch} {D : va_G} {cy : Nat → ClassId} {base : Nat} (μ : Mem) (a1 : Int32)  {out : Int32} (hS : f_X2_fewestCoins μ a1 = some out) : gC l D cy base yX2_fewestCoins cX2_fewestCoins 2 (some .int) 0 [.ref (base + 145), .int (a1)] μ (some (.int out)) μ := by
  refine gC_of (own := RX2) (lv0 := [(0, .ref (base + 145)), (1, .int (a1))]) rfl (by decide) (Nat.le_of_ble_eq_true rfl) rfl ?_
  unfold f_X2_fewestCoins at hS
  refine g_aload_n (j := 0) (x := base + 145) dX2_fewestCoins_0 rfl rfl ?_
  refine gs_getR (r := 156) lk_RX2_23 (tk_145 _) rfl dX2_fewestCoins_1 ?_
  refine g_iconst (v := 0) dX2_fewestCoins_4 (by decide) ?_
  obtain ⟨q1, eq1, hS⟩ := ob hS
  refine gs_aald (t0 := 4) (sd := 0) (ty := .array .int) (tk_156 _) rfl rfl dX2_fewestCoins_5 eq1 ?_
  refine g_iload_n (j := 1) (x := a1) dX2_fewestCoins_6 rfl rfl ?_
  obtain ⟨y2, ey2, hS⟩ := ob hS
  refine gs_iald (tkR156 eq1 _) dX2_fewestCoins_7 ey2 ?_
  refine g_sipush (v := 1000) dX2_fewestCoins_8 (by decide) ?_
  obtain ⟨y3, ey3, hS⟩ := ob hS
  refine gs_irem dX2_fewestCoins_11 ey3 ?_
  obtain rfl := Option.some.inj hS
  exact g_iret rfl dX2_fewestCoins_12
def f_X2_fewerCoins_b2 (m3 : Mem) (x1 : Int32) (x2 : Int32) (v : Int32) : Option ((Int32) ⊕ ((Int32) ⊕ (Unit))) :=
  if (12 : Int32) < v then (
    some (.inr (.inr (())))
  ) else (
    if x2 < v then (
      some (.inr (.inr (())))
    ) else (
      (f_X2_spentOn m3 (x1) (v) (x2)).bind fun y4 =>
      (rfA 156 8 1 (x1) isAny).bind fun q5 =>
      (ldA m3 q5 100 (x2)).bind fun y6 =>
      if y4 = y6 then (
        some (.inr (.inl (v)))
      ) else (
        some (.inl ((v + (1 : Int32))))
      )
    )
  )
set_option maxRecDepth 100000 in
set_option maxHeartbeats 4000000 in
theorem k_X2_fewerCoins_b2 {l : Launch} {D : va_G} {cy : Nat → ClassId} {base : Nat} {X : gX} {Z : gZ} (m3 : Mem) (x1 : Int32) (x2 : Int32)  (v : Int32) (r : (Int32) ⊕ ((Int32) ⊕ (Unit))) (hS : f_X2_fewerCoins_b2 m3 x1 x2 v = some r) (hin : ∀ v2, r = .inl v2 → G l D cy base RX2 cX2_fewerCoins 4 (some .int) (gRm 1) X Z 2 [(0, .ref (base + 145)), (1, .int (x1)), (2, .int (x2)), (3, .int (v2))] [] 0 0 gNN (gH cy base m3)) (hout0 : ∀ x, r = .inr (.inl x) → G l D cy base RX2 cX2_fewerCoins 4 (some .int) (gRm 1) X Z 31 [(3, .int (x))] [] 0 0 gNN (gH cy base m3)) (hout1 : ∀ x, r = .inr (.inr (x)) → G l D cy base RX2 cX2_fewerCoins 4 (some .int) (gRm 1) X Z 39 [] [] 0 0 gNN (gH cy base m3)) : G l D cy base RX2 cX2_fewerCoins 4 (some .int) (gRm 1) X Z 2 [(0, .ref (base + 145)), (1, .int (x1)), (2, .int (x2)), (3, .int (v))] [] 0 0 gNN (gH cy base m3) := by
  unfold f_X2_fewerCoins_b2 at hS
  refine g_iload_n (j := 3) (x := v) dX2_fewerCoins_2 rfl rfl ?_
  refine g_bipush (v := 12) dX2_fewerCoins_3 (by decide) ?_
  refine g_icmp_gt 39 dX2_fewerCoins_5 (by decide) (fun hc => ?_) (fun hc => ?_)
  · replace hS := (if_pos hc).symm.trans hS
    refine g_sub (lvx := []) [] rfl ?_
    obtain rfl := Option.some.inj hS
    exact hout1 (()) rfl
  · replace hS := (if_neg hc).symm.trans hS
    refine g_iload_n (j := 3) (x := v) dX2_fewerCoins_8 rfl rfl ?_
    refine g_iload_n (j := 2) (x := x2) dX2_fewerCoins_9 rfl rfl ?_
    refine g_icmp_gt 39 dX2_fewerCoins_10 (by decide) (fun hc => ?_) (fun hc => ?_)
    · replace hS := (if_pos hc).symm.trans hS
      refine g_sub (lvx := []) [] rfl ?_
      obtain rfl := Option.some.inj hS
      exact hout1 (()) rfl
    · replace hS := (if_neg hc).symm.trans hS
      refine g_aload_n (j := 0) (x := base + 145) dX2_fewerCoins_13 rfl rfl ?_
      refine g_iload_n (j := 1) (x := x1) dX2_fewerCoins_14 rfl rfl ?_
      refine g_iload_n (j := 3) (x := v) dX2_fewerCoins_15 rfl rfl ?_
      refine g_iload_n (j := 2) (x := x2) dX2_fewerCoins_16 rfl rfl ?_
      obtain ⟨y4, ey4, hS⟩ := ob hS
      refine gs_callVi (As := [.int (x1), .int (v), .int (x2)]) (st := []) (kr := 145) (k_X2_spentOn m3 (x1) (v) (x2)  ey4) cl_RX2_90 sv_X2_spentOn ckk_X2_spentOn (tk_145 _) ⟨by decide, by decide⟩ (Nat.le_of_ble_eq_true rfl) ⟨Nat.zero_le _, Nat.zero_le _⟩ rfl dX2_fewerCoins_17 rfl ?_
      refine g_aload_n (j := 0) (x := base + 145) dX2_fewerCoins_20 rfl rfl ?_
      refine gs_getR (r := 156) lk_RX2_23 (tk_145 _) rfl dX2_fewerCoins_21 ?_
      refine g_iload_n (j := 1) (x := x1) dX2_fewerCoins_24 rfl rfl ?_
      obtain ⟨q5, eq5, hS⟩ := ob hS
      refine gs_aald (t0 := 4) (sd := 0) (ty := .array .int) (tk_156 _) rfl rfl dX2_fewerCoins_25 eq5 ?_
      refine g_iload_n (j := 2) (x := x2) dX2_fewerCoins_26 rfl rfl ?_
      obtain ⟨y6, ey6, hS⟩ := ob hS
      refine gs_iald (tkR156 eq5 _) dX2_fewerCoins_27 ey6 ?_
      refine g_icmp_ne 33 dX2_fewerCoins_28 (by decide) (fun hc => ?_) (fun hc => ?_)
      · replace hS := (if_neg hc).symm.trans hS
        refine g_iinc (j := 3) (x := v) (v := (v + (1 : Int32))) (lvx := [(3, .int ((v + (1 : Int32)))), (0, .ref (base + 145)), (1, .int (x1)), (2, .int (x2))]) dX2_fewerCoins_33 rfl rfl (by decide) rfl ?_
        refine g_goto 2 dX2_fewerCoins_36 (by decide) ?_
        refine g_sub (lvx := [(0, .ref (base + 145)), (1, .int (x1)), (2, .int (x2)), (3, .int ((v + (1 : Int32))))]) [1, 2, 3, 0] rfl ?_
        obtain rfl := Option.some.inj hS
        exact hin (((v + (1 : Int32)))) rfl
      · replace hS := (if_pos hc).symm.trans hS
        refine g_sub (lvx := [(3, .int (v))]) [3] rfl ?_
        obtain rfl := Option.some.inj hS
        exact hout0 ((v)) rfl
def f_X2_fewerCoins (μ : Mem) (a1 : Int32) (a2 : Int32) : Option (Int32) :=
  (iter gFU (f_X2_fewerCoins_b2 μ (a1) (a2)) ((0 : Int32))).bind fun z7 =>
  Sum.elim (fun w8 => 
    some (w8)
  ) (fun w9 => 
    some ((0 : Int32))
  ) z7
set_option maxRecDepth 100000 in
set_option maxHeartbeats 4000000 in
theorem k_X2_fewerCoins {l : Launch} {D : va_G} {cy : Nat → ClassId} {base : Nat} (μ : Mem) (a1 : Int32) (a2 : Int32)  {out : Int32} (hS : f_X2_fewerCoins μ a1 a2 = some out) : gC l D cy base yX2_fewerCoins cX2_fewerCoins 4 (some .int) 1 [.ref (base + 145), .int (a1), .int (a2)] μ (some (.int out)) μ := by
  refine gC_of (own := RX2) (lv0 := [(0, .ref (base + 145)), (1, .int (a1)), (2, .int (a2))]) rfl (by decide) (Nat.le_of_ble_eq_true rfl) rfl ?_
  unfold f_X2_fewerCoins at hS
  refine g_iconst (v := 0) dX2_fewerCoins_0 (by decide) ?_
  refine g_istore_n (lvx := [(3, .int ((0 : Int32))), (0, .ref (base + 145)), (1, .int (a1)), (2, .int (a2))]) dX2_fewerCoins_1 rfl (by decide) rfl ?_
  obtain ⟨z7, ez7, hS⟩ := ob hS
  refine g_sub (lvx := [(0, .ref (base + 145)), (1, .int (a1)), (2, .int (a2)), (3, .int ((0 : Int32)))]) [1, 2, 3, 0] rfl ?_
  refine iter_ind (fun vv => G l D cy base RX2 cX2_fewerCoins 4 (some .int) (gRm 1) (gXm yX2_fewerCoins) (gZm D cy base 0 0 (some (.int out)) gNN (gH cy base μ)) 2 [(0, .ref (base + 145)), (1, .int (a1)), (2, .int (a2)), (3, .int (vv))] [] 0 0 gNN (gH cy base μ)) (fun xx => match xx with | (.inl xx) => G l D cy base RX2 cX2_fewerCoins 4 (some .int) (gRm 1) (gXm yX2_fewerCoins) (gZm D cy base 0 0 (some (.int out)) gNN (gH cy base μ)) 31 [(3, .int (xx))] [] 0 0 gNN (gH cy base μ) | (.inr (xx)) => G l D cy base RX2 cX2_fewerCoins 4 (some .int) (gRm 1) (gXm yX2_fewerCoins) (gZm D cy base 0 0 (some (.int out)) gNN (gH cy base μ)) 39 [] [] 0 0 gNN (gH cy base μ)) (fun vv rr hh hin hout => k_X2_fewerCoins_b2 μ (a1) (a2)  vv rr hh hin (fun xx ee => hout (.inl xx) ee) (fun xx ee => hout (.inr (xx)) ee)) gFU ((0 : Int32)) z7 ez7 ?_
  cases z7 with
  | inl w8 =>
    replace hS := (Sum.elim_inl _ _ _).symm.trans hS
    show G l D cy base RX2 cX2_fewerCoins 4 (some .int) (gRm 1) (gXm yX2_fewerCoins) (gZm D cy base 0 0 (some (.int out)) gNN (gH cy base μ)) 31 [(3, .int (w8))] [] 0 0 gNN (gH cy base μ)
    refine g_iload_n (j := 0) (x := w8) dX2_fewerCoins_31 rfl rfl ?_
    obtain rfl := Option.some.inj hS
    exact g_iret rfl dX2_fewerCoins_32
  | inr w9 =>
    replace hS := (Sum.elim_inr _ _ _).symm.trans hS
    show G l D cy base RX2 cX2_fewerCoins 4 (some .int) (gRm 1) (gXm yX2_fewerCoins) (gZm D cy base 0 0 (some (.int out)) gNN (gH cy base μ)) 39 [] [] 0 0 gNN (gH cy base μ)
    refine g_iconst (v := 0) dX2_fewerCoins_39 (by decide) ?_
    obtain rfl := Option.some.inj hS
    exact g_iret rfl dX2_fewerCoins_40
def f_X2_coinsFor_b5 (m2 : Mem) (x1 : Int32) (v : Int32 × Int32) : Option ((Int32 × Int32) ⊕ ((Int32))) :=
  if x1 ≤ v.2 then (
    some (.inr (v.1))
  ) else (
    (f_X2_fewerCoins m2 (v.2) (v.1)).bind fun y3 =>
    some (.inl (((v.1 - y3)), ((v.2 + (1 : Int32)))))
  )
set_option maxRecDepth 100000 in
set_option maxHeartbeats 4000000 in
theorem k_X2_coinsFor_b5 {l : Launch} {D : va_G} {cy : Nat → ClassId} {base : Nat} {X : gX} {Z : gZ} (m2 : Mem) (x1 : Int32)  (v : Int32 × Int32) (r : (Int32 × Int32) ⊕ ((Int32))) (hS : f_X2_coinsFor_b5 m2 x1 v = some r) (hin : ∀ v2, r = .inl v2 → G l D cy base RX2 cX2_coinsFor 5 (some .int) (gRm 2) X Z 5 [(0, .ref (base + 145)), (1, .int (x1)), (3, .int (v2.1)), (4, .int (v2.2))] [] 0 0 gNN (gH cy base m2)) (hout0 : ∀ x, r = .inr x → G l D cy base RX2 cX2_coinsFor 5 (some .int) (gRm 2) X Z 27 [(0, .ref (base + 145)), (1, .int (x1)), (3, .int (x))] [] 0 0 gNN (gH cy base m2)) : G l D cy base RX2 cX2_coinsFor 5 (some .int) (gRm 2) X Z 5 [(0, .ref (base + 145)), (1, .int (x1)), (3, .int (v.1)), (4, .int (v.2))] [] 0 0 gNN (gH cy base m2) := by
  unfold f_X2_coinsFor_b5 at hS
  refine g_iload (j := 3) (x := v.2) dX2_coinsFor_5 rfl ?_
  refine g_iload_n (j := 1) (x := x1) dX2_coinsFor_7 rfl rfl ?_
  refine g_icmp_ge 27 dX2_coinsFor_8 (by decide) (fun hc => ?_) (fun hc => ?_)
  · replace hS := (if_pos hc).symm.trans hS
    refine g_sub (lvx := [(0, .ref (base + 145)), (1, .int (x1)), (3, .int (v.1))]) [0, 1, 2] rfl ?_
    obtain rfl := Option.some.inj hS
    exact hout0 ((v.1)) rfl
  · replace hS := (if_neg hc).symm.trans hS
    refine g_iload_n (j := 2) (x := v.1) dX2_coinsFor_11 rfl rfl ?_
    refine g_aload_n (j := 0) (x := base + 145) dX2_coinsFor_12 rfl rfl ?_
    refine g_iload (j := 3) (x := v.2) dX2_coinsFor_13 rfl ?_
    refine g_iload_n (j := 2) (x := v.1) dX2_coinsFor_15 rfl rfl ?_
    obtain ⟨y3, ey3, hS⟩ := ob hS
    refine gs_callVi (As := [.int (v.2), .int (v.1)]) (st := [.int (v.1)]) (kr := 145) (k_X2_fewerCoins m2 (v.2) (v.1)  ey3) cl_RX2_93 sv_X2_fewerCoins ckk_X2_fewerCoins (tk_145 _) ⟨by decide, by decide⟩ (Nat.le_of_ble_eq_true rfl) ⟨Nat.zero_le _, Nat.zero_le _⟩ rfl dX2_coinsFor_16 rfl ?_
    refine g_isub dX2_coinsFor_19 ?_
    refine g_istore_n (lvx := [(3, .int ((v.1 - y3))), (0, .ref (base + 145)), (1, .int (x1)), (4, .int (v.2))]) dX2_coinsFor_20 rfl (by decide) rfl ?_
    refine g_iinc (j := 3) (x := v.2) (v := (v.2 + (1 : Int32))) (lvx := [(4, .int ((v.2 + (1 : Int32)))), (3, .int ((v.1 - y3))), (0, .ref (base + 145)), (1, .int (x1))]) dX2_coinsFor_21 rfl rfl (by decide) rfl ?_
    refine g_goto 5 dX2_coinsFor_24 (by decide) ?_
    refine g_sub (lvx := [(0, .ref (base + 145)), (1, .int (x1)), (3, .int ((v.1 - y3))), (4, .int ((v.2 + (1 : Int32))))]) [2, 3, 1, 0] rfl ?_
    obtain rfl := Option.some.inj hS
    exact hin ((((v.1 - y3)), ((v.2 + (1 : Int32))))) rfl
def f_X2_coinsFor (μ : Mem) (a1 : Int32) (a2 : Int32) : Option (Int32) :=
  (iter gFU (f_X2_coinsFor_b5 μ (a1)) ((a2), ((0 : Int32)))).bind fun z4 =>
  (f_X2_fewerCoins μ (a1) (z4)).bind fun y5 =>
  some (y5)
set_option maxRecDepth 100000 in
set_option maxHeartbeats 4000000 in
theorem k_X2_coinsFor {l : Launch} {D : va_G} {cy : Nat → ClassId} {base : Nat} (μ : Mem) (a1 : Int32) (a2 : Int32)  {out : Int32} (hS : f_X2_coinsFor μ a1 a2 = some out) : gC l D cy base yX2_coinsFor cX2_coinsFor 5 (some .int) 2 [.ref (base + 145), .int (a1), .int (a2)] μ (some (.int out)) μ := by
  refine gC_of (own := RX2) (lv0 := [(0, .ref (base + 145)), (1, .int (a1)), (2, .int (a2))]) rfl (by decide) (Nat.le_of_ble_eq_true rfl) rfl ?_
  unfold f_X2_coinsFor at hS
  refine g_iload_n (j := 2) (x := a2) dX2_coinsFor_0 rfl rfl ?_
  refine g_istore_n (lvx := [(3, .int (a2)), (0, .ref (base + 145)), (1, .int (a1)), (2, .int (a2))]) dX2_coinsFor_1 rfl (by decide) rfl ?_
  refine g_iconst (v := 0) dX2_coinsFor_2 (by decide) ?_
  refine g_istore (lvx := [(4, .int ((0 : Int32))), (3, .int (a2)), (0, .ref (base + 145)), (1, .int (a1)), (2, .int (a2))]) dX2_coinsFor_3 (by decide) rfl ?_
  obtain ⟨z4, ez4, hS⟩ := ob hS
  refine g_sub (lvx := [(0, .ref (base + 145)), (1, .int (a1)), (3, .int (a2)), (4, .int ((0 : Int32)))]) [2, 3, 1, 0] rfl ?_
  refine iter_ind (fun vv => G l D cy base RX2 cX2_coinsFor 5 (some .int) (gRm 2) (gXm yX2_coinsFor) (gZm D cy base 0 0 (some (.int out)) gNN (gH cy base μ)) 5 [(0, .ref (base + 145)), (1, .int (a1)), (3, .int (vv.1)), (4, .int (vv.2))] [] 0 0 gNN (gH cy base μ)) (fun xx => G l D cy base RX2 cX2_coinsFor 5 (some .int) (gRm 2) (gXm yX2_coinsFor) (gZm D cy base 0 0 (some (.int out)) gNN (gH cy base μ)) 27 [(0, .ref (base + 145)), (1, .int (a1)), (3, .int (xx))] [] 0 0 gNN (gH cy base μ)) (fun vv rr hh hin hout => k_X2_coinsFor_b5 μ (a1)  vv rr hh hin (fun xx ee => hout xx ee)) gFU ((a2), ((0 : Int32))) z4 ez4 ?_
  show G l D cy base RX2 cX2_coinsFor 5 (some .int) (gRm 2) (gXm yX2_coinsFor) (gZm D cy base 0 0 (some (.int out)) gNN (gH cy base μ)) 27 [(0, .ref (base + 145)), (1, .int (a1)), (3, .int (z4))] [] 0 0 gNN (gH cy base μ)
  refine g_aload_n (j := 0) (x := base + 145) dX2_coinsFor_27 rfl rfl ?_
  refine g_iload_n (j := 1) (x := a1) dX2_coinsFor_28 rfl rfl ?_
  refine g_iload_n (j := 2) (x := z4) dX2_coinsFor_29 rfl rfl ?_
  obtain ⟨y5, ey5, hS⟩ := ob hS
  refine gs_callVi (As := [.int (a1), .int (z4)]) (st := []) (kr := 145) (k_X2_fewerCoins μ (a1) (z4)  ey5) cl_RX2_93 sv_X2_fewerCoins ckk_X2_fewerCoins (tk_145 _) ⟨by decide, by decide⟩ (Nat.le_of_ble_eq_true rfl) ⟨Nat.zero_le _, Nat.zero_le _⟩ rfl dX2_coinsFor_30 rfl ?_
  obtain rfl := Option.some.inj hS
  exact g_iret rfl dX2_coinsFor_33
def f_X2_yearsTillFree_b11 (m3 : Mem) (x1 : Int32) (x2 : Int32) (v : Int32 × Int32) : Option ((Int32 × Int32) ⊕ ((Int32) ⊕ (Unit))) :=
  if (99 : Int32) < v.2 then (
    some (.inr (.inr (())))
  ) else (
    if (mxI ((0 : Int32)) ((v.1 - x2))) = (0 : Int32) then (
      some (.inr (.inl (v.2)))
    ) else (
      some (.inl (((mnI ((999 : Int32)) (((mxI ((0 : Int32)) ((v.1 - x2))) + x1)))), ((v.2 + (1 : Int32)))))
    )
  )
set_option maxRecDepth 100000 in
set_option maxHeartbeats 4000000 in
theorem k_X2_yearsTillFree_b11 {l : Launch} {D : va_G} {cy : Nat → ClassId} {base : Nat} {X : gX} {Z : gZ} (m3 : Mem) (x1 : Int32) (x2 : Int32)  (v : Int32 × Int32) (r : (Int32 × Int32) ⊕ ((Int32) ⊕ (Unit))) (hS : f_X2_yearsTillFree_b11 m3 x1 x2 v = some r) (hin : ∀ v2, r = .inl v2 → G l D cy base RX2 cX2_yearsTillFree 5 (some .int) (gRm 1) X Z 11 [(1, .int (x1)), (2, .int (x2)), (3, .int (v2.1)), (4, .int (v2.2))] [] 0 0 gNN (gH cy base m3)) (hout0 : ∀ x, r = .inr (.inl x) → G l D cy base RX2 cX2_yearsTillFree 5 (some .int) (gRm 1) X Z 30 [(4, .int (x))] [] 0 0 gNN (gH cy base m3)) (hout1 : ∀ x, r = .inr (.inr (x)) → G l D cy base RX2 cX2_yearsTillFree 5 (some .int) (gRm 1) X Z 49 [] [] 0 0 gNN (gH cy base m3)) : G l D cy base RX2 cX2_yearsTillFree 5 (some .int) (gRm 1) X Z 11 [(1, .int (x1)), (2, .int (x2)), (3, .int (v.1)), (4, .int (v.2))] [] 0 0 gNN (gH cy base m3) := by
  unfold f_X2_yearsTillFree_b11 at hS
  refine g_iload (j := 3) (x := v.2) dX2_yearsTillFree_11 rfl ?_
  refine g_bipush (v := 99) dX2_yearsTillFree_13 (by decide) ?_
  refine g_icmp_gt 49 dX2_yearsTillFree_15 (by decide) (fun hc => ?_) (fun hc => ?_)
  · replace hS := (if_pos hc).symm.trans hS
    refine g_sub (lvx := []) [] rfl ?_
    obtain rfl := Option.some.inj hS
    exact hout1 (()) rfl
  · replace hS := (if_neg hc).symm.trans hS
    refine g_iconst (v := 0) dX2_yearsTillFree_18 (by decide) ?_
    refine g_iload_n (j := 2) (x := v.1) dX2_yearsTillFree_19 rfl rfl ?_
    refine g_iload_n (j := 1) (x := x2) dX2_yearsTillFree_20 rfl rfl ?_
    refine g_isub dX2_yearsTillFree_21 ?_
    refine gs_mmax cl_RX2_66 sv_J9_max_7cf53 (by decide) (Nat.le_of_ble_eq_true rfl) (Nat.zero_le _) (Nat.zero_le _) dX2_yearsTillFree_22 ?_
    refine g_istore_n (lvx := [(3, .int ((mxI ((0 : Int32)) ((v.1 - x2))))), (1, .int (x1)), (2, .int (x2)), (4, .int (v.2))]) dX2_yearsTillFree_25 rfl (by decide) rfl ?_
    refine g_iload_n (j := 0) (x := (mxI ((0 : Int32)) ((v.1 - x2)))) dX2_yearsTillFree_26 rfl rfl ?_
    refine g_if_ne 33 dX2_yearsTillFree_27 (by decide) (fun hc => ?_) (fun hc => ?_)
    · replace hS := (if_neg hc).symm.trans hS
      refine g_sipush (v := 999) dX2_yearsTillFree_33 (by decide) ?_
      refine g_iload_n (j := 0) (x := (mxI ((0 : Int32)) ((v.1 - x2)))) dX2_yearsTillFree_36 rfl rfl ?_
      refine g_iload_n (j := 1) (x := x1) dX2_yearsTillFree_37 rfl rfl ?_
      refine g_iadd dX2_yearsTillFree_38 ?_
      refine gs_mmin cl_RX2_60 sv_J9_min_7cf53 (by decide) (Nat.le_of_ble_eq_true rfl) (Nat.zero_le _) (Nat.zero_le _) dX2_yearsTillFree_39 ?_
      refine g_istore_n (lvx := [(3, .int ((mnI ((999 : Int32)) (((mxI ((0 : Int32)) ((v.1 - x2))) + x1))))), (1, .int (x1)), (2, .int (x2)), (4, .int (v.2))]) dX2_yearsTillFree_42 rfl (by decide) rfl ?_
      refine g_iinc (j := 3) (x := v.2) (v := (v.2 + (1 : Int32))) (lvx := [(4, .int ((v.2 + (1 : Int32)))), (3, .int ((mnI ((999 : Int32)) (((mxI ((0 : Int32)) ((v.1 - x2))) + x1))))), (1, .int (x1)), (2, .int (x2))]) dX2_yearsTillFree_43 rfl rfl (by decide) rfl ?_
      refine g_goto 11 dX2_yearsTillFree_46 (by decide) ?_
      refine g_sub (lvx := [(1, .int (x1)), (2, .int (x2)), (3, .int ((mnI ((999 : Int32)) (((mxI ((0 : Int32)) ((v.1 - x2))) + x1))))), (4, .int ((v.2 + (1 : Int32))))]) [2, 3, 1, 0] rfl ?_
      obtain rfl := Option.some.inj hS
      exact hin ((((mnI ((999 : Int32)) (((mxI ((0 : Int32)) ((v.1 - x2))) + x1)))), ((v.2 + (1 : Int32))))) rfl
    · replace hS := (if_pos hc).symm.trans hS
      refine g_sub (lvx := [(4, .int (v.2))]) [3] rfl ?_
      obtain rfl := Option.some.inj hS
      exact hout0 ((v.2)) rfl
def f_X2_yearsTillFree (μ : Mem) (a0 : Int32) (a1 : Int32) (a2 : Int32) : Option (Int32) :=
  if a0 = (0 : Int32) then (
    some ((0 : Int32))
  ) else (
    (iter gFU (f_X2_yearsTillFree_b11 μ (a1) (a2)) ((a0), ((1 : Int32)))).bind fun z4 =>
    Sum.elim (fun w5 => 
      some (w5)
    ) (fun w6 => 
      some ((-9 : Int32))
    ) z4
  )
set_option maxRecDepth 100000 in
set_option maxHeartbeats 4000000 in
theorem k_X2_yearsTillFree {l : Launch} {D : va_G} {cy : Nat → ClassId} {base : Nat} (μ : Mem) (a0 : Int32) (a1 : Int32) (a2 : Int32)  {out : Int32} (hS : f_X2_yearsTillFree μ a0 a1 a2 = some out) : gC l D cy base yX2_yearsTillFree cX2_yearsTillFree 5 (some .int) 1 [.int (a0), .int (a1), .int (a2)] μ (some (.int out)) μ := by
  refine gC_of (own := RX2) (lv0 := [(0, .int (a0)), (1, .int (a1)), (2, .int (a2))]) rfl (by decide) (Nat.le_of_ble_eq_true rfl) rfl ?_
  unfold f_X2_yearsTillFree at hS
  refine g_iload_n (j := 0) (x := a0) dX2_yearsTillFree_0 rfl rfl ?_
  refine g_if_ne 6 dX2_yearsTillFree_1 (by decide) (fun hc => ?_) (fun hc => ?_)
  · replace hS := (if_neg hc).symm.trans hS
    refine g_iload_n (j := 0) (x := a0) dX2_yearsTillFree_6 rfl rfl ?_
    refine g_istore_n (lvx := [(3, .int (a0)), (0, .int (a0)), (1, .int (a1)), (2, .int (a2))]) dX2_yearsTillFree_7 rfl (by decide) rfl ?_
    refine g_iconst (v := 1) dX2_yearsTillFree_8 (by decide) ?_
    refine g_istore (lvx := [(4, .int ((1 : Int32))), (3, .int (a0)), (0, .int (a0)), (1, .int (a1)), (2, .int (a2))]) dX2_yearsTillFree_9 (by decide) rfl ?_
    obtain ⟨z4, ez4, hS⟩ := ob hS
    refine g_sub (lvx := [(1, .int (a1)), (2, .int (a2)), (3, .int (a0)), (4, .int ((1 : Int32)))]) [3, 4, 1, 0] rfl ?_
    refine iter_ind (fun vv => G l D cy base RX2 cX2_yearsTillFree 5 (some .int) (gRm 1) (gXm yX2_yearsTillFree) (gZm D cy base 0 0 (some (.int out)) gNN (gH cy base μ)) 11 [(1, .int (a1)), (2, .int (a2)), (3, .int (vv.1)), (4, .int (vv.2))] [] 0 0 gNN (gH cy base μ)) (fun xx => match xx with | (.inl xx) => G l D cy base RX2 cX2_yearsTillFree 5 (some .int) (gRm 1) (gXm yX2_yearsTillFree) (gZm D cy base 0 0 (some (.int out)) gNN (gH cy base μ)) 30 [(4, .int (xx))] [] 0 0 gNN (gH cy base μ) | (.inr (xx)) => G l D cy base RX2 cX2_yearsTillFree 5 (some .int) (gRm 1) (gXm yX2_yearsTillFree) (gZm D cy base 0 0 (some (.int out)) gNN (gH cy base μ)) 49 [] [] 0 0 gNN (gH cy base μ)) (fun vv rr hh hin hout => k_X2_yearsTillFree_b11 μ (a1) (a2)  vv rr hh hin (fun xx ee => hout (.inl xx) ee) (fun xx ee => hout (.inr (xx)) ee)) gFU ((a0), ((1 : Int32))) z4 ez4 ?_
    cases z4 with
    | inl w5 =>
      replace hS := (Sum.elim_inl _ _ _).symm.trans hS
      show G l D cy base RX2 cX2_yearsTillFree 5 (some .int) (gRm 1) (gXm yX2_yearsTillFree) (gZm D cy base 0 0 (some (.int out)) gNN (gH cy base μ)) 30 [(4, .int (w5))] [] 0 0 gNN (gH cy base μ)
      refine g_iload (j := 0) (x := w5) dX2_yearsTillFree_30 rfl ?_
      obtain rfl := Option.some.inj hS
      exact g_iret rfl dX2_yearsTillFree_32
    | inr w6 =>
      replace hS := (Sum.elim_inr _ _ _).symm.trans hS
      show G l D cy base RX2 cX2_yearsTillFree 5 (some .int) (gRm 1) (gXm yX2_yearsTillFree) (gZm D cy base 0 0 (some (.int out)) gNN (gH cy base μ)) 49 [] [] 0 0 gNN (gH cy base μ)
      refine g_bipush (v := -9) dX2_yearsTillFree_49 (by decide) ?_
      obtain rfl := Option.some.inj hS
      exact g_iret rfl dX2_yearsTillFree_51
  · replace hS := (if_pos hc).symm.trans hS
    refine g_iconst (v := 0) dX2_yearsTillFree_4 (by decide) ?_
    obtain rfl := Option.some.inj hS
    exact g_iret rfl dX2_yearsTillFree_5
def f_X3_forget (μ : Mem) (q0a : Nat) : Option (Mem) :=
  (stI μ q0a 7 ((0 : Int32))).bind fun m1 =>
  (stI m1 q0a 8 ((0 : Int32))).bind fun m2 =>
  (stI m2 q0a 9 ((3 : Int32))).bind fun m3 =>
  (stI m3 q0a 10 ((3 : Int32))).bind fun m4 =>
  (stI m4 q0a 11 ((0 : Int32))).bind fun m5 =>
  (stI m5 q0a 12 ((0 : Int32))).bind fun m6 =>
  some m6
set_option maxRecDepth 100000 in
set_option maxHeartbeats 4000000 in
theorem k_X3_forget {l : Launch} {D : va_G} {cy : Nat → ClassId} {base : Nat} (μ : Mem) (q0a : Nat) (hq0a : isPl q0a = true) {out : Mem} (hS : f_X3_forget μ q0a = some out) : gC l D cy base yX3_forget cX3_forget 1 none 0 [.ref (base + q0a)] μ none out := by
  refine gC_of (own := RX3) (lv0 := [(0, .ref (base + q0a))]) rfl (by decide) (Nat.le_of_ble_eq_true rfl) rfl ?_
  unfold f_X3_forget at hS
  refine g_aload_n (j := 0) (x := base + q0a) dX3_forget_0 rfl rfl ?_
  refine g_iconst (v := 0) dX3_forget_1 (by decide) ?_
  obtain ⟨m1, em1, hS⟩ := ob hS
  refine gs_putI lw_RX3_33 (tkPl_0 hq0a _) rfl rfl rfl dX3_forget_2 em1 ?_
  refine g_aload_n (j := 0) (x := base + q0a) dX3_forget_5 rfl rfl ?_
  refine g_iconst (v := 0) dX3_forget_6 (by decide) ?_
  obtain ⟨m2, em2, hS⟩ := ob hS
  refine gs_putI lw_RX3_37 (tkPl_0 hq0a _) rfl rfl rfl dX3_forget_7 em2 ?_
  refine g_aload_n (j := 0) (x := base + q0a) dX3_forget_10 rfl rfl ?_
  refine g_iconst (v := 3) dX3_forget_11 (by decide) ?_
  obtain ⟨m3, em3, hS⟩ := ob hS
  refine gs_putI lw_RX3_40 (tkPl_0 hq0a _) rfl rfl rfl dX3_forget_12 em3 ?_
  refine g_aload_n (j := 0) (x := base + q0a) dX3_forget_15 rfl rfl ?_
  refine g_iconst (v := 3) dX3_forget_16 (by decide) ?_
  obtain ⟨m4, em4, hS⟩ := ob hS
  refine gs_putI lw_RX3_43 (tkPl_0 hq0a _) rfl rfl rfl dX3_forget_17 em4 ?_
  refine g_aload_n (j := 0) (x := base + q0a) dX3_forget_20 rfl rfl ?_
  refine g_iconst (v := 0) dX3_forget_21 (by decide) ?_
  obtain ⟨m5, em5, hS⟩ := ob hS
  refine gs_putI lw_RX3_46 (tkPl_0 hq0a _) rfl rfl rfl dX3_forget_22 em5 ?_
  refine g_aload_n (j := 0) (x := base + q0a) dX3_forget_25 rfl rfl ?_
  refine g_iconst (v := 0) dX3_forget_26 (by decide) ?_
  obtain ⟨m6, em6, hS⟩ := ob hS
  refine gs_putI lw_RX3_50 (tkPl_0 hq0a _) rfl rfl rfl dX3_forget_27 em6 ?_
  obtain rfl := Option.some.inj hS
  exact g_vret rfl dX3_forget_30
def f_X3_hasStair (μ : Mem) (q0a : Nat) (a1 : Int32) : Option (Int32) :=
  if a1 < (0 : Int32) then (
    some (0 : Int32)
  ) else (
    if (gi μ q0a 7) ≤ a1 then (
      some (0 : Int32)
    ) else (
      some (1 : Int32)
    )
  )
set_option maxRecDepth 100000 in
set_option maxHeartbeats 4000000 in
theorem k_X3_hasStair {l : Launch} {D : va_G} {cy : Nat → ClassId} {base : Nat} (μ : Mem) (q0a : Nat) (a1 : Int32) (hq0a : isPl q0a = true) {out : Int32} (hS : f_X3_hasStair μ q0a a1 = some out) : gC l D cy base yX3_hasStair cX3_hasStair 2 (some .boolean) 0 [.ref (base + q0a), .int (a1)] μ (some (.int out)) μ := by
  refine gC_of (own := RX3) (lv0 := [(0, .ref (base + q0a)), (1, .int (a1))]) rfl (by decide) (Nat.le_of_ble_eq_true rfl) rfl ?_
  unfold f_X3_hasStair at hS
  refine g_iload_n (j := 1) (x := a1) dX3_hasStair_0 rfl rfl ?_
  refine g_if_lt 16 dX3_hasStair_1 (by decide) (fun hc => ?_) (fun hc => ?_)
  · replace hS := (if_pos hc).symm.trans hS
    refine g_iconst (v := 0) dX3_hasStair_16 (by decide) ?_
    obtain rfl := Option.some.inj hS
    exact g_zret (v := (0 : Int32)) rfl rfl dX3_hasStair_17
  · replace hS := (if_neg hc).symm.trans hS
    refine g_iload_n (j := 1) (x := a1) dX3_hasStair_4 rfl rfl ?_
    refine g_aload_n (j := 0) (x := base + q0a) dX3_hasStair_5 rfl rfl ?_
    refine gs_getI lk_RX3_33 (tkPl_0 hq0a _) rfl dX3_hasStair_6 ?_
    refine g_icmp_ge 16 dX3_hasStair_9 (by decide) (fun hc => ?_) (fun hc => ?_)
    · replace hS := (if_pos hc).symm.trans hS
      refine g_iconst (v := 0) dX3_hasStair_16 (by decide) ?_
      obtain rfl := Option.some.inj hS
      exact g_zret (v := (0 : Int32)) rfl rfl dX3_hasStair_17
    · replace hS := (if_neg hc).symm.trans hS
      refine g_iconst (v := 1) dX3_hasStair_12 (by decide) ?_
      refine g_goto 17 dX3_hasStair_13 (by decide) ?_
      obtain rfl := Option.some.inj hS
      exact g_zret (v := (1 : Int32)) rfl rfl dX3_hasStair_17
def f_X3_hasTwoStairs (μ : Mem) (q0a : Nat) (a1 : Int32) (a2 : Int32) : Option (Int32) :=
  (f_X3_hasStair μ (q0a) (a1)).bind fun y1 =>
  if y1 = (0 : Int32) then (
    some (0 : Int32)
  ) else (
    (f_X3_hasStair μ (q0a) (a2)).bind fun y2 =>
    if y2 = (0 : Int32) then (
      some (0 : Int32)
    ) else (
      if a1 = a2 then (
        some (0 : Int32)
      ) else (
        some (1 : Int32)
      )
    )
  )
set_option maxRecDepth 100000 in
set_option maxHeartbeats 4000000 in
theorem k_X3_hasTwoStairs {l : Launch} {D : va_G} {cy : Nat → ClassId} {base : Nat} (μ : Mem) (q0a : Nat) (a1 : Int32) (a2 : Int32) (hq0a : isPl q0a = true) {out : Int32} (hS : f_X3_hasTwoStairs μ q0a a1 a2 = some out) : gC l D cy base yX3_hasTwoStairs cX3_hasTwoStairs 3 (some .boolean) 1 [.ref (base + q0a), .int (a1), .int (a2)] μ (some (.int out)) μ := by
  refine gC_of (own := RX3) (lv0 := [(0, .ref (base + q0a)), (1, .int (a1)), (2, .int (a2))]) rfl (by decide) (Nat.le_of_ble_eq_true rfl) rfl ?_
  unfold f_X3_hasTwoStairs at hS
  refine g_aload_n (j := 0) (x := base + q0a) dX3_hasTwoStairs_0 rfl rfl ?_
  refine g_iload_n (j := 1) (x := a1) dX3_hasTwoStairs_1 rfl rfl ?_
  obtain ⟨y1, ey1, hS⟩ := ob hS
  refine gs_callVi (As := [.int (a1)]) (st := []) (kr := q0a) (k_X3_hasStair μ (q0a) (a1) hq0a ey1) cl_RX3_53 sv_X3_hasStair ckk_X3_hasStair (tkPl_0 hq0a _) ⟨by decide, by decide⟩ (Nat.le_of_ble_eq_true rfl) ⟨Nat.zero_le _, Nat.zero_le _⟩ rfl dX3_hasTwoStairs_2 rfl ?_
  refine g_if_eq 25 dX3_hasTwoStairs_5 (by decide) (fun hc => ?_) (fun hc => ?_)
  · replace hS := (if_pos hc).symm.trans hS
    refine g_iconst (v := 0) dX3_hasTwoStairs_25 (by decide) ?_
    obtain rfl := Option.some.inj hS
    exact g_zret (v := (0 : Int32)) rfl rfl dX3_hasTwoStairs_26
  · replace hS := (if_neg hc).symm.trans hS
    refine g_aload_n (j := 0) (x := base + q0a) dX3_hasTwoStairs_8 rfl rfl ?_
    refine g_iload_n (j := 2) (x := a2) dX3_hasTwoStairs_9 rfl rfl ?_
    obtain ⟨y2, ey2, hS⟩ := ob hS
    refine gs_callVi (As := [.int (a2)]) (st := []) (kr := q0a) (k_X3_hasStair μ (q0a) (a2) hq0a ey2) cl_RX3_53 sv_X3_hasStair ckk_X3_hasStair (tkPl_0 hq0a _) ⟨by decide, by decide⟩ (Nat.le_of_ble_eq_true rfl) ⟨Nat.zero_le _, Nat.zero_le _⟩ rfl dX3_hasTwoStairs_10 rfl ?_
    refine g_if_eq 25 dX3_hasTwoStairs_13 (by decide) (fun hc => ?_) (fun hc => ?_)
    · replace hS := (if_pos hc).symm.trans hS
      refine g_iconst (v := 0) dX3_hasTwoStairs_25 (by decide) ?_
      obtain rfl := Option.some.inj hS
      exact g_zret (v := (0 : Int32)) rfl rfl dX3_hasTwoStairs_26
    · replace hS := (if_neg hc).symm.trans hS
      refine g_iload_n (j := 1) (x := a1) dX3_hasTwoStairs_16 rfl rfl ?_
      refine g_iload_n (j := 2) (x := a2) dX3_hasTwoStairs_17 rfl rfl ?_
      refine g_icmp_eq 25 dX3_hasTwoStairs_18 (by decide) (fun hc => ?_) (fun hc => ?_)
      · replace hS := (if_pos hc).symm.trans hS
        refine g_iconst (v := 0) dX3_hasTwoStairs_25 (by decide) ?_
        obtain rfl := Option.some.inj hS
        exact g_zret (v := (0 : Int32)) rfl rfl dX3_hasTwoStairs_26
      · replace hS := (if_neg hc).symm.trans hS
        refine g_iconst (v := 1) dX3_hasTwoStairs_21 (by decide) ?_
        refine g_goto 26 dX3_hasTwoStairs_22 (by decide) ?_
        obtain rfl := Option.some.inj hS
        exact g_zret (v := (1 : Int32)) rfl rfl dX3_hasTwoStairs_26
def f_X3_hasPerson (μ : Mem) (q0a : Nat) (a1 : Int32) : Option (Int32) :=
  if a1 < (0 : Int32) then (
    some (0 : Int32)
  ) else (
    if (gi μ q0a 8) ≤ a1 then (
      some (0 : Int32)
    ) else (
      some (1 : Int32)
    )
  )
set_option maxRecDepth 100000 in
set_option maxHeartbeats 4000000 in
theorem k_X3_hasPerson {l : Launch} {D : va_G} {cy : Nat → ClassId} {base : Nat} (μ : Mem) (q0a : Nat) (a1 : Int32) (hq0a : isPl q0a = true) {out : Int32} (hS : f_X3_hasPerson μ q0a a1 = some out) : gC l D cy base yX3_hasPerson cX3_hasPerson 2 (some .boolean) 0 [.ref (base + q0a), .int (a1)] μ (some (.int out)) μ := by
  refine gC_of (own := RX3) (lv0 := [(0, .ref (base + q0a)), (1, .int (a1))]) rfl (by decide) (Nat.le_of_ble_eq_true rfl) rfl ?_
  unfold f_X3_hasPerson at hS
  refine g_iload_n (j := 1) (x := a1) dX3_hasPerson_0 rfl rfl ?_
  refine g_if_lt 16 dX3_hasPerson_1 (by decide) (fun hc => ?_) (fun hc => ?_)
  · replace hS := (if_pos hc).symm.trans hS
    refine g_iconst (v := 0) dX3_hasPerson_16 (by decide) ?_
    obtain rfl := Option.some.inj hS
    exact g_zret (v := (0 : Int32)) rfl rfl dX3_hasPerson_17
  · replace hS := (if_neg hc).symm.trans hS
    refine g_iload_n (j := 1) (x := a1) dX3_hasPerson_4 rfl rfl ?_
    refine g_aload_n (j := 0) (x := base + q0a) dX3_hasPerson_5 rfl rfl ?_
    refine gs_getI lk_RX3_37 (tkPl_0 hq0a _) rfl dX3_hasPerson_6 ?_
    refine g_icmp_ge 16 dX3_hasPerson_9 (by decide) (fun hc => ?_) (fun hc => ?_)
    · replace hS := (if_pos hc).symm.trans hS
      refine g_iconst (v := 0) dX3_hasPerson_16 (by decide) ?_
      obtain rfl := Option.some.inj hS
      exact g_zret (v := (0 : Int32)) rfl rfl dX3_hasPerson_17
    · replace hS := (if_neg hc).symm.trans hS
      refine g_iconst (v := 1) dX3_hasPerson_12 (by decide) ?_
      refine g_goto 17 dX3_hasPerson_13 (by decide) ?_
      obtain rfl := Option.some.inj hS
      exact g_zret (v := (1 : Int32)) rfl rfl dX3_hasPerson_17
def f_X4_take (μ : Mem) (a1 : Int32) : Option (Int32 × Mem) :=
  if (gi μ 1 1) < (200 : Int32) then (
    (stA μ 2 200 ((gi μ 1 1)) (a1)).bind fun m1 =>
    (stI m1 1 1 (((gi m1 1 1) + (1 : Int32)))).bind fun m2 =>
    some ((1 : Int32), m2)
  ) else (
    some ((0 : Int32), μ)
  )
set_option maxRecDepth 100000 in
set_option maxHeartbeats 4000000 in
theorem k_X4_take {l : Launch} {D : va_G} {cy : Nat → ClassId} {base : Nat} (μ : Mem) (a1 : Int32)  {out : Int32 × Mem} (hS : f_X4_take μ a1 = some out) : gC l D cy base yX4_take cX4_take 2 (some .boolean) 0 [.ref (base + 1), .int (a1)] μ (some (.int out.1)) out.2 := by
  refine gC_of (own := RX4) (lv0 := [(0, .ref (base + 1)), (1, .int (a1))]) rfl (by decide) (Nat.le_of_ble_eq_true rfl) rfl ?_
  unfold f_X4_take at hS
  refine g_aload_n (j := 0) (x := base + 1) dX4_take_0 rfl rfl ?_
  refine gs_getI lk_RX4_15 (tk_1 _) rfl dX4_take_1 ?_
  refine g_sipush (v := 200) dX4_take_4 (by decide) ?_
  refine g_icmp_lt 12 dX4_take_7 (by decide) (fun hc => ?_) (fun hc => ?_)
  · replace hS := (if_pos hc).symm.trans hS
    refine g_aload_n (j := 0) (x := base + 1) dX4_take_12 rfl rfl ?_
    refine gs_getR (r := 2) lk_RX4_9 (tk_1 _) rfl dX4_take_13 ?_
    refine g_aload_n (j := 0) (x := base + 1) dX4_take_16 rfl rfl ?_
    refine gs_getI lk_RX4_15 (tk_1 _) rfl dX4_take_17 ?_
    refine g_iload_n (j := 1) (x := a1) dX4_take_20 rfl rfl ?_
    obtain ⟨m1, em1, hS⟩ := ob hS
    refine gs_iast (tk_2 _) dX4_take_21 em1 ?_
    refine g_aload_n (j := 0) (x := base + 1) dX4_take_22 rfl rfl ?_
    refine g_dup dX4_take_23 rfl ?_
    refine gs_getI lk_RX4_15 (tk_1 _) rfl dX4_take_24 ?_
    refine g_iconst (v := 1) dX4_take_27 (by decide) ?_
    refine g_iadd dX4_take_28 ?_
    obtain ⟨m2, em2, hS⟩ := ob hS
    refine gs_putI lw_RX4_15 (tk_1 _) rfl rfl rfl dX4_take_29 em2 ?_
    refine g_iconst (v := 1) dX4_take_32 (by decide) ?_
    obtain rfl := Option.some.inj hS
    exact g_zret (v := (1 : Int32)) rfl rfl dX4_take_33
  · replace hS := (if_neg hc).symm.trans hS
    refine g_iconst (v := 0) dX4_take_10 (by decide) ?_
    obtain rfl := Option.some.inj hS
    exact g_zret (v := (0 : Int32)) rfl rfl dX4_take_11
def f_X4_empty (μ : Mem)  : Option (Mem) :=
  (stI μ 1 1 ((0 : Int32))).bind fun m1 =>
  some m1
set_option maxRecDepth 100000 in
set_option maxHeartbeats 4000000 in
theorem k_X4_empty {l : Launch} {D : va_G} {cy : Nat → ClassId} {base : Nat} (μ : Mem)   {out : Mem} (hS : f_X4_empty μ  = some out) : gC l D cy base yX4_empty cX4_empty 1 none 0 [.ref (base + 1)] μ none out := by
  refine gC_of (own := RX4) (lv0 := [(0, .ref (base + 1))]) rfl (by decide) (Nat.le_of_ble_eq_true rfl) rfl ?_
  unfold f_X4_empty at hS
  refine g_aload_n (j := 0) (x := base + 1) dX4_empty_0 rfl rfl ?_
  refine g_iconst (v := 0) dX4_empty_1 (by decide) ?_
  obtain ⟨m1, em1, hS⟩ := ob hS
  refine gs_putI lw_RX4_15 (tk_1 _) rfl rfl rfl dX4_empty_2 em1 ?_
  obtain rfl := Option.some.inj hS
  exact g_vret rfl dX4_empty_5
def f_X4_isLetter (μ : Mem) (a0 : Int32) : Option (Int32) :=
  if a0 < (97 : Int32) then (
    some (0 : Int32)
  ) else (
    if (122 : Int32) < a0 then (
      some (0 : Int32)
    ) else (
      some (1 : Int32)
    )
  )
set_option maxRecDepth 100000 in
set_option maxHeartbeats 4000000 in
theorem k_X4_isLetter {l : Launch} {D : va_G} {cy : Nat → ClassId} {base : Nat} (μ : Mem) (a0 : Int32)  {out : Int32} (hS : f_X4_isLetter μ a0 = some out) : gC l D cy base yX4_isLetter cX4_isLetter 1 (some .boolean) 0 [.int (a0)] μ (some (.int out)) μ := by
  refine gC_of (own := RX4) (lv0 := [(0, .int (a0))]) rfl (by decide) (Nat.le_of_ble_eq_true rfl) rfl ?_
  unfold f_X4_isLetter at hS
  refine g_iload_n (j := 0) (x := a0) dX4_isLetter_0 rfl rfl ?_
  refine g_bipush (v := 97) dX4_isLetter_1 (by decide) ?_
  refine g_icmp_lt 16 dX4_isLetter_3 (by decide) (fun hc => ?_) (fun hc => ?_)
  · replace hS := (if_pos hc).symm.trans hS
    refine g_iconst (v := 0) dX4_isLetter_16 (by decide) ?_
    obtain rfl := Option.some.inj hS
    exact g_zret (v := (0 : Int32)) rfl rfl dX4_isLetter_17
  · replace hS := (if_neg hc).symm.trans hS
    refine g_iload_n (j := 0) (x := a0) dX4_isLetter_6 rfl rfl ?_
    refine g_bipush (v := 122) dX4_isLetter_7 (by decide) ?_
    refine g_icmp_gt 16 dX4_isLetter_9 (by decide) (fun hc => ?_) (fun hc => ?_)
    · replace hS := (if_pos hc).symm.trans hS
      refine g_iconst (v := 0) dX4_isLetter_16 (by decide) ?_
      obtain rfl := Option.some.inj hS
      exact g_zret (v := (0 : Int32)) rfl rfl dX4_isLetter_17
    · replace hS := (if_neg hc).symm.trans hS
      refine g_iconst (v := 1) dX4_isLetter_12 (by decide) ?_
      refine g_goto 17 dX4_isLetter_13 (by decide) ?_
      obtain rfl := Option.some.inj hS
      exact g_zret (v := (1 : Int32)) rfl rfl dX4_isLetter_17
def f_X4_takeWord_b5  (v : Mem) : Option ((Mem) ⊕ ((Mem))) :=
  if (gi v 1 1) ≤ (gi v 1 2) then (
    some (.inr (v))
  ) else (
    (ldA v 2 200 ((gi v 1 2))).bind fun y2 =>
    (f_X4_isLetter v (y2)).bind fun y3 =>
    if y3 = (0 : Int32) then (
      some (.inr (v))
    ) else (
      (stI v 1 2 (((gi v 1 2) + (1 : Int32)))).bind fun m4 =>
      some (.inl (m4))
    )
  )
set_option maxRecDepth 100000 in
set_option maxHeartbeats 4000000 in
theorem k_X4_takeWord_b5 {l : Launch} {D : va_G} {cy : Nat → ClassId} {base : Nat} {X : gX} {Z : gZ}   (v : Mem) (r : (Mem) ⊕ ((Mem))) (hS : f_X4_takeWord_b5  v = some r) (hin : ∀ v2, r = .inl v2 → G l D cy base RX4 cX4_takeWord 1 none (gRm 1) X Z 5 [(0, .ref (base + 1))] [] 0 0 gNN (gH cy base v2)) (hout0 : ∀ x, r = .inr x → G l D cy base RX4 cX4_takeWord 1 none (gRm 1) X Z 44 [(0, .ref (base + 1))] [] 0 0 gNN (gH cy base x)) : G l D cy base RX4 cX4_takeWord 1 none (gRm 1) X Z 5 [(0, .ref (base + 1))] [] 0 0 gNN (gH cy base v) := by
  unfold f_X4_takeWord_b5 at hS
  refine g_aload_n (j := 0) (x := base + 1) dX4_takeWord_5 rfl rfl ?_
  refine gs_getI lk_RX4_19 (tk_1 _) rfl dX4_takeWord_6 ?_
  refine g_aload_n (j := 0) (x := base + 1) dX4_takeWord_9 rfl rfl ?_
  refine gs_getI lk_RX4_15 (tk_1 _) rfl dX4_takeWord_10 ?_
  refine g_icmp_ge 44 dX4_takeWord_13 (by decide) (fun hc => ?_) (fun hc => ?_)
  · replace hS := (if_pos hc).symm.trans hS
    obtain rfl := Option.some.inj hS
    exact hout0 ((v)) rfl
  · replace hS := (if_neg hc).symm.trans hS
    refine g_aload_n (j := 0) (x := base + 1) dX4_takeWord_16 rfl rfl ?_
    refine gs_getR (r := 2) lk_RX4_9 (tk_1 _) rfl dX4_takeWord_17 ?_
    refine g_aload_n (j := 0) (x := base + 1) dX4_takeWord_20 rfl rfl ?_
    refine gs_getI lk_RX4_19 (tk_1 _) rfl dX4_takeWord_21 ?_
    obtain ⟨y2, ey2, hS⟩ := ob hS
    refine gs_iald (tk_2 _) dX4_takeWord_24 ey2 ?_
    obtain ⟨y3, ey3, hS⟩ := ob hS
    refine gs_callSi (As := [.int (y2)]) (st := []) (k_X4_isLetter v (y2)  ey3) cl_RX4_103 sv_X4_isLetter ⟨by decide, by decide⟩ (Nat.le_of_ble_eq_true rfl) ⟨Nat.zero_le _, Nat.zero_le _⟩ rfl dX4_takeWord_25 rfl ?_
    refine g_if_eq 44 dX4_takeWord_28 (by decide) (fun hc => ?_) (fun hc => ?_)
    · replace hS := (if_pos hc).symm.trans hS
      obtain rfl := Option.some.inj hS
      exact hout0 ((v)) rfl
    · replace hS := (if_neg hc).symm.trans hS
      refine g_aload_n (j := 0) (x := base + 1) dX4_takeWord_31 rfl rfl ?_
      refine g_dup dX4_takeWord_32 rfl ?_
      refine gs_getI lk_RX4_19 (tk_1 _) rfl dX4_takeWord_33 ?_
      refine g_iconst (v := 1) dX4_takeWord_36 (by decide) ?_
      refine g_iadd dX4_takeWord_37 ?_
      obtain ⟨m4, em4, hS⟩ := ob hS
      refine gs_putI lw_RX4_19 (tk_1 _) rfl rfl rfl dX4_takeWord_38 em4 ?_
      refine g_goto 5 dX4_takeWord_41 (by decide) ?_
      obtain rfl := Option.some.inj hS
      exact hin ((m4)) rfl
def f_X4_takeWord_j44 (m6 : Mem)  : Option (Mem) :=
  if (gi m6 1 2) = ((gi m6 1 3) + (1 : Int32)) then (
    (ldA m6 2 200 ((gi m6 1 3))).bind fun y7 =>
    (stI m6 1 5 (y7)).bind fun m8 =>
    some m8
  ) else (
    some m6
  )
set_option maxRecDepth 100000 in
set_option maxHeartbeats 4000000 in
theorem k_X4_takeWord_j44 {l : Launch} {D : va_G} {cy : Nat → ClassId} {base : Nat} {X : gX} (m6 : Mem)   {out : Mem} (hS : f_X4_takeWord_j44 m6  = some out)  : G l D cy base RX4 cX4_takeWord 1 none (gRm 1) X (gZm D cy base 0 0 none gNN (gH cy base out)) 44 [(0, .ref (base + 1))] [] 0 0 gNN (gH cy base m6) := by
  unfold f_X4_takeWord_j44 at hS
  refine g_aload_n (j := 0) (x := base + 1) dX4_takeWord_44 rfl rfl ?_
  refine gs_getI lk_RX4_19 (tk_1 _) rfl dX4_takeWord_45 ?_
  refine g_aload_n (j := 0) (x := base + 1) dX4_takeWord_48 rfl rfl ?_
  refine gs_getI lk_RX4_22 (tk_1 _) rfl dX4_takeWord_49 ?_
  refine g_iconst (v := 1) dX4_takeWord_52 (by decide) ?_
  refine g_iadd dX4_takeWord_53 ?_
  refine g_icmp_ne 70 dX4_takeWord_54 (by decide) (fun hc => ?_) (fun hc => ?_)
  · replace hS := (if_neg hc).symm.trans hS
    obtain rfl := Option.some.inj hS
    exact g_vret rfl dX4_takeWord_70
  · replace hS := (if_pos hc).symm.trans hS
    refine g_aload_n (j := 0) (x := base + 1) dX4_takeWord_57 rfl rfl ?_
    refine g_aload_n (j := 0) (x := base + 1) dX4_takeWord_58 rfl rfl ?_
    refine gs_getR (r := 2) lk_RX4_9 (tk_1 _) rfl dX4_takeWord_59 ?_
    refine g_aload_n (j := 0) (x := base + 1) dX4_takeWord_62 rfl rfl ?_
    refine gs_getI lk_RX4_22 (tk_1 _) rfl dX4_takeWord_63 ?_
    obtain ⟨y7, ey7, hS⟩ := ob hS
    refine gs_iald (tk_2 _) dX4_takeWord_66 ey7 ?_
    obtain ⟨m8, em8, hS⟩ := ob hS
    refine gs_putI lw_RX4_28 (tk_1 _) rfl rfl rfl dX4_takeWord_67 em8 ?_
    obtain rfl := Option.some.inj hS
    exact g_vret rfl dX4_takeWord_70
def f_X4_takeWord (μ : Mem)  : Option (Mem) :=
  (stI μ 1 4 ((1 : Int32))).bind fun m1 =>
  (iter gFU (f_X4_takeWord_b5  ) m1).bind fun z5 =>
  f_X4_takeWord_j44 z5 
set_option maxRecDepth 100000 in
set_option maxHeartbeats 4000000 in
theorem k_X4_takeWord {l : Launch} {D : va_G} {cy : Nat → ClassId} {base : Nat} (μ : Mem)   {out : Mem} (hS : f_X4_takeWord μ  = some out) : gC l D cy base yX4_takeWord cX4_takeWord 1 none 1 [.ref (base + 1)] μ none out := by
  refine gC_of (own := RX4) (lv0 := [(0, .ref (base + 1))]) rfl (by decide) (Nat.le_of_ble_eq_true rfl) rfl ?_
  unfold f_X4_takeWord at hS
  refine g_aload_n (j := 0) (x := base + 1) dX4_takeWord_0 rfl rfl ?_
  refine g_iconst (v := 1) dX4_takeWord_1 (by decide) ?_
  obtain ⟨m1, em1, hS⟩ := ob hS
  refine gs_putI lw_RX4_25 (tk_1 _) rfl rfl rfl dX4_takeWord_2 em1 ?_
  obtain ⟨z5, ez5, hS⟩ := ob hS
  refine iter_ind (fun vv => G l D cy base RX4 cX4_takeWord 1 none (gRm 1) (gXm yX4_takeWord) (gZm D cy base 0 0 none gNN (gH cy base out)) 5 [(0, .ref (base + 1))] [] 0 0 gNN (gH cy base vv)) (fun xx => G l D cy base RX4 cX4_takeWord 1 none (gRm 1) (gXm yX4_takeWord) (gZm D cy base 0 0 none gNN (gH cy base out)) 44 [(0, .ref (base + 1))] [] 0 0 gNN (gH cy base xx)) (fun vv rr hh hin hout => k_X4_takeWord_b5    vv rr hh hin (fun xx ee => hout xx ee)) gFU m1 z5 ez5 ?_
  show G l D cy base RX4 cX4_takeWord 1 none (gRm 1) (gXm yX4_takeWord) (gZm D cy base 0 0 none gNN (gH cy base out)) 44 [(0, .ref (base + 1))] [] 0 0 gNN (gH cy base z5)
  exact k_X4_takeWord_j44 (z5)   hS
def f_X4_isDigit (μ : Mem) (a0 : Int32) : Option (Int32) :=
  if a0 < (48 : Int32) then (
    some (0 : Int32)
  ) else (
    if (57 : Int32) < a0 then (
      some (0 : Int32)
    ) else (
      some (1 : Int32)
    )
  )
set_option maxRecDepth 100000 in
set_option maxHeartbeats 4000000 in
theorem k_X4_isDigit {l : Launch} {D : va_G} {cy : Nat → ClassId} {base : Nat} (μ : Mem) (a0 : Int32)  {out : Int32} (hS : f_X4_isDigit μ a0 = some out) : gC l D cy base yX4_isDigit cX4_isDigit 1 (some .boolean) 0 [.int (a0)] μ (some (.int out)) μ := by
  refine gC_of (own := RX4) (lv0 := [(0, .int (a0))]) rfl (by decide) (Nat.le_of_ble_eq_true rfl) rfl ?_
  unfold f_X4_isDigit at hS
  refine g_iload_n (j := 0) (x := a0) dX4_isDigit_0 rfl rfl ?_
  refine g_bipush (v := 48) dX4_isDigit_1 (by decide) ?_
  refine g_icmp_lt 16 dX4_isDigit_3 (by decide) (fun hc => ?_) (fun hc => ?_)
  · replace hS := (if_pos hc).symm.trans hS
    refine g_iconst (v := 0) dX4_isDigit_16 (by decide) ?_
    obtain rfl := Option.some.inj hS
    exact g_zret (v := (0 : Int32)) rfl rfl dX4_isDigit_17
  · replace hS := (if_neg hc).symm.trans hS
    refine g_iload_n (j := 0) (x := a0) dX4_isDigit_6 rfl rfl ?_
    refine g_bipush (v := 57) dX4_isDigit_7 (by decide) ?_
    refine g_icmp_gt 16 dX4_isDigit_9 (by decide) (fun hc => ?_) (fun hc => ?_)
    · replace hS := (if_pos hc).symm.trans hS
      refine g_iconst (v := 0) dX4_isDigit_16 (by decide) ?_
      obtain rfl := Option.some.inj hS
      exact g_zret (v := (0 : Int32)) rfl rfl dX4_isDigit_17
    · replace hS := (if_neg hc).symm.trans hS
      refine g_iconst (v := 1) dX4_isDigit_12 (by decide) ?_
      refine g_goto 17 dX4_isDigit_13 (by decide) ?_
      obtain rfl := Option.some.inj hS
      exact g_zret (v := (1 : Int32)) rfl rfl dX4_isDigit_17
def f_X4_takeNumber_b7  (v : Int32 × Mem) : Option ((Int32 × Mem) ⊕ ((Int32 × Mem))) :=
  if (gi v.2 1 1) ≤ (gi v.2 1 2) then (
    some (.inr ((v.1), (v.2)))
  ) else (
    (ldA v.2 2 200 ((gi v.2 1 2))).bind fun y2 =>
    (f_X4_isDigit v.2 (y2)).bind fun y3 =>
    if y3 = (0 : Int32) then (
      some (.inr ((v.1), (v.2)))
    ) else (
      (ldA v.2 2 200 ((gi v.2 1 2))).bind fun y4 =>
      (stI v.2 1 2 (((gi v.2 1 2) + (1 : Int32)))).bind fun m5 =>
      some (.inl (((mnI ((100 : Int32)) ((((v.1 * (10 : Int32)) + y4) - (48 : Int32))))), (m5)))
    )
  )
set_option maxRecDepth 100000 in
set_option maxHeartbeats 4000000 in
theorem k_X4_takeNumber_b7 {l : Launch} {D : va_G} {cy : Nat → ClassId} {base : Nat} {X : gX} {Z : gZ}   (v : Int32 × Mem) (r : (Int32 × Mem) ⊕ ((Int32 × Mem))) (hS : f_X4_takeNumber_b7  v = some r) (hin : ∀ v2, r = .inl v2 → G l D cy base RX4 cX4_takeNumber 3 none (gRm 1) X Z 7 [(0, .ref (base + 1)), (1, .int (v2.1))] [] 0 0 gNN (gH cy base v2.2)) (hout0 : ∀ x, r = .inr x → G l D cy base RX4 cX4_takeNumber 3 none (gRm 1) X Z 69 [(0, .ref (base + 1)), (1, .int (x.1))] [] 0 0 gNN (gH cy base x.2)) : G l D cy base RX4 cX4_takeNumber 3 none (gRm 1) X Z 7 [(0, .ref (base + 1)), (1, .int (v.1))] [] 0 0 gNN (gH cy base v.2) := by
  unfold f_X4_takeNumber_b7 at hS
  refine g_aload_n (j := 0) (x := base + 1) dX4_takeNumber_7 rfl rfl ?_
  refine gs_getI lk_RX4_19 (tk_1 _) rfl dX4_takeNumber_8 ?_
  refine g_aload_n (j := 0) (x := base + 1) dX4_takeNumber_11 rfl rfl ?_
  refine gs_getI lk_RX4_15 (tk_1 _) rfl dX4_takeNumber_12 ?_
  refine g_icmp_ge 69 dX4_takeNumber_15 (by decide) (fun hc => ?_) (fun hc => ?_)
  · replace hS := (if_pos hc).symm.trans hS
    obtain rfl := Option.some.inj hS
    exact hout0 (((v.1), (v.2))) rfl
  · replace hS := (if_neg hc).symm.trans hS
    refine g_aload_n (j := 0) (x := base + 1) dX4_takeNumber_18 rfl rfl ?_
    refine gs_getR (r := 2) lk_RX4_9 (tk_1 _) rfl dX4_takeNumber_19 ?_
    refine g_aload_n (j := 0) (x := base + 1) dX4_takeNumber_22 rfl rfl ?_
    refine gs_getI lk_RX4_19 (tk_1 _) rfl dX4_takeNumber_23 ?_
    obtain ⟨y2, ey2, hS⟩ := ob hS
    refine gs_iald (tk_2 _) dX4_takeNumber_26 ey2 ?_
    obtain ⟨y3, ey3, hS⟩ := ob hS
    refine gs_callSi (As := [.int (y2)]) (st := []) (k_X4_isDigit v.2 (y2)  ey3) cl_RX4_110 sv_X4_isDigit ⟨by decide, by decide⟩ (Nat.le_of_ble_eq_true rfl) ⟨Nat.zero_le _, Nat.zero_le _⟩ rfl dX4_takeNumber_27 rfl ?_
    refine g_if_eq 69 dX4_takeNumber_30 (by decide) (fun hc => ?_) (fun hc => ?_)
    · replace hS := (if_pos hc).symm.trans hS
      obtain rfl := Option.some.inj hS
      exact hout0 (((v.1), (v.2))) rfl
    · replace hS := (if_neg hc).symm.trans hS
      refine g_bipush (v := 100) dX4_takeNumber_33 (by decide) ?_
      refine g_iload_n (j := 1) (x := v.1) dX4_takeNumber_35 rfl rfl ?_
      refine g_bipush (v := 10) dX4_takeNumber_36 (by decide) ?_
      refine g_imul dX4_takeNumber_38 ?_
      refine g_aload_n (j := 0) (x := base + 1) dX4_takeNumber_39 rfl rfl ?_
      refine gs_getR (r := 2) lk_RX4_9 (tk_1 _) rfl dX4_takeNumber_40 ?_
      refine g_aload_n (j := 0) (x := base + 1) dX4_takeNumber_43 rfl rfl ?_
      refine gs_getI lk_RX4_19 (tk_1 _) rfl dX4_takeNumber_44 ?_
      obtain ⟨y4, ey4, hS⟩ := ob hS
      refine gs_iald (tk_2 _) dX4_takeNumber_47 ey4 ?_
      refine g_iadd dX4_takeNumber_48 ?_
      refine g_bipush (v := 48) dX4_takeNumber_49 (by decide) ?_
      refine g_isub dX4_takeNumber_51 ?_
      refine gs_mmin cl_RX4_116 sv_J9_min_7cf53 (by decide) (Nat.le_of_ble_eq_true rfl) (Nat.zero_le _) (Nat.zero_le _) dX4_takeNumber_52 ?_
      refine g_istore_n (lvx := [(1, .int ((mnI ((100 : Int32)) ((((v.1 * (10 : Int32)) + y4) - (48 : Int32)))))), (0, .ref (base + 1))]) dX4_takeNumber_55 rfl (by decide) rfl ?_
      refine g_aload_n (j := 1) (x := base + 1) dX4_takeNumber_56 rfl rfl ?_
      refine g_dup dX4_takeNumber_57 rfl ?_
      refine gs_getI lk_RX4_19 (tk_1 _) rfl dX4_takeNumber_58 ?_
      refine g_iconst (v := 1) dX4_takeNumber_61 (by decide) ?_
      refine g_iadd dX4_takeNumber_62 ?_
      obtain ⟨m5, em5, hS⟩ := ob hS
      refine gs_putI lw_RX4_19 (tk_1 _) rfl rfl rfl dX4_takeNumber_63 em5 ?_
      refine g_goto 7 dX4_takeNumber_66 (by decide) ?_
      refine g_sub (lvx := [(0, .ref (base + 1)), (1, .int ((mnI ((100 : Int32)) ((((v.1 * (10 : Int32)) + y4) - (48 : Int32))))))]) [1, 0] rfl ?_
      obtain rfl := Option.some.inj hS
      exact hin ((((mnI ((100 : Int32)) ((((v.1 * (10 : Int32)) + y4) - (48 : Int32))))), (m5))) rfl
def f_X4_takeNumber_j101 (m14 : Mem) (x12 : Int32) (x13 : Int32) : Option (Mem) :=
  if x13 = (0 : Int32) then (
    if x12 ≤ (99 : Int32) then (
      (stI m14 1 5 (x12)).bind fun m16 =>
      some m16
    ) else (
      (stI m14 1 5 ((-1 : Int32))).bind fun m17 =>
      some m17
    )
  ) else (
    (stI m14 1 5 ((-1 : Int32))).bind fun m15 =>
    some m15
  )
set_option maxRecDepth 100000 in
set_option maxHeartbeats 4000000 in
theorem k_X4_takeNumber_j101 {l : Launch} {D : va_G} {cy : Nat → ClassId} {base : Nat} {X : gX} (m14 : Mem) (x12 : Int32) (x13 : Int32)  {out : Mem} (hS : f_X4_takeNumber_j101 m14 x12 x13 = some out)  : G l D cy base RX4 cX4_takeNumber 3 none (gRm 1) X (gZm D cy base 0 0 none gNN (gH cy base out)) 101 [(0, .ref (base + 1)), (1, .int (x12))] [.int (x13)] 0 0 gNN (gH cy base m14) := by
  unfold f_X4_takeNumber_j101 at hS
  refine g_istore_n (lvx := [(2, .int (x13)), (0, .ref (base + 1)), (1, .int (x12))]) dX4_takeNumber_101 rfl (by decide) rfl ?_
  refine g_aload_n (j := 1) (x := base + 1) dX4_takeNumber_102 rfl rfl ?_
  refine g_iload_n (j := 0) (x := x13) dX4_takeNumber_103 rfl rfl ?_
  refine g_if_ne 113 dX4_takeNumber_104 (by decide) (fun hc => ?_) (fun hc => ?_)
  · replace hS := (if_neg hc).symm.trans hS
    refine g_iconst (v := -1) dX4_takeNumber_113 (by decide) ?_
    refine g_goto 118 dX4_takeNumber_114 (by decide) ?_
    obtain ⟨m15, em15, hS⟩ := ob hS
    refine gs_putI lw_RX4_28 (tk_1 _) rfl rfl rfl dX4_takeNumber_118 em15 ?_
    obtain rfl := Option.some.inj hS
    exact g_vret rfl dX4_takeNumber_121
  · replace hS := (if_pos hc).symm.trans hS
    refine g_iload_n (j := 2) (x := x12) dX4_takeNumber_107 rfl rfl ?_
    refine g_bipush (v := 99) dX4_takeNumber_108 (by decide) ?_
    refine g_icmp_le 117 dX4_takeNumber_110 (by decide) (fun hc => ?_) (fun hc => ?_)
    · replace hS := (if_pos hc).symm.trans hS
      refine g_iload_n (j := 2) (x := x12) dX4_takeNumber_117 rfl rfl ?_
      obtain ⟨m16, em16, hS⟩ := ob hS
      refine gs_putI lw_RX4_28 (tk_1 _) rfl rfl rfl dX4_takeNumber_118 em16 ?_
      obtain rfl := Option.some.inj hS
      exact g_vret rfl dX4_takeNumber_121
    · replace hS := (if_neg hc).symm.trans hS
      refine g_iconst (v := -1) dX4_takeNumber_113 (by decide) ?_
      refine g_goto 118 dX4_takeNumber_114 (by decide) ?_
      obtain ⟨m17, em17, hS⟩ := ob hS
      refine gs_putI lw_RX4_28 (tk_1 _) rfl rfl rfl dX4_takeNumber_118 em17 ?_
      obtain rfl := Option.some.inj hS
      exact g_vret rfl dX4_takeNumber_121
def f_X4_takeNumber_j100 (m11 : Mem) (x10 : Int32) : Option (Mem) :=
  f_X4_takeNumber_j101 m11 (x10) ((0 : Int32))
set_option maxRecDepth 100000 in
set_option maxHeartbeats 4000000 in
theorem k_X4_takeNumber_j100 {l : Launch} {D : va_G} {cy : Nat → ClassId} {base : Nat} {X : gX} (m11 : Mem) (x10 : Int32)  {out : Mem} (hS : f_X4_takeNumber_j100 m11 x10 = some out)  : G l D cy base RX4 cX4_takeNumber 3 none (gRm 1) X (gZm D cy base 0 0 none gNN (gH cy base out)) 100 [(0, .ref (base + 1)), (1, .int (x10))] [] 0 0 gNN (gH cy base m11) := by
  unfold f_X4_takeNumber_j100 at hS
  refine g_iconst (v := 0) dX4_takeNumber_100 (by decide) ?_
  exact k_X4_takeNumber_j101 (m11) (x10) ((0 : Int32))  hS
def f_X4_takeNumber_j69 (m8 : Mem) (x7 : Int32) : Option (Mem) :=
  (ldA m8 2 200 ((gi m8 1 3))).bind fun y9 =>
  if y9 = (48 : Int32) then (
    if (gi m8 1 2) ≤ ((gi m8 1 3) + (1 : Int32)) then (
      f_X4_takeNumber_j100 m8 (x7)
    ) else (
      f_X4_takeNumber_j101 m8 (x7) ((1 : Int32))
    )
  ) else (
    f_X4_takeNumber_j100 m8 (x7)
  )
set_option maxRecDepth 100000 in
set_option maxHeartbeats 4000000 in
theorem k_X4_takeNumber_j69 {l : Launch} {D : va_G} {cy : Nat → ClassId} {base : Nat} {X : gX} (m8 : Mem) (x7 : Int32)  {out : Mem} (hS : f_X4_takeNumber_j69 m8 x7 = some out)  : G l D cy base RX4 cX4_takeNumber 3 none (gRm 1) X (gZm D cy base 0 0 none gNN (gH cy base out)) 69 [(0, .ref (base + 1)), (1, .int (x7))] [] 0 0 gNN (gH cy base m8) := by
  unfold f_X4_takeNumber_j69 at hS
  refine g_aload_n (j := 0) (x := base + 1) dX4_takeNumber_69 rfl rfl ?_
  refine gs_getR (r := 2) lk_RX4_9 (tk_1 _) rfl dX4_takeNumber_70 ?_
  refine g_aload_n (j := 0) (x := base + 1) dX4_takeNumber_73 rfl rfl ?_
  refine gs_getI lk_RX4_22 (tk_1 _) rfl dX4_takeNumber_74 ?_
  obtain ⟨y9, ey9, hS⟩ := ob hS
  refine gs_iald (tk_2 _) dX4_takeNumber_77 ey9 ?_
  refine g_bipush (v := 48) dX4_takeNumber_78 (by decide) ?_
  refine g_icmp_ne 100 dX4_takeNumber_80 (by decide) (fun hc => ?_) (fun hc => ?_)
  · replace hS := (if_neg hc).symm.trans hS
    exact k_X4_takeNumber_j100 (m8) (x7)  hS
  · replace hS := (if_pos hc).symm.trans hS
    refine g_aload_n (j := 0) (x := base + 1) dX4_takeNumber_83 rfl rfl ?_
    refine gs_getI lk_RX4_19 (tk_1 _) rfl dX4_takeNumber_84 ?_
    refine g_aload_n (j := 0) (x := base + 1) dX4_takeNumber_87 rfl rfl ?_
    refine gs_getI lk_RX4_22 (tk_1 _) rfl dX4_takeNumber_88 ?_
    refine g_iconst (v := 1) dX4_takeNumber_91 (by decide) ?_
    refine g_iadd dX4_takeNumber_92 ?_
    refine g_icmp_le 100 dX4_takeNumber_93 (by decide) (fun hc => ?_) (fun hc => ?_)
    · replace hS := (if_pos hc).symm.trans hS
      exact k_X4_takeNumber_j100 (m8) (x7)  hS
    · replace hS := (if_neg hc).symm.trans hS
      refine g_iconst (v := 1) dX4_takeNumber_96 (by decide) ?_
      refine g_goto 101 dX4_takeNumber_97 (by decide) ?_
      exact k_X4_takeNumber_j101 (m8) (x7) ((1 : Int32))  hS
def f_X4_takeNumber (μ : Mem)  : Option (Mem) :=
  (stI μ 1 4 ((2 : Int32))).bind fun m1 =>
  (iter gFU (f_X4_takeNumber_b7  ) (((0 : Int32)), m1)).bind fun z6 =>
  f_X4_takeNumber_j69 z6.2 (z6.1)
set_option maxRecDepth 100000 in
set_option maxHeartbeats 4000000 in
theorem k_X4_takeNumber {l : Launch} {D : va_G} {cy : Nat → ClassId} {base : Nat} (μ : Mem)   {out : Mem} (hS : f_X4_takeNumber μ  = some out) : gC l D cy base yX4_takeNumber cX4_takeNumber 3 none 1 [.ref (base + 1)] μ none out := by
  refine gC_of (own := RX4) (lv0 := [(0, .ref (base + 1))]) rfl (by decide) (Nat.le_of_ble_eq_true rfl) rfl ?_
  unfold f_X4_takeNumber at hS
  refine g_aload_n (j := 0) (x := base + 1) dX4_takeNumber_0 rfl rfl ?_
  refine g_iconst (v := 2) dX4_takeNumber_1 (by decide) ?_
  obtain ⟨m1, em1, hS⟩ := ob hS
  refine gs_putI lw_RX4_25 (tk_1 _) rfl rfl rfl dX4_takeNumber_2 em1 ?_
  refine g_iconst (v := 0) dX4_takeNumber_5 (by decide) ?_
  refine g_istore_n (lvx := [(1, .int ((0 : Int32))), (0, .ref (base + 1))]) dX4_takeNumber_6 rfl (by decide) rfl ?_
  obtain ⟨z6, ez6, hS⟩ := ob hS
  refine g_sub (lvx := [(0, .ref (base + 1)), (1, .int ((0 : Int32)))]) [1, 0] rfl ?_
  refine iter_ind (fun vv => G l D cy base RX4 cX4_takeNumber 3 none (gRm 1) (gXm yX4_takeNumber) (gZm D cy base 0 0 none gNN (gH cy base out)) 7 [(0, .ref (base + 1)), (1, .int (vv.1))] [] 0 0 gNN (gH cy base vv.2)) (fun xx => G l D cy base RX4 cX4_takeNumber 3 none (gRm 1) (gXm yX4_takeNumber) (gZm D cy base 0 0 none gNN (gH cy base out)) 69 [(0, .ref (base + 1)), (1, .int (xx.1))] [] 0 0 gNN (gH cy base xx.2)) (fun vv rr hh hin hout => k_X4_takeNumber_b7    vv rr hh hin (fun xx ee => hout xx ee)) gFU (((0 : Int32)), m1) z6 ez6 ?_
  show G l D cy base RX4 cX4_takeNumber 3 none (gRm 1) (gXm yX4_takeNumber) (gZm D cy base 0 0 none gNN (gH cy base out)) 69 [(0, .ref (base + 1)), (1, .int (z6.1))] [] 0 0 gNN (gH cy base z6.2)
  exact k_X4_takeNumber_j69 (z6.2) (z6.1)  hS
def f_X4_nextToken_b0  (v : Mem) : Option ((Mem) ⊕ ((Mem))) :=
  if (gi v 1 1) ≤ (gi v 1 2) then (
    some (.inr (v))
  ) else (
    (ldA v 2 200 ((gi v 1 2))).bind fun y1 =>
    if y1 = (32 : Int32) then (
      (stI v 1 2 (((gi v 1 2) + (1 : Int32)))).bind fun m2 =>
      some (.inl (m2))
    ) else (
      some (.inr (v))
    )
  )
set_option maxRecDepth 100000 in
set_option maxHeartbeats 4000000 in
theorem k_X4_nextToken_b0 {l : Launch} {D : va_G} {cy : Nat → ClassId} {base : Nat} {X : gX} {Z : gZ}   (v : Mem) (r : (Mem) ⊕ ((Mem))) (hS : f_X4_nextToken_b0  v = some r) (hin : ∀ v2, r = .inl v2 → G l D cy base RX4 cX4_nextToken 1 none (gRm 2) X Z 0 [(0, .ref (base + 1))] [] 0 0 gNN (gH cy base v2)) (hout0 : ∀ x, r = .inr x → G l D cy base RX4 cX4_nextToken 1 none (gRm 2) X Z 38 [(0, .ref (base + 1))] [] 0 0 gNN (gH cy base x)) : G l D cy base RX4 cX4_nextToken 1 none (gRm 2) X Z 0 [(0, .ref (base + 1))] [] 0 0 gNN (gH cy base v) := by
  unfold f_X4_nextToken_b0 at hS
  refine g_aload_n (j := 0) (x := base + 1) dX4_nextToken_0 rfl rfl ?_
  refine gs_getI lk_RX4_19 (tk_1 _) rfl dX4_nextToken_1 ?_
  refine g_aload_n (j := 0) (x := base + 1) dX4_nextToken_4 rfl rfl ?_
  refine gs_getI lk_RX4_15 (tk_1 _) rfl dX4_nextToken_5 ?_
  refine g_icmp_ge 38 dX4_nextToken_8 (by decide) (fun hc => ?_) (fun hc => ?_)
  · replace hS := (if_pos hc).symm.trans hS
    obtain rfl := Option.some.inj hS
    exact hout0 ((v)) rfl
  · replace hS := (if_neg hc).symm.trans hS
    refine g_aload_n (j := 0) (x := base + 1) dX4_nextToken_11 rfl rfl ?_
    refine gs_getR (r := 2) lk_RX4_9 (tk_1 _) rfl dX4_nextToken_12 ?_
    refine g_aload_n (j := 0) (x := base + 1) dX4_nextToken_15 rfl rfl ?_
    refine gs_getI lk_RX4_19 (tk_1 _) rfl dX4_nextToken_16 ?_
    obtain ⟨y1, ey1, hS⟩ := ob hS
    refine gs_iald (tk_2 _) dX4_nextToken_19 ey1 ?_
    refine g_bipush (v := 32) dX4_nextToken_20 (by decide) ?_
    refine g_icmp_ne 38 dX4_nextToken_22 (by decide) (fun hc => ?_) (fun hc => ?_)
    · replace hS := (if_neg hc).symm.trans hS
      obtain rfl := Option.some.inj hS
      exact hout0 ((v)) rfl
    · replace hS := (if_pos hc).symm.trans hS
      refine g_aload_n (j := 0) (x := base + 1) dX4_nextToken_25 rfl rfl ?_
      refine g_dup dX4_nextToken_26 rfl ?_
      refine gs_getI lk_RX4_19 (tk_1 _) rfl dX4_nextToken_27 ?_
      refine g_iconst (v := 1) dX4_nextToken_30 (by decide) ?_
      refine g_iadd dX4_nextToken_31 ?_
      obtain ⟨m2, em2, hS⟩ := ob hS
      refine gs_putI lw_RX4_19 (tk_1 _) rfl rfl rfl dX4_nextToken_32 em2 ?_
      refine g_goto 0 dX4_nextToken_35 (by decide) ?_
      obtain rfl := Option.some.inj hS
      exact hin ((m2)) rfl
def f_X4_nextToken_j38 (m4 : Mem)  : Option (Mem) :=
  (stI m4 1 3 ((gi m4 1 2))).bind fun m5 =>
  (stI m5 1 5 ((-1 : Int32))).bind fun m6 =>
  if (gi m6 1 2) < (gi m6 1 1) then (
    (ldA m6 2 200 ((gi m6 1 2))).bind fun y7 =>
    (f_X4_isLetter m6 (y7)).bind fun y8 =>
    if y8 = (0 : Int32) then (
      (ldA m6 2 200 ((gi m6 1 2))).bind fun y9 =>
      (f_X4_isDigit m6 (y9)).bind fun y10 =>
      if y10 = (0 : Int32) then (
        (ldA m6 2 200 ((gi m6 1 2))).bind fun y11 =>
        if y11 = (59 : Int32) then (
          (stI m6 1 4 ((3 : Int32))).bind fun m14 =>
          (stI m14 1 2 (((gi m14 1 2) + (1 : Int32)))).bind fun m15 =>
          some m15
        ) else (
          (stI m6 1 4 ((4 : Int32))).bind fun m12 =>
          (stI m12 1 2 (((gi m12 1 2) + (1 : Int32)))).bind fun m13 =>
          some m13
        )
      ) else (
        (f_X4_takeNumber m6 ).bind fun m17 =>
        some m17
      )
    ) else (
      (f_X4_takeWord m6 ).bind fun m19 =>
      some m19
    )
  ) else (
    (stI m6 1 4 ((0 : Int32))).bind fun m20 =>
    some m20
  )
set_option maxRecDepth 100000 in
set_option maxHeartbeats 4000000 in
theorem k_X4_nextToken_j38 {l : Launch} {D : va_G} {cy : Nat → ClassId} {base : Nat} {X : gX} (m4 : Mem)   {out : Mem} (hS : f_X4_nextToken_j38 m4  = some out)  : G l D cy base RX4 cX4_nextToken 1 none (gRm 2) X (gZm D cy base 0 0 none gNN (gH cy base out)) 38 [(0, .ref (base + 1))] [] 0 0 gNN (gH cy base m4) := by
  unfold f_X4_nextToken_j38 at hS
  refine g_aload_n (j := 0) (x := base + 1) dX4_nextToken_38 rfl rfl ?_
  refine g_aload_n (j := 0) (x := base + 1) dX4_nextToken_39 rfl rfl ?_
  refine gs_getI lk_RX4_19 (tk_1 _) rfl dX4_nextToken_40 ?_
  obtain ⟨m5, em5, hS⟩ := ob hS
  refine gs_putI lw_RX4_22 (tk_1 _) rfl rfl rfl dX4_nextToken_43 em5 ?_
  refine g_aload_n (j := 0) (x := base + 1) dX4_nextToken_46 rfl rfl ?_
  refine g_iconst (v := -1) dX4_nextToken_47 (by decide) ?_
  obtain ⟨m6, em6, hS⟩ := ob hS
  refine gs_putI lw_RX4_28 (tk_1 _) rfl rfl rfl dX4_nextToken_48 em6 ?_
  refine g_aload_n (j := 0) (x := base + 1) dX4_nextToken_51 rfl rfl ?_
  refine gs_getI lk_RX4_19 (tk_1 _) rfl dX4_nextToken_52 ?_
  refine g_aload_n (j := 0) (x := base + 1) dX4_nextToken_55 rfl rfl ?_
  refine gs_getI lk_RX4_15 (tk_1 _) rfl dX4_nextToken_56 ?_
  refine g_icmp_lt 70 dX4_nextToken_59 (by decide) (fun hc => ?_) (fun hc => ?_)
  · replace hS := (if_pos hc).symm.trans hS
    refine g_aload_n (j := 0) (x := base + 1) dX4_nextToken_70 rfl rfl ?_
    refine gs_getR (r := 2) lk_RX4_9 (tk_1 _) rfl dX4_nextToken_71 ?_
    refine g_aload_n (j := 0) (x := base + 1) dX4_nextToken_74 rfl rfl ?_
    refine gs_getI lk_RX4_19 (tk_1 _) rfl dX4_nextToken_75 ?_
    obtain ⟨y7, ey7, hS⟩ := ob hS
    refine gs_iald (tk_2 _) dX4_nextToken_78 ey7 ?_
    obtain ⟨y8, ey8, hS⟩ := ob hS
    refine gs_callSi (As := [.int (y7)]) (st := []) (k_X4_isLetter m6 (y7)  ey8) cl_RX4_103 sv_X4_isLetter ⟨by decide, by decide⟩ (Nat.le_of_ble_eq_true rfl) ⟨Nat.zero_le _, Nat.zero_le _⟩ rfl dX4_nextToken_79 rfl ?_
    refine g_if_eq 92 dX4_nextToken_82 (by decide) (fun hc => ?_) (fun hc => ?_)
    · replace hS := (if_pos hc).symm.trans hS
      refine g_aload_n (j := 0) (x := base + 1) dX4_nextToken_92 rfl rfl ?_
      refine gs_getR (r := 2) lk_RX4_9 (tk_1 _) rfl dX4_nextToken_93 ?_
      refine g_aload_n (j := 0) (x := base + 1) dX4_nextToken_96 rfl rfl ?_
      refine gs_getI lk_RX4_19 (tk_1 _) rfl dX4_nextToken_97 ?_
      obtain ⟨y9, ey9, hS⟩ := ob hS
      refine gs_iald (tk_2 _) dX4_nextToken_100 ey9 ?_
      obtain ⟨y10, ey10, hS⟩ := ob hS
      refine gs_callSi (As := [.int (y9)]) (st := []) (k_X4_isDigit m6 (y9)  ey10) cl_RX4_110 sv_X4_isDigit ⟨by decide, by decide⟩ (Nat.le_of_ble_eq_true rfl) ⟨Nat.zero_le _, Nat.zero_le _⟩ rfl dX4_nextToken_101 rfl ?_
      refine g_if_eq 114 dX4_nextToken_104 (by decide) (fun hc => ?_) (fun hc => ?_)
      · replace hS := (if_pos hc).symm.trans hS
        refine g_aload_n (j := 0) (x := base + 1) dX4_nextToken_114 rfl rfl ?_
        refine g_aload_n (j := 0) (x := base + 1) dX4_nextToken_115 rfl rfl ?_
        refine gs_getR (r := 2) lk_RX4_9 (tk_1 _) rfl dX4_nextToken_116 ?_
        refine g_aload_n (j := 0) (x := base + 1) dX4_nextToken_119 rfl rfl ?_
        refine gs_getI lk_RX4_19 (tk_1 _) rfl dX4_nextToken_120 ?_
        obtain ⟨y11, ey11, hS⟩ := ob hS
        refine gs_iald (tk_2 _) dX4_nextToken_123 ey11 ?_
        refine g_bipush (v := 59) dX4_nextToken_124 (by decide) ?_
        refine g_icmp_ne 133 dX4_nextToken_126 (by decide) (fun hc => ?_) (fun hc => ?_)
        · replace hS := (if_neg hc).symm.trans hS
          refine g_iconst (v := 4) dX4_nextToken_133 (by decide) ?_
          obtain ⟨m12, em12, hS⟩ := ob hS
          refine gs_putI lw_RX4_25 (tk_1 _) rfl rfl rfl dX4_nextToken_134 em12 ?_
          refine g_aload_n (j := 0) (x := base + 1) dX4_nextToken_137 rfl rfl ?_
          refine g_dup dX4_nextToken_138 rfl ?_
          refine gs_getI lk_RX4_19 (tk_1 _) rfl dX4_nextToken_139 ?_
          refine g_iconst (v := 1) dX4_nextToken_142 (by decide) ?_
          refine g_iadd dX4_nextToken_143 ?_
          obtain ⟨m13, em13, hS⟩ := ob hS
          refine gs_putI lw_RX4_19 (tk_1 _) rfl rfl rfl dX4_nextToken_144 em13 ?_
          obtain rfl := Option.some.inj hS
          exact g_vret rfl dX4_nextToken_147
        · replace hS := (if_pos hc).symm.trans hS
          refine g_iconst (v := 3) dX4_nextToken_129 (by decide) ?_
          refine g_goto 134 dX4_nextToken_130 (by decide) ?_
          obtain ⟨m14, em14, hS⟩ := ob hS
          refine gs_putI lw_RX4_25 (tk_1 _) rfl rfl rfl dX4_nextToken_134 em14 ?_
          refine g_aload_n (j := 0) (x := base + 1) dX4_nextToken_137 rfl rfl ?_
          refine g_dup dX4_nextToken_138 rfl ?_
          refine gs_getI lk_RX4_19 (tk_1 _) rfl dX4_nextToken_139 ?_
          refine g_iconst (v := 1) dX4_nextToken_142 (by decide) ?_
          refine g_iadd dX4_nextToken_143 ?_
          obtain ⟨m15, em15, hS⟩ := ob hS
          refine gs_putI lw_RX4_19 (tk_1 _) rfl rfl rfl dX4_nextToken_144 em15 ?_
          obtain rfl := Option.some.inj hS
          exact g_vret rfl dX4_nextToken_147
      · replace hS := (if_neg hc).symm.trans hS
        refine g_aload_n (j := 0) (x := base + 1) dX4_nextToken_107 rfl rfl ?_
        obtain ⟨m17, em17, hS⟩ := ob hS
        refine gs_callVv (As := []) (st := []) (kr := 1) (k_X4_takeNumber m6   em17) cl_RX4_113 sv_X4_takeNumber ckk_X4_takeNumber (tk_1 _) ⟨by decide, by decide⟩ (Nat.le_of_ble_eq_true rfl) ⟨Nat.zero_le _, Nat.zero_le _⟩ rfl dX4_nextToken_108 rfl ?_
        refine g_goto 147 dX4_nextToken_111 (by decide) ?_
        obtain rfl := Option.some.inj hS
        exact g_vret rfl dX4_nextToken_147
    · replace hS := (if_neg hc).symm.trans hS
      refine g_aload_n (j := 0) (x := base + 1) dX4_nextToken_85 rfl rfl ?_
      obtain ⟨m19, em19, hS⟩ := ob hS
      refine gs_callVv (As := []) (st := []) (kr := 1) (k_X4_takeWord m6   em19) cl_RX4_107 sv_X4_takeWord ckk_X4_takeWord (tk_1 _) ⟨by decide, by decide⟩ (Nat.le_of_ble_eq_true rfl) ⟨Nat.zero_le _, Nat.zero_le _⟩ rfl dX4_nextToken_86 rfl ?_
      refine g_goto 147 dX4_nextToken_89 (by decide) ?_
      obtain rfl := Option.some.inj hS
      exact g_vret rfl dX4_nextToken_147
  · replace hS := (if_neg hc).symm.trans hS
    refine g_aload_n (j := 0) (x := base + 1) dX4_nextToken_62 rfl rfl ?_
    refine g_iconst (v := 0) dX4_nextToken_63 (by decide) ?_
    obtain ⟨m20, em20, hS⟩ := ob hS
    refine gs_putI lw_RX4_25 (tk_1 _) rfl rfl rfl dX4_nextToken_64 em20 ?_
    refine g_goto 147 dX4_nextToken_67 (by decide) ?_
    obtain rfl := Option.some.inj hS
    exact g_vret rfl dX4_nextToken_147
def f_X4_nextToken (μ : Mem)  : Option (Mem) :=
  (iter gFU (f_X4_nextToken_b0  ) μ).bind fun z3 =>
  f_X4_nextToken_j38 z3 
set_option maxRecDepth 100000 in
set_option maxHeartbeats 4000000 in
theorem k_X4_nextToken {l : Launch} {D : va_G} {cy : Nat → ClassId} {base : Nat} (μ : Mem)   {out : Mem} (hS : f_X4_nextToken μ  = some out) : gC l D cy base yX4_nextToken cX4_nextToken 1 none 2 [.ref (base + 1)] μ none out := by
  refine gC_of (own := RX4) (lv0 := [(0, .ref (base + 1))]) rfl (by decide) (Nat.le_of_ble_eq_true rfl) rfl ?_
  unfold f_X4_nextToken at hS
  obtain ⟨z3, ez3, hS⟩ := ob hS
  refine iter_ind (fun vv => G l D cy base RX4 cX4_nextToken 1 none (gRm 2) (gXm yX4_nextToken) (gZm D cy base 0 0 none gNN (gH cy base out)) 0 [(0, .ref (base + 1))] [] 0 0 gNN (gH cy base vv)) (fun xx => G l D cy base RX4 cX4_nextToken 1 none (gRm 2) (gXm yX4_nextToken) (gZm D cy base 0 0 none gNN (gH cy base out)) 38 [(0, .ref (base + 1))] [] 0 0 gNN (gH cy base xx)) (fun vv rr hh hin hout => k_X4_nextToken_b0    vv rr hh hin (fun xx ee => hout xx ee)) gFU μ z3 ez3 ?_
  show G l D cy base RX4 cX4_nextToken 1 none (gRm 2) (gXm yX4_nextToken) (gZm D cy base 0 0 none gNN (gH cy base out)) 38 [(0, .ref (base + 1))] [] 0 0 gNN (gH cy base z3)
  exact k_X4_nextToken_j38 (z3)   hS
def f_X4_readStop (μ : Mem)  : Option (Int32 × Mem) :=
  (f_X4_nextToken μ ).bind fun m2 =>
  if (gi m2 1 4) = (3 : Int32) then (
    some ((1 : Int32), m2)
  ) else (
    some ((0 : Int32), m2)
  )
set_option maxRecDepth 100000 in
set_option maxHeartbeats 4000000 in
theorem k_X4_readStop {l : Launch} {D : va_G} {cy : Nat → ClassId} {base : Nat} (μ : Mem)   {out : Int32 × Mem} (hS : f_X4_readStop μ  = some out) : gC l D cy base yX4_readStop cX4_readStop 1 (some .boolean) 3 [.ref (base + 1)] μ (some (.int out.1)) out.2 := by
  refine gC_of (own := RX4) (lv0 := [(0, .ref (base + 1))]) rfl (by decide) (Nat.le_of_ble_eq_true rfl) rfl ?_
  unfold f_X4_readStop at hS
  refine g_aload_n (j := 0) (x := base + 1) dX4_readStop_0 rfl rfl ?_
  obtain ⟨m2, em2, hS⟩ := ob hS
  refine gs_callVv (As := []) (st := []) (kr := 1) (k_X4_nextToken μ   em2) cl_RX4_36 sv_X4_nextToken ckk_X4_nextToken (tk_1 _) ⟨by decide, by decide⟩ (Nat.le_of_ble_eq_true rfl) ⟨Nat.zero_le _, Nat.zero_le _⟩ rfl dX4_readStop_1 rfl ?_
  refine g_aload_n (j := 0) (x := base + 1) dX4_readStop_4 rfl rfl ?_
  refine gs_getI lk_RX4_25 (tk_1 _) rfl dX4_readStop_5 ?_
  refine g_iconst (v := 3) dX4_readStop_8 (by decide) ?_
  refine g_icmp_ne 16 dX4_readStop_9 (by decide) (fun hc => ?_) (fun hc => ?_)
  · replace hS := (if_neg hc).symm.trans hS
    refine g_iconst (v := 0) dX4_readStop_16 (by decide) ?_
    obtain rfl := Option.some.inj hS
    exact g_zret (v := (0 : Int32)) rfl rfl dX4_readStop_17
  · replace hS := (if_pos hc).symm.trans hS
    refine g_iconst (v := 1) dX4_readStop_12 (by decide) ?_
    refine g_goto 17 dX4_readStop_13 (by decide) ?_
    obtain rfl := Option.some.inj hS
    exact g_zret (v := (1 : Int32)) rfl rfl dX4_readStop_17
def f_X4_readNumber (μ : Mem) (a1 : Int32) (a2 : Int32) : Option (Int32 × Mem) :=
  (f_X4_nextToken μ ).bind fun m2 =>
  if (gi m2 1 4) = (2 : Int32) then (
    if (gi m2 1 5) < a1 then (
      some ((0 : Int32), m2)
    ) else (
      if a2 < (gi m2 1 5) then (
        some ((0 : Int32), m2)
      ) else (
        some ((1 : Int32), m2)
      )
    )
  ) else (
    some ((0 : Int32), m2)
  )
set_option maxRecDepth 100000 in
set_option maxHeartbeats 4000000 in
theorem k_X4_readNumber {l : Launch} {D : va_G} {cy : Nat → ClassId} {base : Nat} (μ : Mem) (a1 : Int32) (a2 : Int32)  {out : Int32 × Mem} (hS : f_X4_readNumber μ a1 a2 = some out) : gC l D cy base yX4_readNumber cX4_readNumber 3 (some .boolean) 3 [.ref (base + 1), .int (a1), .int (a2)] μ (some (.int out.1)) out.2 := by
  refine gC_of (own := RX4) (lv0 := [(0, .ref (base + 1)), (1, .int (a1)), (2, .int (a2))]) rfl (by decide) (Nat.le_of_ble_eq_true rfl) rfl ?_
  unfold f_X4_readNumber at hS
  refine g_aload_n (j := 0) (x := base + 1) dX4_readNumber_0 rfl rfl ?_
  obtain ⟨m2, em2, hS⟩ := ob hS
  refine gs_callVv (As := []) (st := []) (kr := 1) (k_X4_nextToken μ   em2) cl_RX4_36 sv_X4_nextToken ckk_X4_nextToken (tk_1 _) ⟨by decide, by decide⟩ (Nat.le_of_ble_eq_true rfl) ⟨Nat.zero_le _, Nat.zero_le _⟩ rfl dX4_readNumber_1 rfl ?_
  refine g_aload_n (j := 0) (x := base + 1) dX4_readNumber_4 rfl rfl ?_
  refine gs_getI lk_RX4_25 (tk_1 _) rfl dX4_readNumber_5 ?_
  refine g_iconst (v := 2) dX4_readNumber_8 (by decide) ?_
  refine g_icmp_ne 32 dX4_readNumber_9 (by decide) (fun hc => ?_) (fun hc => ?_)
  · replace hS := (if_neg hc).symm.trans hS
    refine g_iconst (v := 0) dX4_readNumber_32 (by decide) ?_
    obtain rfl := Option.some.inj hS
    exact g_zret (v := (0 : Int32)) rfl rfl dX4_readNumber_33
  · replace hS := (if_pos hc).symm.trans hS
    refine g_aload_n (j := 0) (x := base + 1) dX4_readNumber_12 rfl rfl ?_
    refine gs_getI lk_RX4_28 (tk_1 _) rfl dX4_readNumber_13 ?_
    refine g_iload_n (j := 1) (x := a1) dX4_readNumber_16 rfl rfl ?_
    refine g_icmp_lt 32 dX4_readNumber_17 (by decide) (fun hc => ?_) (fun hc => ?_)
    · replace hS := (if_pos hc).symm.trans hS
      refine g_iconst (v := 0) dX4_readNumber_32 (by decide) ?_
      obtain rfl := Option.some.inj hS
      exact g_zret (v := (0 : Int32)) rfl rfl dX4_readNumber_33
    · replace hS := (if_neg hc).symm.trans hS
      refine g_aload_n (j := 0) (x := base + 1) dX4_readNumber_20 rfl rfl ?_
      refine gs_getI lk_RX4_28 (tk_1 _) rfl dX4_readNumber_21 ?_
      refine g_iload_n (j := 2) (x := a2) dX4_readNumber_24 rfl rfl ?_
      refine g_icmp_gt 32 dX4_readNumber_25 (by decide) (fun hc => ?_) (fun hc => ?_)
      · replace hS := (if_pos hc).symm.trans hS
        refine g_iconst (v := 0) dX4_readNumber_32 (by decide) ?_
        obtain rfl := Option.some.inj hS
        exact g_zret (v := (0 : Int32)) rfl rfl dX4_readNumber_33
      · replace hS := (if_neg hc).symm.trans hS
        refine g_iconst (v := 1) dX4_readNumber_28 (by decide) ?_
        refine g_goto 33 dX4_readNumber_29 (by decide) ?_
        obtain rfl := Option.some.inj hS
        exact g_zret (v := (1 : Int32)) rfl rfl dX4_readNumber_33
def f_X4_readStair (μ : Mem) (q1a : Nat) : Option (Int32 × Mem) :=
  if (7 : Int32) ≤ (gi μ q1a 7) then (
    some ((0 : Int32), μ)
  ) else (
    (f_X4_readNumber μ ((0 : Int32)) ((6 : Int32))).bind fun z1 =>
    if z1.1 = (0 : Int32) then (
      some ((0 : Int32), z1.2)
    ) else (
      (stA z1.2 (q1a + 1) 7 ((gi μ q1a 7)) ((gi z1.2 1 5))).bind fun m2 =>
      (f_X4_readNumber m2 ((0 : Int32)) ((6 : Int32))).bind fun z3 =>
      if z3.1 = (0 : Int32) then (
        some ((0 : Int32), z3.2)
      ) else (
        (ldA z3.2 (q1a + 1) 7 ((gi μ q1a 7))).bind fun y4 =>
        if (gi z3.2 1 5) = y4 then (
          some ((0 : Int32), z3.2)
        ) else (
          (stA z3.2 (q1a + 2) 7 ((gi μ q1a 7)) ((gi z3.2 1 5))).bind fun m5 =>
          (f_X4_readNumber m5 ((1 : Int32)) ((99 : Int32))).bind fun z6 =>
          if z6.1 = (0 : Int32) then (
            some ((0 : Int32), z6.2)
          ) else (
            (stA z6.2 (q1a + 3) 7 ((gi μ q1a 7)) ((gi z6.2 1 5))).bind fun m7 =>
            (f_X4_readNumber m7 ((0 : Int32)) ((40 : Int32))).bind fun z8 =>
            if z8.1 = (0 : Int32) then (
              some ((0 : Int32), z8.2)
            ) else (
              (stA z8.2 (q1a + 4) 7 ((gi μ q1a 7)) ((gi z8.2 1 5))).bind fun m9 =>
              (stI m9 q1a 7 (((gi m9 q1a 7) + (1 : Int32)))).bind fun m10 =>
              some ((1 : Int32), m10)
            )
          )
        )
      )
    )
  )
set_option maxRecDepth 100000 in
set_option maxHeartbeats 4000000 in
theorem k_X4_readStair {l : Launch} {D : va_G} {cy : Nat → ClassId} {base : Nat} (μ : Mem) (q1a : Nat) (hq1a : isPl q1a = true) {out : Int32 × Mem} (hS : f_X4_readStair μ q1a = some out) : gC l D cy base yX4_readStair cX4_readStair 3 (some .boolean) 4 [.ref (base + 1), .ref (base + q1a)] μ (some (.int out.1)) out.2 := by
  refine gC_of (own := RX4) (lv0 := [(0, .ref (base + 1)), (1, .ref (base + q1a))]) rfl (by decide) (Nat.le_of_ble_eq_true rfl) rfl ?_
  unfold f_X4_readStair at hS
  refine g_aload_n (j := 1) (x := base + q1a) dX4_readStair_0 rfl rfl ?_
  refine gs_getI lk_RX4_59 (tkPl_0 hq1a _) rfl dX4_readStair_1 ?_
  refine g_istore_n (lvx := [(2, .int ((gi μ q1a 7))), (0, .ref (base + 1)), (1, .ref (base + q1a))]) dX4_readStair_4 rfl (by decide) rfl ?_
  refine g_iload_n (j := 0) (x := (gi μ q1a 7)) dX4_readStair_5 rfl rfl ?_
  refine g_bipush (v := 7) dX4_readStair_6 (by decide) ?_
  refine g_icmp_ge 21 dX4_readStair_8 (by decide) (fun hc => ?_) (fun hc => ?_)
  · replace hS := (if_pos hc).symm.trans hS
    refine g_iconst (v := 0) dX4_readStair_21 (by decide) ?_
    obtain rfl := Option.some.inj hS
    exact g_zret (v := (0 : Int32)) rfl rfl dX4_readStair_22
  · replace hS := (if_neg hc).symm.trans hS
    refine g_aload_n (j := 1) (x := base + 1) dX4_readStair_11 rfl rfl ?_
    refine g_iconst (v := 0) dX4_readStair_12 (by decide) ?_
    refine g_bipush (v := 6) dX4_readStair_13 (by decide) ?_
    obtain ⟨z1, ez1, hS⟩ := ob hS
    refine gs_callVi (As := [.int ((0 : Int32)), .int ((6 : Int32))]) (st := []) (kr := 1) (k_X4_readNumber μ ((0 : Int32)) ((6 : Int32))  ez1) cl_RX4_62 sv_X4_readNumber ckk_X4_readNumber (tk_1 _) ⟨by decide, by decide⟩ (Nat.le_of_ble_eq_true rfl) ⟨Nat.zero_le _, Nat.zero_le _⟩ rfl dX4_readStair_15 rfl ?_
    refine g_if_ne 23 dX4_readStair_18 (by decide) (fun hc => ?_) (fun hc => ?_)
    · replace hS := (if_neg hc).symm.trans hS
      refine g_aload_n (j := 2) (x := base + q1a) dX4_readStair_23 rfl rfl ?_
      refine gs_getR (r := (q1a + 1)) lk_RX4_66 (tkPl_0 hq1a _) rfl dX4_readStair_24 ?_
      refine g_iload_n (j := 0) (x := (gi μ q1a 7)) dX4_readStair_27 rfl rfl ?_
      refine g_aload_n (j := 1) (x := base + 1) dX4_readStair_28 rfl rfl ?_
      refine gs_getI lk_RX4_28 (tk_1 _) rfl dX4_readStair_29 ?_
      obtain ⟨m2, em2, hS⟩ := ob hS
      refine gs_iast (tkPl_1 hq1a _) dX4_readStair_32 em2 ?_
      refine g_aload_n (j := 1) (x := base + 1) dX4_readStair_33 rfl rfl ?_
      refine g_iconst (v := 0) dX4_readStair_34 (by decide) ?_
      refine g_bipush (v := 6) dX4_readStair_35 (by decide) ?_
      obtain ⟨z3, ez3, hS⟩ := ob hS
      refine gs_callVi (As := [.int ((0 : Int32)), .int ((6 : Int32))]) (st := []) (kr := 1) (k_X4_readNumber m2 ((0 : Int32)) ((6 : Int32))  ez3) cl_RX4_62 sv_X4_readNumber ckk_X4_readNumber (tk_1 _) ⟨by decide, by decide⟩ (Nat.le_of_ble_eq_true rfl) ⟨Nat.zero_le _, Nat.zero_le _⟩ rfl dX4_readStair_37 rfl ?_
      refine g_if_eq 56 dX4_readStair_40 (by decide) (fun hc => ?_) (fun hc => ?_)
      · replace hS := (if_pos hc).symm.trans hS
        refine g_iconst (v := 0) dX4_readStair_56 (by decide) ?_
        obtain rfl := Option.some.inj hS
        exact g_zret (v := (0 : Int32)) rfl rfl dX4_readStair_57
      · replace hS := (if_neg hc).symm.trans hS
        refine g_aload_n (j := 1) (x := base + 1) dX4_readStair_43 rfl rfl ?_
        refine gs_getI lk_RX4_28 (tk_1 _) rfl dX4_readStair_44 ?_
        refine g_aload_n (j := 2) (x := base + q1a) dX4_readStair_47 rfl rfl ?_
        refine gs_getR (r := (q1a + 1)) lk_RX4_66 (tkPl_0 hq1a _) rfl dX4_readStair_48 ?_
        refine g_iload_n (j := 0) (x := (gi μ q1a 7)) dX4_readStair_51 rfl rfl ?_
        obtain ⟨y4, ey4, hS⟩ := ob hS
        refine gs_iald (tkPl_1 hq1a _) dX4_readStair_52 ey4 ?_
        refine g_icmp_ne 58 dX4_readStair_53 (by decide) (fun hc => ?_) (fun hc => ?_)
        · replace hS := (if_neg hc).symm.trans hS
          refine g_aload_n (j := 2) (x := base + q1a) dX4_readStair_58 rfl rfl ?_
          refine gs_getR (r := (q1a + 2)) lk_RX4_69 (tkPl_0 hq1a _) rfl dX4_readStair_59 ?_
          refine g_iload_n (j := 0) (x := (gi μ q1a 7)) dX4_readStair_62 rfl rfl ?_
          refine g_aload_n (j := 1) (x := base + 1) dX4_readStair_63 rfl rfl ?_
          refine gs_getI lk_RX4_28 (tk_1 _) rfl dX4_readStair_64 ?_
          obtain ⟨m5, em5, hS⟩ := ob hS
          refine gs_iast (tkPl_2 hq1a _) dX4_readStair_67 em5 ?_
          refine g_aload_n (j := 1) (x := base + 1) dX4_readStair_68 rfl rfl ?_
          refine g_iconst (v := 1) dX4_readStair_69 (by decide) ?_
          refine g_bipush (v := 99) dX4_readStair_70 (by decide) ?_
          obtain ⟨z6, ez6, hS⟩ := ob hS
          refine gs_callVi (As := [.int ((1 : Int32)), .int ((99 : Int32))]) (st := []) (kr := 1) (k_X4_readNumber m5 ((1 : Int32)) ((99 : Int32))  ez6) cl_RX4_62 sv_X4_readNumber ckk_X4_readNumber (tk_1 _) ⟨by decide, by decide⟩ (Nat.le_of_ble_eq_true rfl) ⟨Nat.zero_le _, Nat.zero_le _⟩ rfl dX4_readStair_72 rfl ?_
          refine g_if_ne 80 dX4_readStair_75 (by decide) (fun hc => ?_) (fun hc => ?_)
          · replace hS := (if_neg hc).symm.trans hS
            refine g_aload_n (j := 2) (x := base + q1a) dX4_readStair_80 rfl rfl ?_
            refine gs_getR (r := (q1a + 3)) lk_RX4_72 (tkPl_0 hq1a _) rfl dX4_readStair_81 ?_
            refine g_iload_n (j := 0) (x := (gi μ q1a 7)) dX4_readStair_84 rfl rfl ?_
            refine g_aload_n (j := 1) (x := base + 1) dX4_readStair_85 rfl rfl ?_
            refine gs_getI lk_RX4_28 (tk_1 _) rfl dX4_readStair_86 ?_
            obtain ⟨m7, em7, hS⟩ := ob hS
            refine gs_iast (tkPl_3 hq1a _) dX4_readStair_89 em7 ?_
            refine g_aload_n (j := 1) (x := base + 1) dX4_readStair_90 rfl rfl ?_
            refine g_iconst (v := 0) dX4_readStair_91 (by decide) ?_
            refine g_bipush (v := 40) dX4_readStair_92 (by decide) ?_
            obtain ⟨z8, ez8, hS⟩ := ob hS
            refine gs_callVi (As := [.int ((0 : Int32)), .int ((40 : Int32))]) (st := []) (kr := 1) (k_X4_readNumber m7 ((0 : Int32)) ((40 : Int32))  ez8) cl_RX4_62 sv_X4_readNumber ckk_X4_readNumber (tk_1 _) ⟨by decide, by decide⟩ (Nat.le_of_ble_eq_true rfl) ⟨Nat.zero_le _, Nat.zero_le _⟩ rfl dX4_readStair_94 rfl ?_
            refine g_if_ne 102 dX4_readStair_97 (by decide) (fun hc => ?_) (fun hc => ?_)
            · replace hS := (if_neg hc).symm.trans hS
              refine g_aload_n (j := 2) (x := base + q1a) dX4_readStair_102 rfl rfl ?_
              refine gs_getR (r := (q1a + 4)) lk_RX4_75 (tkPl_0 hq1a _) rfl dX4_readStair_103 ?_
              refine g_iload_n (j := 0) (x := (gi μ q1a 7)) dX4_readStair_106 rfl rfl ?_
              refine g_aload_n (j := 1) (x := base + 1) dX4_readStair_107 rfl rfl ?_
              refine gs_getI lk_RX4_28 (tk_1 _) rfl dX4_readStair_108 ?_
              obtain ⟨m9, em9, hS⟩ := ob hS
              refine gs_iast (tkPl_4 hq1a _) dX4_readStair_111 em9 ?_
              refine g_aload_n (j := 2) (x := base + q1a) dX4_readStair_112 rfl rfl ?_
              refine g_dup dX4_readStair_113 rfl ?_
              refine gs_getI lk_RX4_59 (tkPl_0 hq1a _) rfl dX4_readStair_114 ?_
              refine g_iconst (v := 1) dX4_readStair_117 (by decide) ?_
              refine g_iadd dX4_readStair_118 ?_
              obtain ⟨m10, em10, hS⟩ := ob hS
              refine gs_putI lw_RX4_59 (tkPl_0 hq1a _) rfl rfl rfl dX4_readStair_119 em10 ?_
              refine g_iconst (v := 1) dX4_readStair_122 (by decide) ?_
              obtain rfl := Option.some.inj hS
              exact g_zret (v := (1 : Int32)) rfl rfl dX4_readStair_123
            · replace hS := (if_pos hc).symm.trans hS
              refine g_iconst (v := 0) dX4_readStair_100 (by decide) ?_
              obtain rfl := Option.some.inj hS
              exact g_zret (v := (0 : Int32)) rfl rfl dX4_readStair_101
          · replace hS := (if_pos hc).symm.trans hS
            refine g_iconst (v := 0) dX4_readStair_78 (by decide) ?_
            obtain rfl := Option.some.inj hS
            exact g_zret (v := (0 : Int32)) rfl rfl dX4_readStair_79
        · replace hS := (if_pos hc).symm.trans hS
          refine g_iconst (v := 0) dX4_readStair_56 (by decide) ?_
          obtain rfl := Option.some.inj hS
          exact g_zret (v := (0 : Int32)) rfl rfl dX4_readStair_57
    · replace hS := (if_pos hc).symm.trans hS
      refine g_iconst (v := 0) dX4_readStair_21 (by decide) ?_
      obtain rfl := Option.some.inj hS
      exact g_zret (v := (0 : Int32)) rfl rfl dX4_readStair_22
def f_X4_readPerson (μ : Mem) (q1a : Nat) : Option (Int32 × Mem) :=
  if (5 : Int32) ≤ (gi μ q1a 8) then (
    some ((0 : Int32), μ)
  ) else (
    (f_X4_readNumber μ ((0 : Int32)) ((1 : Int32))).bind fun z1 =>
    if z1.1 = (0 : Int32) then (
      some ((0 : Int32), z1.2)
    ) else (
      (stA z1.2 (q1a + 5) 5 ((gi μ q1a 8)) ((gi z1.2 1 5))).bind fun m2 =>
      (f_X4_readNumber m2 ((0 : Int32)) ((10 : Int32))).bind fun z3 =>
      if z3.1 = (0 : Int32) then (
        some ((0 : Int32), z3.2)
      ) else (
        (stA z3.2 (q1a + 6) 5 ((gi μ q1a 8)) ((gi z3.2 1 5))).bind fun m4 =>
        (f_X4_readNumber m4 ((0 : Int32)) ((9 : Int32))).bind fun z5 =>
        if z5.1 = (0 : Int32) then (
          some ((0 : Int32), z5.2)
        ) else (
          (stA z5.2 (q1a + 7) 5 ((gi μ q1a 8)) ((gi z5.2 1 5))).bind fun m6 =>
          (stI m6 q1a 8 (((gi m6 q1a 8) + (1 : Int32)))).bind fun m7 =>
          some ((1 : Int32), m7)
        )
      )
    )
  )
set_option maxRecDepth 100000 in
set_option maxHeartbeats 4000000 in
theorem k_X4_readPerson {l : Launch} {D : va_G} {cy : Nat → ClassId} {base : Nat} (μ : Mem) (q1a : Nat) (hq1a : isPl q1a = true) {out : Int32 × Mem} (hS : f_X4_readPerson μ q1a = some out) : gC l D cy base yX4_readPerson cX4_readPerson 3 (some .boolean) 4 [.ref (base + 1), .ref (base + q1a)] μ (some (.int out.1)) out.2 := by
  refine gC_of (own := RX4) (lv0 := [(0, .ref (base + 1)), (1, .ref (base + q1a))]) rfl (by decide) (Nat.le_of_ble_eq_true rfl) rfl ?_
  unfold f_X4_readPerson at hS
  refine g_aload_n (j := 1) (x := base + q1a) dX4_readPerson_0 rfl rfl ?_
  refine gs_getI lk_RX4_78 (tkPl_0 hq1a _) rfl dX4_readPerson_1 ?_
  refine g_istore_n (lvx := [(2, .int ((gi μ q1a 8))), (0, .ref (base + 1)), (1, .ref (base + q1a))]) dX4_readPerson_4 rfl (by decide) rfl ?_
  refine g_iload_n (j := 0) (x := (gi μ q1a 8)) dX4_readPerson_5 rfl rfl ?_
  refine g_iconst (v := 5) dX4_readPerson_6 (by decide) ?_
  refine g_icmp_ge 19 dX4_readPerson_7 (by decide) (fun hc => ?_) (fun hc => ?_)
  · replace hS := (if_pos hc).symm.trans hS
    refine g_iconst (v := 0) dX4_readPerson_19 (by decide) ?_
    obtain rfl := Option.some.inj hS
    exact g_zret (v := (0 : Int32)) rfl rfl dX4_readPerson_20
  · replace hS := (if_neg hc).symm.trans hS
    refine g_aload_n (j := 1) (x := base + 1) dX4_readPerson_10 rfl rfl ?_
    refine g_iconst (v := 0) dX4_readPerson_11 (by decide) ?_
    refine g_iconst (v := 1) dX4_readPerson_12 (by decide) ?_
    obtain ⟨z1, ez1, hS⟩ := ob hS
    refine gs_callVi (As := [.int ((0 : Int32)), .int ((1 : Int32))]) (st := []) (kr := 1) (k_X4_readNumber μ ((0 : Int32)) ((1 : Int32))  ez1) cl_RX4_62 sv_X4_readNumber ckk_X4_readNumber (tk_1 _) ⟨by decide, by decide⟩ (Nat.le_of_ble_eq_true rfl) ⟨Nat.zero_le _, Nat.zero_le _⟩ rfl dX4_readPerson_13 rfl ?_
    refine g_if_ne 21 dX4_readPerson_16 (by decide) (fun hc => ?_) (fun hc => ?_)
    · replace hS := (if_neg hc).symm.trans hS
      refine g_aload_n (j := 2) (x := base + q1a) dX4_readPerson_21 rfl rfl ?_
      refine gs_getR (r := (q1a + 5)) lk_RX4_81 (tkPl_0 hq1a _) rfl dX4_readPerson_22 ?_
      refine g_iload_n (j := 0) (x := (gi μ q1a 8)) dX4_readPerson_25 rfl rfl ?_
      refine g_aload_n (j := 1) (x := base + 1) dX4_readPerson_26 rfl rfl ?_
      refine gs_getI lk_RX4_28 (tk_1 _) rfl dX4_readPerson_27 ?_
      obtain ⟨m2, em2, hS⟩ := ob hS
      refine gs_iast (tkPl_5 hq1a _) dX4_readPerson_30 em2 ?_
      refine g_aload_n (j := 1) (x := base + 1) dX4_readPerson_31 rfl rfl ?_
      refine g_iconst (v := 0) dX4_readPerson_32 (by decide) ?_
      refine g_bipush (v := 10) dX4_readPerson_33 (by decide) ?_
      obtain ⟨z3, ez3, hS⟩ := ob hS
      refine gs_callVi (As := [.int ((0 : Int32)), .int ((10 : Int32))]) (st := []) (kr := 1) (k_X4_readNumber m2 ((0 : Int32)) ((10 : Int32))  ez3) cl_RX4_62 sv_X4_readNumber ckk_X4_readNumber (tk_1 _) ⟨by decide, by decide⟩ (Nat.le_of_ble_eq_true rfl) ⟨Nat.zero_le _, Nat.zero_le _⟩ rfl dX4_readPerson_35 rfl ?_
      refine g_if_ne 43 dX4_readPerson_38 (by decide) (fun hc => ?_) (fun hc => ?_)
      · replace hS := (if_neg hc).symm.trans hS
        refine g_aload_n (j := 2) (x := base + q1a) dX4_readPerson_43 rfl rfl ?_
        refine gs_getR (r := (q1a + 6)) lk_RX4_84 (tkPl_0 hq1a _) rfl dX4_readPerson_44 ?_
        refine g_iload_n (j := 0) (x := (gi μ q1a 8)) dX4_readPerson_47 rfl rfl ?_
        refine g_aload_n (j := 1) (x := base + 1) dX4_readPerson_48 rfl rfl ?_
        refine gs_getI lk_RX4_28 (tk_1 _) rfl dX4_readPerson_49 ?_
        obtain ⟨m4, em4, hS⟩ := ob hS
        refine gs_iast (tkPl_6 hq1a _) dX4_readPerson_52 em4 ?_
        refine g_aload_n (j := 1) (x := base + 1) dX4_readPerson_53 rfl rfl ?_
        refine g_iconst (v := 0) dX4_readPerson_54 (by decide) ?_
        refine g_bipush (v := 9) dX4_readPerson_55 (by decide) ?_
        obtain ⟨z5, ez5, hS⟩ := ob hS
        refine gs_callVi (As := [.int ((0 : Int32)), .int ((9 : Int32))]) (st := []) (kr := 1) (k_X4_readNumber m4 ((0 : Int32)) ((9 : Int32))  ez5) cl_RX4_62 sv_X4_readNumber ckk_X4_readNumber (tk_1 _) ⟨by decide, by decide⟩ (Nat.le_of_ble_eq_true rfl) ⟨Nat.zero_le _, Nat.zero_le _⟩ rfl dX4_readPerson_57 rfl ?_
        refine g_if_ne 65 dX4_readPerson_60 (by decide) (fun hc => ?_) (fun hc => ?_)
        · replace hS := (if_neg hc).symm.trans hS
          refine g_aload_n (j := 2) (x := base + q1a) dX4_readPerson_65 rfl rfl ?_
          refine gs_getR (r := (q1a + 7)) lk_RX4_87 (tkPl_0 hq1a _) rfl dX4_readPerson_66 ?_
          refine g_iload_n (j := 0) (x := (gi μ q1a 8)) dX4_readPerson_69 rfl rfl ?_
          refine g_aload_n (j := 1) (x := base + 1) dX4_readPerson_70 rfl rfl ?_
          refine gs_getI lk_RX4_28 (tk_1 _) rfl dX4_readPerson_71 ?_
          obtain ⟨m6, em6, hS⟩ := ob hS
          refine gs_iast (tkPl_7 hq1a _) dX4_readPerson_74 em6 ?_
          refine g_aload_n (j := 2) (x := base + q1a) dX4_readPerson_75 rfl rfl ?_
          refine g_dup dX4_readPerson_76 rfl ?_
          refine gs_getI lk_RX4_78 (tkPl_0 hq1a _) rfl dX4_readPerson_77 ?_
          refine g_iconst (v := 1) dX4_readPerson_80 (by decide) ?_
          refine g_iadd dX4_readPerson_81 ?_
          obtain ⟨m7, em7, hS⟩ := ob hS
          refine gs_putI lw_RX4_78 (tkPl_0 hq1a _) rfl rfl rfl dX4_readPerson_82 em7 ?_
          refine g_iconst (v := 1) dX4_readPerson_85 (by decide) ?_
          obtain rfl := Option.some.inj hS
          exact g_zret (v := (1 : Int32)) rfl rfl dX4_readPerson_86
        · replace hS := (if_pos hc).symm.trans hS
          refine g_iconst (v := 0) dX4_readPerson_63 (by decide) ?_
          obtain rfl := Option.some.inj hS
          exact g_zret (v := (0 : Int32)) rfl rfl dX4_readPerson_64
      · replace hS := (if_pos hc).symm.trans hS
        refine g_iconst (v := 0) dX4_readPerson_41 (by decide) ?_
        obtain rfl := Option.some.inj hS
        exact g_zret (v := (0 : Int32)) rfl rfl dX4_readPerson_42
    · replace hS := (if_pos hc).symm.trans hS
      refine g_iconst (v := 0) dX4_readPerson_19 (by decide) ?_
      obtain rfl := Option.some.inj hS
      exact g_zret (v := (0 : Int32)) rfl rfl dX4_readPerson_20
def f_X4_readDolls (μ : Mem) (q1a : Nat) : Option (Int32 × Mem) :=
  if (gi μ q1a 11) = (0 : Int32) then (
    (f_X4_readNumber μ ((0 : Int32)) ((9 : Int32))).bind fun z1 =>
    if z1.1 = (0 : Int32) then (
      some ((0 : Int32), z1.2)
    ) else (
      (stI z1.2 q1a 9 ((gi z1.2 1 5))).bind fun m2 =>
      (stI m2 q1a 11 ((1 : Int32))).bind fun m3 =>
      some ((1 : Int32), m3)
    )
  ) else (
    some ((0 : Int32), μ)
  )
set_option maxRecDepth 100000 in
set_option maxHeartbeats 4000000 in
theorem k_X4_readDolls {l : Launch} {D : va_G} {cy : Nat → ClassId} {base : Nat} (μ : Mem) (q1a : Nat) (hq1a : isPl q1a = true) {out : Int32 × Mem} (hS : f_X4_readDolls μ q1a = some out) : gC l D cy base yX4_readDolls cX4_readDolls 2 (some .boolean) 4 [.ref (base + 1), .ref (base + q1a)] μ (some (.int out.1)) out.2 := by
  refine gC_of (own := RX4) (lv0 := [(0, .ref (base + 1)), (1, .ref (base + q1a))]) rfl (by decide) (Nat.le_of_ble_eq_true rfl) rfl ?_
  unfold f_X4_readDolls at hS
  refine g_aload_n (j := 1) (x := base + q1a) dX4_readDolls_0 rfl rfl ?_
  refine gs_getI lk_RX4_90 (tkPl_0 hq1a _) rfl dX4_readDolls_1 ?_
  refine g_if_ne 17 dX4_readDolls_4 (by decide) (fun hc => ?_) (fun hc => ?_)
  · replace hS := (if_neg hc).symm.trans hS
    refine g_iconst (v := 0) dX4_readDolls_17 (by decide) ?_
    obtain rfl := Option.some.inj hS
    exact g_zret (v := (0 : Int32)) rfl rfl dX4_readDolls_18
  · replace hS := (if_pos hc).symm.trans hS
    refine g_aload_n (j := 0) (x := base + 1) dX4_readDolls_7 rfl rfl ?_
    refine g_iconst (v := 0) dX4_readDolls_8 (by decide) ?_
    refine g_bipush (v := 9) dX4_readDolls_9 (by decide) ?_
    obtain ⟨z1, ez1, hS⟩ := ob hS
    refine gs_callVi (As := [.int ((0 : Int32)), .int ((9 : Int32))]) (st := []) (kr := 1) (k_X4_readNumber μ ((0 : Int32)) ((9 : Int32))  ez1) cl_RX4_62 sv_X4_readNumber ckk_X4_readNumber (tk_1 _) ⟨by decide, by decide⟩ (Nat.le_of_ble_eq_true rfl) ⟨Nat.zero_le _, Nat.zero_le _⟩ rfl dX4_readDolls_11 rfl ?_
    refine g_if_ne 19 dX4_readDolls_14 (by decide) (fun hc => ?_) (fun hc => ?_)
    · replace hS := (if_neg hc).symm.trans hS
      refine g_aload_n (j := 1) (x := base + q1a) dX4_readDolls_19 rfl rfl ?_
      refine g_aload_n (j := 0) (x := base + 1) dX4_readDolls_20 rfl rfl ?_
      refine gs_getI lk_RX4_28 (tk_1 _) rfl dX4_readDolls_21 ?_
      obtain ⟨m2, em2, hS⟩ := ob hS
      refine gs_putI lw_RX4_94 (tkPl_0 hq1a _) rfl rfl rfl dX4_readDolls_24 em2 ?_
      refine g_aload_n (j := 1) (x := base + q1a) dX4_readDolls_27 rfl rfl ?_
      refine g_iconst (v := 1) dX4_readDolls_28 (by decide) ?_
      obtain ⟨m3, em3, hS⟩ := ob hS
      refine gs_putI lw_RX4_90 (tkPl_0 hq1a _) rfl rfl rfl dX4_readDolls_29 em3 ?_
      refine g_iconst (v := 1) dX4_readDolls_32 (by decide) ?_
      obtain rfl := Option.some.inj hS
      exact g_zret (v := (1 : Int32)) rfl rfl dX4_readDolls_33
    · replace hS := (if_pos hc).symm.trans hS
      refine g_iconst (v := 0) dX4_readDolls_17 (by decide) ?_
      obtain rfl := Option.some.inj hS
      exact g_zret (v := (0 : Int32)) rfl rfl dX4_readDolls_18
def f_X4_readPair (μ : Mem) (q1a : Nat) : Option (Int32 × Mem) :=
  if (gi μ q1a 12) = (0 : Int32) then (
    (f_X4_readNumber μ ((0 : Int32)) ((9 : Int32))).bind fun z1 =>
    if z1.1 = (0 : Int32) then (
      some ((0 : Int32), z1.2)
    ) else (
      (stI z1.2 q1a 10 ((gi z1.2 1 5))).bind fun m2 =>
      (stI m2 q1a 12 ((1 : Int32))).bind fun m3 =>
      some ((1 : Int32), m3)
    )
  ) else (
    some ((0 : Int32), μ)
  )
set_option maxRecDepth 100000 in
set_option maxHeartbeats 4000000 in
theorem k_X4_readPair {l : Launch} {D : va_G} {cy : Nat → ClassId} {base : Nat} (μ : Mem) (q1a : Nat) (hq1a : isPl q1a = true) {out : Int32 × Mem} (hS : f_X4_readPair μ q1a = some out) : gC l D cy base yX4_readPair cX4_readPair 2 (some .boolean) 4 [.ref (base + 1), .ref (base + q1a)] μ (some (.int out.1)) out.2 := by
  refine gC_of (own := RX4) (lv0 := [(0, .ref (base + 1)), (1, .ref (base + q1a))]) rfl (by decide) (Nat.le_of_ble_eq_true rfl) rfl ?_
  unfold f_X4_readPair at hS
  refine g_aload_n (j := 1) (x := base + q1a) dX4_readPair_0 rfl rfl ?_
  refine gs_getI lk_RX4_97 (tkPl_0 hq1a _) rfl dX4_readPair_1 ?_
  refine g_if_ne 17 dX4_readPair_4 (by decide) (fun hc => ?_) (fun hc => ?_)
  · replace hS := (if_neg hc).symm.trans hS
    refine g_iconst (v := 0) dX4_readPair_17 (by decide) ?_
    obtain rfl := Option.some.inj hS
    exact g_zret (v := (0 : Int32)) rfl rfl dX4_readPair_18
  · replace hS := (if_pos hc).symm.trans hS
    refine g_aload_n (j := 0) (x := base + 1) dX4_readPair_7 rfl rfl ?_
    refine g_iconst (v := 0) dX4_readPair_8 (by decide) ?_
    refine g_bipush (v := 9) dX4_readPair_9 (by decide) ?_
    obtain ⟨z1, ez1, hS⟩ := ob hS
    refine gs_callVi (As := [.int ((0 : Int32)), .int ((9 : Int32))]) (st := []) (kr := 1) (k_X4_readNumber μ ((0 : Int32)) ((9 : Int32))  ez1) cl_RX4_62 sv_X4_readNumber ckk_X4_readNumber (tk_1 _) ⟨by decide, by decide⟩ (Nat.le_of_ble_eq_true rfl) ⟨Nat.zero_le _, Nat.zero_le _⟩ rfl dX4_readPair_11 rfl ?_
    refine g_if_ne 19 dX4_readPair_14 (by decide) (fun hc => ?_) (fun hc => ?_)
    · replace hS := (if_neg hc).symm.trans hS
      refine g_aload_n (j := 1) (x := base + q1a) dX4_readPair_19 rfl rfl ?_
      refine g_aload_n (j := 0) (x := base + 1) dX4_readPair_20 rfl rfl ?_
      refine gs_getI lk_RX4_28 (tk_1 _) rfl dX4_readPair_21 ?_
      obtain ⟨m2, em2, hS⟩ := ob hS
      refine gs_putI lw_RX4_100 (tkPl_0 hq1a _) rfl rfl rfl dX4_readPair_24 em2 ?_
      refine g_aload_n (j := 1) (x := base + q1a) dX4_readPair_27 rfl rfl ?_
      refine g_iconst (v := 1) dX4_readPair_28 (by decide) ?_
      obtain ⟨m3, em3, hS⟩ := ob hS
      refine gs_putI lw_RX4_97 (tkPl_0 hq1a _) rfl rfl rfl dX4_readPair_29 em3 ?_
      refine g_iconst (v := 1) dX4_readPair_32 (by decide) ?_
      obtain rfl := Option.some.inj hS
      exact g_zret (v := (1 : Int32)) rfl rfl dX4_readPair_33
    · replace hS := (if_pos hc).symm.trans hS
      refine g_iconst (v := 0) dX4_readPair_17 (by decide) ?_
      obtain rfl := Option.some.inj hS
      exact g_zret (v := (0 : Int32)) rfl rfl dX4_readPair_18
def f_X4_readItem (μ : Mem) (q1a : Nat) : Option (Int32 × Mem) :=
  if (gi μ 1 4) = (1 : Int32) then (
    if (gi μ 1 5) = (100 : Int32) then (
      (f_X4_readDolls μ (q1a)).bind fun z2 =>
      if z2.1 = (0 : Int32) then (
        some ((0 : Int32), z2.2)
      ) else (
        (f_X4_readStop z2.2 ).bind fun z3 =>
        if z3.1 = (0 : Int32) then (
          some ((0 : Int32), z3.2)
        ) else (
          some ((1 : Int32), z3.2)
        )
      )
    ) else
    if (gi μ 1 5) = (112 : Int32) then (
      (f_X4_readPerson μ (q1a)).bind fun z5 =>
      if z5.1 = (0 : Int32) then (
        some ((0 : Int32), z5.2)
      ) else (
        (f_X4_readStop z5.2 ).bind fun z6 =>
        if z6.1 = (0 : Int32) then (
          some ((0 : Int32), z6.2)
        ) else (
          some ((1 : Int32), z6.2)
        )
      )
    ) else
    if (gi μ 1 5) = (115 : Int32) then (
      (f_X4_readStair μ (q1a)).bind fun z8 =>
      if z8.1 = (0 : Int32) then (
        some ((0 : Int32), z8.2)
      ) else (
        (f_X4_readStop z8.2 ).bind fun z9 =>
        if z9.1 = (0 : Int32) then (
          some ((0 : Int32), z9.2)
        ) else (
          some ((1 : Int32), z9.2)
        )
      )
    ) else
    if (gi μ 1 5) = (116 : Int32) then (
      (f_X4_readPair μ (q1a)).bind fun z11 =>
      if z11.1 = (0 : Int32) then (
        some ((0 : Int32), z11.2)
      ) else (
        (f_X4_readStop z11.2 ).bind fun z12 =>
        if z12.1 = (0 : Int32) then (
          some ((0 : Int32), z12.2)
        ) else (
          some ((1 : Int32), z12.2)
        )
      )
    ) else
    (
      some ((0 : Int32), μ)
    )
  ) else (
    some ((0 : Int32), μ)
  )
set_option maxRecDepth 100000 in
set_option maxHeartbeats 4000000 in
theorem k_X4_readItem {l : Launch} {D : va_G} {cy : Nat → ClassId} {base : Nat} (μ : Mem) (q1a : Nat) (hq1a : isPl q1a = true) {out : Int32 × Mem} (hS : f_X4_readItem μ q1a = some out) : gC l D cy base yX4_readItem cX4_readItem 2 (some .boolean) 5 [.ref (base + 1), .ref (base + q1a)] μ (some (.int out.1)) out.2 := by
  refine gC_of (own := RX4) (lv0 := [(0, .ref (base + 1)), (1, .ref (base + q1a))]) rfl (by decide) (Nat.le_of_ble_eq_true rfl) rfl ?_
  unfold f_X4_readItem at hS
  refine g_aload_n (j := 0) (x := base + 1) dX4_readItem_0 rfl rfl ?_
  refine gs_getI lk_RX4_25 (tk_1 _) rfl dX4_readItem_1 ?_
  refine g_iconst (v := 1) dX4_readItem_4 (by decide) ?_
  refine g_icmp_eq 10 dX4_readItem_5 (by decide) (fun hc => ?_) (fun hc => ?_)
  · replace hS := (if_pos hc).symm.trans hS
    refine g_aload_n (j := 0) (x := base + 1) dX4_readItem_10 rfl rfl ?_
    refine gs_getI lk_RX4_28 (tk_1 _) rfl dX4_readItem_11 ?_
    by_cases hs1 : (gi μ 1 5) = (100 : Int32)
    · replace hS := (if_pos hs1).symm.trans hS
      refine gs_lookup hs1 98 dX4_readItem_14 (by decide) rfl (by decide) ?_
      refine g_aload_n (j := 0) (x := base + 1) dX4_readItem_98 rfl rfl ?_
      refine g_aload_n (j := 1) (x := base + q1a) dX4_readItem_99 rfl rfl ?_
      obtain ⟨z2, ez2, hS⟩ := ob hS
      refine gs_callVi (As := [.ref (base + q1a)]) (st := []) (kr := 1) (k_X4_readDolls μ (q1a) hq1a ez2) cl_RX4_53 sv_X4_readDolls ckk_X4_readDolls (tk_1 _) ⟨by decide, by decide⟩ (Nat.le_of_ble_eq_true rfl) ⟨Nat.zero_le _, Nat.zero_le _⟩ rfl dX4_readItem_100 rfl ?_
      refine g_if_eq 117 dX4_readItem_103 (by decide) (fun hc => ?_) (fun hc => ?_)
      · replace hS := (if_pos hc).symm.trans hS
        refine g_iconst (v := 0) dX4_readItem_117 (by decide) ?_
        obtain rfl := Option.some.inj hS
        exact g_zret (v := (0 : Int32)) rfl rfl dX4_readItem_118
      · replace hS := (if_neg hc).symm.trans hS
        refine g_aload_n (j := 0) (x := base + 1) dX4_readItem_106 rfl rfl ?_
        obtain ⟨z3, ez3, hS⟩ := ob hS
        refine gs_callVi (As := []) (st := []) (kr := 1) (k_X4_readStop z2.2   ez3) cl_RX4_46 sv_X4_readStop ckk_X4_readStop (tk_1 _) ⟨by decide, by decide⟩ (Nat.le_of_ble_eq_true rfl) ⟨Nat.zero_le _, Nat.zero_le _⟩ rfl dX4_readItem_107 rfl ?_
        refine g_if_eq 117 dX4_readItem_110 (by decide) (fun hc => ?_) (fun hc => ?_)
        · replace hS := (if_pos hc).symm.trans hS
          refine g_iconst (v := 0) dX4_readItem_117 (by decide) ?_
          obtain rfl := Option.some.inj hS
          exact g_zret (v := (0 : Int32)) rfl rfl dX4_readItem_118
        · replace hS := (if_neg hc).symm.trans hS
          refine g_iconst (v := 1) dX4_readItem_113 (by decide) ?_
          refine g_goto 118 dX4_readItem_114 (by decide) ?_
          obtain rfl := Option.some.inj hS
          exact g_zret (v := (1 : Int32)) rfl rfl dX4_readItem_118
    replace hS := (if_neg hs1).symm.trans hS
    by_cases hs4 : (gi μ 1 5) = (112 : Int32)
    · replace hS := (if_pos hs4).symm.trans hS
      refine gs_lookup hs4 77 dX4_readItem_14 (by decide) rfl (by decide) ?_
      refine g_aload_n (j := 0) (x := base + 1) dX4_readItem_77 rfl rfl ?_
      refine g_aload_n (j := 1) (x := base + q1a) dX4_readItem_78 rfl rfl ?_
      obtain ⟨z5, ez5, hS⟩ := ob hS
      refine gs_callVi (As := [.ref (base + q1a)]) (st := []) (kr := 1) (k_X4_readPerson μ (q1a) hq1a ez5) cl_RX4_50 sv_X4_readPerson ckk_X4_readPerson (tk_1 _) ⟨by decide, by decide⟩ (Nat.le_of_ble_eq_true rfl) ⟨Nat.zero_le _, Nat.zero_le _⟩ rfl dX4_readItem_79 rfl ?_
      refine g_if_eq 96 dX4_readItem_82 (by decide) (fun hc => ?_) (fun hc => ?_)
      · replace hS := (if_pos hc).symm.trans hS
        refine g_iconst (v := 0) dX4_readItem_96 (by decide) ?_
        obtain rfl := Option.some.inj hS
        exact g_zret (v := (0 : Int32)) rfl rfl dX4_readItem_97
      · replace hS := (if_neg hc).symm.trans hS
        refine g_aload_n (j := 0) (x := base + 1) dX4_readItem_85 rfl rfl ?_
        obtain ⟨z6, ez6, hS⟩ := ob hS
        refine gs_callVi (As := []) (st := []) (kr := 1) (k_X4_readStop z5.2   ez6) cl_RX4_46 sv_X4_readStop ckk_X4_readStop (tk_1 _) ⟨by decide, by decide⟩ (Nat.le_of_ble_eq_true rfl) ⟨Nat.zero_le _, Nat.zero_le _⟩ rfl dX4_readItem_86 rfl ?_
        refine g_if_eq 96 dX4_readItem_89 (by decide) (fun hc => ?_) (fun hc => ?_)
        · replace hS := (if_pos hc).symm.trans hS
          refine g_iconst (v := 0) dX4_readItem_96 (by decide) ?_
          obtain rfl := Option.some.inj hS
          exact g_zret (v := (0 : Int32)) rfl rfl dX4_readItem_97
        · replace hS := (if_neg hc).symm.trans hS
          refine g_iconst (v := 1) dX4_readItem_92 (by decide) ?_
          refine g_goto 97 dX4_readItem_93 (by decide) ?_
          obtain rfl := Option.some.inj hS
          exact g_zret (v := (1 : Int32)) rfl rfl dX4_readItem_97
    replace hS := (if_neg hs4).symm.trans hS
    by_cases hs7 : (gi μ 1 5) = (115 : Int32)
    · replace hS := (if_pos hs7).symm.trans hS
      refine gs_lookup hs7 56 dX4_readItem_14 (by decide) rfl (by decide) ?_
      refine g_aload_n (j := 0) (x := base + 1) dX4_readItem_56 rfl rfl ?_
      refine g_aload_n (j := 1) (x := base + q1a) dX4_readItem_57 rfl rfl ?_
      obtain ⟨z8, ez8, hS⟩ := ob hS
      refine gs_callVi (As := [.ref (base + q1a)]) (st := []) (kr := 1) (k_X4_readStair μ (q1a) hq1a ez8) cl_RX4_43 sv_X4_readStair ckk_X4_readStair (tk_1 _) ⟨by decide, by decide⟩ (Nat.le_of_ble_eq_true rfl) ⟨Nat.zero_le _, Nat.zero_le _⟩ rfl dX4_readItem_58 rfl ?_
      refine g_if_eq 75 dX4_readItem_61 (by decide) (fun hc => ?_) (fun hc => ?_)
      · replace hS := (if_pos hc).symm.trans hS
        refine g_iconst (v := 0) dX4_readItem_75 (by decide) ?_
        obtain rfl := Option.some.inj hS
        exact g_zret (v := (0 : Int32)) rfl rfl dX4_readItem_76
      · replace hS := (if_neg hc).symm.trans hS
        refine g_aload_n (j := 0) (x := base + 1) dX4_readItem_64 rfl rfl ?_
        obtain ⟨z9, ez9, hS⟩ := ob hS
        refine gs_callVi (As := []) (st := []) (kr := 1) (k_X4_readStop z8.2   ez9) cl_RX4_46 sv_X4_readStop ckk_X4_readStop (tk_1 _) ⟨by decide, by decide⟩ (Nat.le_of_ble_eq_true rfl) ⟨Nat.zero_le _, Nat.zero_le _⟩ rfl dX4_readItem_65 rfl ?_
        refine g_if_eq 75 dX4_readItem_68 (by decide) (fun hc => ?_) (fun hc => ?_)
        · replace hS := (if_pos hc).symm.trans hS
          refine g_iconst (v := 0) dX4_readItem_75 (by decide) ?_
          obtain rfl := Option.some.inj hS
          exact g_zret (v := (0 : Int32)) rfl rfl dX4_readItem_76
        · replace hS := (if_neg hc).symm.trans hS
          refine g_iconst (v := 1) dX4_readItem_71 (by decide) ?_
          refine g_goto 76 dX4_readItem_72 (by decide) ?_
          obtain rfl := Option.some.inj hS
          exact g_zret (v := (1 : Int32)) rfl rfl dX4_readItem_76
    replace hS := (if_neg hs7).symm.trans hS
    by_cases hs10 : (gi μ 1 5) = (116 : Int32)
    · replace hS := (if_pos hs10).symm.trans hS
      refine gs_lookup hs10 119 dX4_readItem_14 (by decide) rfl (by decide) ?_
      refine g_aload_n (j := 0) (x := base + 1) dX4_readItem_119 rfl rfl ?_
      refine g_aload_n (j := 1) (x := base + q1a) dX4_readItem_120 rfl rfl ?_
      obtain ⟨z11, ez11, hS⟩ := ob hS
      refine gs_callVi (As := [.ref (base + q1a)]) (st := []) (kr := 1) (k_X4_readPair μ (q1a) hq1a ez11) cl_RX4_56 sv_X4_readPair ckk_X4_readPair (tk_1 _) ⟨by decide, by decide⟩ (Nat.le_of_ble_eq_true rfl) ⟨Nat.zero_le _, Nat.zero_le _⟩ rfl dX4_readItem_121 rfl ?_
      refine g_if_eq 138 dX4_readItem_124 (by decide) (fun hc => ?_) (fun hc => ?_)
      · replace hS := (if_pos hc).symm.trans hS
        refine g_iconst (v := 0) dX4_readItem_138 (by decide) ?_
        obtain rfl := Option.some.inj hS
        exact g_zret (v := (0 : Int32)) rfl rfl dX4_readItem_139
      · replace hS := (if_neg hc).symm.trans hS
        refine g_aload_n (j := 0) (x := base + 1) dX4_readItem_127 rfl rfl ?_
        obtain ⟨z12, ez12, hS⟩ := ob hS
        refine gs_callVi (As := []) (st := []) (kr := 1) (k_X4_readStop z11.2   ez12) cl_RX4_46 sv_X4_readStop ckk_X4_readStop (tk_1 _) ⟨by decide, by decide⟩ (Nat.le_of_ble_eq_true rfl) ⟨Nat.zero_le _, Nat.zero_le _⟩ rfl dX4_readItem_128 rfl ?_
        refine g_if_eq 138 dX4_readItem_131 (by decide) (fun hc => ?_) (fun hc => ?_)
        · replace hS := (if_pos hc).symm.trans hS
          refine g_iconst (v := 0) dX4_readItem_138 (by decide) ?_
          obtain rfl := Option.some.inj hS
          exact g_zret (v := (0 : Int32)) rfl rfl dX4_readItem_139
        · replace hS := (if_neg hc).symm.trans hS
          refine g_iconst (v := 1) dX4_readItem_134 (by decide) ?_
          refine g_goto 139 dX4_readItem_135 (by decide) ?_
          obtain rfl := Option.some.inj hS
          exact g_zret (v := (1 : Int32)) rfl rfl dX4_readItem_139
    replace hS := (if_neg hs10).symm.trans hS
    refine gs_lookupOut 140 dX4_readItem_14 (by decide) (fun q hq => by simp only [List.mem_cons, List.not_mem_nil, or_false] at hq; rcases hq with rfl | rfl | rfl | rfl <;> assumption) (by decide) ?_
    refine g_iconst (v := 0) dX4_readItem_140 (by decide) ?_
    obtain rfl := Option.some.inj hS
    exact g_zret (v := (0 : Int32)) rfl rfl dX4_readItem_141
  · replace hS := (if_neg hc).symm.trans hS
    refine g_iconst (v := 0) dX4_readItem_8 (by decide) ?_
    obtain rfl := Option.some.inj hS
    exact g_zret (v := (0 : Int32)) rfl rfl dX4_readItem_9

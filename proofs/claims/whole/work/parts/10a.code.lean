def f_J7_fill_53178_b5 (q1 n2 : Nat) (x3 : Int32) (x4 : Int32) (v : Int32 × Mem) : Option ((Int32 × Mem) ⊕ ((Mem))) :=
  if x4 ≤ v.1 then (
    some (.inr (v.2))
  ) else (
    (stA v.2 q1 n2 (v.1) (x3)).bind fun m5 =>
    some (.inl (((v.1 + (1 : Int32))), (m5)))
  )
set_option maxRecDepth 100000 in
set_option maxHeartbeats 4000000 in
theorem k_J7_fill_53178_b5 {l : Launch} {D : va_G} {cy : Nat → ClassId} {base : Nat} {X : gX} {Z : gZ} (q1 n2 : Nat) (x3 : Int32) (x4 : Int32) (hq1 : ∀ μ, gTk μ q1 (.inr (0, n2, 0))) (v : Int32 × Mem) (r : (Int32 × Mem) ⊕ ((Mem))) (hS : f_J7_fill_53178_b5 q1 n2 x3 x4 v = some r) (hin : ∀ v2, r = .inl v2 → G l D cy base RJ7 cJ7_fill_53178 4 none (gRm 0) X Z 5 [(0, .ref (base + q1)), (1, .int (x3)), (2, .int (v2.1)), (3, .int (x4))] [] 0 0 gNN (gH cy base v2.2)) (hout0 : ∀ x, r = .inr x → G l D cy base RJ7 cJ7_fill_53178 4 none (gRm 0) X Z 20 [] [] 0 0 gNN (gH cy base x)) : G l D cy base RJ7 cJ7_fill_53178 4 none (gRm 0) X Z 5 [(0, .ref (base + q1)), (1, .int (x3)), (2, .int (v.1)), (3, .int (x4))] [] 0 0 gNN (gH cy base v.2) := by
  unfold f_J7_fill_53178_b5 at hS
  refine g_iload_n (j := 2) (x := v.1) dJ7_fill_53178_5 rfl rfl ?_
  refine g_iload_n (j := 3) (x := x4) dJ7_fill_53178_6 rfl rfl ?_
  refine g_icmp_ge 20 dJ7_fill_53178_7 (by decide) (fun hc => ?_) (fun hc => ?_)
  · replace hS := (if_pos hc).symm.trans hS
    refine g_sub (lvx := []) [] rfl ?_
    obtain rfl := Option.some.inj hS
    exact hout0 ((v.2)) rfl
  · replace hS := (if_neg hc).symm.trans hS
    refine g_aload_n (j := 0) (x := base + q1) dJ7_fill_53178_10 rfl rfl ?_
    refine g_iload_n (j := 2) (x := v.1) dJ7_fill_53178_11 rfl rfl ?_
    refine g_iload_n (j := 1) (x := x3) dJ7_fill_53178_12 rfl rfl ?_
    obtain ⟨m5, em5, hS⟩ := ob hS
    refine gs_iast (hq1 _) dJ7_fill_53178_13 em5 ?_
    refine g_iinc (j := 2) (x := v.1) (v := (v.1 + (1 : Int32))) (lvx := [(2, .int ((v.1 + (1 : Int32)))), (0, .ref (base + q1)), (1, .int (x3)), (3, .int (x4))]) dJ7_fill_53178_14 rfl rfl (by decide) rfl ?_
    refine g_goto 5 dJ7_fill_53178_17 (by decide) ?_
    refine g_sub (lvx := [(0, .ref (base + q1)), (1, .int (x3)), (2, .int ((v.1 + (1 : Int32)))), (3, .int (x4))]) [1, 2, 0, 3] rfl ?_
    obtain rfl := Option.some.inj hS
    exact hin ((((v.1 + (1 : Int32))), (m5))) rfl
def f_J7_fill_53178 (μ : Mem) (q0a n0a : Nat) (a1 : Int32) : Option (Mem) :=
  (iter gFU (f_J7_fill_53178_b5  (q0a) n0a (a1) ((Int32.ofNat n0a))) (((0 : Int32)), μ)).bind fun z6 =>
  some z6
set_option maxRecDepth 100000 in
set_option maxHeartbeats 4000000 in
theorem k_J7_fill_53178 {l : Launch} {D : va_G} {cy : Nat → ClassId} {base : Nat} (μ : Mem) (q0a n0a : Nat) (a1 : Int32) (hq0a : ∀ μ, gTk μ q0a (.inr (0, n0a, 0))) {out : Mem} (hS : f_J7_fill_53178 μ q0a n0a a1 = some out) : gC l D cy base yJ7_fill_53178 cJ7_fill_53178 4 none 0 [.ref (base + q0a), .int (a1)] μ none out := by
  refine gC_of (own := RJ7) (lv0 := [(0, .ref (base + q0a)), (1, .int (a1))]) rfl (by decide) (Nat.le_of_ble_eq_true rfl) rfl ?_
  unfold f_J7_fill_53178 at hS
  refine g_iconst (v := 0) dJ7_fill_53178_0 (by decide) ?_
  refine g_istore_n (lvx := [(2, .int ((0 : Int32))), (0, .ref (base + q0a)), (1, .int (a1))]) dJ7_fill_53178_1 rfl (by decide) rfl ?_
  refine g_aload_n (j := 1) (x := base + q0a) dJ7_fill_53178_2 rfl rfl ?_
  refine gs_alen (hq0a _) rfl dJ7_fill_53178_3 ?_
  refine g_istore_n (lvx := [(3, .int ((Int32.ofNat n0a))), (2, .int ((0 : Int32))), (0, .ref (base + q0a)), (1, .int (a1))]) dJ7_fill_53178_4 rfl (by decide) rfl ?_
  obtain ⟨z6, ez6, hS⟩ := ob hS
  refine g_sub (lvx := [(0, .ref (base + q0a)), (1, .int (a1)), (2, .int ((0 : Int32))), (3, .int ((Int32.ofNat n0a)))]) [2, 3, 1, 0] rfl ?_
  refine iter_ind (fun vv => G l D cy base RJ7 cJ7_fill_53178 4 none (gRm 0) (gXm yJ7_fill_53178) (gZm D cy base 0 0 none gNN (gH cy base out)) 5 [(0, .ref (base + q0a)), (1, .int (a1)), (2, .int (vv.1)), (3, .int ((Int32.ofNat n0a)))] [] 0 0 gNN (gH cy base vv.2)) (fun xx => G l D cy base RJ7 cJ7_fill_53178 4 none (gRm 0) (gXm yJ7_fill_53178) (gZm D cy base 0 0 none gNN (gH cy base out)) 20 [] [] 0 0 gNN (gH cy base xx)) (fun vv rr hh hin hout => k_J7_fill_53178_b5  (q0a) n0a (a1) ((Int32.ofNat n0a)) hq0a vv rr hh hin (fun xx ee => hout xx ee)) gFU (((0 : Int32)), μ) z6 ez6 ?_
  show G l D cy base RJ7 cJ7_fill_53178 4 none (gRm 0) (gXm yJ7_fill_53178) (gZm D cy base 0 0 none gNN (gH cy base out)) 20 [] [] 0 0 gNN (gH cy base z6)
  obtain rfl := Option.some.inj hS
  exact g_vret rfl dJ7_fill_53178_20
def f_X1_begin (μ : Mem) (q0a : Nat) (q1a : Nat) : Option (Mem) :=
  (cpA μ (q1a + 4) 7 ((0 : Int32)) (q0a + 1) 7 ((0 : Int32)) ((7 : Int32))).bind fun m1 =>
  (f_J7_fill_53178 m1 ((q0a + 2)) 7 ((0 : Int32))).bind fun m3 =>
  (f_J7_fill_53178 m3 ((q0a + 3)) 49 ((0 : Int32))).bind fun m5 =>
  (stI m5 q0a 3 ((0 : Int32))).bind fun m6 =>
  (stI m6 q0a 4 ((0 : Int32))).bind fun m7 =>
  some m7
set_option maxRecDepth 100000 in
set_option maxHeartbeats 4000000 in
theorem k_X1_begin {l : Launch} {D : va_G} {cy : Nat → ClassId} {base : Nat} (μ : Mem) (q0a : Nat) (q1a : Nat) (hq0a : isMo q0a = true) (hq1a : isPl q1a = true) {out : Mem} (hS : f_X1_begin μ q0a q1a = some out) : gC l D cy base yX1_begin cX1_begin 2 none 1 [.ref (base + q0a), .ref (base + q1a)] μ none out := by
  refine gC_of (own := RX1) (lv0 := [(0, .ref (base + q0a)), (1, .ref (base + q1a))]) rfl (by decide) (Nat.le_of_ble_eq_true rfl) rfl ?_
  unfold f_X1_begin at hS
  refine g_aload_n (j := 1) (x := base + q1a) dX1_begin_0 rfl rfl ?_
  refine gs_getR (r := (q1a + 4)) lk_RX1_28 (tkPl_0 hq1a _) rfl dX1_begin_1 ?_
  refine g_iconst (v := 0) dX1_begin_4 (by decide) ?_
  refine g_aload_n (j := 0) (x := base + q0a) dX1_begin_5 rfl rfl ?_
  refine gs_getR (r := (q0a + 1)) lk_RX1_9 (tkMo_0 hq0a _) rfl dX1_begin_6 ?_
  refine g_iconst (v := 0) dX1_begin_9 (by decide) ?_
  refine g_bipush (v := 7) dX1_begin_10 (by decide) ?_
  obtain ⟨m1, em1, hS⟩ := ob hS
  refine gs_copy cp_RX1_33 (tkPl_4 hq1a _) (tkMo_1 hq0a _) (by decide) (Nat.le_of_ble_eq_true rfl) dX1_begin_12 em1 ?_
  refine g_aload_n (j := 0) (x := base + q0a) dX1_begin_15 rfl rfl ?_
  refine gs_getR (r := (q0a + 2)) lk_RX1_15 (tkMo_0 hq0a _) rfl dX1_begin_16 ?_
  refine g_iconst (v := 0) dX1_begin_19 (by decide) ?_
  obtain ⟨m3, em3, hS⟩ := ob hS
  refine gs_callSv (As := [.ref (base + (q0a + 2)), .int ((0 : Int32))]) (st := []) (k_J7_fill_53178 m1 ((q0a + 2)) 7 ((0 : Int32)) (tkMo_2 hq0a) em3) cl_RX1_39 sv_J7_fill_53178 ⟨by decide, by decide⟩ (Nat.le_of_ble_eq_true rfl) ⟨Nat.zero_le _, Nat.zero_le _⟩ rfl dX1_begin_20 rfl ?_
  refine g_aload_n (j := 0) (x := base + q0a) dX1_begin_23 rfl rfl ?_
  refine gs_getR (r := (q0a + 3)) lk_RX1_18 (tkMo_0 hq0a _) rfl dX1_begin_24 ?_
  refine g_iconst (v := 0) dX1_begin_27 (by decide) ?_
  obtain ⟨m5, em5, hS⟩ := ob hS
  refine gs_callSv (As := [.ref (base + (q0a + 3)), .int ((0 : Int32))]) (st := []) (k_J7_fill_53178 m3 ((q0a + 3)) 49 ((0 : Int32)) (tkMo_3 hq0a) em5) cl_RX1_39 sv_J7_fill_53178 ⟨by decide, by decide⟩ (Nat.le_of_ble_eq_true rfl) ⟨Nat.zero_le _, Nat.zero_le _⟩ rfl dX1_begin_28 rfl ?_
  refine g_aload_n (j := 0) (x := base + q0a) dX1_begin_31 rfl rfl ?_
  refine g_iconst (v := 0) dX1_begin_32 (by decide) ?_
  obtain ⟨m6, em6, hS⟩ := ob hS
  refine gs_putI lw_RX1_21 (tkMo_0 hq0a _) rfl rfl rfl dX1_begin_33 em6 ?_
  refine g_aload_n (j := 0) (x := base + q0a) dX1_begin_36 rfl rfl ?_
  refine g_iconst (v := 0) dX1_begin_37 (by decide) ?_
  obtain ⟨m7, em7, hS⟩ := ob hS
  refine gs_putI lw_RX1_25 (tkMo_0 hq0a _) rfl rfl rfl dX1_begin_38 em7 ?_
  obtain rfl := Option.some.inj hS
  exact g_vret rfl dX1_begin_41
def f_X0_begin (μ : Mem) (q0a : Nat) (q1a : Nat) : Option (Mem) :=
  (f_X1_begin μ ((q0a + 1)) (q1a)).bind fun m2 =>
  (stI m2 q0a 2 ((0 : Int32))).bind fun m3 =>
  (stI m3 q0a 3 ((0 : Int32))).bind fun m4 =>
  some m4
set_option maxRecDepth 100000 in
set_option maxHeartbeats 4000000 in
theorem k_X0_begin {l : Launch} {D : va_G} {cy : Nat → ClassId} {base : Nat} (μ : Mem) (q0a : Nat) (q1a : Nat) (hq0a : isLe q0a = true) (hq1a : isPl q1a = true) {out : Mem} (hS : f_X0_begin μ q0a q1a = some out) : gC l D cy base yX0_begin cX0_begin 2 none 2 [.ref (base + q0a), .ref (base + q1a)] μ none out := by
  refine gC_of (own := RX0) (lv0 := [(0, .ref (base + q0a)), (1, .ref (base + q1a))]) rfl (by decide) (Nat.le_of_ble_eq_true rfl) rfl ?_
  unfold f_X0_begin at hS
  refine g_aload_n (j := 0) (x := base + q0a) dX0_begin_0 rfl rfl ?_
  refine gs_getR (r := (q0a + 1)) lk_RX0_12 (tkLe_0 hq0a _) rfl dX0_begin_1 ?_
  refine g_aload_n (j := 1) (x := base + q1a) dX0_begin_4 rfl rfl ?_
  obtain ⟨m2, em2, hS⟩ := ob hS
  refine gs_callVv (As := [.ref (base + q1a)]) (st := []) (kr := (q0a + 1)) (k_X1_begin μ ((q0a + 1)) (q1a) (isMo_Le hq0a) hq1a em2) cl_RX0_29 sv_X1_begin ckk_X1_begin (tkMo_0 (isMo_Le hq0a) _) ⟨by decide, by decide⟩ (Nat.le_of_ble_eq_true rfl) ⟨Nat.zero_le _, Nat.zero_le _⟩ rfl dX0_begin_5 rfl ?_
  refine g_aload_n (j := 0) (x := base + q0a) dX0_begin_8 rfl rfl ?_
  refine g_iconst (v := 0) dX0_begin_9 (by decide) ?_
  obtain ⟨m3, em3, hS⟩ := ob hS
  refine gs_putI lw_RX0_22 (tkLe_0 hq0a _) rfl rfl rfl dX0_begin_10 em3 ?_
  refine g_aload_n (j := 0) (x := base + q0a) dX0_begin_13 rfl rfl ?_
  refine g_iconst (v := 0) dX0_begin_14 (by decide) ?_
  obtain ⟨m4, em4, hS⟩ := ob hS
  refine gs_putI lw_RX0_26 (tkLe_0 hq0a _) rfl rfl rfl dX0_begin_15 em4 ?_
  obtain rfl := Option.some.inj hS
  exact g_vret rfl dX0_begin_18
def f_X1_copyFrom (μ : Mem) (q0a : Nat) (q1a : Nat) : Option (Mem) :=
  (cpA μ (q1a + 1) 7 ((0 : Int32)) (q0a + 1) 7 ((0 : Int32)) ((7 : Int32))).bind fun m1 =>
  (cpA m1 (q1a + 2) 7 ((0 : Int32)) (q0a + 2) 7 ((0 : Int32)) ((7 : Int32))).bind fun m2 =>
  (cpA m2 (q1a + 3) 49 ((0 : Int32)) (q0a + 3) 49 ((0 : Int32)) ((49 : Int32))).bind fun m3 =>
  (stI m3 q0a 3 ((gi m3 q1a 3))).bind fun m4 =>
  (stI m4 q0a 4 ((gi m4 q1a 4))).bind fun m5 =>
  some m5
set_option maxRecDepth 100000 in
set_option maxHeartbeats 4000000 in
theorem k_X1_copyFrom {l : Launch} {D : va_G} {cy : Nat → ClassId} {base : Nat} (μ : Mem) (q0a : Nat) (q1a : Nat) (hq0a : isMo q0a = true) (hq1a : isMo q1a = true) {out : Mem} (hS : f_X1_copyFrom μ q0a q1a = some out) : gC l D cy base yX1_copyFrom cX1_copyFrom 2 none 1 [.ref (base + q0a), .ref (base + q1a)] μ none out := by
  refine gC_of (own := RX1) (lv0 := [(0, .ref (base + q0a)), (1, .ref (base + q1a))]) rfl (by decide) (Nat.le_of_ble_eq_true rfl) rfl ?_
  unfold f_X1_copyFrom at hS
  refine g_aload_n (j := 1) (x := base + q1a) dX1_copyFrom_0 rfl rfl ?_
  refine gs_getR (r := (q1a + 1)) lk_RX1_9 (tkMo_0 hq1a _) rfl dX1_copyFrom_1 ?_
  refine g_iconst (v := 0) dX1_copyFrom_4 (by decide) ?_
  refine g_aload_n (j := 0) (x := base + q0a) dX1_copyFrom_5 rfl rfl ?_
  refine gs_getR (r := (q0a + 1)) lk_RX1_9 (tkMo_0 hq0a _) rfl dX1_copyFrom_6 ?_
  refine g_iconst (v := 0) dX1_copyFrom_9 (by decide) ?_
  refine g_bipush (v := 7) dX1_copyFrom_10 (by decide) ?_
  obtain ⟨m1, em1, hS⟩ := ob hS
  refine gs_copy cp_RX1_33 (tkMo_1 hq1a _) (tkMo_1 hq0a _) (by decide) (Nat.le_of_ble_eq_true rfl) dX1_copyFrom_12 em1 ?_
  refine g_aload_n (j := 1) (x := base + q1a) dX1_copyFrom_15 rfl rfl ?_
  refine gs_getR (r := (q1a + 2)) lk_RX1_15 (tkMo_0 hq1a _) rfl dX1_copyFrom_16 ?_
  refine g_iconst (v := 0) dX1_copyFrom_19 (by decide) ?_
  refine g_aload_n (j := 0) (x := base + q0a) dX1_copyFrom_20 rfl rfl ?_
  refine gs_getR (r := (q0a + 2)) lk_RX1_15 (tkMo_0 hq0a _) rfl dX1_copyFrom_21 ?_
  refine g_iconst (v := 0) dX1_copyFrom_24 (by decide) ?_
  refine g_bipush (v := 7) dX1_copyFrom_25 (by decide) ?_
  obtain ⟨m2, em2, hS⟩ := ob hS
  refine gs_copy cp_RX1_33 (tkMo_2 hq1a _) (tkMo_2 hq0a _) (by decide) (Nat.le_of_ble_eq_true rfl) dX1_copyFrom_27 em2 ?_
  refine g_aload_n (j := 1) (x := base + q1a) dX1_copyFrom_30 rfl rfl ?_
  refine gs_getR (r := (q1a + 3)) lk_RX1_18 (tkMo_0 hq1a _) rfl dX1_copyFrom_31 ?_
  refine g_iconst (v := 0) dX1_copyFrom_34 (by decide) ?_
  refine g_aload_n (j := 0) (x := base + q0a) dX1_copyFrom_35 rfl rfl ?_
  refine gs_getR (r := (q0a + 3)) lk_RX1_18 (tkMo_0 hq0a _) rfl dX1_copyFrom_36 ?_
  refine g_iconst (v := 0) dX1_copyFrom_39 (by decide) ?_
  refine g_bipush (v := 49) dX1_copyFrom_40 (by decide) ?_
  obtain ⟨m3, em3, hS⟩ := ob hS
  refine gs_copy cp_RX1_33 (tkMo_3 hq1a _) (tkMo_3 hq0a _) (by decide) (Nat.le_of_ble_eq_true rfl) dX1_copyFrom_42 em3 ?_
  refine g_aload_n (j := 0) (x := base + q0a) dX1_copyFrom_45 rfl rfl ?_
  refine g_aload_n (j := 1) (x := base + q1a) dX1_copyFrom_46 rfl rfl ?_
  refine gs_getI lk_RX1_21 (tkMo_0 hq1a _) rfl dX1_copyFrom_47 ?_
  obtain ⟨m4, em4, hS⟩ := ob hS
  refine gs_putI lw_RX1_21 (tkMo_0 hq0a _) rfl rfl rfl dX1_copyFrom_50 em4 ?_
  refine g_aload_n (j := 0) (x := base + q0a) dX1_copyFrom_53 rfl rfl ?_
  refine g_aload_n (j := 1) (x := base + q1a) dX1_copyFrom_54 rfl rfl ?_
  refine gs_getI lk_RX1_25 (tkMo_0 hq1a _) rfl dX1_copyFrom_55 ?_
  obtain ⟨m5, em5, hS⟩ := ob hS
  refine gs_putI lw_RX1_25 (tkMo_0 hq0a _) rfl rfl rfl dX1_copyFrom_58 em5 ?_
  obtain rfl := Option.some.inj hS
  exact g_vret rfl dX1_copyFrom_61
def f_X0_remember_j38 (m7 : Mem) (q4 : Nat) (q5 : Nat) (x6 : Int32) : Option (Mem) :=
  (stI m7 q5 3 (x6)).bind fun m8 =>
  (stI m8 q4 2 ((mnI ((10 : Int32)) (((gi m8 q4 2) + (1 : Int32)))))).bind fun m9 =>
  some m9
set_option maxRecDepth 100000 in
set_option maxHeartbeats 4000000 in
theorem k_X0_remember_j38 {l : Launch} {D : va_G} {cy : Nat → ClassId} {base : Nat} {X : gX} (m7 : Mem) (q4 : Nat) (q5 : Nat) (x6 : Int32) (hq4 : isLe q4 = true) (hq5 : isLe q5 = true) {out : Mem} (hS : f_X0_remember_j38 m7 q4 q5 x6 = some out)  : G l D cy base RX0 cX0_remember 1 none (gRm 2) X (gZm D cy base 0 0 none gNN (gH cy base out)) 38 [(0, .ref (base + q4))] [.int (x6), .ref (base + q5)] 0 0 gNN (gH cy base m7) := by
  unfold f_X0_remember_j38 at hS
  obtain ⟨m8, em8, hS⟩ := ob hS
  refine gs_putI lw_RX0_26 (tkLe_0 hq5 _) rfl rfl rfl dX0_remember_38 em8 ?_
  refine g_aload_n (j := 0) (x := base + q4) dX0_remember_41 rfl rfl ?_
  refine g_bipush (v := 10) dX0_remember_42 (by decide) ?_
  refine g_aload_n (j := 0) (x := base + q4) dX0_remember_44 rfl rfl ?_
  refine gs_getI lk_RX0_22 (tkLe_0 hq4 _) rfl dX0_remember_45 ?_
  refine g_iconst (v := 1) dX0_remember_48 (by decide) ?_
  refine g_iadd dX0_remember_49 ?_
  refine gs_mmin cl_RX0_37 sv_J9_min_7cf53 (by decide) (Nat.le_of_ble_eq_true rfl) (Nat.zero_le _) (Nat.zero_le _) dX0_remember_50 ?_
  obtain ⟨m9, em9, hS⟩ := ob hS
  refine gs_putI lw_RX0_22 (tkLe_0 hq4 _) rfl rfl rfl dX0_remember_53 em9 ?_
  obtain rfl := Option.some.inj hS
  exact g_vret rfl dX0_remember_56
def f_X0_remember (μ : Mem) (q0a : Nat) : Option (Mem) :=
  (rfA (q0a + 5) 10 4 ((gi μ q0a 3)) isMo).bind fun q1 =>
  (f_X1_copyFrom μ (q1) ((q0a + 1))).bind fun m3 =>
  if (10 : Int32) ≤ ((gi m3 q0a 3) + (1 : Int32)) then (
    f_X0_remember_j38 m3 (q0a) (q0a) ((0 : Int32))
  ) else (
    f_X0_remember_j38 m3 (q0a) (q0a) (((gi m3 q0a 3) + (1 : Int32)))
  )
set_option maxRecDepth 100000 in
set_option maxHeartbeats 4000000 in
theorem k_X0_remember {l : Launch} {D : va_G} {cy : Nat → ClassId} {base : Nat} (μ : Mem) (q0a : Nat) (hq0a : isLe q0a = true) {out : Mem} (hS : f_X0_remember μ q0a = some out) : gC l D cy base yX0_remember cX0_remember 1 none 2 [.ref (base + q0a)] μ none out := by
  refine gC_of (own := RX0) (lv0 := [(0, .ref (base + q0a))]) rfl (by decide) (Nat.le_of_ble_eq_true rfl) rfl ?_
  unfold f_X0_remember at hS
  refine g_aload_n (j := 0) (x := base + q0a) dX0_remember_0 rfl rfl ?_
  refine gs_getR (r := (q0a + 5)) lk_RX0_18 (tkLe_0 hq0a _) rfl dX0_remember_1 ?_
  refine g_aload_n (j := 0) (x := base + q0a) dX0_remember_4 rfl rfl ?_
  refine gs_getI lk_RX0_26 (tkLe_0 hq0a _) rfl dX0_remember_5 ?_
  obtain ⟨q1, eq1, hS⟩ := ob hS
  have hq1 := rfA_ok eq1
  refine gs_aald (t0 := 3) (sd := 3) (ty := .object "OwedFalls$Moment") (tkLe_5 hq0a _) rfl rfl dX0_remember_8 eq1 ?_
  refine g_aload_n (j := 0) (x := base + q0a) dX0_remember_9 rfl rfl ?_
  refine gs_getR (r := (q0a + 1)) lk_RX0_12 (tkLe_0 hq0a _) rfl dX0_remember_10 ?_
  obtain ⟨m3, em3, hS⟩ := ob hS
  refine gs_callVv (As := [.ref (base + (q0a + 1))]) (st := []) (kr := q1) (k_X1_copyFrom μ (q1) ((q0a + 1)) hq1 (isMo_Le hq0a) em3) cl_RX0_33 sv_X1_copyFrom ckk_X1_copyFrom (tkMo_0 hq1 _) ⟨by decide, by decide⟩ (Nat.le_of_ble_eq_true rfl) ⟨Nat.zero_le _, Nat.zero_le _⟩ rfl dX0_remember_13 rfl ?_
  refine g_aload_n (j := 0) (x := base + q0a) dX0_remember_16 rfl rfl ?_
  refine g_aload_n (j := 0) (x := base + q0a) dX0_remember_17 rfl rfl ?_
  refine gs_getI lk_RX0_26 (tkLe_0 hq0a _) rfl dX0_remember_18 ?_
  refine g_iconst (v := 1) dX0_remember_21 (by decide) ?_
  refine g_iadd dX0_remember_22 ?_
  refine g_bipush (v := 10) dX0_remember_23 (by decide) ?_
  refine g_icmp_ge 37 dX0_remember_25 (by decide) (fun hc => ?_) (fun hc => ?_)
  · replace hS := (if_pos hc).symm.trans hS
    refine g_iconst (v := 0) dX0_remember_37 (by decide) ?_
    exact k_X0_remember_j38 (m3) (q0a) (q0a) ((0 : Int32)) hq0a hq0a hS
  · replace hS := (if_neg hc).symm.trans hS
    refine g_aload_n (j := 0) (x := base + q0a) dX0_remember_28 rfl rfl ?_
    refine gs_getI lk_RX0_26 (tkLe_0 hq0a _) rfl dX0_remember_29 ?_
    refine g_iconst (v := 1) dX0_remember_32 (by decide) ?_
    refine g_iadd dX0_remember_33 ?_
    refine g_goto 38 dX0_remember_34 (by decide) ?_
    exact k_X0_remember_j38 (m3) (q0a) (q0a) (((gi m3 q0a 3) + (1 : Int32))) hq0a hq0a hS
def f_X0_takeBack_j28 (m4 : Mem) (q1 : Nat) (q2 : Nat) (x3 : Int32) : Option (Int32 × Mem) :=
  (stI m4 q2 3 (x3)).bind fun m5 =>
  (rfA (q1 + 5) 10 4 ((gi m5 q1 3)) isMo).bind fun q6 =>
  (f_X1_copyFrom m5 ((q1 + 1)) (q6)).bind fun m8 =>
  (stI m8 q1 2 (((gi m8 q1 2) - (1 : Int32)))).bind fun m9 =>
  some ((1 : Int32), m9)
set_option maxRecDepth 100000 in
set_option maxHeartbeats 4000000 in
theorem k_X0_takeBack_j28 {l : Launch} {D : va_G} {cy : Nat → ClassId} {base : Nat} {X : gX} (m4 : Mem) (q1 : Nat) (q2 : Nat) (x3 : Int32) (hq1 : isLe q1 = true) (hq2 : isLe q2 = true) {out : Int32 × Mem} (hS : f_X0_takeBack_j28 m4 q1 q2 x3 = some out)  : G l D cy base RX0 cX0_takeBack 1 (some .boolean) (gRm 2) X (gZm D cy base 0 0 (some (.int out.1)) gNN (gH cy base out.2)) 28 [(0, .ref (base + q1))] [.int (x3), .ref (base + q2)] 0 0 gNN (gH cy base m4) := by
  unfold f_X0_takeBack_j28 at hS
  obtain ⟨m5, em5, hS⟩ := ob hS
  refine gs_putI lw_RX0_26 (tkLe_0 hq2 _) rfl rfl rfl dX0_takeBack_28 em5 ?_
  refine g_aload_n (j := 0) (x := base + q1) dX0_takeBack_31 rfl rfl ?_
  refine gs_getR (r := (q1 + 1)) lk_RX0_12 (tkLe_0 hq1 _) rfl dX0_takeBack_32 ?_
  refine g_aload_n (j := 0) (x := base + q1) dX0_takeBack_35 rfl rfl ?_
  refine gs_getR (r := (q1 + 5)) lk_RX0_18 (tkLe_0 hq1 _) rfl dX0_takeBack_36 ?_
  refine g_aload_n (j := 0) (x := base + q1) dX0_takeBack_39 rfl rfl ?_
  refine gs_getI lk_RX0_26 (tkLe_0 hq1 _) rfl dX0_takeBack_40 ?_
  obtain ⟨q6, eq6, hS⟩ := ob hS
  have hq6 := rfA_ok eq6
  refine gs_aald (t0 := 3) (sd := 3) (ty := .object "OwedFalls$Moment") (tkLe_5 hq1 _) rfl rfl dX0_takeBack_43 eq6 ?_
  obtain ⟨m8, em8, hS⟩ := ob hS
  refine gs_callVv (As := [.ref (base + q6)]) (st := []) (kr := (q1 + 1)) (k_X1_copyFrom m5 ((q1 + 1)) (q6) (isMo_Le hq1) hq6 em8) cl_RX0_33 sv_X1_copyFrom ckk_X1_copyFrom (tkMo_0 (isMo_Le hq1) _) ⟨by decide, by decide⟩ (Nat.le_of_ble_eq_true rfl) ⟨Nat.zero_le _, Nat.zero_le _⟩ rfl dX0_takeBack_44 rfl ?_
  refine g_aload_n (j := 0) (x := base + q1) dX0_takeBack_47 rfl rfl ?_
  refine g_dup dX0_takeBack_48 rfl ?_
  refine gs_getI lk_RX0_22 (tkLe_0 hq1 _) rfl dX0_takeBack_49 ?_
  refine g_iconst (v := 1) dX0_takeBack_52 (by decide) ?_
  refine g_isub dX0_takeBack_53 ?_
  obtain ⟨m9, em9, hS⟩ := ob hS
  refine gs_putI lw_RX0_22 (tkLe_0 hq1 _) rfl rfl rfl dX0_takeBack_54 em9 ?_
  refine g_iconst (v := 1) dX0_takeBack_57 (by decide) ?_
  obtain rfl := Option.some.inj hS
  exact g_zret (v := (1 : Int32)) rfl rfl dX0_takeBack_58
def f_X0_takeBack (μ : Mem) (q0a : Nat) : Option (Int32 × Mem) :=
  if (gi μ q0a 2) = (0 : Int32) then (
    some ((0 : Int32), μ)
  ) else (
    if (gi μ q0a 3) ≤ (0 : Int32) then (
      f_X0_takeBack_j28 μ (q0a) (q0a) ((9 : Int32))
    ) else (
      f_X0_takeBack_j28 μ (q0a) (q0a) (((gi μ q0a 3) - (1 : Int32)))
    )
  )
set_option maxRecDepth 100000 in
set_option maxHeartbeats 4000000 in
theorem k_X0_takeBack {l : Launch} {D : va_G} {cy : Nat → ClassId} {base : Nat} (μ : Mem) (q0a : Nat) (hq0a : isLe q0a = true) {out : Int32 × Mem} (hS : f_X0_takeBack μ q0a = some out) : gC l D cy base yX0_takeBack cX0_takeBack 1 (some .boolean) 2 [.ref (base + q0a)] μ (some (.int out.1)) out.2 := by
  refine gC_of (own := RX0) (lv0 := [(0, .ref (base + q0a))]) rfl (by decide) (Nat.le_of_ble_eq_true rfl) rfl ?_
  unfold f_X0_takeBack at hS
  refine g_aload_n (j := 0) (x := base + q0a) dX0_takeBack_0 rfl rfl ?_
  refine gs_getI lk_RX0_22 (tkLe_0 hq0a _) rfl dX0_takeBack_1 ?_
  refine g_if_ne 9 dX0_takeBack_4 (by decide) (fun hc => ?_) (fun hc => ?_)
  · replace hS := (if_neg hc).symm.trans hS
    refine g_aload_n (j := 0) (x := base + q0a) dX0_takeBack_9 rfl rfl ?_
    refine g_aload_n (j := 0) (x := base + q0a) dX0_takeBack_10 rfl rfl ?_
    refine gs_getI lk_RX0_26 (tkLe_0 hq0a _) rfl dX0_takeBack_11 ?_
    refine g_if_le 26 dX0_takeBack_14 (by decide) (fun hc => ?_) (fun hc => ?_)
    · replace hS := (if_pos hc).symm.trans hS
      refine g_bipush (v := 9) dX0_takeBack_26 (by decide) ?_
      exact k_X0_takeBack_j28 (μ) (q0a) (q0a) ((9 : Int32)) hq0a hq0a hS
    · replace hS := (if_neg hc).symm.trans hS
      refine g_aload_n (j := 0) (x := base + q0a) dX0_takeBack_17 rfl rfl ?_
      refine gs_getI lk_RX0_26 (tkLe_0 hq0a _) rfl dX0_takeBack_18 ?_
      refine g_iconst (v := 1) dX0_takeBack_21 (by decide) ?_
      refine g_isub dX0_takeBack_22 ?_
      refine g_goto 28 dX0_takeBack_23 (by decide) ?_
      exact k_X0_takeBack_j28 (μ) (q0a) (q0a) (((gi μ q0a 3) - (1 : Int32))) hq0a hq0a hS
  · replace hS := (if_pos hc).symm.trans hS
    refine g_iconst (v := 0) dX0_takeBack_7 (by decide) ?_
    obtain rfl := Option.some.inj hS
    exact g_zret (v := (0 : Int32)) rfl rfl dX0_takeBack_8
def f_X0_copyFrom_b13 (q3 : Nat) (q4 : Nat) (v : Int32 × Mem) : Option ((Int32 × Mem) ⊕ ((Mem))) :=
  if (10 : Int32) ≤ v.1 then (
    some (.inr (v.2))
  ) else (
    (rfA (q3 + 5) 10 4 (v.1) isMo).bind fun q5 =>
    (rfA (q4 + 5) 10 4 (v.1) isMo).bind fun q6 =>
    (f_X1_copyFrom v.2 (q5) (q6)).bind fun m8 =>
    some (.inl (((v.1 + (1 : Int32))), (m8)))
  )
set_option maxRecDepth 100000 in
set_option maxHeartbeats 4000000 in
theorem k_X0_copyFrom_b13 {l : Launch} {D : va_G} {cy : Nat → ClassId} {base : Nat} {X : gX} {Z : gZ} (q3 : Nat) (q4 : Nat) (hq3 : isLe q3 = true) (hq4 : isLe q4 = true) (v : Int32 × Mem) (r : (Int32 × Mem) ⊕ ((Mem))) (hS : f_X0_copyFrom_b13 q3 q4 v = some r) (hin : ∀ v2, r = .inl v2 → G l D cy base RX0 cX0_copyFrom 3 none (gRm 2) X Z 13 [(0, .ref (base + q3)), (1, .ref (base + q4)), (2, .int (v2.1))] [] 0 0 gNN (gH cy base v2.2)) (hout0 : ∀ x, r = .inr x → G l D cy base RX0 cX0_copyFrom 3 none (gRm 2) X Z 40 [(0, .ref (base + q3)), (1, .ref (base + q4))] [] 0 0 gNN (gH cy base x)) : G l D cy base RX0 cX0_copyFrom 3 none (gRm 2) X Z 13 [(0, .ref (base + q3)), (1, .ref (base + q4)), (2, .int (v.1))] [] 0 0 gNN (gH cy base v.2) := by
  unfold f_X0_copyFrom_b13 at hS
  refine g_iload_n (j := 2) (x := v.1) dX0_copyFrom_13 rfl rfl ?_
  refine g_bipush (v := 10) dX0_copyFrom_14 (by decide) ?_
  refine g_icmp_ge 40 dX0_copyFrom_16 (by decide) (fun hc => ?_) (fun hc => ?_)
  · replace hS := (if_pos hc).symm.trans hS
    refine g_sub (lvx := [(0, .ref (base + q3)), (1, .ref (base + q4))]) [0, 1] rfl ?_
    obtain rfl := Option.some.inj hS
    exact hout0 ((v.2)) rfl
  · replace hS := (if_neg hc).symm.trans hS
    refine g_aload_n (j := 0) (x := base + q3) dX0_copyFrom_19 rfl rfl ?_
    refine gs_getR (r := (q3 + 5)) lk_RX0_18 (tkLe_0 hq3 _) rfl dX0_copyFrom_20 ?_
    refine g_iload_n (j := 2) (x := v.1) dX0_copyFrom_23 rfl rfl ?_
    obtain ⟨q5, eq5, hS⟩ := ob hS
    have hq5 := rfA_ok eq5
    refine gs_aald (t0 := 3) (sd := 3) (ty := .object "OwedFalls$Moment") (tkLe_5 hq3 _) rfl rfl dX0_copyFrom_24 eq5 ?_
    refine g_aload_n (j := 1) (x := base + q4) dX0_copyFrom_25 rfl rfl ?_
    refine gs_getR (r := (q4 + 5)) lk_RX0_18 (tkLe_0 hq4 _) rfl dX0_copyFrom_26 ?_
    refine g_iload_n (j := 2) (x := v.1) dX0_copyFrom_29 rfl rfl ?_
    obtain ⟨q6, eq6, hS⟩ := ob hS
    have hq6 := rfA_ok eq6
    refine gs_aald (t0 := 3) (sd := 3) (ty := .object "OwedFalls$Moment") (tkLe_5 hq4 _) rfl rfl dX0_copyFrom_30 eq6 ?_
    obtain ⟨m8, em8, hS⟩ := ob hS
    refine gs_callVv (As := [.ref (base + q6)]) (st := []) (kr := q5) (k_X1_copyFrom v.2 (q5) (q6) hq5 hq6 em8) cl_RX0_33 sv_X1_copyFrom ckk_X1_copyFrom (tkMo_0 hq5 _) ⟨by decide, by decide⟩ (Nat.le_of_ble_eq_true rfl) ⟨Nat.zero_le _, Nat.zero_le _⟩ rfl dX0_copyFrom_31 rfl ?_
    refine g_iinc (j := 2) (x := v.1) (v := (v.1 + (1 : Int32))) (lvx := [(2, .int ((v.1 + (1 : Int32)))), (0, .ref (base + q3)), (1, .ref (base + q4))]) dX0_copyFrom_34 rfl rfl (by decide) rfl ?_
    refine g_goto 13 dX0_copyFrom_37 (by decide) ?_
    refine g_sub (lvx := [(0, .ref (base + q3)), (1, .ref (base + q4)), (2, .int ((v.1 + (1 : Int32))))]) [1, 2, 0] rfl ?_
    obtain rfl := Option.some.inj hS
    exact hin ((((v.1 + (1 : Int32))), (m8))) rfl
def f_X0_copyFrom (μ : Mem) (q0a : Nat) (q1a : Nat) : Option (Mem) :=
  (f_X1_copyFrom μ ((q0a + 1)) ((q1a + 1))).bind fun m2 =>
  (iter gFU (f_X0_copyFrom_b13  (q0a) (q1a)) (((0 : Int32)), m2)).bind fun z9 =>
  (stI z9 q0a 2 ((gi z9 q1a 2))).bind fun m10 =>
  (stI m10 q0a 3 ((gi m10 q1a 3))).bind fun m11 =>
  some m11
set_option maxRecDepth 100000 in
set_option maxHeartbeats 4000000 in
theorem k_X0_copyFrom {l : Launch} {D : va_G} {cy : Nat → ClassId} {base : Nat} (μ : Mem) (q0a : Nat) (q1a : Nat) (hq0a : isLe q0a = true) (hq1a : isLe q1a = true) {out : Mem} (hS : f_X0_copyFrom μ q0a q1a = some out) : gC l D cy base yX0_copyFrom cX0_copyFrom 3 none 2 [.ref (base + q0a), .ref (base + q1a)] μ none out := by
  refine gC_of (own := RX0) (lv0 := [(0, .ref (base + q0a)), (1, .ref (base + q1a))]) rfl (by decide) (Nat.le_of_ble_eq_true rfl) rfl ?_
  unfold f_X0_copyFrom at hS
  refine g_aload_n (j := 0) (x := base + q0a) dX0_copyFrom_0 rfl rfl ?_
  refine gs_getR (r := (q0a + 1)) lk_RX0_12 (tkLe_0 hq0a _) rfl dX0_copyFrom_1 ?_
  refine g_aload_n (j := 1) (x := base + q1a) dX0_copyFrom_4 rfl rfl ?_
  refine gs_getR (r := (q1a + 1)) lk_RX0_12 (tkLe_0 hq1a _) rfl dX0_copyFrom_5 ?_
  obtain ⟨m2, em2, hS⟩ := ob hS
  refine gs_callVv (As := [.ref (base + (q1a + 1))]) (st := []) (kr := (q0a + 1)) (k_X1_copyFrom μ ((q0a + 1)) ((q1a + 1)) (isMo_Le hq0a) (isMo_Le hq1a) em2) cl_RX0_33 sv_X1_copyFrom ckk_X1_copyFrom (tkMo_0 (isMo_Le hq0a) _) ⟨by decide, by decide⟩ (Nat.le_of_ble_eq_true rfl) ⟨Nat.zero_le _, Nat.zero_le _⟩ rfl dX0_copyFrom_8 rfl ?_
  refine g_iconst (v := 0) dX0_copyFrom_11 (by decide) ?_
  refine g_istore_n (lvx := [(2, .int ((0 : Int32))), (0, .ref (base + q0a)), (1, .ref (base + q1a))]) dX0_copyFrom_12 rfl (by decide) rfl ?_
  obtain ⟨z9, ez9, hS⟩ := ob hS
  refine g_sub (lvx := [(0, .ref (base + q0a)), (1, .ref (base + q1a)), (2, .int ((0 : Int32)))]) [1, 2, 0] rfl ?_
  refine iter_ind (fun vv => G l D cy base RX0 cX0_copyFrom 3 none (gRm 2) (gXm yX0_copyFrom) (gZm D cy base 0 0 none gNN (gH cy base out)) 13 [(0, .ref (base + q0a)), (1, .ref (base + q1a)), (2, .int (vv.1))] [] 0 0 gNN (gH cy base vv.2)) (fun xx => G l D cy base RX0 cX0_copyFrom 3 none (gRm 2) (gXm yX0_copyFrom) (gZm D cy base 0 0 none gNN (gH cy base out)) 40 [(0, .ref (base + q0a)), (1, .ref (base + q1a))] [] 0 0 gNN (gH cy base xx)) (fun vv rr hh hin hout => k_X0_copyFrom_b13  (q0a) (q1a) hq0a hq1a vv rr hh hin (fun xx ee => hout xx ee)) gFU (((0 : Int32)), m2) z9 ez9 ?_
  show G l D cy base RX0 cX0_copyFrom 3 none (gRm 2) (gXm yX0_copyFrom) (gZm D cy base 0 0 none gNN (gH cy base out)) 40 [(0, .ref (base + q0a)), (1, .ref (base + q1a))] [] 0 0 gNN (gH cy base z9)
  refine g_aload_n (j := 0) (x := base + q0a) dX0_copyFrom_40 rfl rfl ?_
  refine g_aload_n (j := 1) (x := base + q1a) dX0_copyFrom_41 rfl rfl ?_
  refine gs_getI lk_RX0_22 (tkLe_0 hq1a _) rfl dX0_copyFrom_42 ?_
  obtain ⟨m10, em10, hS⟩ := ob hS
  refine gs_putI lw_RX0_22 (tkLe_0 hq0a _) rfl rfl rfl dX0_copyFrom_45 em10 ?_
  refine g_aload_n (j := 0) (x := base + q0a) dX0_copyFrom_48 rfl rfl ?_
  refine g_aload_n (j := 1) (x := base + q1a) dX0_copyFrom_49 rfl rfl ?_
  refine gs_getI lk_RX0_26 (tkLe_0 hq1a _) rfl dX0_copyFrom_50 ?_
  obtain ⟨m11, em11, hS⟩ := ob hS
  refine gs_putI lw_RX0_26 (tkLe_0 hq0a _) rfl rfl rfl dX0_copyFrom_53 em11 ?_
  obtain rfl := Option.some.inj hS
  exact g_vret rfl dX0_copyFrom_56
def f_X1_lessen (μ : Mem) (q0a : Nat) (a1 : Int32) (a2 : Int32) : Option (Int32 × Mem) :=
  (ldA μ (q0a + 1) 7 (a1)).bind fun y1 =>
  (stA μ (q0a + 1) 7 (a1) ((mxI ((0 : Int32)) ((y1 - a2))))).bind fun m2 =>
  (ldA m2 (q0a + 1) 7 (a1)).bind fun y3 =>
  some (y3, m2)
set_option maxRecDepth 100000 in
set_option maxHeartbeats 4000000 in
theorem k_X1_lessen {l : Launch} {D : va_G} {cy : Nat → ClassId} {base : Nat} (μ : Mem) (q0a : Nat) (a1 : Int32) (a2 : Int32) (hq0a : isMo q0a = true) {out : Int32 × Mem} (hS : f_X1_lessen μ q0a a1 a2 = some out) : gC l D cy base yX1_lessen cX1_lessen 3 (some .int) 1 [.ref (base + q0a), .int (a1), .int (a2)] μ (some (.int out.1)) out.2 := by
  refine gC_of (own := RX1) (lv0 := [(0, .ref (base + q0a)), (1, .int (a1)), (2, .int (a2))]) rfl (by decide) (Nat.le_of_ble_eq_true rfl) rfl ?_
  unfold f_X1_lessen at hS
  refine g_aload_n (j := 0) (x := base + q0a) dX1_lessen_0 rfl rfl ?_
  refine gs_getR (r := (q0a + 1)) lk_RX1_9 (tkMo_0 hq0a _) rfl dX1_lessen_1 ?_
  refine g_iload_n (j := 1) (x := a1) dX1_lessen_4 rfl rfl ?_
  refine g_iconst (v := 0) dX1_lessen_5 (by decide) ?_
  refine g_aload_n (j := 0) (x := base + q0a) dX1_lessen_6 rfl rfl ?_
  refine gs_getR (r := (q0a + 1)) lk_RX1_9 (tkMo_0 hq0a _) rfl dX1_lessen_7 ?_
  refine g_iload_n (j := 1) (x := a1) dX1_lessen_10 rfl rfl ?_
  obtain ⟨y1, ey1, hS⟩ := ob hS
  refine gs_iald (tkMo_1 hq0a _) dX1_lessen_11 ey1 ?_
  refine g_iload_n (j := 2) (x := a2) dX1_lessen_12 rfl rfl ?_
  refine g_isub dX1_lessen_13 ?_
  refine gs_mmax cl_RX1_45 sv_J9_max_7cf53 (by decide) (Nat.le_of_ble_eq_true rfl) (Nat.zero_le _) (Nat.zero_le _) dX1_lessen_14 ?_
  obtain ⟨m2, em2, hS⟩ := ob hS
  refine gs_iast (tkMo_1 hq0a _) dX1_lessen_17 em2 ?_
  refine g_aload_n (j := 0) (x := base + q0a) dX1_lessen_18 rfl rfl ?_
  refine gs_getR (r := (q0a + 1)) lk_RX1_9 (tkMo_0 hq0a _) rfl dX1_lessen_19 ?_
  refine g_iload_n (j := 1) (x := a1) dX1_lessen_22 rfl rfl ?_
  obtain ⟨y3, ey3, hS⟩ := ob hS
  refine gs_iald (tkMo_1 hq0a _) dX1_lessen_23 ey3 ?_
  obtain rfl := Option.some.inj hS
  exact g_iret rfl dX1_lessen_24
def f_X1_addHurt (μ : Mem) (q0a : Nat) (a1 : Int32) : Option (Mem) :=
  (stI μ q0a 3 ((mnI ((999999 : Int32)) (((gi μ q0a 3) + a1))))).bind fun m1 =>
  some m1
set_option maxRecDepth 100000 in
set_option maxHeartbeats 4000000 in
theorem k_X1_addHurt {l : Launch} {D : va_G} {cy : Nat → ClassId} {base : Nat} (μ : Mem) (q0a : Nat) (a1 : Int32) (hq0a : isMo q0a = true) {out : Mem} (hS : f_X1_addHurt μ q0a a1 = some out) : gC l D cy base yX1_addHurt cX1_addHurt 2 none 1 [.ref (base + q0a), .int (a1)] μ none out := by
  refine gC_of (own := RX1) (lv0 := [(0, .ref (base + q0a)), (1, .int (a1))]) rfl (by decide) (Nat.le_of_ble_eq_true rfl) rfl ?_
  unfold f_X1_addHurt at hS
  refine g_aload_n (j := 0) (x := base + q0a) dX1_addHurt_0 rfl rfl ?_
  refine g_ldc cs_RX1_51 dX1_addHurt_1 ?_
  refine g_aload_n (j := 0) (x := base + q0a) dX1_addHurt_3 rfl rfl ?_
  refine gs_getI lk_RX1_21 (tkMo_0 hq0a _) rfl dX1_addHurt_4 ?_
  refine g_iload_n (j := 1) (x := a1) dX1_addHurt_7 rfl rfl ?_
  refine g_iadd dX1_addHurt_8 ?_
  refine gs_mmin cl_RX1_52 sv_J9_min_7cf53 (by decide) (Nat.le_of_ble_eq_true rfl) (Nat.zero_le _) (Nat.zero_le _) dX1_addHurt_9 ?_
  obtain ⟨m1, em1, hS⟩ := ob hS
  refine gs_putI lw_RX1_21 (tkMo_0 hq0a _) rfl rfl rfl dX1_addHurt_12 em1 ?_
  obtain rfl := Option.some.inj hS
  exact g_vret rfl dX1_addHurt_15
def f_X1_endYear_b2 (q1 : Nat) (q2 : Nat) (v : Int32 × Mem) : Option ((Int32 × Mem) ⊕ ((Mem))) :=
  if (gi v.2 q2 7) ≤ v.1 then (
    some (.inr (v.2))
  ) else (
    (ldA v.2 (q1 + 1) 7 (v.1)).bind fun y3 =>
    (ldA v.2 (q2 + 4) 7 (v.1)).bind fun y4 =>
    (stA v.2 (q1 + 1) 7 (v.1) ((mnI ((999 : Int32)) ((y3 + y4))))).bind fun m5 =>
    some (.inl (((v.1 + (1 : Int32))), (m5)))
  )
set_option maxRecDepth 100000 in
set_option maxHeartbeats 4000000 in
theorem k_X1_endYear_b2 {l : Launch} {D : va_G} {cy : Nat → ClassId} {base : Nat} {X : gX} {Z : gZ} (q1 : Nat) (q2 : Nat) (hq1 : isMo q1 = true) (hq2 : isPl q2 = true) (v : Int32 × Mem) (r : (Int32 × Mem) ⊕ ((Mem))) (hS : f_X1_endYear_b2 q1 q2 v = some r) (hin : ∀ v2, r = .inl v2 → G l D cy base RX1 cX1_endYear 3 none (gRm 1) X Z 2 [(0, .ref (base + q1)), (1, .ref (base + q2)), (2, .int (v2.1))] [] 0 0 gNN (gH cy base v2.2)) (hout0 : ∀ x, r = .inr x → G l D cy base RX1 cX1_endYear 3 none (gRm 1) X Z 41 [(0, .ref (base + q1))] [] 0 0 gNN (gH cy base x)) : G l D cy base RX1 cX1_endYear 3 none (gRm 1) X Z 2 [(0, .ref (base + q1)), (1, .ref (base + q2)), (2, .int (v.1))] [] 0 0 gNN (gH cy base v.2) := by
  unfold f_X1_endYear_b2 at hS
  refine g_iload_n (j := 2) (x := v.1) dX1_endYear_2 rfl rfl ?_
  refine g_aload_n (j := 1) (x := base + q2) dX1_endYear_3 rfl rfl ?_
  refine gs_getI lk_RX1_55 (tkPl_0 hq2 _) rfl dX1_endYear_4 ?_
  refine g_icmp_ge 41 dX1_endYear_7 (by decide) (fun hc => ?_) (fun hc => ?_)
  · replace hS := (if_pos hc).symm.trans hS
    refine g_sub (lvx := [(0, .ref (base + q1))]) [0] rfl ?_
    obtain rfl := Option.some.inj hS
    exact hout0 ((v.2)) rfl
  · replace hS := (if_neg hc).symm.trans hS
    refine g_aload_n (j := 0) (x := base + q1) dX1_endYear_10 rfl rfl ?_
    refine gs_getR (r := (q1 + 1)) lk_RX1_9 (tkMo_0 hq1 _) rfl dX1_endYear_11 ?_
    refine g_iload_n (j := 2) (x := v.1) dX1_endYear_14 rfl rfl ?_
    refine g_sipush (v := 999) dX1_endYear_15 (by decide) ?_
    refine g_aload_n (j := 0) (x := base + q1) dX1_endYear_18 rfl rfl ?_
    refine gs_getR (r := (q1 + 1)) lk_RX1_9 (tkMo_0 hq1 _) rfl dX1_endYear_19 ?_
    refine g_iload_n (j := 2) (x := v.1) dX1_endYear_22 rfl rfl ?_
    obtain ⟨y3, ey3, hS⟩ := ob hS
    refine gs_iald (tkMo_1 hq1 _) dX1_endYear_23 ey3 ?_
    refine g_aload_n (j := 1) (x := base + q2) dX1_endYear_24 rfl rfl ?_
    refine gs_getR (r := (q2 + 4)) lk_RX1_28 (tkPl_0 hq2 _) rfl dX1_endYear_25 ?_
    refine g_iload_n (j := 2) (x := v.1) dX1_endYear_28 rfl rfl ?_
    obtain ⟨y4, ey4, hS⟩ := ob hS
    refine gs_iald (tkPl_4 hq2 _) dX1_endYear_29 ey4 ?_
    refine g_iadd dX1_endYear_30 ?_
    refine gs_mmin cl_RX1_52 sv_J9_min_7cf53 (by decide) (Nat.le_of_ble_eq_true rfl) (Nat.zero_le _) (Nat.zero_le _) dX1_endYear_31 ?_
    obtain ⟨m5, em5, hS⟩ := ob hS
    refine gs_iast (tkMo_1 hq1 _) dX1_endYear_34 em5 ?_
    refine g_iinc (j := 2) (x := v.1) (v := (v.1 + (1 : Int32))) (lvx := [(2, .int ((v.1 + (1 : Int32)))), (0, .ref (base + q1)), (1, .ref (base + q2))]) dX1_endYear_35 rfl rfl (by decide) rfl ?_
    refine g_goto 2 dX1_endYear_38 (by decide) ?_
    refine g_sub (lvx := [(0, .ref (base + q1)), (1, .ref (base + q2)), (2, .int ((v.1 + (1 : Int32))))]) [1, 2, 0] rfl ?_
    obtain rfl := Option.some.inj hS
    exact hin ((((v.1 + (1 : Int32))), (m5))) rfl
def f_X1_endYear (μ : Mem) (q0a : Nat) (q1a : Nat) : Option (Mem) :=
  (iter gFU (f_X1_endYear_b2  (q0a) (q1a)) (((0 : Int32)), μ)).bind fun z6 =>
  (f_J7_fill_53178 z6 ((q0a + 2)) 7 ((0 : Int32))).bind fun m8 =>
  (f_J7_fill_53178 m8 ((q0a + 3)) 49 ((0 : Int32))).bind fun m10 =>
  (stI m10 q0a 4 (((gi m10 q0a 4) + (1 : Int32)))).bind fun m11 =>
  some m11
set_option maxRecDepth 100000 in
set_option maxHeartbeats 4000000 in
theorem k_X1_endYear {l : Launch} {D : va_G} {cy : Nat → ClassId} {base : Nat} (μ : Mem) (q0a : Nat) (q1a : Nat) (hq0a : isMo q0a = true) (hq1a : isPl q1a = true) {out : Mem} (hS : f_X1_endYear μ q0a q1a = some out) : gC l D cy base yX1_endYear cX1_endYear 3 none 1 [.ref (base + q0a), .ref (base + q1a)] μ none out := by
  refine gC_of (own := RX1) (lv0 := [(0, .ref (base + q0a)), (1, .ref (base + q1a))]) rfl (by decide) (Nat.le_of_ble_eq_true rfl) rfl ?_
  unfold f_X1_endYear at hS
  refine g_iconst (v := 0) dX1_endYear_0 (by decide) ?_
  refine g_istore_n (lvx := [(2, .int ((0 : Int32))), (0, .ref (base + q0a)), (1, .ref (base + q1a))]) dX1_endYear_1 rfl (by decide) rfl ?_
  obtain ⟨z6, ez6, hS⟩ := ob hS
  refine g_sub (lvx := [(0, .ref (base + q0a)), (1, .ref (base + q1a)), (2, .int ((0 : Int32)))]) [1, 2, 0] rfl ?_
  refine iter_ind (fun vv => G l D cy base RX1 cX1_endYear 3 none (gRm 1) (gXm yX1_endYear) (gZm D cy base 0 0 none gNN (gH cy base out)) 2 [(0, .ref (base + q0a)), (1, .ref (base + q1a)), (2, .int (vv.1))] [] 0 0 gNN (gH cy base vv.2)) (fun xx => G l D cy base RX1 cX1_endYear 3 none (gRm 1) (gXm yX1_endYear) (gZm D cy base 0 0 none gNN (gH cy base out)) 41 [(0, .ref (base + q0a))] [] 0 0 gNN (gH cy base xx)) (fun vv rr hh hin hout => k_X1_endYear_b2  (q0a) (q1a) hq0a hq1a vv rr hh hin (fun xx ee => hout xx ee)) gFU (((0 : Int32)), μ) z6 ez6 ?_
  show G l D cy base RX1 cX1_endYear 3 none (gRm 1) (gXm yX1_endYear) (gZm D cy base 0 0 none gNN (gH cy base out)) 41 [(0, .ref (base + q0a))] [] 0 0 gNN (gH cy base z6)
  refine g_aload_n (j := 0) (x := base + q0a) dX1_endYear_41 rfl rfl ?_
  refine gs_getR (r := (q0a + 2)) lk_RX1_15 (tkMo_0 hq0a _) rfl dX1_endYear_42 ?_
  refine g_iconst (v := 0) dX1_endYear_45 (by decide) ?_
  obtain ⟨m8, em8, hS⟩ := ob hS
  refine gs_callSv (As := [.ref (base + (q0a + 2)), .int ((0 : Int32))]) (st := []) (k_J7_fill_53178 z6 ((q0a + 2)) 7 ((0 : Int32)) (tkMo_2 hq0a) em8) cl_RX1_39 sv_J7_fill_53178 ⟨by decide, by decide⟩ (Nat.le_of_ble_eq_true rfl) ⟨Nat.zero_le _, Nat.zero_le _⟩ rfl dX1_endYear_46 rfl ?_
  refine g_aload_n (j := 0) (x := base + q0a) dX1_endYear_49 rfl rfl ?_
  refine gs_getR (r := (q0a + 3)) lk_RX1_18 (tkMo_0 hq0a _) rfl dX1_endYear_50 ?_
  refine g_iconst (v := 0) dX1_endYear_53 (by decide) ?_
  obtain ⟨m10, em10, hS⟩ := ob hS
  refine gs_callSv (As := [.ref (base + (q0a + 3)), .int ((0 : Int32))]) (st := []) (k_J7_fill_53178 m8 ((q0a + 3)) 49 ((0 : Int32)) (tkMo_3 hq0a) em10) cl_RX1_39 sv_J7_fill_53178 ⟨by decide, by decide⟩ (Nat.le_of_ble_eq_true rfl) ⟨Nat.zero_le _, Nat.zero_le _⟩ rfl dX1_endYear_54 rfl ?_
  refine g_aload_n (j := 0) (x := base + q0a) dX1_endYear_57 rfl rfl ?_
  refine g_dup dX1_endYear_58 rfl ?_
  refine gs_getI lk_RX1_25 (tkMo_0 hq0a _) rfl dX1_endYear_59 ?_
  refine g_iconst (v := 1) dX1_endYear_62 (by decide) ?_
  refine g_iadd dX1_endYear_63 ?_
  obtain ⟨m11, em11, hS⟩ := ob hS
  refine gs_putI lw_RX1_25 (tkMo_0 hq0a _) rfl rfl rfl dX1_endYear_64 em11 ?_
  obtain rfl := Option.some.inj hS
  exact g_vret rfl dX1_endYear_67
def f_X1_dueOfAll_b4 (m3 : Mem) (q1 : Nat) (x2 : Int32) (v : Int32 × Int32) : Option ((Int32 × Int32) ⊕ ((Int32))) :=
  if x2 ≤ v.2 then (
    some (.inr (v.1))
  ) else (
    (ldA m3 (q1 + 1) 7 (v.2)).bind fun y4 =>
    some (.inl (((v.1 + y4)), ((v.2 + (1 : Int32)))))
  )
set_option maxRecDepth 100000 in
set_option maxHeartbeats 4000000 in
theorem k_X1_dueOfAll_b4 {l : Launch} {D : va_G} {cy : Nat → ClassId} {base : Nat} {X : gX} {Z : gZ} (m3 : Mem) (q1 : Nat) (x2 : Int32) (hq1 : isMo q1 = true) (v : Int32 × Int32) (r : (Int32 × Int32) ⊕ ((Int32))) (hS : f_X1_dueOfAll_b4 m3 q1 x2 v = some r) (hin : ∀ v2, r = .inl v2 → G l D cy base RX1 cX1_dueOfAll 4 (some .int) (gRm 0) X Z 4 [(0, .ref (base + q1)), (1, .int (x2)), (2, .int (v2.1)), (3, .int (v2.2))] [] 0 0 gNN (gH cy base m3)) (hout0 : ∀ x, r = .inr x → G l D cy base RX1 cX1_dueOfAll 4 (some .int) (gRm 0) X Z 24 [(2, .int (x))] [] 0 0 gNN (gH cy base m3)) : G l D cy base RX1 cX1_dueOfAll 4 (some .int) (gRm 0) X Z 4 [(0, .ref (base + q1)), (1, .int (x2)), (2, .int (v.1)), (3, .int (v.2))] [] 0 0 gNN (gH cy base m3) := by
  unfold f_X1_dueOfAll_b4 at hS
  refine g_iload_n (j := 3) (x := v.2) dX1_dueOfAll_4 rfl rfl ?_
  refine g_iload_n (j := 1) (x := x2) dX1_dueOfAll_5 rfl rfl ?_
  refine g_icmp_ge 24 dX1_dueOfAll_6 (by decide) (fun hc => ?_) (fun hc => ?_)
  · replace hS := (if_pos hc).symm.trans hS
    refine g_sub (lvx := [(2, .int (v.1))]) [2] rfl ?_
    obtain rfl := Option.some.inj hS
    exact hout0 ((v.1)) rfl
  · replace hS := (if_neg hc).symm.trans hS
    refine g_iload_n (j := 2) (x := v.1) dX1_dueOfAll_9 rfl rfl ?_
    refine g_aload_n (j := 0) (x := base + q1) dX1_dueOfAll_10 rfl rfl ?_
    refine gs_getR (r := (q1 + 1)) lk_RX1_9 (tkMo_0 hq1 _) rfl dX1_dueOfAll_11 ?_
    refine g_iload_n (j := 3) (x := v.2) dX1_dueOfAll_14 rfl rfl ?_
    obtain ⟨y4, ey4, hS⟩ := ob hS
    refine gs_iald (tkMo_1 hq1 _) dX1_dueOfAll_15 ey4 ?_
    refine g_iadd dX1_dueOfAll_16 ?_
    refine g_istore_n (lvx := [(2, .int ((v.1 + y4))), (0, .ref (base + q1)), (1, .int (x2)), (3, .int (v.2))]) dX1_dueOfAll_17 rfl (by decide) rfl ?_
    refine g_iinc (j := 3) (x := v.2) (v := (v.2 + (1 : Int32))) (lvx := [(3, .int ((v.2 + (1 : Int32)))), (2, .int ((v.1 + y4))), (0, .ref (base + q1)), (1, .int (x2))]) dX1_dueOfAll_18 rfl rfl (by decide) rfl ?_
    refine g_goto 4 dX1_dueOfAll_21 (by decide) ?_
    refine g_sub (lvx := [(0, .ref (base + q1)), (1, .int (x2)), (2, .int ((v.1 + y4))), (3, .int ((v.2 + (1 : Int32))))]) [2, 3, 1, 0] rfl ?_
    obtain rfl := Option.some.inj hS
    exact hin ((((v.1 + y4)), ((v.2 + (1 : Int32))))) rfl
def f_X1_dueOfAll (μ : Mem) (q0a : Nat) (a1 : Int32) : Option (Int32) :=
  (iter gFU (f_X1_dueOfAll_b4 μ (q0a) (a1)) (((0 : Int32)), ((0 : Int32)))).bind fun z5 =>
  some (z5)
set_option maxRecDepth 100000 in
set_option maxHeartbeats 4000000 in
theorem k_X1_dueOfAll {l : Launch} {D : va_G} {cy : Nat → ClassId} {base : Nat} (μ : Mem) (q0a : Nat) (a1 : Int32) (hq0a : isMo q0a = true) {out : Int32} (hS : f_X1_dueOfAll μ q0a a1 = some out) : gC l D cy base yX1_dueOfAll cX1_dueOfAll 4 (some .int) 0 [.ref (base + q0a), .int (a1)] μ (some (.int out)) μ := by
  refine gC_of (own := RX1) (lv0 := [(0, .ref (base + q0a)), (1, .int (a1))]) rfl (by decide) (Nat.le_of_ble_eq_true rfl) rfl ?_
  unfold f_X1_dueOfAll at hS
  refine g_iconst (v := 0) dX1_dueOfAll_0 (by decide) ?_
  refine g_istore_n (lvx := [(2, .int ((0 : Int32))), (0, .ref (base + q0a)), (1, .int (a1))]) dX1_dueOfAll_1 rfl (by decide) rfl ?_
  refine g_iconst (v := 0) dX1_dueOfAll_2 (by decide) ?_
  refine g_istore_n (lvx := [(3, .int ((0 : Int32))), (2, .int ((0 : Int32))), (0, .ref (base + q0a)), (1, .int (a1))]) dX1_dueOfAll_3 rfl (by decide) rfl ?_
  obtain ⟨z5, ez5, hS⟩ := ob hS
  refine g_sub (lvx := [(0, .ref (base + q0a)), (1, .int (a1)), (2, .int ((0 : Int32))), (3, .int ((0 : Int32)))]) [2, 3, 1, 0] rfl ?_
  refine iter_ind (fun vv => G l D cy base RX1 cX1_dueOfAll 4 (some .int) (gRm 0) (gXm yX1_dueOfAll) (gZm D cy base 0 0 (some (.int out)) gNN (gH cy base μ)) 4 [(0, .ref (base + q0a)), (1, .int (a1)), (2, .int (vv.1)), (3, .int (vv.2))] [] 0 0 gNN (gH cy base μ)) (fun xx => G l D cy base RX1 cX1_dueOfAll 4 (some .int) (gRm 0) (gXm yX1_dueOfAll) (gZm D cy base 0 0 (some (.int out)) gNN (gH cy base μ)) 24 [(2, .int (xx))] [] 0 0 gNN (gH cy base μ)) (fun vv rr hh hin hout => k_X1_dueOfAll_b4 μ (q0a) (a1) hq0a vv rr hh hin (fun xx ee => hout xx ee)) gFU (((0 : Int32)), ((0 : Int32))) z5 ez5 ?_
  show G l D cy base RX1 cX1_dueOfAll 4 (some .int) (gRm 0) (gXm yX1_dueOfAll) (gZm D cy base 0 0 (some (.int out)) gNN (gH cy base μ)) 24 [(2, .int (z5))] [] 0 0 gNN (gH cy base μ)
  refine g_iload_n (j := 0) (x := z5) dX1_dueOfAll_24 rfl rfl ?_
  obtain rfl := Option.some.inj hS
  exact g_iret rfl dX1_dueOfAll_25
def f_X3_halvesOf (μ : Mem) (q0a : Nat) (a1 : Int32) : Option (Int32) :=
  (ldA μ (q0a + 5) 5 (a1)).bind fun y1 =>
  if y1 = (1 : Int32) then (
    some ((1 : Int32))
  ) else (
    some ((2 : Int32))
  )
set_option maxRecDepth 100000 in
set_option maxHeartbeats 4000000 in
theorem k_X3_halvesOf {l : Launch} {D : va_G} {cy : Nat → ClassId} {base : Nat} (μ : Mem) (q0a : Nat) (a1 : Int32) (hq0a : isPl q0a = true) {out : Int32} (hS : f_X3_halvesOf μ q0a a1 = some out) : gC l D cy base yX3_halvesOf cX3_halvesOf 2 (some .int) 0 [.ref (base + q0a), .int (a1)] μ (some (.int out)) μ := by
  refine gC_of (own := RX3) (lv0 := [(0, .ref (base + q0a)), (1, .int (a1))]) rfl (by decide) (Nat.le_of_ble_eq_true rfl) rfl ?_
  unfold f_X3_halvesOf at hS
  refine g_aload_n (j := 0) (x := base + q0a) dX3_halvesOf_0 rfl rfl ?_
  refine gs_getR (r := (q0a + 5)) lk_RX3_24 (tkPl_0 hq0a _) rfl dX3_halvesOf_1 ?_
  refine g_iload_n (j := 1) (x := a1) dX3_halvesOf_4 rfl rfl ?_
  obtain ⟨y1, ey1, hS⟩ := ob hS
  refine gs_iald (tkPl_5 hq0a _) dX3_halvesOf_5 ey1 ?_
  refine g_iconst (v := 1) dX3_halvesOf_6 (by decide) ?_
  refine g_icmp_ne 14 dX3_halvesOf_7 (by decide) (fun hc => ?_) (fun hc => ?_)
  · replace hS := (if_neg hc).symm.trans hS
    refine g_iconst (v := 2) dX3_halvesOf_14 (by decide) ?_
    obtain rfl := Option.some.inj hS
    exact g_iret rfl dX3_halvesOf_15
  · replace hS := (if_pos hc).symm.trans hS
    refine g_iconst (v := 1) dX3_halvesOf_10 (by decide) ?_
    refine g_goto 15 dX3_halvesOf_11 (by decide) ?_
    obtain rfl := Option.some.inj hS
    exact g_iret rfl dX3_halvesOf_15
def f_X2_offerFall (μ : Mem) (a1 : Int32) (a2 : Int32) : Option (Mem) :=
  (ldA μ 146 10 (a1)).bind fun y1 =>
  (stA μ 146 10 (a1) ((mnI (y1) (a2)))).bind fun m2 =>
  some m2
set_option maxRecDepth 100000 in
set_option maxHeartbeats 4000000 in
theorem k_X2_offerFall {l : Launch} {D : va_G} {cy : Nat → ClassId} {base : Nat} (μ : Mem) (a1 : Int32) (a2 : Int32)  {out : Mem} (hS : f_X2_offerFall μ a1 a2 = some out) : gC l D cy base yX2_offerFall cX2_offerFall 3 none 1 [.ref (base + 145), .int (a1), .int (a2)] μ none out := by
  refine gC_of (own := RX2) (lv0 := [(0, .ref (base + 145)), (1, .int (a1)), (2, .int (a2))]) rfl (by decide) (Nat.le_of_ble_eq_true rfl) rfl ?_
  unfold f_X2_offerFall at hS
  refine g_aload_n (j := 0) (x := base + 145) dX2_offerFall_0 rfl rfl ?_
  refine gs_getR (r := 146) lk_RX2_11 (tk_145 _) rfl dX2_offerFall_1 ?_
  refine g_iload_n (j := 1) (x := a1) dX2_offerFall_4 rfl rfl ?_
  refine g_aload_n (j := 0) (x := base + 145) dX2_offerFall_5 rfl rfl ?_
  refine gs_getR (r := 146) lk_RX2_11 (tk_145 _) rfl dX2_offerFall_6 ?_
  refine g_iload_n (j := 1) (x := a1) dX2_offerFall_9 rfl rfl ?_
  obtain ⟨y1, ey1, hS⟩ := ob hS
  refine gs_iald (tk_146 _) dX2_offerFall_10 ey1 ?_
  refine g_iload_n (j := 2) (x := a2) dX2_offerFall_11 rfl rfl ?_
  refine gs_mmin cl_RX2_60 sv_J9_min_7cf53 (by decide) (Nat.le_of_ble_eq_true rfl) (Nat.zero_le _) (Nat.zero_le _) dX2_offerFall_12 ?_
  obtain ⟨m2, em2, hS⟩ := ob hS
  refine gs_iast (tk_146 _) dX2_offerFall_15 em2 ?_
  obtain rfl := Option.some.inj hS
  exact g_vret rfl dX2_offerFall_16
def f_X2_gatherFalls_b36 (q8 : Nat) (x9 : Int32) (v : Int32 × Mem) : Option ((Int32 × Mem) ⊕ ((Mem))) :=
  if x9 ≤ v.1 then (
    some (.inr (v.2))
  ) else (
    (ldA v.2 (q8 + 7) 5 (x9)).bind fun y10 =>
    (ldA v.2 (q8 + 7) 5 (v.1)).bind fun y11 =>
    (f_X2_offerFall v.2 ((gi v.2 q8 10)) ((y10 + y11))).bind fun m13 =>
    some (.inl (((v.1 + (1 : Int32))), (m13)))
  )
set_option maxRecDepth 100000 in
set_option maxHeartbeats 4000000 in
theorem k_X2_gatherFalls_b36 {l : Launch} {D : va_G} {cy : Nat → ClassId} {base : Nat} {X : gX} {Z : gZ} (q8 : Nat) (x9 : Int32) (hq8 : isPl q8 = true) (v : Int32 × Mem) (r : (Int32 × Mem) ⊕ ((Mem))) (hS : f_X2_gatherFalls_b36 q8 x9 v = some r) (hin : ∀ v2, r = .inl v2 → G l D cy base RX2 cX2_gatherFalls 4 none (gRm 2) X Z 36 [(0, .ref (base + 145)), (1, .ref (base + q8)), (2, .int (x9)), (3, .int (v2.1))] [] 0 0 gNN (gH cy base v2.2)) (hout0 : ∀ x, r = .inr x → G l D cy base RX2 cX2_gatherFalls 4 none (gRm 2) X Z 68 [(0, .ref (base + 145)), (1, .ref (base + q8)), (2, .int (x9))] [] 0 0 gNN (gH cy base x)) : G l D cy base RX2 cX2_gatherFalls 4 none (gRm 2) X Z 36 [(0, .ref (base + 145)), (1, .ref (base + q8)), (2, .int (x9)), (3, .int (v.1))] [] 0 0 gNN (gH cy base v.2) := by
  unfold f_X2_gatherFalls_b36 at hS
  refine g_iload_n (j := 3) (x := v.1) dX2_gatherFalls_36 rfl rfl ?_
  refine g_iload_n (j := 2) (x := x9) dX2_gatherFalls_37 rfl rfl ?_
  refine g_icmp_ge 68 dX2_gatherFalls_38 (by decide) (fun hc => ?_) (fun hc => ?_)
  · replace hS := (if_pos hc).symm.trans hS
    refine g_sub (lvx := [(0, .ref (base + 145)), (1, .ref (base + q8)), (2, .int (x9))]) [0, 1, 2] rfl ?_
    obtain rfl := Option.some.inj hS
    exact hout0 ((v.2)) rfl
  · replace hS := (if_neg hc).symm.trans hS
    refine g_aload_n (j := 0) (x := base + 145) dX2_gatherFalls_41 rfl rfl ?_
    refine g_aload_n (j := 1) (x := base + q8) dX2_gatherFalls_42 rfl rfl ?_
    refine gs_getI lk_RX2_57 (tkPl_0 hq8 _) rfl dX2_gatherFalls_43 ?_
    refine g_aload_n (j := 1) (x := base + q8) dX2_gatherFalls_46 rfl rfl ?_
    refine gs_getR (r := (q8 + 7)) lk_RX2_50 (tkPl_0 hq8 _) rfl dX2_gatherFalls_47 ?_
    refine g_iload_n (j := 2) (x := x9) dX2_gatherFalls_50 rfl rfl ?_
    obtain ⟨y10, ey10, hS⟩ := ob hS
    refine gs_iald (tkPl_7 hq8 _) dX2_gatherFalls_51 ey10 ?_
    refine g_aload_n (j := 1) (x := base + q8) dX2_gatherFalls_52 rfl rfl ?_
    refine gs_getR (r := (q8 + 7)) lk_RX2_50 (tkPl_0 hq8 _) rfl dX2_gatherFalls_53 ?_
    refine g_iload_n (j := 3) (x := v.1) dX2_gatherFalls_56 rfl rfl ?_
    obtain ⟨y11, ey11, hS⟩ := ob hS
    refine gs_iald (tkPl_7 hq8 _) dX2_gatherFalls_57 ey11 ?_
    refine g_iadd dX2_gatherFalls_58 ?_
    obtain ⟨m13, em13, hS⟩ := ob hS
    refine gs_callVv (As := [.int ((gi v.2 q8 10)), .int ((y10 + y11))]) (st := []) (kr := 145) (k_X2_offerFall v.2 ((gi v.2 q8 10)) ((y10 + y11))  em13) cl_RX2_53 sv_X2_offerFall ckk_X2_offerFall (tk_145 _) ⟨by decide, by decide⟩ (Nat.le_of_ble_eq_true rfl) ⟨Nat.zero_le _, Nat.zero_le _⟩ rfl dX2_gatherFalls_59 rfl ?_
    refine g_iinc (j := 3) (x := v.1) (v := (v.1 + (1 : Int32))) (lvx := [(3, .int ((v.1 + (1 : Int32)))), (0, .ref (base + 145)), (1, .ref (base + q8)), (2, .int (x9))]) dX2_gatherFalls_62 rfl rfl (by decide) rfl ?_
    refine g_goto 36 dX2_gatherFalls_65 (by decide) ?_
    refine g_sub (lvx := [(0, .ref (base + 145)), (1, .ref (base + q8)), (2, .int (x9)), (3, .int ((v.1 + (1 : Int32))))]) [1, 2, 3, 0] rfl ?_
    obtain rfl := Option.some.inj hS
    exact hin ((((v.1 + (1 : Int32))), (m13))) rfl
def f_X2_gatherFalls_b11 (q3 : Nat) (v : Int32 × Mem) : Option ((Int32 × Mem) ⊕ ((Mem))) :=
  if (gi v.2 q3 8) ≤ v.1 then (
    some (.inr (v.2))
  ) else (
    (f_X3_halvesOf v.2 (q3) (v.1)).bind fun y4 =>
    (ldA v.2 (q3 + 7) 5 (v.1)).bind fun y5 =>
    (f_X2_offerFall v.2 (y4) (y5)).bind fun m7 =>
    (iter gFU (f_X2_gatherFalls_b36  (q3) (v.1)) (((0 : Int32)), m7)).bind fun z14 =>
    some (.inl (((v.1 + (1 : Int32))), (z14)))
  )
set_option maxRecDepth 100000 in
set_option maxHeartbeats 4000000 in
theorem k_X2_gatherFalls_b11 {l : Launch} {D : va_G} {cy : Nat → ClassId} {base : Nat} {X : gX} {Z : gZ} (q3 : Nat) (hq3 : isPl q3 = true) (v : Int32 × Mem) (r : (Int32 × Mem) ⊕ ((Mem))) (hS : f_X2_gatherFalls_b11 q3 v = some r) (hin : ∀ v2, r = .inl v2 → G l D cy base RX2 cX2_gatherFalls 4 none (gRm 2) X Z 11 [(0, .ref (base + 145)), (1, .ref (base + q3)), (2, .int (v2.1))] [] 0 0 gNN (gH cy base v2.2)) (hout0 : ∀ x, r = .inr x → G l D cy base RX2 cX2_gatherFalls 4 none (gRm 2) X Z 74 [] [] 0 0 gNN (gH cy base x)) : G l D cy base RX2 cX2_gatherFalls 4 none (gRm 2) X Z 11 [(0, .ref (base + 145)), (1, .ref (base + q3)), (2, .int (v.1))] [] 0 0 gNN (gH cy base v.2) := by
  unfold f_X2_gatherFalls_b11 at hS
  refine g_iload_n (j := 2) (x := v.1) dX2_gatherFalls_11 rfl rfl ?_
  refine g_aload_n (j := 1) (x := base + q3) dX2_gatherFalls_12 rfl rfl ?_
  refine gs_getI lk_RX2_41 (tkPl_0 hq3 _) rfl dX2_gatherFalls_13 ?_
  refine g_icmp_ge 74 dX2_gatherFalls_16 (by decide) (fun hc => ?_) (fun hc => ?_)
  · replace hS := (if_pos hc).symm.trans hS
    refine g_sub (lvx := []) [] rfl ?_
    obtain rfl := Option.some.inj hS
    exact hout0 ((v.2)) rfl
  · replace hS := (if_neg hc).symm.trans hS
    refine g_aload_n (j := 0) (x := base + 145) dX2_gatherFalls_19 rfl rfl ?_
    refine g_aload_n (j := 1) (x := base + q3) dX2_gatherFalls_20 rfl rfl ?_
    refine g_iload_n (j := 2) (x := v.1) dX2_gatherFalls_21 rfl rfl ?_
    obtain ⟨y4, ey4, hS⟩ := ob hS
    refine gs_callVi (As := [.int (v.1)]) (st := [.ref (base + 145)]) (kr := q3) (k_X3_halvesOf v.2 (q3) (v.1) hq3 ey4) cl_RX2_47 sv_X3_halvesOf ckk_X3_halvesOf (tkPl_0 hq3 _) ⟨by decide, by decide⟩ (Nat.le_of_ble_eq_true rfl) ⟨Nat.zero_le _, Nat.zero_le _⟩ rfl dX2_gatherFalls_22 rfl ?_
    refine g_aload_n (j := 1) (x := base + q3) dX2_gatherFalls_25 rfl rfl ?_
    refine gs_getR (r := (q3 + 7)) lk_RX2_50 (tkPl_0 hq3 _) rfl dX2_gatherFalls_26 ?_
    refine g_iload_n (j := 2) (x := v.1) dX2_gatherFalls_29 rfl rfl ?_
    obtain ⟨y5, ey5, hS⟩ := ob hS
    refine gs_iald (tkPl_7 hq3 _) dX2_gatherFalls_30 ey5 ?_
    obtain ⟨m7, em7, hS⟩ := ob hS
    refine gs_callVv (As := [.int (y4), .int (y5)]) (st := []) (kr := 145) (k_X2_offerFall v.2 (y4) (y5)  em7) cl_RX2_53 sv_X2_offerFall ckk_X2_offerFall (tk_145 _) ⟨by decide, by decide⟩ (Nat.le_of_ble_eq_true rfl) ⟨Nat.zero_le _, Nat.zero_le _⟩ rfl dX2_gatherFalls_31 rfl ?_
    refine g_iconst (v := 0) dX2_gatherFalls_34 (by decide) ?_
    refine g_istore_n (lvx := [(3, .int ((0 : Int32))), (0, .ref (base + 145)), (1, .ref (base + q3)), (2, .int (v.1))]) dX2_gatherFalls_35 rfl (by decide) rfl ?_
    obtain ⟨z14, ez14, hS⟩ := ob hS
    refine g_sub (lvx := [(0, .ref (base + 145)), (1, .ref (base + q3)), (2, .int (v.1)), (3, .int ((0 : Int32)))]) [1, 2, 3, 0] rfl ?_
    refine iter_ind (fun vv => G l D cy base RX2 cX2_gatherFalls 4 none (gRm 2) X Z 36 [(0, .ref (base + 145)), (1, .ref (base + q3)), (2, .int (v.1)), (3, .int (vv.1))] [] 0 0 gNN (gH cy base vv.2)) (fun xx => G l D cy base RX2 cX2_gatherFalls 4 none (gRm 2) X Z 68 [(0, .ref (base + 145)), (1, .ref (base + q3)), (2, .int (v.1))] [] 0 0 gNN (gH cy base xx)) (fun vv rr hh hin hout => k_X2_gatherFalls_b36  (q3) (v.1) hq3 vv rr hh hin (fun xx ee => hout xx ee)) gFU (((0 : Int32)), m7) z14 ez14 ?_
    show G l D cy base RX2 cX2_gatherFalls 4 none (gRm 2) X Z 68 [(0, .ref (base + 145)), (1, .ref (base + q3)), (2, .int (v.1))] [] 0 0 gNN (gH cy base z14)
    refine g_iinc (j := 2) (x := v.1) (v := (v.1 + (1 : Int32))) (lvx := [(2, .int ((v.1 + (1 : Int32)))), (0, .ref (base + 145)), (1, .ref (base + q3))]) dX2_gatherFalls_68 rfl rfl (by decide) rfl ?_
    refine g_goto 11 dX2_gatherFalls_71 (by decide) ?_
    refine g_sub (lvx := [(0, .ref (base + 145)), (1, .ref (base + q3)), (2, .int ((v.1 + (1 : Int32))))]) [1, 2, 0] rfl ?_
    obtain rfl := Option.some.inj hS
    exact hin ((((v.1 + (1 : Int32))), (z14))) rfl
def f_X2_gatherFalls (μ : Mem) (q1a : Nat) : Option (Mem) :=
  (f_J7_fill_53178 μ (146) 10 ((1000000000 : Int32))).bind fun m2 =>
  (iter gFU (f_X2_gatherFalls_b11  (q1a)) (((0 : Int32)), m2)).bind fun z15 =>
  some z15
set_option maxRecDepth 100000 in
set_option maxHeartbeats 4000000 in
theorem k_X2_gatherFalls {l : Launch} {D : va_G} {cy : Nat → ClassId} {base : Nat} (μ : Mem) (q1a : Nat) (hq1a : isPl q1a = true) {out : Mem} (hS : f_X2_gatherFalls μ q1a = some out) : gC l D cy base yX2_gatherFalls cX2_gatherFalls 4 none 2 [.ref (base + 145), .ref (base + q1a)] μ none out := by
  refine gC_of (own := RX2) (lv0 := [(0, .ref (base + 145)), (1, .ref (base + q1a))]) rfl (by decide) (Nat.le_of_ble_eq_true rfl) rfl ?_
  unfold f_X2_gatherFalls at hS
  refine g_aload_n (j := 0) (x := base + 145) dX2_gatherFalls_0 rfl rfl ?_
  refine gs_getR (r := 146) lk_RX2_11 (tk_145 _) rfl dX2_gatherFalls_1 ?_
  refine g_ldc cs_RX2_34 dX2_gatherFalls_4 ?_
  obtain ⟨m2, em2, hS⟩ := ob hS
  refine gs_callSv (As := [.ref (base + 146), .int ((1000000000 : Int32))]) (st := []) (k_J7_fill_53178 μ (146) 10 ((1000000000 : Int32)) tk_146 em2) cl_RX2_35 sv_J7_fill_53178 ⟨by decide, by decide⟩ (Nat.le_of_ble_eq_true rfl) ⟨Nat.zero_le _, Nat.zero_le _⟩ rfl dX2_gatherFalls_6 rfl ?_
  refine g_iconst (v := 0) dX2_gatherFalls_9 (by decide) ?_
  refine g_istore_n (lvx := [(2, .int ((0 : Int32))), (0, .ref (base + 145)), (1, .ref (base + q1a))]) dX2_gatherFalls_10 rfl (by decide) rfl ?_
  obtain ⟨z15, ez15, hS⟩ := ob hS
  refine g_sub (lvx := [(0, .ref (base + 145)), (1, .ref (base + q1a)), (2, .int ((0 : Int32)))]) [1, 2, 0] rfl ?_
  refine iter_ind (fun vv => G l D cy base RX2 cX2_gatherFalls 4 none (gRm 2) (gXm yX2_gatherFalls) (gZm D cy base 0 0 none gNN (gH cy base out)) 11 [(0, .ref (base + 145)), (1, .ref (base + q1a)), (2, .int (vv.1))] [] 0 0 gNN (gH cy base vv.2)) (fun xx => G l D cy base RX2 cX2_gatherFalls 4 none (gRm 2) (gXm yX2_gatherFalls) (gZm D cy base 0 0 none gNN (gH cy base out)) 74 [] [] 0 0 gNN (gH cy base xx)) (fun vv rr hh hin hout => k_X2_gatherFalls_b11  (q1a) hq1a vv rr hh hin (fun xx ee => hout xx ee)) gFU (((0 : Int32)), m2) z15 ez15 ?_
  show G l D cy base RX2 cX2_gatherFalls 4 none (gRm 2) (gXm yX2_gatherFalls) (gZm D cy base 0 0 none gNN (gH cy base out)) 74 [] [] 0 0 gNN (gH cy base z15)
  obtain rfl := Option.some.inj hS
  exact g_vret rfl dX2_gatherFalls_74
def f_X2_cheapestFor_b5 (m2 : Mem) (x1 : Int32) (v : Int32 × Int32) : Option ((Int32 × Int32) ⊕ ((Int32))) :=
  if (9 : Int32) < v.2 then (
    some (.inr (v.1))
  ) else (
    (ldA m2 147 1000 ((mxI ((0 : Int32)) ((x1 - v.2))))).bind fun y3 =>
    (ldA m2 146 10 (v.2)).bind fun y4 =>
    if y4 = (1000000000 : Int32) then (
      some (.inl ((v.1), ((v.2 + (1 : Int32)))))
    ) else (
      if y3 = (1000000000 : Int32) then (
        some (.inl ((v.1), ((v.2 + (1 : Int32)))))
      ) else (
        (ldA m2 146 10 (v.2)).bind fun y5 =>
        some (.inl (((mnI (v.1) (((y3 + (y5 * (1000 : Int32))) + (1 : Int32))))), ((v.2 + (1 : Int32)))))
      )
    )
  )
set_option maxRecDepth 100000 in
set_option maxHeartbeats 4000000 in
theorem k_X2_cheapestFor_b5 {l : Launch} {D : va_G} {cy : Nat → ClassId} {base : Nat} {X : gX} {Z : gZ} (m2 : Mem) (x1 : Int32)  (v : Int32 × Int32) (r : (Int32 × Int32) ⊕ ((Int32))) (hS : f_X2_cheapestFor_b5 m2 x1 v = some r) (hin : ∀ v2, r = .inl v2 → G l D cy base RX2 cX2_cheapestFor 5 (some .int) (gRm 1) X Z 5 [(0, .ref (base + 145)), (1, .int (x1)), (2, .int (v2.1)), (3, .int (v2.2))] [] 0 0 gNN (gH cy base m2)) (hout0 : ∀ x, r = .inr x → G l D cy base RX2 cX2_cheapestFor 5 (some .int) (gRm 1) X Z 69 [(2, .int (x))] [] 0 0 gNN (gH cy base m2)) : G l D cy base RX2 cX2_cheapestFor 5 (some .int) (gRm 1) X Z 5 [(0, .ref (base + 145)), (1, .int (x1)), (2, .int (v.1)), (3, .int (v.2))] [] 0 0 gNN (gH cy base m2) := by
  unfold f_X2_cheapestFor_b5 at hS
  refine g_iload_n (j := 3) (x := v.2) dX2_cheapestFor_5 rfl rfl ?_
  refine g_bipush (v := 9) dX2_cheapestFor_6 (by decide) ?_
  refine g_icmp_gt 69 dX2_cheapestFor_8 (by decide) (fun hc => ?_) (fun hc => ?_)
  · replace hS := (if_pos hc).symm.trans hS
    refine g_sub (lvx := [(2, .int (v.1))]) [2] rfl ?_
    obtain rfl := Option.some.inj hS
    exact hout0 ((v.1)) rfl
  · replace hS := (if_neg hc).symm.trans hS
    refine g_aload_n (j := 0) (x := base + 145) dX2_cheapestFor_11 rfl rfl ?_
    refine gs_getR (r := 147) lk_RX2_15 (tk_145 _) rfl dX2_cheapestFor_12 ?_
    refine g_iconst (v := 0) dX2_cheapestFor_15 (by decide) ?_
    refine g_iload_n (j := 1) (x := x1) dX2_cheapestFor_16 rfl rfl ?_
    refine g_iload_n (j := 3) (x := v.2) dX2_cheapestFor_17 rfl rfl ?_
    refine g_isub dX2_cheapestFor_18 ?_
    refine gs_mmax cl_RX2_66 sv_J9_max_7cf53 (by decide) (Nat.le_of_ble_eq_true rfl) (Nat.zero_le _) (Nat.zero_le _) dX2_cheapestFor_19 ?_
    obtain ⟨y3, ey3, hS⟩ := ob hS
    refine gs_iald (tk_147 _) dX2_cheapestFor_22 ey3 ?_
    refine g_istore (lvx := [(4, .int (y3)), (0, .ref (base + 145)), (1, .int (x1)), (2, .int (v.1)), (3, .int (v.2))]) dX2_cheapestFor_23 (by decide) rfl ?_
    refine g_aload_n (j := 1) (x := base + 145) dX2_cheapestFor_25 rfl rfl ?_
    refine gs_getR (r := 146) lk_RX2_11 (tk_145 _) rfl dX2_cheapestFor_26 ?_
    refine g_iload_n (j := 4) (x := v.2) dX2_cheapestFor_29 rfl rfl ?_
    obtain ⟨y4, ey4, hS⟩ := ob hS
    refine gs_iald (tk_146 _) dX2_cheapestFor_30 ey4 ?_
    refine g_ldc cs_RX2_34 dX2_cheapestFor_31 ?_
    refine g_icmp_eq 63 dX2_cheapestFor_33 (by decide) (fun hc => ?_) (fun hc => ?_)
    · replace hS := (if_pos hc).symm.trans hS
      refine g_iinc (j := 4) (x := v.2) (v := (v.2 + (1 : Int32))) (lvx := [(3, .int ((v.2 + (1 : Int32)))), (4, .int (y3)), (0, .ref (base + 145)), (1, .int (x1)), (2, .int (v.1))]) dX2_cheapestFor_63 rfl rfl (by decide) rfl ?_
      refine g_goto 5 dX2_cheapestFor_66 (by decide) ?_
      refine g_sub (lvx := [(0, .ref (base + 145)), (1, .int (x1)), (2, .int (v.1)), (3, .int ((v.2 + (1 : Int32))))]) [2, 3, 4, 0] rfl ?_
      obtain rfl := Option.some.inj hS
      exact hin (((v.1), ((v.2 + (1 : Int32))))) rfl
    · replace hS := (if_neg hc).symm.trans hS
      refine g_iload (j := 0) (x := y3) dX2_cheapestFor_36 rfl ?_
      refine g_ldc cs_RX2_34 dX2_cheapestFor_38 ?_
      refine g_icmp_eq 63 dX2_cheapestFor_40 (by decide) (fun hc => ?_) (fun hc => ?_)
      · replace hS := (if_pos hc).symm.trans hS
        refine g_iinc (j := 4) (x := v.2) (v := (v.2 + (1 : Int32))) (lvx := [(3, .int ((v.2 + (1 : Int32)))), (4, .int (y3)), (0, .ref (base + 145)), (1, .int (x1)), (2, .int (v.1))]) dX2_cheapestFor_63 rfl rfl (by decide) rfl ?_
        refine g_goto 5 dX2_cheapestFor_66 (by decide) ?_
        refine g_sub (lvx := [(0, .ref (base + 145)), (1, .int (x1)), (2, .int (v.1)), (3, .int ((v.2 + (1 : Int32))))]) [2, 3, 4, 0] rfl ?_
        obtain rfl := Option.some.inj hS
        exact hin (((v.1), ((v.2 + (1 : Int32))))) rfl
      · replace hS := (if_neg hc).symm.trans hS
        refine g_iload_n (j := 3) (x := v.1) dX2_cheapestFor_43 rfl rfl ?_
        refine g_iload (j := 0) (x := y3) dX2_cheapestFor_44 rfl ?_
        refine g_aload_n (j := 1) (x := base + 145) dX2_cheapestFor_46 rfl rfl ?_
        refine gs_getR (r := 146) lk_RX2_11 (tk_145 _) rfl dX2_cheapestFor_47 ?_
        refine g_iload_n (j := 4) (x := v.2) dX2_cheapestFor_50 rfl rfl ?_
        obtain ⟨y5, ey5, hS⟩ := ob hS
        refine gs_iald (tk_146 _) dX2_cheapestFor_51 ey5 ?_
        refine g_sipush (v := 1000) dX2_cheapestFor_52 (by decide) ?_
        refine g_imul dX2_cheapestFor_55 ?_
        refine g_iadd dX2_cheapestFor_56 ?_
        refine g_iconst (v := 1) dX2_cheapestFor_57 (by decide) ?_
        refine g_iadd dX2_cheapestFor_58 ?_
        refine gs_mmin cl_RX2_60 sv_J9_min_7cf53 (by decide) (Nat.le_of_ble_eq_true rfl) (Nat.zero_le _) (Nat.zero_le _) dX2_cheapestFor_59 ?_
        refine g_istore_n (lvx := [(2, .int ((mnI (v.1) (((y3 + (y5 * (1000 : Int32))) + (1 : Int32)))))), (4, .int (y3)), (0, .ref (base + 145)), (1, .int (x1)), (3, .int (v.2))]) dX2_cheapestFor_62 rfl (by decide) rfl ?_
        refine g_iinc (j := 4) (x := v.2) (v := (v.2 + (1 : Int32))) (lvx := [(3, .int ((v.2 + (1 : Int32)))), (2, .int ((mnI (v.1) (((y3 + (y5 * (1000 : Int32))) + (1 : Int32)))))), (4, .int (y3)), (0, .ref (base + 145)), (1, .int (x1))]) dX2_cheapestFor_63 rfl rfl (by decide) rfl ?_
        refine g_goto 5 dX2_cheapestFor_66 (by decide) ?_
        refine g_sub (lvx := [(0, .ref (base + 145)), (1, .int (x1)), (2, .int ((mnI (v.1) (((y3 + (y5 * (1000 : Int32))) + (1 : Int32)))))), (3, .int ((v.2 + (1 : Int32))))]) [3, 4, 1, 0] rfl ?_
        obtain rfl := Option.some.inj hS
        exact hin ((((mnI (v.1) (((y3 + (y5 * (1000 : Int32))) + (1 : Int32))))), ((v.2 + (1 : Int32))))) rfl
def f_X2_cheapestFor (μ : Mem) (a1 : Int32) : Option (Int32) :=
  (iter gFU (f_X2_cheapestFor_b5 μ (a1)) (((1000000000 : Int32)), ((1 : Int32)))).bind fun z6 =>
  some (z6)
set_option maxRecDepth 100000 in
set_option maxHeartbeats 4000000 in
theorem k_X2_cheapestFor {l : Launch} {D : va_G} {cy : Nat → ClassId} {base : Nat} (μ : Mem) (a1 : Int32)  {out : Int32} (hS : f_X2_cheapestFor μ a1 = some out) : gC l D cy base yX2_cheapestFor cX2_cheapestFor 5 (some .int) 1 [.ref (base + 145), .int (a1)] μ (some (.int out)) μ := by
  refine gC_of (own := RX2) (lv0 := [(0, .ref (base + 145)), (1, .int (a1))]) rfl (by decide) (Nat.le_of_ble_eq_true rfl) rfl ?_
  unfold f_X2_cheapestFor at hS
  refine g_ldc cs_RX2_34 dX2_cheapestFor_0 ?_
  refine g_istore_n (lvx := [(2, .int ((1000000000 : Int32))), (0, .ref (base + 145)), (1, .int (a1))]) dX2_cheapestFor_2 rfl (by decide) rfl ?_
  refine g_iconst (v := 1) dX2_cheapestFor_3 (by decide) ?_
  refine g_istore_n (lvx := [(3, .int ((1 : Int32))), (2, .int ((1000000000 : Int32))), (0, .ref (base + 145)), (1, .int (a1))]) dX2_cheapestFor_4 rfl (by decide) rfl ?_
  obtain ⟨z6, ez6, hS⟩ := ob hS
  refine g_sub (lvx := [(0, .ref (base + 145)), (1, .int (a1)), (2, .int ((1000000000 : Int32))), (3, .int ((1 : Int32)))]) [2, 3, 1, 0] rfl ?_
  refine iter_ind (fun vv => G l D cy base RX2 cX2_cheapestFor 5 (some .int) (gRm 1) (gXm yX2_cheapestFor) (gZm D cy base 0 0 (some (.int out)) gNN (gH cy base μ)) 5 [(0, .ref (base + 145)), (1, .int (a1)), (2, .int (vv.1)), (3, .int (vv.2))] [] 0 0 gNN (gH cy base μ)) (fun xx => G l D cy base RX2 cX2_cheapestFor 5 (some .int) (gRm 1) (gXm yX2_cheapestFor) (gZm D cy base 0 0 (some (.int out)) gNN (gH cy base μ)) 69 [(2, .int (xx))] [] 0 0 gNN (gH cy base μ)) (fun vv rr hh hin hout => k_X2_cheapestFor_b5 μ (a1)  vv rr hh hin (fun xx ee => hout xx ee)) gFU (((1000000000 : Int32)), ((1 : Int32))) z6 ez6 ?_
  show G l D cy base RX2 cX2_cheapestFor 5 (some .int) (gRm 1) (gXm yX2_cheapestFor) (gZm D cy base 0 0 (some (.int out)) gNN (gH cy base μ)) 69 [(2, .int (z6))] [] 0 0 gNN (gH cy base μ)
  refine g_iload_n (j := 0) (x := z6) dX2_cheapestFor_69 rfl rfl ?_
  obtain rfl := Option.some.inj hS
  exact g_iret rfl dX2_cheapestFor_70
def f_X2_payByFalls_b15 (x4 : Int32) (x5 : Int32) (v : Int32 × Mem) : Option ((Int32 × Mem) ⊕ ((Mem))) :=
  if x4 < v.1 then (
    some (.inr (v.2))
  ) else (
    (f_X2_cheapestFor v.2 (v.1)).bind fun y6 =>
    (stA v.2 147 1000 (v.1) (y6)).bind fun m7 =>
    some (.inl (((v.1 + (1 : Int32))), (m7)))
  )
set_option maxRecDepth 100000 in
set_option maxHeartbeats 4000000 in
theorem k_X2_payByFalls_b15 {l : Launch} {D : va_G} {cy : Nat → ClassId} {base : Nat} {X : gX} {Z : gZ} (x4 : Int32) (x5 : Int32)  (v : Int32 × Mem) (r : (Int32 × Mem) ⊕ ((Mem))) (hS : f_X2_payByFalls_b15 x4 x5 v = some r) (hin : ∀ v2, r = .inl v2 → G l D cy base RX2 cX2_payByFalls 5 (some .int) (gRm 3) X Z 15 [(0, .ref (base + 145)), (2, .int (x4)), (3, .int (x5)), (4, .int (v2.1))] [] 0 0 gNN (gH cy base v2.2)) (hout0 : ∀ x, r = .inr x → G l D cy base RX2 cX2_payByFalls 5 (some .int) (gRm 3) X Z 40 [(0, .ref (base + 145)), (2, .int (x4)), (3, .int (x5))] [] 0 0 gNN (gH cy base x)) : G l D cy base RX2 cX2_payByFalls 5 (some .int) (gRm 3) X Z 15 [(0, .ref (base + 145)), (2, .int (x4)), (3, .int (x5)), (4, .int (v.1))] [] 0 0 gNN (gH cy base v.2) := by
  unfold f_X2_payByFalls_b15 at hS
  refine g_iload (j := 3) (x := v.1) dX2_payByFalls_15 rfl ?_
  refine g_iload_n (j := 1) (x := x4) dX2_payByFalls_17 rfl rfl ?_
  refine g_icmp_gt 40 dX2_payByFalls_18 (by decide) (fun hc => ?_) (fun hc => ?_)
  · replace hS := (if_pos hc).symm.trans hS
    refine g_sub (lvx := [(0, .ref (base + 145)), (2, .int (x4)), (3, .int (x5))]) [0, 1, 2] rfl ?_
    obtain rfl := Option.some.inj hS
    exact hout0 ((v.2)) rfl
  · replace hS := (if_neg hc).symm.trans hS
    refine g_aload_n (j := 0) (x := base + 145) dX2_payByFalls_21 rfl rfl ?_
    refine gs_getR (r := 147) lk_RX2_15 (tk_145 _) rfl dX2_payByFalls_22 ?_
    refine g_iload (j := 3) (x := v.1) dX2_payByFalls_25 rfl ?_
    refine g_aload_n (j := 0) (x := base + 145) dX2_payByFalls_27 rfl rfl ?_
    refine g_iload (j := 3) (x := v.1) dX2_payByFalls_28 rfl ?_
    obtain ⟨y6, ey6, hS⟩ := ob hS
    refine gs_callVi (As := [.int (v.1)]) (st := [.int (v.1), .ref (base + 147)]) (kr := 145) (k_X2_cheapestFor v.2 (v.1)  ey6) cl_RX2_30 sv_X2_cheapestFor ckk_X2_cheapestFor (tk_145 _) ⟨by decide, by decide⟩ (Nat.le_of_ble_eq_true rfl) ⟨Nat.zero_le _, Nat.zero_le _⟩ rfl dX2_payByFalls_30 rfl ?_
    obtain ⟨m7, em7, hS⟩ := ob hS
    refine gs_iast (tk_147 _) dX2_payByFalls_33 em7 ?_
    refine g_iinc (j := 3) (x := v.1) (v := (v.1 + (1 : Int32))) (lvx := [(4, .int ((v.1 + (1 : Int32)))), (0, .ref (base + 145)), (2, .int (x4)), (3, .int (x5))]) dX2_payByFalls_34 rfl rfl (by decide) rfl ?_
    refine g_goto 15 dX2_payByFalls_37 (by decide) ?_
    refine g_sub (lvx := [(0, .ref (base + 145)), (2, .int (x4)), (3, .int (x5)), (4, .int ((v.1 + (1 : Int32))))]) [1, 2, 3, 0] rfl ?_
    obtain rfl := Option.some.inj hS
    exact hin ((((v.1 + (1 : Int32))), (m7))) rfl
def f_X2_payByFalls (μ : Mem) (q1a : Nat) (a2 : Int32) (a3 : Int32) : Option (Int32 × Mem) :=
  (f_X2_gatherFalls μ (q1a)).bind fun m2 =>
  (stA m2 147 1000 ((0 : Int32)) ((0 : Int32))).bind fun m3 =>
  (iter gFU (f_X2_payByFalls_b15  (a2) (a3)) (((1 : Int32)), m3)).bind fun z8 =>
  (ldA z8 147 1000 (a2)).bind fun y9 =>
  if y9 = (1000000000 : Int32) then (
    some ((-9 : Int32), z8)
  ) else (
    if a3 = (0 : Int32) then (
      (rmI (y9) ((1000 : Int32))).bind fun y10 =>
      some (y10, z8)
    ) else (
      (dvI (y9) ((1000 : Int32))).bind fun y11 =>
      some (y11, z8)
    )
  )
set_option maxRecDepth 100000 in
set_option maxHeartbeats 4000000 in
theorem k_X2_payByFalls {l : Launch} {D : va_G} {cy : Nat → ClassId} {base : Nat} (μ : Mem) (q1a : Nat) (a2 : Int32) (a3 : Int32) (hq1a : isPl q1a = true) {out : Int32 × Mem} (hS : f_X2_payByFalls μ q1a a2 a3 = some out) : gC l D cy base yX2_payByFalls cX2_payByFalls 5 (some .int) 3 [.ref (base + 145), .ref (base + q1a), .int (a2), .int (a3)] μ (some (.int out.1)) out.2 := by
  refine gC_of (own := RX2) (lv0 := [(0, .ref (base + 145)), (1, .ref (base + q1a)), (2, .int (a2)), (3, .int (a3))]) rfl (by decide) (Nat.le_of_ble_eq_true rfl) rfl ?_
  unfold f_X2_payByFalls at hS
  refine g_aload_n (j := 0) (x := base + 145) dX2_payByFalls_0 rfl rfl ?_
  refine g_aload_n (j := 1) (x := base + q1a) dX2_payByFalls_1 rfl rfl ?_
  obtain ⟨m2, em2, hS⟩ := ob hS
  refine gs_callVv (As := [.ref (base + q1a)]) (st := []) (kr := 145) (k_X2_gatherFalls μ (q1a) hq1a em2) cl_RX2_26 sv_X2_gatherFalls ckk_X2_gatherFalls (tk_145 _) ⟨by decide, by decide⟩ (Nat.le_of_ble_eq_true rfl) ⟨Nat.zero_le _, Nat.zero_le _⟩ rfl dX2_payByFalls_2 rfl ?_
  refine g_aload_n (j := 0) (x := base + 145) dX2_payByFalls_5 rfl rfl ?_
  refine gs_getR (r := 147) lk_RX2_15 (tk_145 _) rfl dX2_payByFalls_6 ?_
  refine g_iconst (v := 0) dX2_payByFalls_9 (by decide) ?_
  refine g_iconst (v := 0) dX2_payByFalls_10 (by decide) ?_
  obtain ⟨m3, em3, hS⟩ := ob hS
  refine gs_iast (tk_147 _) dX2_payByFalls_11 em3 ?_
  refine g_iconst (v := 1) dX2_payByFalls_12 (by decide) ?_
  refine g_istore (lvx := [(4, .int ((1 : Int32))), (0, .ref (base + 145)), (1, .ref (base + q1a)), (2, .int (a2)), (3, .int (a3))]) dX2_payByFalls_13 (by decide) rfl ?_
  obtain ⟨z8, ez8, hS⟩ := ob hS
  refine g_sub (lvx := [(0, .ref (base + 145)), (2, .int (a2)), (3, .int (a3)), (4, .int ((1 : Int32)))]) [1, 3, 4, 0] rfl ?_
  refine iter_ind (fun vv => G l D cy base RX2 cX2_payByFalls 5 (some .int) (gRm 3) (gXm yX2_payByFalls) (gZm D cy base 0 0 (some (.int out.1)) gNN (gH cy base out.2)) 15 [(0, .ref (base + 145)), (2, .int (a2)), (3, .int (a3)), (4, .int (vv.1))] [] 0 0 gNN (gH cy base vv.2)) (fun xx => G l D cy base RX2 cX2_payByFalls 5 (some .int) (gRm 3) (gXm yX2_payByFalls) (gZm D cy base 0 0 (some (.int out.1)) gNN (gH cy base out.2)) 40 [(0, .ref (base + 145)), (2, .int (a2)), (3, .int (a3))] [] 0 0 gNN (gH cy base xx)) (fun vv rr hh hin hout => k_X2_payByFalls_b15  (a2) (a3)  vv rr hh hin (fun xx ee => hout xx ee)) gFU (((1 : Int32)), m3) z8 ez8 ?_
  show G l D cy base RX2 cX2_payByFalls 5 (some .int) (gRm 3) (gXm yX2_payByFalls) (gZm D cy base 0 0 (some (.int out.1)) gNN (gH cy base out.2)) 40 [(0, .ref (base + 145)), (2, .int (a2)), (3, .int (a3))] [] 0 0 gNN (gH cy base z8)
  refine g_aload_n (j := 0) (x := base + 145) dX2_payByFalls_40 rfl rfl ?_
  refine gs_getR (r := 147) lk_RX2_15 (tk_145 _) rfl dX2_payByFalls_41 ?_
  refine g_iload_n (j := 1) (x := a2) dX2_payByFalls_44 rfl rfl ?_
  obtain ⟨y9, ey9, hS⟩ := ob hS
  refine gs_iald (tk_147 _) dX2_payByFalls_45 ey9 ?_
  refine g_istore (lvx := [(4, .int (y9)), (0, .ref (base + 145)), (2, .int (a2)), (3, .int (a3))]) dX2_payByFalls_46 (by decide) rfl ?_
  refine g_iload (j := 0) (x := y9) dX2_payByFalls_48 rfl ?_
  refine g_ldc cs_RX2_34 dX2_payByFalls_50 ?_
  refine g_icmp_ne 58 dX2_payByFalls_52 (by decide) (fun hc => ?_) (fun hc => ?_)
  · replace hS := (if_neg hc).symm.trans hS
    refine g_iload_n (j := 3) (x := a3) dX2_payByFalls_58 rfl rfl ?_
    refine g_if_eq 71 dX2_payByFalls_59 (by decide) (fun hc => ?_) (fun hc => ?_)
    · replace hS := (if_pos hc).symm.trans hS
      refine g_iload (j := 0) (x := y9) dX2_payByFalls_71 rfl ?_
      refine g_sipush (v := 1000) dX2_payByFalls_73 (by decide) ?_
      obtain ⟨y10, ey10, hS⟩ := ob hS
      refine gs_irem dX2_payByFalls_76 ey10 ?_
      obtain rfl := Option.some.inj hS
      exact g_iret rfl dX2_payByFalls_77
    · replace hS := (if_neg hc).symm.trans hS
      refine g_iload (j := 0) (x := y9) dX2_payByFalls_62 rfl ?_
      refine g_sipush (v := 1000) dX2_payByFalls_64 (by decide) ?_
      obtain ⟨y11, ey11, hS⟩ := ob hS
      refine gs_idiv dX2_payByFalls_67 ey11 ?_
      refine g_goto 77 dX2_payByFalls_68 (by decide) ?_
      obtain rfl := Option.some.inj hS
      exact g_iret rfl dX2_payByFalls_77
  · replace hS := (if_pos hc).symm.trans hS
    refine g_bipush (v := -9) dX2_payByFalls_55 (by decide) ?_
    obtain rfl := Option.some.inj hS
    exact g_iret rfl dX2_payByFalls_57
def f_X2_dueWithCoins_b13 (m4 : Mem) (x1 : Int32) (x2 : Int32) (x3 : Int32) (v : Int32 × Int32) : Option ((Int32 × Int32) ⊕ ((Int32))) :=
  if x2 < v.2 then (
    some (.inr (v.1))
  ) else (
    if x3 < v.2 then (
      some (.inr (v.1))
    ) else (
      (dvI ((x3 - v.2)) ((3 : Int32))).bind fun y5 =>
      some (.inl (((mxI (v.1) ((v.2 + (y5 * (4 : Int32)))))), ((v.2 + (1 : Int32)))))
    )
  )
set_option maxRecDepth 100000 in
set_option maxHeartbeats 4000000 in
theorem k_X2_dueWithCoins_b13 {l : Launch} {D : va_G} {cy : Nat → ClassId} {base : Nat} {X : gX} {Z : gZ} (m4 : Mem) (x1 : Int32) (x2 : Int32) (x3 : Int32)  (v : Int32 × Int32) (r : (Int32 × Int32) ⊕ ((Int32))) (hS : f_X2_dueWithCoins_b13 m4 x1 x2 x3 v = some r) (hin : ∀ v2, r = .inl v2 → G l D cy base RX2 cX2_dueWithCoins 5 (some .int) (gRm 1) X Z 13 [(0, .int (x1)), (1, .int (x2)), (2, .int (x3)), (3, .int (v2.1)), (4, .int (v2.2))] [] 0 0 gNN (gH cy base m4)) (hout0 : ∀ x, r = .inr x → G l D cy base RX2 cX2_dueWithCoins 5 (some .int) (gRm 1) X Z 47 [(0, .int (x1)), (3, .int (x))] [] 0 0 gNN (gH cy base m4)) : G l D cy base RX2 cX2_dueWithCoins 5 (some .int) (gRm 1) X Z 13 [(0, .int (x1)), (1, .int (x2)), (2, .int (x3)), (3, .int (v.1)), (4, .int (v.2))] [] 0 0 gNN (gH cy base m4) := by
  unfold f_X2_dueWithCoins_b13 at hS
  refine g_iload (j := 4) (x := v.2) dX2_dueWithCoins_13 rfl ?_
  refine g_iload_n (j := 1) (x := x2) dX2_dueWithCoins_15 rfl rfl ?_
  refine g_icmp_gt 47 dX2_dueWithCoins_16 (by decide) (fun hc => ?_) (fun hc => ?_)
  · replace hS := (if_pos hc).symm.trans hS
    refine g_sub (lvx := [(0, .int (x1)), (3, .int (v.1))]) [0, 3] rfl ?_
    obtain rfl := Option.some.inj hS
    exact hout0 ((v.1)) rfl
  · replace hS := (if_neg hc).symm.trans hS
    refine g_iload (j := 4) (x := v.2) dX2_dueWithCoins_19 rfl ?_
    refine g_iload_n (j := 2) (x := x3) dX2_dueWithCoins_21 rfl rfl ?_
    refine g_icmp_gt 47 dX2_dueWithCoins_22 (by decide) (fun hc => ?_) (fun hc => ?_)
    · replace hS := (if_pos hc).symm.trans hS
      refine g_sub (lvx := [(0, .int (x1)), (3, .int (v.1))]) [0, 3] rfl ?_
      obtain rfl := Option.some.inj hS
      exact hout0 ((v.1)) rfl
    · replace hS := (if_neg hc).symm.trans hS
      refine g_iload_n (j := 3) (x := v.1) dX2_dueWithCoins_25 rfl rfl ?_
      refine g_iload (j := 4) (x := v.2) dX2_dueWithCoins_26 rfl ?_
      refine g_iload_n (j := 2) (x := x3) dX2_dueWithCoins_28 rfl rfl ?_
      refine g_iload (j := 4) (x := v.2) dX2_dueWithCoins_29 rfl ?_
      refine g_isub dX2_dueWithCoins_31 ?_
      refine g_iconst (v := 3) dX2_dueWithCoins_32 (by decide) ?_
      obtain ⟨y5, ey5, hS⟩ := ob hS
      refine gs_idiv dX2_dueWithCoins_33 ey5 ?_
      refine g_iconst (v := 4) dX2_dueWithCoins_34 (by decide) ?_
      refine g_imul dX2_dueWithCoins_35 ?_
      refine g_iadd dX2_dueWithCoins_36 ?_
      refine gs_mmax cl_RX2_66 sv_J9_max_7cf53 (by decide) (Nat.le_of_ble_eq_true rfl) (Nat.zero_le _) (Nat.zero_le _) dX2_dueWithCoins_37 ?_
      refine g_istore_n (lvx := [(3, .int ((mxI (v.1) ((v.2 + (y5 * (4 : Int32))))))), (0, .int (x1)), (1, .int (x2)), (2, .int (x3)), (4, .int (v.2))]) dX2_dueWithCoins_40 rfl (by decide) rfl ?_
      refine g_iinc (j := 4) (x := v.2) (v := (v.2 + (1 : Int32))) (lvx := [(4, .int ((v.2 + (1 : Int32)))), (3, .int ((mxI (v.1) ((v.2 + (y5 * (4 : Int32))))))), (0, .int (x1)), (1, .int (x2)), (2, .int (x3))]) dX2_dueWithCoins_41 rfl rfl (by decide) rfl ?_
      refine g_goto 13 dX2_dueWithCoins_44 (by decide) ?_
      refine g_sub (lvx := [(0, .int (x1)), (1, .int (x2)), (2, .int (x3)), (3, .int ((mxI (v.1) ((v.2 + (y5 * (4 : Int32))))))), (4, .int ((v.2 + (1 : Int32))))]) [2, 3, 4, 1, 0] rfl ?_
      obtain rfl := Option.some.inj hS
      exact hin ((((mxI (v.1) ((v.2 + (y5 * (4 : Int32)))))), ((v.2 + (1 : Int32))))) rfl
def f_X2_dueWithCoins_j47 (m9 : Mem) (x7 : Int32) (x8 : Int32) : Option (Int32) :=
  some ((mxI ((0 : Int32)) ((x7 - x8))))
set_option maxRecDepth 100000 in
set_option maxHeartbeats 4000000 in
theorem k_X2_dueWithCoins_j47 {l : Launch} {D : va_G} {cy : Nat → ClassId} {base : Nat} {X : gX} (m9 : Mem) (x7 : Int32) (x8 : Int32)  {out : Int32} (hS : f_X2_dueWithCoins_j47 m9 x7 x8 = some out)  : G l D cy base RX2 cX2_dueWithCoins 5 (some .int) (gRm 1) X (gZm D cy base 0 0 (some (.int out)) gNN (gH cy base m9)) 47 [(0, .int (x7)), (3, .int (x8))] [] 0 0 gNN (gH cy base m9) := by
  unfold f_X2_dueWithCoins_j47 at hS
  refine g_iconst (v := 0) dX2_dueWithCoins_47 (by decide) ?_
  refine g_iload_n (j := 0) (x := x7) dX2_dueWithCoins_48 rfl rfl ?_
  refine g_iload_n (j := 1) (x := x8) dX2_dueWithCoins_49 rfl rfl ?_
  refine g_isub dX2_dueWithCoins_50 ?_
  refine gs_mmax cl_RX2_66 sv_J9_max_7cf53 (by decide) (Nat.le_of_ble_eq_true rfl) (Nat.zero_le _) (Nat.zero_le _) dX2_dueWithCoins_51 ?_
  obtain rfl := Option.some.inj hS
  exact g_iret rfl dX2_dueWithCoins_54
def f_X2_dueWithCoins (μ : Mem) (a0 : Int32) (a1 : Int32) (a2 : Int32) : Option (Int32) :=
  if a2 < (12 : Int32) then (
    (iter gFU (f_X2_dueWithCoins_b13 μ (a0) (a1) (a2)) (((0 : Int32)), ((0 : Int32)))).bind fun z6 =>
    f_X2_dueWithCoins_j47 μ (a0) (z6)
  ) else (
    some ((0 : Int32))
  )
set_option maxRecDepth 100000 in
set_option maxHeartbeats 4000000 in
theorem k_X2_dueWithCoins {l : Launch} {D : va_G} {cy : Nat → ClassId} {base : Nat} (μ : Mem) (a0 : Int32) (a1 : Int32) (a2 : Int32)  {out : Int32} (hS : f_X2_dueWithCoins μ a0 a1 a2 = some out) : gC l D cy base yX2_dueWithCoins cX2_dueWithCoins 5 (some .int) 1 [.int (a0), .int (a1), .int (a2)] μ (some (.int out)) μ := by
  refine gC_of (own := RX2) (lv0 := [(0, .int (a0)), (1, .int (a1)), (2, .int (a2))]) rfl (by decide) (Nat.le_of_ble_eq_true rfl) rfl ?_
  unfold f_X2_dueWithCoins at hS
  refine g_iload_n (j := 2) (x := a2) dX2_dueWithCoins_0 rfl rfl ?_
  refine g_bipush (v := 12) dX2_dueWithCoins_1 (by decide) ?_
  refine g_icmp_lt 8 dX2_dueWithCoins_3 (by decide) (fun hc => ?_) (fun hc => ?_)
  · replace hS := (if_pos hc).symm.trans hS
    refine g_iconst (v := 0) dX2_dueWithCoins_8 (by decide) ?_
    refine g_istore_n (lvx := [(3, .int ((0 : Int32))), (0, .int (a0)), (1, .int (a1)), (2, .int (a2))]) dX2_dueWithCoins_9 rfl (by decide) rfl ?_
    refine g_iconst (v := 0) dX2_dueWithCoins_10 (by decide) ?_
    refine g_istore (lvx := [(4, .int ((0 : Int32))), (3, .int ((0 : Int32))), (0, .int (a0)), (1, .int (a1)), (2, .int (a2))]) dX2_dueWithCoins_11 (by decide) rfl ?_
    obtain ⟨z6, ez6, hS⟩ := ob hS
    refine g_sub (lvx := [(0, .int (a0)), (1, .int (a1)), (2, .int (a2)), (3, .int ((0 : Int32))), (4, .int ((0 : Int32)))]) [2, 3, 4, 1, 0] rfl ?_
    refine iter_ind (fun vv => G l D cy base RX2 cX2_dueWithCoins 5 (some .int) (gRm 1) (gXm yX2_dueWithCoins) (gZm D cy base 0 0 (some (.int out)) gNN (gH cy base μ)) 13 [(0, .int (a0)), (1, .int (a1)), (2, .int (a2)), (3, .int (vv.1)), (4, .int (vv.2))] [] 0 0 gNN (gH cy base μ)) (fun xx => G l D cy base RX2 cX2_dueWithCoins 5 (some .int) (gRm 1) (gXm yX2_dueWithCoins) (gZm D cy base 0 0 (some (.int out)) gNN (gH cy base μ)) 47 [(0, .int (a0)), (3, .int (xx))] [] 0 0 gNN (gH cy base μ)) (fun vv rr hh hin hout => k_X2_dueWithCoins_b13 μ (a0) (a1) (a2)  vv rr hh hin (fun xx ee => hout xx ee)) gFU (((0 : Int32)), ((0 : Int32))) z6 ez6 ?_
    show G l D cy base RX2 cX2_dueWithCoins 5 (some .int) (gRm 1) (gXm yX2_dueWithCoins) (gZm D cy base 0 0 (some (.int out)) gNN (gH cy base μ)) 47 [(0, .int (a0)), (3, .int (z6))] [] 0 0 gNN (gH cy base μ)
    exact k_X2_dueWithCoins_j47 (μ) (a0) (z6)  hS
  · replace hS := (if_neg hc).symm.trans hS
    refine g_iconst (v := 0) dX2_dueWithCoins_6 (by decide) ?_
    obtain rfl := Option.some.inj hS
    exact g_iret rfl dX2_dueWithCoins_7
def f_X2_spentOn (μ : Mem) (a1 : Int32) (a2 : Int32) (a3 : Int32) : Option (Int32) :=
  (rfA 148 7 1 (a1) isAny).bind fun q1 =>
  (ldA μ q1 13 (a2)).bind fun y2 =>
  (rfA 156 8 1 ((a1 + (1 : Int32))) isAny).bind fun q3 =>
  (ldA μ q3 100 ((a3 - a2))).bind fun y4 =>
  some ((((y2 * (1000 : Int32)) + a2) + y4))
set_option maxRecDepth 100000 in
set_option maxHeartbeats 4000000 in
theorem k_X2_spentOn {l : Launch} {D : va_G} {cy : Nat → ClassId} {base : Nat} (μ : Mem) (a1 : Int32) (a2 : Int32) (a3 : Int32)  {out : Int32} (hS : f_X2_spentOn μ a1 a2 a3 = some out) : gC l D cy base yX2_spentOn cX2_spentOn 4 (some .int) 0 [.ref (base + 145), .int (a1), .int (a2), .int (a3)] μ (some (.int out)) μ := by
  refine gC_of (own := RX2) (lv0 := [(0, .ref (base + 145)), (1, .int (a1)), (2, .int (a2)), (3, .int (a3))]) rfl (by decide) (Nat.le_of_ble_eq_true rfl) rfl ?_
  unfold f_X2_spentOn at hS
  refine g_aload_n (j := 0) (x := base + 145) dX2_spentOn_0 rfl rfl ?_
  refine gs_getR (r := 148) lk_RX2_20 (tk_145 _) rfl dX2_spentOn_1 ?_
  refine g_iload_n (j := 1) (x := a1) dX2_spentOn_4 rfl rfl ?_
  obtain ⟨q1, eq1, hS⟩ := ob hS
  refine gs_aald (t0 := 4) (sd := 0) (ty := .array .int) (tk_148 _) rfl rfl dX2_spentOn_5 eq1 ?_
  refine g_iload_n (j := 2) (x := a2) dX2_spentOn_6 rfl rfl ?_
  obtain ⟨y2, ey2, hS⟩ := ob hS
  refine gs_iald (tkR148 eq1 _) dX2_spentOn_7 ey2 ?_
  refine g_sipush (v := 1000) dX2_spentOn_8 (by decide) ?_
  refine g_imul dX2_spentOn_11 ?_
  refine g_iload_n (j := 2) (x := a2) dX2_spentOn_12 rfl rfl ?_
  refine g_iadd dX2_spentOn_13 ?_
  refine g_aload_n (j := 0) (x := base + 145) dX2_spentOn_14 rfl rfl ?_
  refine gs_getR (r := 156) lk_RX2_23 (tk_145 _) rfl dX2_spentOn_15 ?_
  refine g_iload_n (j := 1) (x := a1) dX2_spentOn_18 rfl rfl ?_
  refine g_iconst (v := 1) dX2_spentOn_19 (by decide) ?_
  refine g_iadd dX2_spentOn_20 ?_
  obtain ⟨q3, eq3, hS⟩ := ob hS
  refine gs_aald (t0 := 4) (sd := 0) (ty := .array .int) (tk_156 _) rfl rfl dX2_spentOn_21 eq3 ?_
  refine g_iload_n (j := 3) (x := a3) dX2_spentOn_22 rfl rfl ?_
  refine g_iload_n (j := 2) (x := a2) dX2_spentOn_23 rfl rfl ?_
  refine g_isub dX2_spentOn_24 ?_
  obtain ⟨y4, ey4, hS⟩ := ob hS
  refine gs_iald (tkR156 eq3 _) dX2_spentOn_25 ey4 ?_
  refine g_iadd dX2_spentOn_26 ?_
  obtain rfl := Option.some.inj hS
  exact g_iret rfl dX2_spentOn_27
def f_X2_leastWith_b6 (m3 : Mem) (x1 : Int32) (x2 : Int32) (v : Int32 × Int32) : Option ((Int32 × Int32) ⊕ ((Int32))) :=
  if (12 : Int32) < v.2 then (
    some (.inr (v.1))
  ) else (
    if x2 < v.2 then (
      some (.inr (v.1))
    ) else (
      (f_X2_spentOn m3 (x1) (v.2) (x2)).bind fun y4 =>
      some (.inl (((mnI (v.1) (y4))), ((v.2 + (1 : Int32)))))
    )
  )
set_option maxRecDepth 100000 in
set_option maxHeartbeats 4000000 in
theorem k_X2_leastWith_b6 {l : Launch} {D : va_G} {cy : Nat → ClassId} {base : Nat} {X : gX} {Z : gZ} (m3 : Mem) (x1 : Int32) (x2 : Int32)  (v : Int32 × Int32) (r : (Int32 × Int32) ⊕ ((Int32))) (hS : f_X2_leastWith_b6 m3 x1 x2 v = some r) (hin : ∀ v2, r = .inl v2 → G l D cy base RX2 cX2_leastWith 5 (some .int) (gRm 1) X Z 6 [(0, .ref (base + 145)), (1, .int (x1)), (2, .int (x2)), (3, .int (v2.1)), (4, .int (v2.2))] [] 0 0 gNN (gH cy base m3)) (hout0 : ∀ x, r = .inr x → G l D cy base RX2 cX2_leastWith 5 (some .int) (gRm 1) X Z 38 [(3, .int (x))] [] 0 0 gNN (gH cy base m3)) : G l D cy base RX2 cX2_leastWith 5 (some .int) (gRm 1) X Z 6 [(0, .ref (base + 145)), (1, .int (x1)), (2, .int (x2)), (3, .int (v.1)), (4, .int (v.2))] [] 0 0 gNN (gH cy base m3) := by
  unfold f_X2_leastWith_b6 at hS
  refine g_iload (j := 4) (x := v.2) dX2_leastWith_6 rfl ?_
  refine g_bipush (v := 12) dX2_leastWith_8 (by decide) ?_
  refine g_icmp_gt 38 dX2_leastWith_10 (by decide) (fun hc => ?_) (fun hc => ?_)
  · replace hS := (if_pos hc).symm.trans hS
    refine g_sub (lvx := [(3, .int (v.1))]) [3] rfl ?_
    obtain rfl := Option.some.inj hS
    exact hout0 ((v.1)) rfl
  · replace hS := (if_neg hc).symm.trans hS
    refine g_iload (j := 4) (x := v.2) dX2_leastWith_13 rfl ?_
    refine g_iload_n (j := 2) (x := x2) dX2_leastWith_15 rfl rfl ?_
    refine g_icmp_gt 38 dX2_leastWith_16 (by decide) (fun hc => ?_) (fun hc => ?_)
    · replace hS := (if_pos hc).symm.trans hS
      refine g_sub (lvx := [(3, .int (v.1))]) [3] rfl ?_
      obtain rfl := Option.some.inj hS
      exact hout0 ((v.1)) rfl
    · replace hS := (if_neg hc).symm.trans hS
      refine g_iload_n (j := 3) (x := v.1) dX2_leastWith_19 rfl rfl ?_
      refine g_aload_n (j := 0) (x := base + 145) dX2_leastWith_20 rfl rfl ?_
      refine g_iload_n (j := 1) (x := x1) dX2_leastWith_21 rfl rfl ?_
      refine g_iload (j := 4) (x := v.2) dX2_leastWith_22 rfl ?_
      refine g_iload_n (j := 2) (x := x2) dX2_leastWith_24 rfl rfl ?_
      obtain ⟨y4, ey4, hS⟩ := ob hS
      refine gs_callVi (As := [.int (x1), .int (v.2), .int (x2)]) (st := [.int (v.1)]) (kr := 145) (k_X2_spentOn m3 (x1) (v.2) (x2)  ey4) cl_RX2_90 sv_X2_spentOn ckk_X2_spentOn (tk_145 _) ⟨by decide, by decide⟩ (Nat.le_of_ble_eq_true rfl) ⟨Nat.zero_le _, Nat.zero_le _⟩ rfl dX2_leastWith_25 rfl ?_
      refine gs_mmin cl_RX2_60 sv_J9_min_7cf53 (by decide) (Nat.le_of_ble_eq_true rfl) (Nat.zero_le _) (Nat.zero_le _) dX2_leastWith_28 ?_
      refine g_istore_n (lvx := [(3, .int ((mnI (v.1) (y4)))), (0, .ref (base + 145)), (1, .int (x1)), (2, .int (x2)), (4, .int (v.2))]) dX2_leastWith_31 rfl (by decide) rfl ?_
      refine g_iinc (j := 4) (x := v.2) (v := (v.2 + (1 : Int32))) (lvx := [(4, .int ((v.2 + (1 : Int32)))), (3, .int ((mnI (v.1) (y4)))), (0, .ref (base + 145)), (1, .int (x1)), (2, .int (x2))]) dX2_leastWith_32 rfl rfl (by decide) rfl ?_
      refine g_goto 6 dX2_leastWith_35 (by decide) ?_
      refine g_sub (lvx := [(0, .ref (base + 145)), (1, .int (x1)), (2, .int (x2)), (3, .int ((mnI (v.1) (y4)))), (4, .int ((v.2 + (1 : Int32))))]) [2, 3, 4, 1, 0] rfl ?_
      obtain rfl := Option.some.inj hS
      exact hin ((((mnI (v.1) (y4))), ((v.2 + (1 : Int32))))) rfl
def f_X2_leastWith (μ : Mem) (a1 : Int32) (a2 : Int32) : Option (Int32) :=
  (iter gFU (f_X2_leastWith_b6 μ (a1) (a2)) (((1000000000 : Int32)), ((0 : Int32)))).bind fun z5 =>
  some (z5)
set_option maxRecDepth 100000 in
set_option maxHeartbeats 4000000 in
theorem k_X2_leastWith {l : Launch} {D : va_G} {cy : Nat → ClassId} {base : Nat} (μ : Mem) (a1 : Int32) (a2 : Int32)  {out : Int32} (hS : f_X2_leastWith μ a1 a2 = some out) : gC l D cy base yX2_leastWith cX2_leastWith 5 (some .int) 1 [.ref (base + 145), .int (a1), .int (a2)] μ (some (.int out)) μ := by
  refine gC_of (own := RX2) (lv0 := [(0, .ref (base + 145)), (1, .int (a1)), (2, .int (a2))]) rfl (by decide) (Nat.le_of_ble_eq_true rfl) rfl ?_
  unfold f_X2_leastWith at hS
  refine g_ldc cs_RX2_34 dX2_leastWith_0 ?_
  refine g_istore_n (lvx := [(3, .int ((1000000000 : Int32))), (0, .ref (base + 145)), (1, .int (a1)), (2, .int (a2))]) dX2_leastWith_2 rfl (by decide) rfl ?_
  refine g_iconst (v := 0) dX2_leastWith_3 (by decide) ?_
  refine g_istore (lvx := [(4, .int ((0 : Int32))), (3, .int ((1000000000 : Int32))), (0, .ref (base + 145)), (1, .int (a1)), (2, .int (a2))]) dX2_leastWith_4 (by decide) rfl ?_
  obtain ⟨z5, ez5, hS⟩ := ob hS
  refine g_sub (lvx := [(0, .ref (base + 145)), (1, .int (a1)), (2, .int (a2)), (3, .int ((1000000000 : Int32))), (4, .int ((0 : Int32)))]) [2, 3, 4, 1, 0] rfl ?_
  refine iter_ind (fun vv => G l D cy base RX2 cX2_leastWith 5 (some .int) (gRm 1) (gXm yX2_leastWith) (gZm D cy base 0 0 (some (.int out)) gNN (gH cy base μ)) 6 [(0, .ref (base + 145)), (1, .int (a1)), (2, .int (a2)), (3, .int (vv.1)), (4, .int (vv.2))] [] 0 0 gNN (gH cy base μ)) (fun xx => G l D cy base RX2 cX2_leastWith 5 (some .int) (gRm 1) (gXm yX2_leastWith) (gZm D cy base 0 0 (some (.int out)) gNN (gH cy base μ)) 38 [(3, .int (xx))] [] 0 0 gNN (gH cy base μ)) (fun vv rr hh hin hout => k_X2_leastWith_b6 μ (a1) (a2)  vv rr hh hin (fun xx ee => hout xx ee)) gFU (((1000000000 : Int32)), ((0 : Int32))) z5 ez5 ?_
  show G l D cy base RX2 cX2_leastWith 5 (some .int) (gRm 1) (gXm yX2_leastWith) (gZm D cy base 0 0 (some (.int out)) gNN (gH cy base μ)) 38 [(3, .int (z5))] [] 0 0 gNN (gH cy base μ)
  refine g_iload_n (j := 0) (x := z5) dX2_leastWith_38 rfl rfl ?_
  obtain rfl := Option.some.inj hS
  exact g_iret rfl dX2_leastWith_39
def f_X2_spend_b29 (q7 : Nat) (q8 : Nat) (x9 : Int32) (x10 : Int32) (v : Int32 × Mem) : Option ((Int32 × Mem) ⊕ ((Mem))) :=
  if (12 : Int32) < v.1 then (
    some (.inr (v.2))
  ) else (
    (rfA 148 7 1 (x10) isAny).bind fun q11 =>
    (ldA v.2 (q8 + 1) 7 (x10)).bind fun y12 =>
    (ldA v.2 (q8 + 2) 7 (x10)).bind fun y13 =>
    (f_X2_dueWithCoins v.2 (y12) (((gi v.2 q7 9) - y13)) (v.1)).bind fun y14 =>
    (stA v.2 q11 13 (v.1) (y14)).bind fun m15 =>
    some (.inl (((v.1 + (1 : Int32))), (m15)))
  )
set_option maxRecDepth 100000 in
set_option maxHeartbeats 4000000 in
theorem k_X2_spend_b29 {l : Launch} {D : va_G} {cy : Nat → ClassId} {base : Nat} {X : gX} {Z : gZ} (q7 : Nat) (q8 : Nat) (x9 : Int32) (x10 : Int32) (hq7 : isPl q7 = true) (hq8 : isMo q8 = true) (v : Int32 × Mem) (r : (Int32 × Mem) ⊕ ((Mem))) (hS : f_X2_spend_b29 q7 q8 x9 x10 v = some r) (hin : ∀ v2, r = .inl v2 → G l D cy base RX2 cX2_spend 6 none (gRm 2) X Z 29 [(0, .ref (base + 145)), (1, .ref (base + q7)), (2, .ref (base + q8)), (3, .int (x9)), (4, .int (x10)), (5, .int (v2.1))] [] 0 0 gNN (gH cy base v2.2)) (hout0 : ∀ x, r = .inr x → G l D cy base RX2 cX2_spend 6 none (gRm 2) X Z 76 [(0, .ref (base + 145)), (1, .ref (base + q7)), (2, .ref (base + q8)), (3, .int (x9)), (4, .int (x10))] [] 0 0 gNN (gH cy base x)) : G l D cy base RX2 cX2_spend 6 none (gRm 2) X Z 29 [(0, .ref (base + 145)), (1, .ref (base + q7)), (2, .ref (base + q8)), (3, .int (x9)), (4, .int (x10)), (5, .int (v.1))] [] 0 0 gNN (gH cy base v.2) := by
  unfold f_X2_spend_b29 at hS
  refine g_iload (j := 5) (x := v.1) dX2_spend_29 rfl ?_
  refine g_bipush (v := 12) dX2_spend_31 (by decide) ?_
  refine g_icmp_gt 76 dX2_spend_33 (by decide) (fun hc => ?_) (fun hc => ?_)
  · replace hS := (if_pos hc).symm.trans hS
    refine g_sub (lvx := [(0, .ref (base + 145)), (1, .ref (base + q7)), (2, .ref (base + q8)), (3, .int (x9)), (4, .int (x10))]) [0, 1, 2, 3, 4] rfl ?_
    obtain rfl := Option.some.inj hS
    exact hout0 ((v.2)) rfl
  · replace hS := (if_neg hc).symm.trans hS
    refine g_aload_n (j := 0) (x := base + 145) dX2_spend_36 rfl rfl ?_
    refine gs_getR (r := 148) lk_RX2_20 (tk_145 _) rfl dX2_spend_37 ?_
    refine g_iload (j := 4) (x := x10) dX2_spend_40 rfl ?_
    obtain ⟨q11, eq11, hS⟩ := ob hS
    refine gs_aald (t0 := 4) (sd := 0) (ty := .array .int) (tk_148 _) rfl rfl dX2_spend_42 eq11 ?_
    refine g_iload (j := 5) (x := v.1) dX2_spend_43 rfl ?_
    refine g_aload_n (j := 2) (x := base + q8) dX2_spend_45 rfl rfl ?_
    refine gs_getR (r := (q8 + 1)) lk_RX2_72 (tkMo_0 hq8 _) rfl dX2_spend_46 ?_
    refine g_iload (j := 4) (x := x10) dX2_spend_49 rfl ?_
    obtain ⟨y12, ey12, hS⟩ := ob hS
    refine gs_iald (tkMo_1 hq8 _) dX2_spend_51 ey12 ?_
    refine g_aload_n (j := 1) (x := base + q7) dX2_spend_52 rfl rfl ?_
    refine gs_getI lk_RX2_77 (tkPl_0 hq7 _) rfl dX2_spend_53 ?_
    refine g_aload_n (j := 2) (x := base + q8) dX2_spend_56 rfl rfl ?_
    refine gs_getR (r := (q8 + 2)) lk_RX2_80 (tkMo_0 hq8 _) rfl dX2_spend_57 ?_
    refine g_iload (j := 4) (x := x10) dX2_spend_60 rfl ?_
    obtain ⟨y13, ey13, hS⟩ := ob hS
    refine gs_iald (tkMo_2 hq8 _) dX2_spend_62 ey13 ?_
    refine g_isub dX2_spend_63 ?_
    refine g_iload (j := 5) (x := v.1) dX2_spend_64 rfl ?_
    obtain ⟨y14, ey14, hS⟩ := ob hS
    refine gs_callSi (As := [.int (y12), .int (((gi v.2 q7 9) - y13)), .int (v.1)]) (st := [.int (v.1), .ref (base + q11)]) (k_X2_dueWithCoins v.2 (y12) (((gi v.2 q7 9) - y13)) (v.1)  ey14) cl_RX2_83 sv_X2_dueWithCoins ⟨by decide, by decide⟩ (Nat.le_of_ble_eq_true rfl) ⟨Nat.zero_le _, Nat.zero_le _⟩ rfl dX2_spend_66 rfl ?_
    obtain ⟨m15, em15, hS⟩ := ob hS
    refine gs_iast (tkR148 eq11 _) dX2_spend_69 em15 ?_
    refine g_iinc (j := 5) (x := v.1) (v := (v.1 + (1 : Int32))) (lvx := [(5, .int ((v.1 + (1 : Int32)))), (0, .ref (base + 145)), (1, .ref (base + q7)), (2, .ref (base + q8)), (3, .int (x9)), (4, .int (x10))]) dX2_spend_70 rfl rfl (by decide) rfl ?_
    refine g_goto 29 dX2_spend_73 (by decide) ?_
    refine g_sub (lvx := [(0, .ref (base + 145)), (1, .ref (base + q7)), (2, .ref (base + q8)), (3, .int (x9)), (4, .int (x10)), (5, .int ((v.1 + (1 : Int32))))]) [1, 2, 3, 4, 5, 0] rfl ?_
    obtain rfl := Option.some.inj hS
    exact hin ((((v.1 + (1 : Int32))), (m15))) rfl
def f_X2_spend_b79 (q17 : Nat) (q18 : Nat) (x19 : Int32) (x20 : Int32) (v : Int32 × Mem) : Option ((Int32 × Mem) ⊕ ((Mem))) :=
  if x19 < v.1 then (
    some (.inr (v.2))
  ) else (
    (rfA 156 8 1 (x20) isAny).bind fun q21 =>
    (f_X2_leastWith v.2 (x20) (v.1)).bind fun y22 =>
    (stA v.2 q21 100 (v.1) (y22)).bind fun m23 =>
    some (.inl (((v.1 + (1 : Int32))), (m23)))
  )
set_option maxRecDepth 100000 in
set_option maxHeartbeats 4000000 in
theorem k_X2_spend_b79 {l : Launch} {D : va_G} {cy : Nat → ClassId} {base : Nat} {X : gX} {Z : gZ} (q17 : Nat) (q18 : Nat) (x19 : Int32) (x20 : Int32) (hq17 : isPl q17 = true) (hq18 : isMo q18 = true) (v : Int32 × Mem) (r : (Int32 × Mem) ⊕ ((Mem))) (hS : f_X2_spend_b79 q17 q18 x19 x20 v = some r) (hin : ∀ v2, r = .inl v2 → G l D cy base RX2 cX2_spend 6 none (gRm 2) X Z 79 [(0, .ref (base + 145)), (1, .ref (base + q17)), (2, .ref (base + q18)), (3, .int (x19)), (4, .int (x20)), (5, .int (v2.1))] [] 0 0 gNN (gH cy base v2.2)) (hout0 : ∀ x, r = .inr x → G l D cy base RX2 cX2_spend 6 none (gRm 2) X Z 109 [(0, .ref (base + 145)), (1, .ref (base + q17)), (2, .ref (base + q18)), (3, .int (x19)), (4, .int (x20))] [] 0 0 gNN (gH cy base x)) : G l D cy base RX2 cX2_spend 6 none (gRm 2) X Z 79 [(0, .ref (base + 145)), (1, .ref (base + q17)), (2, .ref (base + q18)), (3, .int (x19)), (4, .int (x20)), (5, .int (v.1))] [] 0 0 gNN (gH cy base v.2) := by
  unfold f_X2_spend_b79 at hS
  refine g_iload (j := 5) (x := v.1) dX2_spend_79 rfl ?_
  refine g_iload_n (j := 3) (x := x19) dX2_spend_81 rfl rfl ?_
  refine g_icmp_gt 109 dX2_spend_82 (by decide) (fun hc => ?_) (fun hc => ?_)
  · replace hS := (if_pos hc).symm.trans hS
    refine g_sub (lvx := [(0, .ref (base + 145)), (1, .ref (base + q17)), (2, .ref (base + q18)), (3, .int (x19)), (4, .int (x20))]) [0, 1, 2, 3, 4] rfl ?_
    obtain rfl := Option.some.inj hS
    exact hout0 ((v.2)) rfl
  · replace hS := (if_neg hc).symm.trans hS
    refine g_aload_n (j := 0) (x := base + 145) dX2_spend_85 rfl rfl ?_
    refine gs_getR (r := 156) lk_RX2_23 (tk_145 _) rfl dX2_spend_86 ?_
    refine g_iload (j := 4) (x := x20) dX2_spend_89 rfl ?_
    obtain ⟨q21, eq21, hS⟩ := ob hS
    refine gs_aald (t0 := 4) (sd := 0) (ty := .array .int) (tk_156 _) rfl rfl dX2_spend_91 eq21 ?_
    refine g_iload (j := 5) (x := v.1) dX2_spend_92 rfl ?_
    refine g_aload_n (j := 0) (x := base + 145) dX2_spend_94 rfl rfl ?_
    refine g_iload (j := 4) (x := x20) dX2_spend_95 rfl ?_
    refine g_iload (j := 5) (x := v.1) dX2_spend_97 rfl ?_
    obtain ⟨y22, ey22, hS⟩ := ob hS
    refine gs_callVi (As := [.int (x20), .int (v.1)]) (st := [.int (v.1), .ref (base + q21)]) (kr := 145) (k_X2_leastWith v.2 (x20) (v.1)  ey22) cl_RX2_87 sv_X2_leastWith ckk_X2_leastWith (tk_145 _) ⟨by decide, by decide⟩ (Nat.le_of_ble_eq_true rfl) ⟨Nat.zero_le _, Nat.zero_le _⟩ rfl dX2_spend_99 rfl ?_
    obtain ⟨m23, em23, hS⟩ := ob hS
    refine gs_iast (tkR156 eq21 _) dX2_spend_102 em23 ?_
    refine g_iinc (j := 5) (x := v.1) (v := (v.1 + (1 : Int32))) (lvx := [(5, .int ((v.1 + (1 : Int32)))), (0, .ref (base + 145)), (1, .ref (base + q17)), (2, .ref (base + q18)), (3, .int (x19)), (4, .int (x20))]) dX2_spend_103 rfl rfl (by decide) rfl ?_
    refine g_goto 79 dX2_spend_106 (by decide) ?_
    refine g_sub (lvx := [(0, .ref (base + 145)), (1, .ref (base + q17)), (2, .ref (base + q18)), (3, .int (x19)), (4, .int (x20)), (5, .int ((v.1 + (1 : Int32))))]) [1, 2, 3, 4, 5, 0] rfl ?_
    obtain rfl := Option.some.inj hS
    exact hin ((((v.1 + (1 : Int32))), (m23))) rfl
def f_X2_spend_b21 (q4 : Nat) (q5 : Nat) (x6 : Int32) (v : Int32 × Mem) : Option ((Int32 × Mem) ⊕ ((Mem))) :=
  if v.1 < (0 : Int32) then (
    some (.inr (v.2))
  ) else (
    (iter gFU (f_X2_spend_b29  (q4) (q5) (x6) (v.1)) (((0 : Int32)), v.2)).bind fun z16 =>
    (iter gFU (f_X2_spend_b79  (q4) (q5) (x6) (v.1)) (((0 : Int32)), z16)).bind fun z24 =>
    some (.inl (((v.1 + (-1 : Int32))), (z24)))
  )
set_option maxRecDepth 100000 in
set_option maxHeartbeats 4000000 in
theorem k_X2_spend_b21 {l : Launch} {D : va_G} {cy : Nat → ClassId} {base : Nat} {X : gX} {Z : gZ} (q4 : Nat) (q5 : Nat) (x6 : Int32) (hq4 : isPl q4 = true) (hq5 : isMo q5 = true) (v : Int32 × Mem) (r : (Int32 × Mem) ⊕ ((Mem))) (hS : f_X2_spend_b21 q4 q5 x6 v = some r) (hin : ∀ v2, r = .inl v2 → G l D cy base RX2 cX2_spend 6 none (gRm 2) X Z 21 [(0, .ref (base + 145)), (1, .ref (base + q4)), (2, .ref (base + q5)), (3, .int (x6)), (4, .int (v2.1))] [] 0 0 gNN (gH cy base v2.2)) (hout0 : ∀ x, r = .inr x → G l D cy base RX2 cX2_spend 6 none (gRm 2) X Z 115 [] [] 0 0 gNN (gH cy base x)) : G l D cy base RX2 cX2_spend 6 none (gRm 2) X Z 21 [(0, .ref (base + 145)), (1, .ref (base + q4)), (2, .ref (base + q5)), (3, .int (x6)), (4, .int (v.1))] [] 0 0 gNN (gH cy base v.2) := by
  unfold f_X2_spend_b21 at hS
  refine g_iload (j := 4) (x := v.1) dX2_spend_21 rfl ?_
  refine g_if_lt 115 dX2_spend_23 (by decide) (fun hc => ?_) (fun hc => ?_)
  · replace hS := (if_pos hc).symm.trans hS
    refine g_sub (lvx := []) [] rfl ?_
    obtain rfl := Option.some.inj hS
    exact hout0 ((v.2)) rfl
  · replace hS := (if_neg hc).symm.trans hS
    refine g_iconst (v := 0) dX2_spend_26 (by decide) ?_
    refine g_istore (lvx := [(5, .int ((0 : Int32))), (0, .ref (base + 145)), (1, .ref (base + q4)), (2, .ref (base + q5)), (3, .int (x6)), (4, .int (v.1))]) dX2_spend_27 (by decide) rfl ?_
    obtain ⟨z16, ez16, hS⟩ := ob hS
    refine g_sub (lvx := [(0, .ref (base + 145)), (1, .ref (base + q4)), (2, .ref (base + q5)), (3, .int (x6)), (4, .int (v.1)), (5, .int ((0 : Int32)))]) [1, 2, 3, 4, 5, 0] rfl ?_
    refine iter_ind (fun vv => G l D cy base RX2 cX2_spend 6 none (gRm 2) X Z 29 [(0, .ref (base + 145)), (1, .ref (base + q4)), (2, .ref (base + q5)), (3, .int (x6)), (4, .int (v.1)), (5, .int (vv.1))] [] 0 0 gNN (gH cy base vv.2)) (fun xx => G l D cy base RX2 cX2_spend 6 none (gRm 2) X Z 76 [(0, .ref (base + 145)), (1, .ref (base + q4)), (2, .ref (base + q5)), (3, .int (x6)), (4, .int (v.1))] [] 0 0 gNN (gH cy base xx)) (fun vv rr hh hin hout => k_X2_spend_b29  (q4) (q5) (x6) (v.1) hq4 hq5 vv rr hh hin (fun xx ee => hout xx ee)) gFU (((0 : Int32)), v.2) z16 ez16 ?_
    show G l D cy base RX2 cX2_spend 6 none (gRm 2) X Z 76 [(0, .ref (base + 145)), (1, .ref (base + q4)), (2, .ref (base + q5)), (3, .int (x6)), (4, .int (v.1))] [] 0 0 gNN (gH cy base z16)
    refine g_iconst (v := 0) dX2_spend_76 (by decide) ?_
    refine g_istore (lvx := [(5, .int ((0 : Int32))), (0, .ref (base + 145)), (1, .ref (base + q4)), (2, .ref (base + q5)), (3, .int (x6)), (4, .int (v.1))]) dX2_spend_77 (by decide) rfl ?_
    obtain ⟨z24, ez24, hS⟩ := ob hS
    refine g_sub (lvx := [(0, .ref (base + 145)), (1, .ref (base + q4)), (2, .ref (base + q5)), (3, .int (x6)), (4, .int (v.1)), (5, .int ((0 : Int32)))]) [1, 2, 3, 4, 5, 0] rfl ?_
    refine iter_ind (fun vv => G l D cy base RX2 cX2_spend 6 none (gRm 2) X Z 79 [(0, .ref (base + 145)), (1, .ref (base + q4)), (2, .ref (base + q5)), (3, .int (x6)), (4, .int (v.1)), (5, .int (vv.1))] [] 0 0 gNN (gH cy base vv.2)) (fun xx => G l D cy base RX2 cX2_spend 6 none (gRm 2) X Z 109 [(0, .ref (base + 145)), (1, .ref (base + q4)), (2, .ref (base + q5)), (3, .int (x6)), (4, .int (v.1))] [] 0 0 gNN (gH cy base xx)) (fun vv rr hh hin hout => k_X2_spend_b79  (q4) (q5) (x6) (v.1) hq4 hq5 vv rr hh hin (fun xx ee => hout xx ee)) gFU (((0 : Int32)), z16) z24 ez24 ?_
    show G l D cy base RX2 cX2_spend 6 none (gRm 2) X Z 109 [(0, .ref (base + 145)), (1, .ref (base + q4)), (2, .ref (base + q5)), (3, .int (x6)), (4, .int (v.1))] [] 0 0 gNN (gH cy base z24)
    refine g_iinc (j := 4) (x := v.1) (v := (v.1 + (-1 : Int32))) (lvx := [(4, .int ((v.1 + (-1 : Int32)))), (0, .ref (base + 145)), (1, .ref (base + q4)), (2, .ref (base + q5)), (3, .int (x6))]) dX2_spend_109 rfl rfl (by decide) rfl ?_
    refine g_goto 21 dX2_spend_112 (by decide) ?_
    refine g_sub (lvx := [(0, .ref (base + 145)), (1, .ref (base + q4)), (2, .ref (base + q5)), (3, .int (x6)), (4, .int ((v.1 + (-1 : Int32))))]) [1, 2, 3, 4, 0] rfl ?_
    obtain rfl := Option.some.inj hS
    exact hin ((((v.1 + (-1 : Int32))), (z24))) rfl
def f_X2_spend (μ : Mem) (q1a : Nat) (q2a : Nat) (a3 : Int32) : Option (Mem) :=
  (rfA 156 8 1 ((gi μ q1a 7)) isAny).bind fun q1 =>
  (f_J7_fill_53178 μ (q1) 100 ((0 : Int32))).bind fun m3 =>
  (iter gFU (f_X2_spend_b21  (q1a) (q2a) (a3)) ((((gi m3 q1a 7) - (1 : Int32))), m3)).bind fun z25 =>
  some z25
set_option maxRecDepth 100000 in
set_option maxHeartbeats 4000000 in
theorem k_X2_spend {l : Launch} {D : va_G} {cy : Nat → ClassId} {base : Nat} (μ : Mem) (q1a : Nat) (q2a : Nat) (a3 : Int32) (hq1a : isPl q1a = true) (hq2a : isMo q2a = true) {out : Mem} (hS : f_X2_spend μ q1a q2a a3 = some out) : gC l D cy base yX2_spend cX2_spend 6 none 2 [.ref (base + 145), .ref (base + q1a), .ref (base + q2a), .int (a3)] μ none out := by
  refine gC_of (own := RX2) (lv0 := [(0, .ref (base + 145)), (1, .ref (base + q1a)), (2, .ref (base + q2a)), (3, .int (a3))]) rfl (by decide) (Nat.le_of_ble_eq_true rfl) rfl ?_
  unfold f_X2_spend at hS
  refine g_aload_n (j := 0) (x := base + 145) dX2_spend_0 rfl rfl ?_
  refine gs_getR (r := 156) lk_RX2_23 (tk_145 _) rfl dX2_spend_1 ?_
  refine g_aload_n (j := 1) (x := base + q1a) dX2_spend_4 rfl rfl ?_
  refine gs_getI lk_RX2_69 (tkPl_0 hq1a _) rfl dX2_spend_5 ?_
  obtain ⟨q1, eq1, hS⟩ := ob hS
  refine gs_aald (t0 := 4) (sd := 0) (ty := .array .int) (tk_156 _) rfl rfl dX2_spend_8 eq1 ?_
  refine g_iconst (v := 0) dX2_spend_9 (by decide) ?_
  obtain ⟨m3, em3, hS⟩ := ob hS
  refine gs_callSv (As := [.ref (base + q1), .int ((0 : Int32))]) (st := []) (k_J7_fill_53178 μ (q1) 100 ((0 : Int32)) (tkR156 eq1) em3) cl_RX2_35 sv_J7_fill_53178 ⟨by decide, by decide⟩ (Nat.le_of_ble_eq_true rfl) ⟨Nat.zero_le _, Nat.zero_le _⟩ rfl dX2_spend_10 rfl ?_
  refine g_aload_n (j := 1) (x := base + q1a) dX2_spend_13 rfl rfl ?_
  refine gs_getI lk_RX2_69 (tkPl_0 hq1a _) rfl dX2_spend_14 ?_
  refine g_iconst (v := 1) dX2_spend_17 (by decide) ?_
  refine g_isub dX2_spend_18 ?_
  refine g_istore (lvx := [(4, .int (((gi m3 q1a 7) - (1 : Int32)))), (0, .ref (base + 145)), (1, .ref (base + q1a)), (2, .ref (base + q2a)), (3, .int (a3))]) dX2_spend_19 (by decide) rfl ?_
  obtain ⟨z25, ez25, hS⟩ := ob hS
  refine g_sub (lvx := [(0, .ref (base + 145)), (1, .ref (base + q1a)), (2, .ref (base + q2a)), (3, .int (a3)), (4, .int (((gi m3 q1a 7) - (1 : Int32))))]) [1, 2, 3, 4, 0] rfl ?_
  refine iter_ind (fun vv => G l D cy base RX2 cX2_spend 6 none (gRm 2) (gXm yX2_spend) (gZm D cy base 0 0 none gNN (gH cy base out)) 21 [(0, .ref (base + 145)), (1, .ref (base + q1a)), (2, .ref (base + q2a)), (3, .int (a3)), (4, .int (vv.1))] [] 0 0 gNN (gH cy base vv.2)) (fun xx => G l D cy base RX2 cX2_spend 6 none (gRm 2) (gXm yX2_spend) (gZm D cy base 0 0 none gNN (gH cy base out)) 115 [] [] 0 0 gNN (gH cy base xx)) (fun vv rr hh hin hout => k_X2_spend_b21  (q1a) (q2a) (a3) hq1a hq2a vv rr hh hin (fun xx ee => hout xx ee)) gFU ((((gi m3 q1a 7) - (1 : Int32))), m3) z25 ez25 ?_
  show G l D cy base RX2 cX2_spend 6 none (gRm 2) (gXm yX2_spend) (gZm D cy base 0 0 none gNN (gH cy base out)) 115 [] [] 0 0 gNN (gH cy base z25)
  obtain rfl := Option.some.inj hS
  exact g_vret rfl dX2_spend_115

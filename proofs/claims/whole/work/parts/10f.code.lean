def f_X9_reads_b2  (v : Int32 × Mem) : Option ((Int32 × Mem) ⊕ ((Mem))) :=
  if (49 : Int32) ≤ v.1 then (
    some (.inr (v.2))
  ) else (
    (stA v.2 189 49 (v.1) ((0 : Int32))).bind fun m1 =>
    some (.inl (((v.1 + (1 : Int32))), (m1)))
  )
set_option maxRecDepth 100000 in
set_option maxHeartbeats 4000000 in
theorem k_X9_reads_b2 {l : Launch} {D : va_G} {cy : Nat → ClassId} {base : Nat} {X : gX} {Z : gZ}   (v : Int32 × Mem) (r : (Int32 × Mem) ⊕ ((Mem))) (hS : f_X9_reads_b2  v = some r) (hin : ∀ v2, r = .inl v2 → G l D cy base RX9 cX9_reads 2 (some .boolean) (gRm 6) X Z 2 [(0, .ref (base + 186)), (1, .int (v2.1))] [] 0 0 gNN (gH cy base v2.2)) (hout0 : ∀ x, r = .inr x → G l D cy base RX9 cX9_reads 2 (some .boolean) (gRm 6) X Z 21 [(0, .ref (base + 186))] [] 0 0 gNN (gH cy base x)) : G l D cy base RX9 cX9_reads 2 (some .boolean) (gRm 6) X Z 2 [(0, .ref (base + 186)), (1, .int (v.1))] [] 0 0 gNN (gH cy base v.2) := by
  unfold f_X9_reads_b2 at hS
  refine g_iload_n (j := 1) (x := v.1) dX9_reads_2 rfl rfl ?_
  refine g_bipush (v := 49) dX9_reads_3 (by decide) ?_
  refine g_icmp_ge 21 dX9_reads_5 (by decide) (fun hc => ?_) (fun hc => ?_)
  · replace hS := (if_pos hc).symm.trans hS
    refine g_sub (lvx := [(0, .ref (base + 186))]) [0] rfl ?_
    obtain rfl := Option.some.inj hS
    exact hout0 ((v.2)) rfl
  · replace hS := (if_neg hc).symm.trans hS
    refine g_aload_n (j := 0) (x := base + 186) dX9_reads_8 rfl rfl ?_
    refine gs_getR (r := 189) lk_RX9_16 (tk_186 _) rfl dX9_reads_9 ?_
    refine g_iload_n (j := 1) (x := v.1) dX9_reads_12 rfl rfl ?_
    refine g_iconst (v := 0) dX9_reads_13 (by decide) ?_
    obtain ⟨m1, em1, hS⟩ := ob hS
    refine gs_iast (tk_189 _) dX9_reads_14 em1 ?_
    refine g_iinc (j := 1) (x := v.1) (v := (v.1 + (1 : Int32))) (lvx := [(1, .int ((v.1 + (1 : Int32)))), (0, .ref (base + 186))]) dX9_reads_15 rfl rfl (by decide) rfl ?_
    refine g_goto 2 dX9_reads_18 (by decide) ?_
    refine g_sub (lvx := [(0, .ref (base + 186)), (1, .int ((v.1 + (1 : Int32))))]) [1, 0] rfl ?_
    obtain rfl := Option.some.inj hS
    exact hin ((((v.1 + (1 : Int32))), (m1))) rfl
def f_X9_reads_b44  (v : Mem) : Option ((Mem) ⊕ ((Mem) ⊕ (Mem) ⊕ (Mem))) :=
  if (gi v 186 9) = (0 : Int32) then (
    some (.inr (.inr ((.inr ((v))))))
  ) else (
    (f_X9_readsItem v ).bind fun z8 =>
    if z8.1 = (0 : Int32) then (
      some (.inr (.inl (z8.2)))
    ) else (
      (f_X9_token z8.2 ).bind fun m10 =>
      if (gi m10 186 9) = (3 : Int32) then (
        (ldA m10 189 49 ((4 : Int32))).bind fun y11 =>
        (stA m10 189 49 ((4 : Int32)) ((y11 + (1 : Int32)))).bind fun m12 =>
        (f_X9_token m12 ).bind fun m14 =>
        some (.inl (m14))
      ) else (
        some (.inr (.inr ((.inl (m10)))))
      )
    )
  )
set_option maxRecDepth 100000 in
set_option maxHeartbeats 4000000 in
theorem k_X9_reads_b44 {l : Launch} {D : va_G} {cy : Nat → ClassId} {base : Nat} {X : gX} {Z : gZ}   (v : Mem) (r : (Mem) ⊕ ((Mem) ⊕ (Mem) ⊕ (Mem))) (hS : f_X9_reads_b44  v = some r) (hin : ∀ v2, r = .inl v2 → G l D cy base RX9 cX9_reads 2 (some .boolean) (gRm 6) X Z 44 [(0, .ref (base + 186))] [] 0 0 gNN (gH cy base v2)) (hout0 : ∀ x, r = .inr (.inl x) → G l D cy base RX9 cX9_reads 2 (some .boolean) (gRm 6) X Z 58 [] [] 0 0 gNN (gH cy base x)) (hout1 : ∀ x, r = .inr (.inr ((.inl x))) → G l D cy base RX9 cX9_reads 2 (some .boolean) (gRm 6) X Z 72 [] [] 0 0 gNN (gH cy base x)) (hout2 : ∀ x, r = .inr (.inr ((.inr (x)))) → G l D cy base RX9 cX9_reads 2 (some .boolean) (gRm 6) X Z 91 [] [] 0 0 gNN (gH cy base x)) : G l D cy base RX9 cX9_reads 2 (some .boolean) (gRm 6) X Z 44 [(0, .ref (base + 186))] [] 0 0 gNN (gH cy base v) := by
  unfold f_X9_reads_b44 at hS
  refine g_aload_n (j := 0) (x := base + 186) dX9_reads_44 rfl rfl ?_
  refine gs_getI lk_RX9_79 (tk_186 _) rfl dX9_reads_45 ?_
  refine g_if_eq 91 dX9_reads_48 (by decide) (fun hc => ?_) (fun hc => ?_)
  · replace hS := (if_pos hc).symm.trans hS
    refine g_sub (lvx := []) [] rfl ?_
    obtain rfl := Option.some.inj hS
    exact hout2 ((v)) rfl
  · replace hS := (if_neg hc).symm.trans hS
    refine g_aload_n (j := 0) (x := base + 186) dX9_reads_51 rfl rfl ?_
    obtain ⟨z8, ez8, hS⟩ := ob hS
    refine gs_callVi (As := []) (st := []) (kr := 186) (k_X9_readsItem v   ez8) cl_RX9_101 sv_X9_readsItem ckk_X9_readsItem (tk_186 _) ⟨by decide, by decide⟩ (Nat.le_of_ble_eq_true rfl) ⟨Nat.zero_le _, Nat.zero_le _⟩ rfl dX9_reads_52 rfl ?_
    refine g_if_ne 60 dX9_reads_55 (by decide) (fun hc => ?_) (fun hc => ?_)
    · replace hS := (if_neg hc).symm.trans hS
      refine g_aload_n (j := 0) (x := base + 186) dX9_reads_60 rfl rfl ?_
      obtain ⟨m10, em10, hS⟩ := ob hS
      refine gs_callVv (As := []) (st := []) (kr := 186) (k_X9_token z8.2   em10) cl_RX9_85 sv_X9_token ckk_X9_token (tk_186 _) ⟨by decide, by decide⟩ (Nat.le_of_ble_eq_true rfl) ⟨Nat.zero_le _, Nat.zero_le _⟩ rfl dX9_reads_61 rfl ?_
      refine g_aload_n (j := 0) (x := base + 186) dX9_reads_64 rfl rfl ?_
      refine gs_getI lk_RX9_79 (tk_186 _) rfl dX9_reads_65 ?_
      refine g_iconst (v := 3) dX9_reads_68 (by decide) ?_
      refine g_icmp_eq 74 dX9_reads_69 (by decide) (fun hc => ?_) (fun hc => ?_)
      · replace hS := (if_pos hc).symm.trans hS
        refine g_aload_n (j := 0) (x := base + 186) dX9_reads_74 rfl rfl ?_
        refine gs_getR (r := 189) lk_RX9_16 (tk_186 _) rfl dX9_reads_75 ?_
        refine g_iconst (v := 4) dX9_reads_78 (by decide) ?_
        refine g_dup2 dX9_reads_79 rfl rfl ?_
        obtain ⟨y11, ey11, hS⟩ := ob hS
        refine gs_iald (tk_189 _) dX9_reads_80 ey11 ?_
        refine g_iconst (v := 1) dX9_reads_81 (by decide) ?_
        refine g_iadd dX9_reads_82 ?_
        obtain ⟨m12, em12, hS⟩ := ob hS
        refine gs_iast (tk_189 _) dX9_reads_83 em12 ?_
        refine g_aload_n (j := 0) (x := base + 186) dX9_reads_84 rfl rfl ?_
        obtain ⟨m14, em14, hS⟩ := ob hS
        refine gs_callVv (As := []) (st := []) (kr := 186) (k_X9_token m12   em14) cl_RX9_85 sv_X9_token ckk_X9_token (tk_186 _) ⟨by decide, by decide⟩ (Nat.le_of_ble_eq_true rfl) ⟨Nat.zero_le _, Nat.zero_le _⟩ rfl dX9_reads_85 rfl ?_
        refine g_goto 44 dX9_reads_88 (by decide) ?_
        obtain rfl := Option.some.inj hS
        exact hin ((m14)) rfl
      · replace hS := (if_neg hc).symm.trans hS
        refine g_sub (lvx := []) [] rfl ?_
        obtain rfl := Option.some.inj hS
        exact hout1 ((m10)) rfl
    · replace hS := (if_pos hc).symm.trans hS
      refine g_sub (lvx := []) [] rfl ?_
      obtain rfl := Option.some.inj hS
      exact hout0 ((z8.2)) rfl
def f_X9_reads (μ : Mem)  : Option (Int32 × Mem) :=
  (iter gFU (f_X9_reads_b2  ) (((0 : Int32)), μ)).bind fun z2 =>
  (stA z2 189 49 ((2 : Int32)) ((3 : Int32))).bind fun m3 =>
  (stA m3 189 49 ((3 : Int32)) ((3 : Int32))).bind fun m4 =>
  (stI m4 186 8 ((0 : Int32))).bind fun m5 =>
  (f_X9_token m5 ).bind fun m7 =>
  (iter gFU (f_X9_reads_b44  ) m7).bind fun z15 =>
  Sum.elim (fun w16 => 
    some ((0 : Int32), w16)
  ) (fun w17 => 
    Sum.elim (fun w18 => 
      some ((0 : Int32), w18)
    ) (fun w19 => 
      some ((1 : Int32), w19)
    ) w17
  ) z15
set_option maxRecDepth 100000 in
set_option maxHeartbeats 4000000 in
theorem k_X9_reads {l : Launch} {D : va_G} {cy : Nat → ClassId} {base : Nat} (μ : Mem)   {out : Int32 × Mem} (hS : f_X9_reads μ  = some out) : gC l D cy base yX9_reads cX9_reads 2 (some .boolean) 6 [.ref (base + 186)] μ (some (.int out.1)) out.2 := by
  refine gC_of (own := RX9) (lv0 := [(0, .ref (base + 186))]) rfl (by decide) (Nat.le_of_ble_eq_true rfl) rfl ?_
  unfold f_X9_reads at hS
  refine g_iconst (v := 0) dX9_reads_0 (by decide) ?_
  refine g_istore_n (lvx := [(1, .int ((0 : Int32))), (0, .ref (base + 186))]) dX9_reads_1 rfl (by decide) rfl ?_
  obtain ⟨z2, ez2, hS⟩ := ob hS
  refine g_sub (lvx := [(0, .ref (base + 186)), (1, .int ((0 : Int32)))]) [1, 0] rfl ?_
  refine iter_ind (fun vv => G l D cy base RX9 cX9_reads 2 (some .boolean) (gRm 6) (gXm yX9_reads) (gZm D cy base 0 0 (some (.int out.1)) gNN (gH cy base out.2)) 2 [(0, .ref (base + 186)), (1, .int (vv.1))] [] 0 0 gNN (gH cy base vv.2)) (fun xx => G l D cy base RX9 cX9_reads 2 (some .boolean) (gRm 6) (gXm yX9_reads) (gZm D cy base 0 0 (some (.int out.1)) gNN (gH cy base out.2)) 21 [(0, .ref (base + 186))] [] 0 0 gNN (gH cy base xx)) (fun vv rr hh hin hout => k_X9_reads_b2    vv rr hh hin (fun xx ee => hout xx ee)) gFU (((0 : Int32)), μ) z2 ez2 ?_
  show G l D cy base RX9 cX9_reads 2 (some .boolean) (gRm 6) (gXm yX9_reads) (gZm D cy base 0 0 (some (.int out.1)) gNN (gH cy base out.2)) 21 [(0, .ref (base + 186))] [] 0 0 gNN (gH cy base z2)
  refine g_aload_n (j := 0) (x := base + 186) dX9_reads_21 rfl rfl ?_
  refine gs_getR (r := 189) lk_RX9_16 (tk_186 _) rfl dX9_reads_22 ?_
  refine g_iconst (v := 2) dX9_reads_25 (by decide) ?_
  refine g_iconst (v := 3) dX9_reads_26 (by decide) ?_
  obtain ⟨m3, em3, hS⟩ := ob hS
  refine gs_iast (tk_189 _) dX9_reads_27 em3 ?_
  refine g_aload_n (j := 0) (x := base + 186) dX9_reads_28 rfl rfl ?_
  refine gs_getR (r := 189) lk_RX9_16 (tk_186 _) rfl dX9_reads_29 ?_
  refine g_iconst (v := 3) dX9_reads_32 (by decide) ?_
  refine g_iconst (v := 3) dX9_reads_33 (by decide) ?_
  obtain ⟨m4, em4, hS⟩ := ob hS
  refine gs_iast (tk_189 _) dX9_reads_34 em4 ?_
  refine g_aload_n (j := 0) (x := base + 186) dX9_reads_35 rfl rfl ?_
  refine g_iconst (v := 0) dX9_reads_36 (by decide) ?_
  obtain ⟨m5, em5, hS⟩ := ob hS
  refine gs_putI lw_RX9_62 (tk_186 _) rfl rfl rfl dX9_reads_37 em5 ?_
  refine g_aload_n (j := 0) (x := base + 186) dX9_reads_40 rfl rfl ?_
  obtain ⟨m7, em7, hS⟩ := ob hS
  refine gs_callVv (As := []) (st := []) (kr := 186) (k_X9_token m5   em7) cl_RX9_85 sv_X9_token ckk_X9_token (tk_186 _) ⟨by decide, by decide⟩ (Nat.le_of_ble_eq_true rfl) ⟨Nat.zero_le _, Nat.zero_le _⟩ rfl dX9_reads_41 rfl ?_
  obtain ⟨z15, ez15, hS⟩ := ob hS
  refine iter_ind (fun vv => G l D cy base RX9 cX9_reads 2 (some .boolean) (gRm 6) (gXm yX9_reads) (gZm D cy base 0 0 (some (.int out.1)) gNN (gH cy base out.2)) 44 [(0, .ref (base + 186))] [] 0 0 gNN (gH cy base vv)) (fun xx => match xx with | (.inl xx) => G l D cy base RX9 cX9_reads 2 (some .boolean) (gRm 6) (gXm yX9_reads) (gZm D cy base 0 0 (some (.int out.1)) gNN (gH cy base out.2)) 58 [] [] 0 0 gNN (gH cy base xx) | (.inr ((.inl xx))) => G l D cy base RX9 cX9_reads 2 (some .boolean) (gRm 6) (gXm yX9_reads) (gZm D cy base 0 0 (some (.int out.1)) gNN (gH cy base out.2)) 72 [] [] 0 0 gNN (gH cy base xx) | (.inr ((.inr (xx)))) => G l D cy base RX9 cX9_reads 2 (some .boolean) (gRm 6) (gXm yX9_reads) (gZm D cy base 0 0 (some (.int out.1)) gNN (gH cy base out.2)) 91 [] [] 0 0 gNN (gH cy base xx)) (fun vv rr hh hin hout => k_X9_reads_b44    vv rr hh hin (fun xx ee => hout (.inl xx) ee) (fun xx ee => hout (.inr ((.inl xx))) ee) (fun xx ee => hout (.inr ((.inr (xx)))) ee)) gFU m7 z15 ez15 ?_
  cases z15 with
  | inl w16 =>
    replace hS := (Sum.elim_inl _ _ _).symm.trans hS
    show G l D cy base RX9 cX9_reads 2 (some .boolean) (gRm 6) (gXm yX9_reads) (gZm D cy base 0 0 (some (.int out.1)) gNN (gH cy base out.2)) 58 [] [] 0 0 gNN (gH cy base w16)
    refine g_iconst (v := 0) dX9_reads_58 (by decide) ?_
    obtain rfl := Option.some.inj hS
    exact g_zret (v := (0 : Int32)) rfl rfl dX9_reads_59
  | inr w17 =>
    replace hS := (Sum.elim_inr _ _ _).symm.trans hS
    cases w17 with
    | inl w18 =>
      replace hS := (Sum.elim_inl _ _ _).symm.trans hS
      show G l D cy base RX9 cX9_reads 2 (some .boolean) (gRm 6) (gXm yX9_reads) (gZm D cy base 0 0 (some (.int out.1)) gNN (gH cy base out.2)) 72 [] [] 0 0 gNN (gH cy base w18)
      refine g_iconst (v := 0) dX9_reads_72 (by decide) ?_
      obtain rfl := Option.some.inj hS
      exact g_zret (v := (0 : Int32)) rfl rfl dX9_reads_73
    | inr w19 =>
      replace hS := (Sum.elim_inr _ _ _).symm.trans hS
      show G l D cy base RX9 cX9_reads 2 (some .boolean) (gRm 6) (gXm yX9_reads) (gZm D cy base 0 0 (some (.int out.1)) gNN (gH cy base out.2)) 91 [] [] 0 0 gNN (gH cy base w19)
      refine g_iconst (v := 1) dX9_reads_91 (by decide) ?_
      obtain rfl := Option.some.inj hS
      exact g_zret (v := (1 : Int32)) rfl rfl dX9_reads_92
def f_X9_tells_b2  (v : Int32 × Mem) : Option ((Int32 × Mem) ⊕ ((Mem))) :=
  if (49 : Int32) ≤ v.1 then (
    some (.inr (v.2))
  ) else (
    (ldA v.2 189 49 (v.1)).bind fun y1 =>
    (stA v.2 188 49 (v.1) (y1)).bind fun m2 =>
    some (.inl (((v.1 + (1 : Int32))), (m2)))
  )
set_option maxRecDepth 100000 in
set_option maxHeartbeats 4000000 in
theorem k_X9_tells_b2 {l : Launch} {D : va_G} {cy : Nat → ClassId} {base : Nat} {X : gX} {Z : gZ}   (v : Int32 × Mem) (r : (Int32 × Mem) ⊕ ((Mem))) (hS : f_X9_tells_b2  v = some r) (hin : ∀ v2, r = .inl v2 → G l D cy base RX9 cX9_tells 2 none (gRm 0) X Z 2 [(0, .ref (base + 186)), (1, .int (v2.1))] [] 0 0 gNN (gH cy base v2.2)) (hout0 : ∀ x, r = .inr x → G l D cy base RX9 cX9_tells 2 none (gRm 0) X Z 26 [(0, .ref (base + 186))] [] 0 0 gNN (gH cy base x)) : G l D cy base RX9 cX9_tells 2 none (gRm 0) X Z 2 [(0, .ref (base + 186)), (1, .int (v.1))] [] 0 0 gNN (gH cy base v.2) := by
  unfold f_X9_tells_b2 at hS
  refine g_iload_n (j := 1) (x := v.1) dX9_tells_2 rfl rfl ?_
  refine g_bipush (v := 49) dX9_tells_3 (by decide) ?_
  refine g_icmp_ge 26 dX9_tells_5 (by decide) (fun hc => ?_) (fun hc => ?_)
  · replace hS := (if_pos hc).symm.trans hS
    refine g_sub (lvx := [(0, .ref (base + 186))]) [0] rfl ?_
    obtain rfl := Option.some.inj hS
    exact hout0 ((v.2)) rfl
  · replace hS := (if_neg hc).symm.trans hS
    refine g_aload_n (j := 0) (x := base + 186) dX9_tells_8 rfl rfl ?_
    refine gs_getR (r := 188) lk_RX9_13 (tk_186 _) rfl dX9_tells_9 ?_
    refine g_iload_n (j := 1) (x := v.1) dX9_tells_12 rfl rfl ?_
    refine g_aload_n (j := 0) (x := base + 186) dX9_tells_13 rfl rfl ?_
    refine gs_getR (r := 189) lk_RX9_16 (tk_186 _) rfl dX9_tells_14 ?_
    refine g_iload_n (j := 1) (x := v.1) dX9_tells_17 rfl rfl ?_
    obtain ⟨y1, ey1, hS⟩ := ob hS
    refine gs_iald (tk_189 _) dX9_tells_18 ey1 ?_
    obtain ⟨m2, em2, hS⟩ := ob hS
    refine gs_iast (tk_188 _) dX9_tells_19 em2 ?_
    refine g_iinc (j := 1) (x := v.1) (v := (v.1 + (1 : Int32))) (lvx := [(1, .int ((v.1 + (1 : Int32)))), (0, .ref (base + 186))]) dX9_tells_20 rfl rfl (by decide) rfl ?_
    refine g_goto 2 dX9_tells_23 (by decide) ?_
    refine g_sub (lvx := [(0, .ref (base + 186)), (1, .int ((v.1 + (1 : Int32))))]) [1, 0] rfl ?_
    obtain rfl := Option.some.inj hS
    exact hin ((((v.1 + (1 : Int32))), (m2))) rfl
def f_X9_tells_b28  (v : Int32 × Mem) : Option ((Int32 × Mem) ⊕ ((Mem))) :=
  if (65 : Int32) < v.1 then (
    some (.inr (v.2))
  ) else (
    (ldA v.2 188 49 ((0 : Int32))).bind fun y4 =>
    if y4 ≤ v.1 then (
      (stA v.2 190 716 (v.1) ((0 : Int32))).bind fun m5 =>
      some (.inl (((v.1 + (1 : Int32))), (m5)))
    ) else (
      (ldA v.2 188 49 (((27 : Int32) + v.1))).bind fun y6 =>
      (stA v.2 190 716 (v.1) (y6)).bind fun m7 =>
      some (.inl (((v.1 + (1 : Int32))), (m7)))
    )
  )
set_option maxRecDepth 100000 in
set_option maxHeartbeats 4000000 in
theorem k_X9_tells_b28 {l : Launch} {D : va_G} {cy : Nat → ClassId} {base : Nat} {X : gX} {Z : gZ}   (v : Int32 × Mem) (r : (Int32 × Mem) ⊕ ((Mem))) (hS : f_X9_tells_b28  v = some r) (hin : ∀ v2, r = .inl v2 → G l D cy base RX9 cX9_tells 2 none (gRm 0) X Z 28 [(0, .ref (base + 186)), (1, .int (v2.1))] [] 0 0 gNN (gH cy base v2.2)) (hout0 : ∀ x, r = .inr x → G l D cy base RX9 cX9_tells 2 none (gRm 0) X Z 69 [(0, .ref (base + 186))] [] 0 0 gNN (gH cy base x)) : G l D cy base RX9 cX9_tells 2 none (gRm 0) X Z 28 [(0, .ref (base + 186)), (1, .int (v.1))] [] 0 0 gNN (gH cy base v.2) := by
  unfold f_X9_tells_b28 at hS
  refine g_iload_n (j := 1) (x := v.1) dX9_tells_28 rfl rfl ?_
  refine g_bipush (v := 65) dX9_tells_29 (by decide) ?_
  refine g_icmp_gt 69 dX9_tells_31 (by decide) (fun hc => ?_) (fun hc => ?_)
  · replace hS := (if_pos hc).symm.trans hS
    refine g_sub (lvx := [(0, .ref (base + 186))]) [0] rfl ?_
    obtain rfl := Option.some.inj hS
    exact hout0 ((v.2)) rfl
  · replace hS := (if_neg hc).symm.trans hS
    refine g_aload_n (j := 0) (x := base + 186) dX9_tells_34 rfl rfl ?_
    refine gs_getR (r := 190) lk_RX9_19 (tk_186 _) rfl dX9_tells_35 ?_
    refine g_iload_n (j := 1) (x := v.1) dX9_tells_38 rfl rfl ?_
    refine g_iload_n (j := 1) (x := v.1) dX9_tells_39 rfl rfl ?_
    refine g_aload_n (j := 0) (x := base + 186) dX9_tells_40 rfl rfl ?_
    refine gs_getR (r := 188) lk_RX9_13 (tk_186 _) rfl dX9_tells_41 ?_
    refine g_iconst (v := 0) dX9_tells_44 (by decide) ?_
    obtain ⟨y4, ey4, hS⟩ := ob hS
    refine gs_iald (tk_188 _) dX9_tells_45 ey4 ?_
    refine g_icmp_ge 61 dX9_tells_46 (by decide) (fun hc => ?_) (fun hc => ?_)
    · replace hS := (if_pos hc).symm.trans hS
      refine g_iconst (v := 0) dX9_tells_61 (by decide) ?_
      obtain ⟨m5, em5, hS⟩ := ob hS
      refine gs_iast (tk_190 _) dX9_tells_62 em5 ?_
      refine g_iinc (j := 1) (x := v.1) (v := (v.1 + (1 : Int32))) (lvx := [(1, .int ((v.1 + (1 : Int32)))), (0, .ref (base + 186))]) dX9_tells_63 rfl rfl (by decide) rfl ?_
      refine g_goto 28 dX9_tells_66 (by decide) ?_
      refine g_sub (lvx := [(0, .ref (base + 186)), (1, .int ((v.1 + (1 : Int32))))]) [1, 0] rfl ?_
      obtain rfl := Option.some.inj hS
      exact hin ((((v.1 + (1 : Int32))), (m5))) rfl
    · replace hS := (if_neg hc).symm.trans hS
      refine g_aload_n (j := 0) (x := base + 186) dX9_tells_49 rfl rfl ?_
      refine gs_getR (r := 188) lk_RX9_13 (tk_186 _) rfl dX9_tells_50 ?_
      refine g_bipush (v := 27) dX9_tells_53 (by decide) ?_
      refine g_iload_n (j := 1) (x := v.1) dX9_tells_55 rfl rfl ?_
      refine g_iadd dX9_tells_56 ?_
      obtain ⟨y6, ey6, hS⟩ := ob hS
      refine gs_iald (tk_188 _) dX9_tells_57 ey6 ?_
      refine g_goto 62 dX9_tells_58 (by decide) ?_
      obtain ⟨m7, em7, hS⟩ := ob hS
      refine gs_iast (tk_190 _) dX9_tells_62 em7 ?_
      refine g_iinc (j := 1) (x := v.1) (v := (v.1 + (1 : Int32))) (lvx := [(1, .int ((v.1 + (1 : Int32)))), (0, .ref (base + 186))]) dX9_tells_63 rfl rfl (by decide) rfl ?_
      refine g_goto 28 dX9_tells_66 (by decide) ?_
      refine g_sub (lvx := [(0, .ref (base + 186)), (1, .int ((v.1 + (1 : Int32))))]) [1, 0] rfl ?_
      obtain rfl := Option.some.inj hS
      exact hin ((((v.1 + (1 : Int32))), (m7))) rfl
def f_X9_tells (μ : Mem)  : Option (Mem) :=
  (iter gFU (f_X9_tells_b2  ) (((0 : Int32)), μ)).bind fun z3 =>
  (iter gFU (f_X9_tells_b28  ) (((0 : Int32)), z3)).bind fun z8 =>
  (stZ z8 192 2 ((0 : Int32)) ((0 : Int32))).bind fun m9 =>
  (stZ m9 192 2 ((1 : Int32)) ((0 : Int32))).bind fun m10 =>
  some m10
set_option maxRecDepth 100000 in
set_option maxHeartbeats 4000000 in
theorem k_X9_tells {l : Launch} {D : va_G} {cy : Nat → ClassId} {base : Nat} (μ : Mem)   {out : Mem} (hS : f_X9_tells μ  = some out) : gC l D cy base yX9_tells cX9_tells 2 none 0 [.ref (base + 186)] μ none out := by
  refine gC_of (own := RX9) (lv0 := [(0, .ref (base + 186))]) rfl (by decide) (Nat.le_of_ble_eq_true rfl) rfl ?_
  unfold f_X9_tells at hS
  refine g_iconst (v := 0) dX9_tells_0 (by decide) ?_
  refine g_istore_n (lvx := [(1, .int ((0 : Int32))), (0, .ref (base + 186))]) dX9_tells_1 rfl (by decide) rfl ?_
  obtain ⟨z3, ez3, hS⟩ := ob hS
  refine g_sub (lvx := [(0, .ref (base + 186)), (1, .int ((0 : Int32)))]) [1, 0] rfl ?_
  refine iter_ind (fun vv => G l D cy base RX9 cX9_tells 2 none (gRm 0) (gXm yX9_tells) (gZm D cy base 0 0 none gNN (gH cy base out)) 2 [(0, .ref (base + 186)), (1, .int (vv.1))] [] 0 0 gNN (gH cy base vv.2)) (fun xx => G l D cy base RX9 cX9_tells 2 none (gRm 0) (gXm yX9_tells) (gZm D cy base 0 0 none gNN (gH cy base out)) 26 [(0, .ref (base + 186))] [] 0 0 gNN (gH cy base xx)) (fun vv rr hh hin hout => k_X9_tells_b2    vv rr hh hin (fun xx ee => hout xx ee)) gFU (((0 : Int32)), μ) z3 ez3 ?_
  show G l D cy base RX9 cX9_tells 2 none (gRm 0) (gXm yX9_tells) (gZm D cy base 0 0 none gNN (gH cy base out)) 26 [(0, .ref (base + 186))] [] 0 0 gNN (gH cy base z3)
  refine g_iconst (v := 0) dX9_tells_26 (by decide) ?_
  refine g_istore_n (lvx := [(1, .int ((0 : Int32))), (0, .ref (base + 186))]) dX9_tells_27 rfl (by decide) rfl ?_
  obtain ⟨z8, ez8, hS⟩ := ob hS
  refine g_sub (lvx := [(0, .ref (base + 186)), (1, .int ((0 : Int32)))]) [1, 0] rfl ?_
  refine iter_ind (fun vv => G l D cy base RX9 cX9_tells 2 none (gRm 0) (gXm yX9_tells) (gZm D cy base 0 0 none gNN (gH cy base out)) 28 [(0, .ref (base + 186)), (1, .int (vv.1))] [] 0 0 gNN (gH cy base vv.2)) (fun xx => G l D cy base RX9 cX9_tells 2 none (gRm 0) (gXm yX9_tells) (gZm D cy base 0 0 none gNN (gH cy base out)) 69 [(0, .ref (base + 186))] [] 0 0 gNN (gH cy base xx)) (fun vv rr hh hin hout => k_X9_tells_b28    vv rr hh hin (fun xx ee => hout xx ee)) gFU (((0 : Int32)), z3) z8 ez8 ?_
  show G l D cy base RX9 cX9_tells 2 none (gRm 0) (gXm yX9_tells) (gZm D cy base 0 0 none gNN (gH cy base out)) 69 [(0, .ref (base + 186))] [] 0 0 gNN (gH cy base z8)
  refine g_aload_n (j := 0) (x := base + 186) dX9_tells_69 rfl rfl ?_
  refine gs_getR (r := 192) lk_RX9_25 (tk_186 _) rfl dX9_tells_70 ?_
  refine g_iconst (v := 0) dX9_tells_73 (by decide) ?_
  refine g_iconst (v := 0) dX9_tells_74 (by decide) ?_
  obtain ⟨m9, em9, hS⟩ := ob hS
  refine gs_zast (tk_192 _) dX9_tells_75 em9 ?_
  refine g_aload_n (j := 0) (x := base + 186) dX9_tells_76 rfl rfl ?_
  refine gs_getR (r := 192) lk_RX9_25 (tk_186 _) rfl dX9_tells_77 ?_
  refine g_iconst (v := 1) dX9_tells_80 (by decide) ?_
  refine g_iconst (v := 0) dX9_tells_81 (by decide) ?_
  obtain ⟨m10, em10, hS⟩ := ob hS
  refine gs_zast (tk_192 _) dX9_tells_82 em10 ?_
  obtain rfl := Option.some.inj hS
  exact g_vret rfl dX9_tells_83
def f_X9_house (μ : Mem)  : Option (Int32 × Mem) :=
  (f_X9_reads μ ).bind fun z1 =>
  if z1.1 = (0 : Int32) then (
    some (((-10 : Int32) - (gi z1.2 186 10)), z1.2)
  ) else (
    (f_X9_tells z1.2 ).bind fun m3 =>
    (stI m3 186 2 ((0 : Int32))).bind fun m4 =>
    (ldA m4 188 49 ((4 : Int32))).bind fun y5 =>
    some (y5, m4)
  )
set_option maxRecDepth 100000 in
set_option maxHeartbeats 4000000 in
theorem k_X9_house {l : Launch} {D : va_G} {cy : Nat → ClassId} {base : Nat} (μ : Mem)   {out : Int32 × Mem} (hS : f_X9_house μ  = some out) : gC l D cy base yX9_house cX9_house 1 (some .int) 7 [.ref (base + 186)] μ (some (.int out.1)) out.2 := by
  refine gC_of (own := RX9) (lv0 := [(0, .ref (base + 186))]) rfl (by decide) (Nat.le_of_ble_eq_true rfl) rfl ?_
  unfold f_X9_house at hS
  refine g_aload_n (j := 0) (x := base + 186) dX9_house_0 rfl rfl ?_
  obtain ⟨z1, ez1, hS⟩ := ob hS
  refine gs_callVi (As := []) (st := []) (kr := 186) (k_X9_reads μ   ez1) cl_RX9_47 sv_X9_reads ckk_X9_reads (tk_186 _) ⟨by decide, by decide⟩ (Nat.le_of_ble_eq_true rfl) ⟨Nat.zero_le _, Nat.zero_le _⟩ rfl dX9_house_1 rfl ?_
  refine g_if_ne 15 dX9_house_4 (by decide) (fun hc => ?_) (fun hc => ?_)
  · replace hS := (if_neg hc).symm.trans hS
    refine g_aload_n (j := 0) (x := base + 186) dX9_house_15 rfl rfl ?_
    obtain ⟨m3, em3, hS⟩ := ob hS
    refine gs_callVv (As := []) (st := []) (kr := 186) (k_X9_tells z1.2   em3) cl_RX9_51 sv_X9_tells ckk_X9_tells (tk_186 _) ⟨by decide, by decide⟩ (Nat.le_of_ble_eq_true rfl) ⟨Nat.zero_le _, Nat.zero_le _⟩ rfl dX9_house_16 rfl ?_
    refine g_aload_n (j := 0) (x := base + 186) dX9_house_19 rfl rfl ?_
    refine g_iconst (v := 0) dX9_house_20 (by decide) ?_
    obtain ⟨m4, em4, hS⟩ := ob hS
    refine gs_putI lw_RX9_58 (tk_186 _) rfl rfl rfl dX9_house_21 em4 ?_
    refine g_aload_n (j := 0) (x := base + 186) dX9_house_24 rfl rfl ?_
    refine gs_getR (r := 188) lk_RX9_13 (tk_186 _) rfl dX9_house_25 ?_
    refine g_iconst (v := 4) dX9_house_28 (by decide) ?_
    obtain ⟨y5, ey5, hS⟩ := ob hS
    refine gs_iald (tk_188 _) dX9_house_29 ey5 ?_
    obtain rfl := Option.some.inj hS
    exact g_iret rfl dX9_house_30
  · replace hS := (if_pos hc).symm.trans hS
    refine g_bipush (v := -10) dX9_house_7 (by decide) ?_
    refine g_aload_n (j := 0) (x := base + 186) dX9_house_9 rfl rfl ?_
    refine gs_getI lk_RX9_69 (tk_186 _) rfl dX9_house_10 ?_
    refine g_isub dX9_house_13 ?_
    obtain rfl := Option.some.inj hS
    exact g_iret rfl dX9_house_14
def f_X9_price (μ : Mem) (a1 : Int32) : Option (Int32) :=
  (ldA μ 190 716 (a1)).bind fun y1 =>
  (ldA μ 188 49 (((20 : Int32) + a1))).bind fun y2 =>
  if (0 : Int32) ≤ (((9 : Int32) * y1) - y2) then (
    some ((((9 : Int32) * y1) - y2))
  ) else (
    some ((0 : Int32))
  )
set_option maxRecDepth 100000 in
set_option maxHeartbeats 4000000 in
theorem k_X9_price {l : Launch} {D : va_G} {cy : Nat → ClassId} {base : Nat} (μ : Mem) (a1 : Int32)  {out : Int32} (hS : f_X9_price μ a1 = some out) : gC l D cy base yX9_price cX9_price 3 (some .int) 0 [.ref (base + 186), .int (a1)] μ (some (.int out)) μ := by
  refine gC_of (own := RX9) (lv0 := [(0, .ref (base + 186)), (1, .int (a1))]) rfl (by decide) (Nat.le_of_ble_eq_true rfl) rfl ?_
  unfold f_X9_price at hS
  refine g_bipush (v := 9) dX9_price_0 (by decide) ?_
  refine g_aload_n (j := 0) (x := base + 186) dX9_price_2 rfl rfl ?_
  refine gs_getR (r := 190) lk_RX9_19 (tk_186 _) rfl dX9_price_3 ?_
  refine g_iload_n (j := 1) (x := a1) dX9_price_6 rfl rfl ?_
  obtain ⟨y1, ey1, hS⟩ := ob hS
  refine gs_iald (tk_190 _) dX9_price_7 ey1 ?_
  refine g_imul dX9_price_8 ?_
  refine g_aload_n (j := 0) (x := base + 186) dX9_price_9 rfl rfl ?_
  refine gs_getR (r := 188) lk_RX9_13 (tk_186 _) rfl dX9_price_10 ?_
  refine g_bipush (v := 20) dX9_price_13 (by decide) ?_
  refine g_iload_n (j := 1) (x := a1) dX9_price_15 rfl rfl ?_
  refine g_iadd dX9_price_16 ?_
  obtain ⟨y2, ey2, hS⟩ := ob hS
  refine gs_iald (tk_188 _) dX9_price_17 ey2 ?_
  refine g_isub dX9_price_18 ?_
  refine g_istore_n (lvx := [(2, .int ((((9 : Int32) * y1) - y2))), (0, .ref (base + 186)), (1, .int (a1))]) dX9_price_19 rfl (by decide) rfl ?_
  refine g_iload_n (j := 0) (x := (((9 : Int32) * y1) - y2)) dX9_price_20 rfl rfl ?_
  refine g_if_ge 28 dX9_price_21 (by decide) (fun hc => ?_) (fun hc => ?_)
  · replace hS := (if_pos hc).symm.trans hS
    refine g_iload_n (j := 0) (x := (((9 : Int32) * y1) - y2)) dX9_price_28 rfl rfl ?_
    obtain rfl := Option.some.inj hS
    exact g_iret rfl dX9_price_29
  · replace hS := (if_neg hc).symm.trans hS
    refine g_iconst (v := 0) dX9_price_24 (by decide) ?_
    refine g_goto 29 dX9_price_25 (by decide) ?_
    obtain rfl := Option.some.inj hS
    exact g_iret rfl dX9_price_29
def f_X9_stair (μ : Mem) (a1 : Int32) (a2 : Int32) : Option (Int32) :=
  (f_X9_isStair μ (a1)).bind fun y1 =>
  if y1 = (0 : Int32) then (
    some ((-1 : Int32))
  ) else (
    if a2 = (0 : Int32) then (
      (ldA μ 188 49 (((6 : Int32) + a1))).bind fun y3 =>
      some (y3)
    ) else
    if a2 = (1 : Int32) then (
      (ldA μ 188 49 (((13 : Int32) + a1))).bind fun y5 =>
      some (y5)
    ) else
    if a2 = (2 : Int32) then (
      (ldA μ 188 49 (((20 : Int32) + a1))).bind fun y7 =>
      some (y7)
    ) else
    if a2 = (3 : Int32) then (
      (ldA μ 188 49 (((27 : Int32) + a1))).bind fun y9 =>
      some (y9)
    ) else
    if a2 = (4 : Int32) then (
      (ldA μ 190 716 (a1)).bind fun y11 =>
      some (y11)
    ) else
    if a2 = (5 : Int32) then (
      (ldA μ 190 716 (((7 : Int32) + a1))).bind fun y13 =>
      some (y13)
    ) else
    if a2 = (6 : Int32) then (
      (f_X9_price μ (a1)).bind fun y15 =>
      some (y15)
    ) else
    (
      some ((-1 : Int32))
    )
  )
set_option maxRecDepth 100000 in
set_option maxHeartbeats 4000000 in
theorem k_X9_stair {l : Launch} {D : va_G} {cy : Nat → ClassId} {base : Nat} (μ : Mem) (a1 : Int32) (a2 : Int32)  {out : Int32} (hS : f_X9_stair μ a1 a2 = some out) : gC l D cy base yX9_stair cX9_stair 3 (some .int) 2 [.ref (base + 186), .int (a1), .int (a2)] μ (some (.int out)) μ := by
  refine gC_of (own := RX9) (lv0 := [(0, .ref (base + 186)), (1, .int (a1)), (2, .int (a2))]) rfl (by decide) (Nat.le_of_ble_eq_true rfl) rfl ?_
  unfold f_X9_stair at hS
  refine g_aload_n (j := 0) (x := base + 186) dX9_stair_0 rfl rfl ?_
  refine g_iload_n (j := 1) (x := a1) dX9_stair_1 rfl rfl ?_
  obtain ⟨y1, ey1, hS⟩ := ob hS
  refine gs_callVi (As := [.int (a1)]) (st := []) (kr := 186) (k_X9_isStair μ (a1)  ey1) cl_RX9_104 sv_X9_isStair ckk_X9_isStair (tk_186 _) ⟨by decide, by decide⟩ (Nat.le_of_ble_eq_true rfl) ⟨Nat.zero_le _, Nat.zero_le _⟩ rfl dX9_stair_2 rfl ?_
  refine g_if_ne 10 dX9_stair_5 (by decide) (fun hc => ?_) (fun hc => ?_)
  · replace hS := (if_neg hc).symm.trans hS
    refine g_iload_n (j := 2) (x := a2) dX9_stair_10 rfl rfl ?_
    by_cases hs2 : a2 = (0 : Int32)
    · replace hS := (if_pos hs2).symm.trans hS
      refine gs_table hs2 52 dX9_stair_11 (by decide) (by decide) rfl (by decide) ?_
      refine g_aload_n (j := 0) (x := base + 186) dX9_stair_52 rfl rfl ?_
      refine gs_getR (r := 188) lk_RX9_13 (tk_186 _) rfl dX9_stair_53 ?_
      refine g_bipush (v := 6) dX9_stair_56 (by decide) ?_
      refine g_iload_n (j := 1) (x := a1) dX9_stair_58 rfl rfl ?_
      refine g_iadd dX9_stair_59 ?_
      obtain ⟨y3, ey3, hS⟩ := ob hS
      refine gs_iald (tk_188 _) dX9_stair_60 ey3 ?_
      obtain rfl := Option.some.inj hS
      exact g_iret rfl dX9_stair_61
    replace hS := (if_neg hs2).symm.trans hS
    by_cases hs4 : a2 = (1 : Int32)
    · replace hS := (if_pos hs4).symm.trans hS
      refine gs_table hs4 62 dX9_stair_11 (by decide) (by decide) rfl (by decide) ?_
      refine g_aload_n (j := 0) (x := base + 186) dX9_stair_62 rfl rfl ?_
      refine gs_getR (r := 188) lk_RX9_13 (tk_186 _) rfl dX9_stair_63 ?_
      refine g_bipush (v := 13) dX9_stair_66 (by decide) ?_
      refine g_iload_n (j := 1) (x := a1) dX9_stair_68 rfl rfl ?_
      refine g_iadd dX9_stair_69 ?_
      obtain ⟨y5, ey5, hS⟩ := ob hS
      refine gs_iald (tk_188 _) dX9_stair_70 ey5 ?_
      obtain rfl := Option.some.inj hS
      exact g_iret rfl dX9_stair_71
    replace hS := (if_neg hs4).symm.trans hS
    by_cases hs6 : a2 = (2 : Int32)
    · replace hS := (if_pos hs6).symm.trans hS
      refine gs_table hs6 72 dX9_stair_11 (by decide) (by decide) rfl (by decide) ?_
      refine g_aload_n (j := 0) (x := base + 186) dX9_stair_72 rfl rfl ?_
      refine gs_getR (r := 188) lk_RX9_13 (tk_186 _) rfl dX9_stair_73 ?_
      refine g_bipush (v := 20) dX9_stair_76 (by decide) ?_
      refine g_iload_n (j := 1) (x := a1) dX9_stair_78 rfl rfl ?_
      refine g_iadd dX9_stair_79 ?_
      obtain ⟨y7, ey7, hS⟩ := ob hS
      refine gs_iald (tk_188 _) dX9_stair_80 ey7 ?_
      obtain rfl := Option.some.inj hS
      exact g_iret rfl dX9_stair_81
    replace hS := (if_neg hs6).symm.trans hS
    by_cases hs8 : a2 = (3 : Int32)
    · replace hS := (if_pos hs8).symm.trans hS
      refine gs_table hs8 82 dX9_stair_11 (by decide) (by decide) rfl (by decide) ?_
      refine g_aload_n (j := 0) (x := base + 186) dX9_stair_82 rfl rfl ?_
      refine gs_getR (r := 188) lk_RX9_13 (tk_186 _) rfl dX9_stair_83 ?_
      refine g_bipush (v := 27) dX9_stair_86 (by decide) ?_
      refine g_iload_n (j := 1) (x := a1) dX9_stair_88 rfl rfl ?_
      refine g_iadd dX9_stair_89 ?_
      obtain ⟨y9, ey9, hS⟩ := ob hS
      refine gs_iald (tk_188 _) dX9_stair_90 ey9 ?_
      obtain rfl := Option.some.inj hS
      exact g_iret rfl dX9_stair_91
    replace hS := (if_neg hs8).symm.trans hS
    by_cases hs10 : a2 = (4 : Int32)
    · replace hS := (if_pos hs10).symm.trans hS
      refine gs_table hs10 92 dX9_stair_11 (by decide) (by decide) rfl (by decide) ?_
      refine g_aload_n (j := 0) (x := base + 186) dX9_stair_92 rfl rfl ?_
      refine gs_getR (r := 190) lk_RX9_19 (tk_186 _) rfl dX9_stair_93 ?_
      refine g_iload_n (j := 1) (x := a1) dX9_stair_96 rfl rfl ?_
      obtain ⟨y11, ey11, hS⟩ := ob hS
      refine gs_iald (tk_190 _) dX9_stair_97 ey11 ?_
      obtain rfl := Option.some.inj hS
      exact g_iret rfl dX9_stair_98
    replace hS := (if_neg hs10).symm.trans hS
    by_cases hs12 : a2 = (5 : Int32)
    · replace hS := (if_pos hs12).symm.trans hS
      refine gs_table hs12 99 dX9_stair_11 (by decide) (by decide) rfl (by decide) ?_
      refine g_aload_n (j := 0) (x := base + 186) dX9_stair_99 rfl rfl ?_
      refine gs_getR (r := 190) lk_RX9_19 (tk_186 _) rfl dX9_stair_100 ?_
      refine g_bipush (v := 7) dX9_stair_103 (by decide) ?_
      refine g_iload_n (j := 1) (x := a1) dX9_stair_105 rfl rfl ?_
      refine g_iadd dX9_stair_106 ?_
      obtain ⟨y13, ey13, hS⟩ := ob hS
      refine gs_iald (tk_190 _) dX9_stair_107 ey13 ?_
      obtain rfl := Option.some.inj hS
      exact g_iret rfl dX9_stair_108
    replace hS := (if_neg hs12).symm.trans hS
    by_cases hs14 : a2 = (6 : Int32)
    · replace hS := (if_pos hs14).symm.trans hS
      refine gs_table hs14 109 dX9_stair_11 (by decide) (by decide) rfl (by decide) ?_
      refine g_aload_n (j := 0) (x := base + 186) dX9_stair_109 rfl rfl ?_
      refine g_iload_n (j := 1) (x := a1) dX9_stair_110 rfl rfl ?_
      obtain ⟨y15, ey15, hS⟩ := ob hS
      refine gs_callVi (As := [.int (a1)]) (st := []) (kr := 186) (k_X9_price μ (a1)  ey15) cl_RX9_107 sv_X9_price ckk_X9_price (tk_186 _) ⟨by decide, by decide⟩ (Nat.le_of_ble_eq_true rfl) ⟨Nat.zero_le _, Nat.zero_le _⟩ rfl dX9_stair_111 rfl ?_
      obtain rfl := Option.some.inj hS
      exact g_iret rfl dX9_stair_114
    replace hS := (if_neg hs14).symm.trans hS
    refine gs_tableOut 7 115 dX9_stair_11 (by decide) (by decide) (fun j hj => by match j, hj with | 0, _ => exact hs2 | 1, _ => exact hs4 | 2, _ => exact hs6 | 3, _ => exact hs8 | 4, _ => exact hs10 | 5, _ => exact hs12 | 6, _ => exact hs14 | j + 7, hj => exact absurd hj (by omega)) (by decide) ?_
    refine g_iconst (v := -1) dX9_stair_115 (by decide) ?_
    obtain rfl := Option.some.inj hS
    exact g_iret rfl dX9_stair_116
  · replace hS := (if_pos hc).symm.trans hS
    refine g_iconst (v := -1) dX9_stair_8 (by decide) ?_
    obtain rfl := Option.some.inj hS
    exact g_iret rfl dX9_stair_9
def f_X9_person (μ : Mem) (a1 : Int32) (a2 : Int32) : Option (Int32) :=
  (f_X9_isPerson μ (a1)).bind fun y1 =>
  if y1 = (0 : Int32) then (
    some ((-1 : Int32))
  ) else (
    (f_X9_in μ (a2) ((0 : Int32)) ((2 : Int32))).bind fun y2 =>
    if y2 = (0 : Int32) then (
      some ((-1 : Int32))
    ) else (
      (ldA μ 188 49 ((((34 : Int32) + ((5 : Int32) * a2)) + a1))).bind fun y3 =>
      some (y3)
    )
  )
set_option maxRecDepth 100000 in
set_option maxHeartbeats 4000000 in
theorem k_X9_person {l : Launch} {D : va_G} {cy : Nat → ClassId} {base : Nat} (μ : Mem) (a1 : Int32) (a2 : Int32)  {out : Int32} (hS : f_X9_person μ a1 a2 = some out) : gC l D cy base yX9_person cX9_person 3 (some .int) 2 [.ref (base + 186), .int (a1), .int (a2)] μ (some (.int out)) μ := by
  refine gC_of (own := RX9) (lv0 := [(0, .ref (base + 186)), (1, .int (a1)), (2, .int (a2))]) rfl (by decide) (Nat.le_of_ble_eq_true rfl) rfl ?_
  unfold f_X9_person at hS
  refine g_aload_n (j := 0) (x := base + 186) dX9_person_0 rfl rfl ?_
  refine g_iload_n (j := 1) (x := a1) dX9_person_1 rfl rfl ?_
  obtain ⟨y1, ey1, hS⟩ := ob hS
  refine gs_callVi (As := [.int (a1)]) (st := []) (kr := 186) (k_X9_isPerson μ (a1)  ey1) cl_RX9_110 sv_X9_isPerson ckk_X9_isPerson (tk_186 _) ⟨by decide, by decide⟩ (Nat.le_of_ble_eq_true rfl) ⟨Nat.zero_le _, Nat.zero_le _⟩ rfl dX9_person_2 rfl ?_
  refine g_if_eq 17 dX9_person_5 (by decide) (fun hc => ?_) (fun hc => ?_)
  · replace hS := (if_pos hc).symm.trans hS
    refine g_iconst (v := -1) dX9_person_17 (by decide) ?_
    obtain rfl := Option.some.inj hS
    exact g_iret rfl dX9_person_18
  · replace hS := (if_neg hc).symm.trans hS
    refine g_iload_n (j := 2) (x := a2) dX9_person_8 rfl rfl ?_
    refine g_iconst (v := 0) dX9_person_9 (by decide) ?_
    refine g_iconst (v := 2) dX9_person_10 (by decide) ?_
    obtain ⟨y2, ey2, hS⟩ := ob hS
    refine gs_callSi (As := [.int (a2), .int ((0 : Int32)), .int ((2 : Int32))]) (st := []) (k_X9_in μ (a2) ((0 : Int32)) ((2 : Int32))  ey2) cl_RX9_54 sv_X9_in ⟨by decide, by decide⟩ (Nat.le_of_ble_eq_true rfl) ⟨Nat.zero_le _, Nat.zero_le _⟩ rfl dX9_person_11 rfl ?_
    refine g_if_ne 19 dX9_person_14 (by decide) (fun hc => ?_) (fun hc => ?_)
    · replace hS := (if_neg hc).symm.trans hS
      refine g_aload_n (j := 0) (x := base + 186) dX9_person_19 rfl rfl ?_
      refine gs_getR (r := 188) lk_RX9_13 (tk_186 _) rfl dX9_person_20 ?_
      refine g_bipush (v := 34) dX9_person_23 (by decide) ?_
      refine g_iconst (v := 5) dX9_person_25 (by decide) ?_
      refine g_iload_n (j := 2) (x := a2) dX9_person_26 rfl rfl ?_
      refine g_imul dX9_person_27 ?_
      refine g_iadd dX9_person_28 ?_
      refine g_iload_n (j := 1) (x := a1) dX9_person_29 rfl rfl ?_
      refine g_iadd dX9_person_30 ?_
      obtain ⟨y3, ey3, hS⟩ := ob hS
      refine gs_iald (tk_188 _) dX9_person_31 ey3 ?_
      obtain rfl := Option.some.inj hS
      exact g_iret rfl dX9_person_32
    · replace hS := (if_pos hc).symm.trans hS
      refine g_iconst (v := -1) dX9_person_17 (by decide) ?_
      obtain rfl := Option.some.inj hS
      exact g_iret rfl dX9_person_18
def f_X9_bond (μ : Mem) (a1 : Int32) (a2 : Int32) : Option (Int32) :=
  (f_X9_isStair μ (a1)).bind fun y1 =>
  if y1 = (0 : Int32) then (
    some ((-1 : Int32))
  ) else (
    (f_X9_isStair μ (a2)).bind fun y2 =>
    if y2 = (0 : Int32) then (
      some ((-1 : Int32))
    ) else (
      if a1 = a2 then (
        some ((-1 : Int32))
      ) else (
        (ldA μ 190 716 ((((14 : Int32) + ((7 : Int32) * a1)) + a2))).bind fun y3 =>
        some (y3)
      )
    )
  )
set_option maxRecDepth 100000 in
set_option maxHeartbeats 4000000 in
theorem k_X9_bond {l : Launch} {D : va_G} {cy : Nat → ClassId} {base : Nat} (μ : Mem) (a1 : Int32) (a2 : Int32)  {out : Int32} (hS : f_X9_bond μ a1 a2 = some out) : gC l D cy base yX9_bond cX9_bond 3 (some .int) 2 [.ref (base + 186), .int (a1), .int (a2)] μ (some (.int out)) μ := by
  refine gC_of (own := RX9) (lv0 := [(0, .ref (base + 186)), (1, .int (a1)), (2, .int (a2))]) rfl (by decide) (Nat.le_of_ble_eq_true rfl) rfl ?_
  unfold f_X9_bond at hS
  refine g_aload_n (j := 0) (x := base + 186) dX9_bond_0 rfl rfl ?_
  refine g_iload_n (j := 1) (x := a1) dX9_bond_1 rfl rfl ?_
  obtain ⟨y1, ey1, hS⟩ := ob hS
  refine gs_callVi (As := [.int (a1)]) (st := []) (kr := 186) (k_X9_isStair μ (a1)  ey1) cl_RX9_104 sv_X9_isStair ckk_X9_isStair (tk_186 _) ⟨by decide, by decide⟩ (Nat.le_of_ble_eq_true rfl) ⟨Nat.zero_le _, Nat.zero_le _⟩ rfl dX9_bond_2 rfl ?_
  refine g_if_eq 38 dX9_bond_5 (by decide) (fun hc => ?_) (fun hc => ?_)
  · replace hS := (if_pos hc).symm.trans hS
    refine g_iconst (v := -1) dX9_bond_38 (by decide) ?_
    obtain rfl := Option.some.inj hS
    exact g_iret rfl dX9_bond_39
  · replace hS := (if_neg hc).symm.trans hS
    refine g_aload_n (j := 0) (x := base + 186) dX9_bond_8 rfl rfl ?_
    refine g_iload_n (j := 2) (x := a2) dX9_bond_9 rfl rfl ?_
    obtain ⟨y2, ey2, hS⟩ := ob hS
    refine gs_callVi (As := [.int (a2)]) (st := []) (kr := 186) (k_X9_isStair μ (a2)  ey2) cl_RX9_104 sv_X9_isStair ckk_X9_isStair (tk_186 _) ⟨by decide, by decide⟩ (Nat.le_of_ble_eq_true rfl) ⟨Nat.zero_le _, Nat.zero_le _⟩ rfl dX9_bond_10 rfl ?_
    refine g_if_eq 38 dX9_bond_13 (by decide) (fun hc => ?_) (fun hc => ?_)
    · replace hS := (if_pos hc).symm.trans hS
      refine g_iconst (v := -1) dX9_bond_38 (by decide) ?_
      obtain rfl := Option.some.inj hS
      exact g_iret rfl dX9_bond_39
    · replace hS := (if_neg hc).symm.trans hS
      refine g_iload_n (j := 1) (x := a1) dX9_bond_16 rfl rfl ?_
      refine g_iload_n (j := 2) (x := a2) dX9_bond_17 rfl rfl ?_
      refine g_icmp_eq 38 dX9_bond_18 (by decide) (fun hc => ?_) (fun hc => ?_)
      · replace hS := (if_pos hc).symm.trans hS
        refine g_iconst (v := -1) dX9_bond_38 (by decide) ?_
        obtain rfl := Option.some.inj hS
        exact g_iret rfl dX9_bond_39
      · replace hS := (if_neg hc).symm.trans hS
        refine g_aload_n (j := 0) (x := base + 186) dX9_bond_21 rfl rfl ?_
        refine gs_getR (r := 190) lk_RX9_19 (tk_186 _) rfl dX9_bond_22 ?_
        refine g_bipush (v := 14) dX9_bond_25 (by decide) ?_
        refine g_bipush (v := 7) dX9_bond_27 (by decide) ?_
        refine g_iload_n (j := 1) (x := a1) dX9_bond_29 rfl rfl ?_
        refine g_imul dX9_bond_30 ?_
        refine g_iadd dX9_bond_31 ?_
        refine g_iload_n (j := 2) (x := a2) dX9_bond_32 rfl rfl ?_
        refine g_iadd dX9_bond_33 ?_
        obtain ⟨y3, ey3, hS⟩ := ob hS
        refine gs_iald (tk_190 _) dX9_bond_34 ey3 ?_
        refine g_goto 39 dX9_bond_35 (by decide) ?_
        obtain rfl := Option.some.inj hS
        exact g_iret rfl dX9_bond_39
def f_X9_keeps_b70 (x4 : Int32) (v : Int32 × Mem) : Option ((Int32 × Mem) ⊕ ((Mem))) :=
  if (65 : Int32) ≤ v.1 then (
    some (.inr (v.2))
  ) else (
    (ldA v.2 190 716 (v.1)).bind fun y5 =>
    (stA v.2 190 716 ((x4 + v.1)) (y5)).bind fun m6 =>
    some (.inl (((v.1 + (1 : Int32))), (m6)))
  )
set_option maxRecDepth 100000 in
set_option maxHeartbeats 4000000 in
theorem k_X9_keeps_b70 {l : Launch} {D : va_G} {cy : Nat → ClassId} {base : Nat} {X : gX} {Z : gZ} (x4 : Int32)  (v : Int32 × Mem) (r : (Int32 × Mem) ⊕ ((Mem))) (hS : f_X9_keeps_b70 x4 v = some r) (hin : ∀ v2, r = .inl v2 → G l D cy base RX9 cX9_keeps 3 none (gRm 0) X Z 70 [(0, .ref (base + 186)), (1, .int (x4)), (2, .int (v2.1))] [] 0 0 gNN (gH cy base v2.2)) (hout0 : ∀ x, r = .inr x → G l D cy base RX9 cX9_keeps 3 none (gRm 0) X Z 96 [(0, .ref (base + 186))] [] 0 0 gNN (gH cy base x)) : G l D cy base RX9 cX9_keeps 3 none (gRm 0) X Z 70 [(0, .ref (base + 186)), (1, .int (x4)), (2, .int (v.1))] [] 0 0 gNN (gH cy base v.2) := by
  unfold f_X9_keeps_b70 at hS
  refine g_iload_n (j := 2) (x := v.1) dX9_keeps_70 rfl rfl ?_
  refine g_bipush (v := 65) dX9_keeps_71 (by decide) ?_
  refine g_icmp_ge 96 dX9_keeps_73 (by decide) (fun hc => ?_) (fun hc => ?_)
  · replace hS := (if_pos hc).symm.trans hS
    refine g_sub (lvx := [(0, .ref (base + 186))]) [0] rfl ?_
    obtain rfl := Option.some.inj hS
    exact hout0 ((v.2)) rfl
  · replace hS := (if_neg hc).symm.trans hS
    refine g_aload_n (j := 0) (x := base + 186) dX9_keeps_76 rfl rfl ?_
    refine gs_getR (r := 190) lk_RX9_19 (tk_186 _) rfl dX9_keeps_77 ?_
    refine g_iload_n (j := 1) (x := x4) dX9_keeps_80 rfl rfl ?_
    refine g_iload_n (j := 2) (x := v.1) dX9_keeps_81 rfl rfl ?_
    refine g_iadd dX9_keeps_82 ?_
    refine g_aload_n (j := 0) (x := base + 186) dX9_keeps_83 rfl rfl ?_
    refine gs_getR (r := 190) lk_RX9_19 (tk_186 _) rfl dX9_keeps_84 ?_
    refine g_iload_n (j := 2) (x := v.1) dX9_keeps_87 rfl rfl ?_
    obtain ⟨y5, ey5, hS⟩ := ob hS
    refine gs_iald (tk_190 _) dX9_keeps_88 ey5 ?_
    obtain ⟨m6, em6, hS⟩ := ob hS
    refine gs_iast (tk_190 _) dX9_keeps_89 em6 ?_
    refine g_iinc (j := 2) (x := v.1) (v := (v.1 + (1 : Int32))) (lvx := [(2, .int ((v.1 + (1 : Int32)))), (0, .ref (base + 186)), (1, .int (x4))]) dX9_keeps_90 rfl rfl (by decide) rfl ?_
    refine g_goto 70 dX9_keeps_93 (by decide) ?_
    refine g_sub (lvx := [(0, .ref (base + 186)), (1, .int (x4)), (2, .int ((v.1 + (1 : Int32))))]) [1, 2, 0] rfl ?_
    obtain rfl := Option.some.inj hS
    exact hin ((((v.1 + (1 : Int32))), (m6))) rfl
def f_X9_keeps_j54 (m2 : Mem)  : Option (Mem) :=
  (ldA m2 190 716 ((65 : Int32))).bind fun y3 =>
  (iter gFU (f_X9_keeps_b70  (((66 : Int32) + ((65 : Int32) * y3)))) (((0 : Int32)), m2)).bind fun z7 =>
  (ldA z7 190 716 ((65 : Int32))).bind fun y8 =>
  (stA z7 190 716 ((65 : Int32)) ((y8 + (1 : Int32)))).bind fun m9 =>
  some m9
set_option maxRecDepth 100000 in
set_option maxHeartbeats 4000000 in
theorem k_X9_keeps_j54 {l : Launch} {D : va_G} {cy : Nat → ClassId} {base : Nat} {X : gX} (m2 : Mem)   {out : Mem} (hS : f_X9_keeps_j54 m2  = some out)  : G l D cy base RX9 cX9_keeps 3 none (gRm 0) X (gZm D cy base 0 0 none gNN (gH cy base out)) 54 [(0, .ref (base + 186))] [] 0 0 gNN (gH cy base m2) := by
  unfold f_X9_keeps_j54 at hS
  refine g_bipush (v := 66) dX9_keeps_54 (by decide) ?_
  refine g_bipush (v := 65) dX9_keeps_56 (by decide) ?_
  refine g_aload_n (j := 0) (x := base + 186) dX9_keeps_58 rfl rfl ?_
  refine gs_getR (r := 190) lk_RX9_19 (tk_186 _) rfl dX9_keeps_59 ?_
  refine g_bipush (v := 65) dX9_keeps_62 (by decide) ?_
  obtain ⟨y3, ey3, hS⟩ := ob hS
  refine gs_iald (tk_190 _) dX9_keeps_64 ey3 ?_
  refine g_imul dX9_keeps_65 ?_
  refine g_iadd dX9_keeps_66 ?_
  refine g_istore_n (lvx := [(1, .int (((66 : Int32) + ((65 : Int32) * y3)))), (0, .ref (base + 186))]) dX9_keeps_67 rfl (by decide) rfl ?_
  refine g_iconst (v := 0) dX9_keeps_68 (by decide) ?_
  refine g_istore_n (lvx := [(2, .int ((0 : Int32))), (1, .int (((66 : Int32) + ((65 : Int32) * y3)))), (0, .ref (base + 186))]) dX9_keeps_69 rfl (by decide) rfl ?_
  obtain ⟨z7, ez7, hS⟩ := ob hS
  refine g_sub (lvx := [(0, .ref (base + 186)), (1, .int (((66 : Int32) + ((65 : Int32) * y3)))), (2, .int ((0 : Int32)))]) [2, 1, 0] rfl ?_
  refine iter_ind (fun vv => G l D cy base RX9 cX9_keeps 3 none (gRm 0) X (gZm D cy base 0 0 none gNN (gH cy base out)) 70 [(0, .ref (base + 186)), (1, .int (((66 : Int32) + ((65 : Int32) * y3)))), (2, .int (vv.1))] [] 0 0 gNN (gH cy base vv.2)) (fun xx => G l D cy base RX9 cX9_keeps 3 none (gRm 0) X (gZm D cy base 0 0 none gNN (gH cy base out)) 96 [(0, .ref (base + 186))] [] 0 0 gNN (gH cy base xx)) (fun vv rr hh hin hout => k_X9_keeps_b70  (((66 : Int32) + ((65 : Int32) * y3)))  vv rr hh hin (fun xx ee => hout xx ee)) gFU (((0 : Int32)), m2) z7 ez7 ?_
  show G l D cy base RX9 cX9_keeps 3 none (gRm 0) X (gZm D cy base 0 0 none gNN (gH cy base out)) 96 [(0, .ref (base + 186))] [] 0 0 gNN (gH cy base z7)
  refine g_aload_n (j := 0) (x := base + 186) dX9_keeps_96 rfl rfl ?_
  refine gs_getR (r := 190) lk_RX9_19 (tk_186 _) rfl dX9_keeps_97 ?_
  refine g_bipush (v := 65) dX9_keeps_100 (by decide) ?_
  refine g_dup2 dX9_keeps_102 rfl rfl ?_
  obtain ⟨y8, ey8, hS⟩ := ob hS
  refine gs_iald (tk_190 _) dX9_keeps_103 ey8 ?_
  refine g_iconst (v := 1) dX9_keeps_104 (by decide) ?_
  refine g_iadd dX9_keeps_105 ?_
  obtain ⟨m9, em9, hS⟩ := ob hS
  refine gs_iast (tk_190 _) dX9_keeps_106 em9 ?_
  obtain rfl := Option.some.inj hS
  exact g_vret rfl dX9_keeps_107
def f_X9_keeps_b15  (v : Int32 × Mem) : Option ((Int32 × Mem) ⊕ ((Mem))) :=
  if (651 : Int32) ≤ v.1 then (
    some (.inr (v.2))
  ) else (
    (ldA v.2 190 716 ((v.1 + (65 : Int32)))).bind fun y10 =>
    (stA v.2 190 716 (v.1) (y10)).bind fun m11 =>
    some (.inl (((v.1 + (1 : Int32))), (m11)))
  )
set_option maxRecDepth 100000 in
set_option maxHeartbeats 4000000 in
theorem k_X9_keeps_b15 {l : Launch} {D : va_G} {cy : Nat → ClassId} {base : Nat} {X : gX} {Z : gZ}   (v : Int32 × Mem) (r : (Int32 × Mem) ⊕ ((Mem))) (hS : f_X9_keeps_b15  v = some r) (hin : ∀ v2, r = .inl v2 → G l D cy base RX9 cX9_keeps 3 none (gRm 0) X Z 15 [(0, .ref (base + 186)), (1, .int (v2.1))] [] 0 0 gNN (gH cy base v2.2)) (hout0 : ∀ x, r = .inr x → G l D cy base RX9 cX9_keeps 3 none (gRm 0) X Z 43 [(0, .ref (base + 186))] [] 0 0 gNN (gH cy base x)) : G l D cy base RX9 cX9_keeps 3 none (gRm 0) X Z 15 [(0, .ref (base + 186)), (1, .int (v.1))] [] 0 0 gNN (gH cy base v.2) := by
  unfold f_X9_keeps_b15 at hS
  refine g_iload_n (j := 1) (x := v.1) dX9_keeps_15 rfl rfl ?_
  refine g_sipush (v := 651) dX9_keeps_16 (by decide) ?_
  refine g_icmp_ge 43 dX9_keeps_19 (by decide) (fun hc => ?_) (fun hc => ?_)
  · replace hS := (if_pos hc).symm.trans hS
    refine g_sub (lvx := [(0, .ref (base + 186))]) [0] rfl ?_
    obtain rfl := Option.some.inj hS
    exact hout0 ((v.2)) rfl
  · replace hS := (if_neg hc).symm.trans hS
    refine g_aload_n (j := 0) (x := base + 186) dX9_keeps_22 rfl rfl ?_
    refine gs_getR (r := 190) lk_RX9_19 (tk_186 _) rfl dX9_keeps_23 ?_
    refine g_iload_n (j := 1) (x := v.1) dX9_keeps_26 rfl rfl ?_
    refine g_aload_n (j := 0) (x := base + 186) dX9_keeps_27 rfl rfl ?_
    refine gs_getR (r := 190) lk_RX9_19 (tk_186 _) rfl dX9_keeps_28 ?_
    refine g_iload_n (j := 1) (x := v.1) dX9_keeps_31 rfl rfl ?_
    refine g_bipush (v := 65) dX9_keeps_32 (by decide) ?_
    refine g_iadd dX9_keeps_34 ?_
    obtain ⟨y10, ey10, hS⟩ := ob hS
    refine gs_iald (tk_190 _) dX9_keeps_35 ey10 ?_
    obtain ⟨m11, em11, hS⟩ := ob hS
    refine gs_iast (tk_190 _) dX9_keeps_36 em11 ?_
    refine g_iinc (j := 1) (x := v.1) (v := (v.1 + (1 : Int32))) (lvx := [(1, .int ((v.1 + (1 : Int32)))), (0, .ref (base + 186))]) dX9_keeps_37 rfl rfl (by decide) rfl ?_
    refine g_goto 15 dX9_keeps_40 (by decide) ?_
    refine g_sub (lvx := [(0, .ref (base + 186)), (1, .int ((v.1 + (1 : Int32))))]) [1, 0] rfl ?_
    obtain rfl := Option.some.inj hS
    exact hin ((((v.1 + (1 : Int32))), (m11))) rfl
def f_X9_keeps (μ : Mem)  : Option (Mem) :=
  (ldA μ 190 716 ((65 : Int32))).bind fun y1 =>
  if y1 = (10 : Int32) then (
    (iter gFU (f_X9_keeps_b15  ) (((66 : Int32)), μ)).bind fun z12 =>
    (ldA z12 190 716 ((65 : Int32))).bind fun y13 =>
    (stA z12 190 716 ((65 : Int32)) ((y13 - (1 : Int32)))).bind fun m14 =>
    f_X9_keeps_j54 m14 
  ) else (
    f_X9_keeps_j54 μ 
  )
set_option maxRecDepth 100000 in
set_option maxHeartbeats 4000000 in
theorem k_X9_keeps {l : Launch} {D : va_G} {cy : Nat → ClassId} {base : Nat} (μ : Mem)   {out : Mem} (hS : f_X9_keeps μ  = some out) : gC l D cy base yX9_keeps cX9_keeps 3 none 0 [.ref (base + 186)] μ none out := by
  refine gC_of (own := RX9) (lv0 := [(0, .ref (base + 186))]) rfl (by decide) (Nat.le_of_ble_eq_true rfl) rfl ?_
  unfold f_X9_keeps at hS
  refine g_aload_n (j := 0) (x := base + 186) dX9_keeps_0 rfl rfl ?_
  refine gs_getR (r := 190) lk_RX9_19 (tk_186 _) rfl dX9_keeps_1 ?_
  refine g_bipush (v := 65) dX9_keeps_4 (by decide) ?_
  obtain ⟨y1, ey1, hS⟩ := ob hS
  refine gs_iald (tk_190 _) dX9_keeps_6 ey1 ?_
  refine g_bipush (v := 10) dX9_keeps_7 (by decide) ?_
  refine g_icmp_ne 54 dX9_keeps_9 (by decide) (fun hc => ?_) (fun hc => ?_)
  · replace hS := (if_neg hc).symm.trans hS
    exact k_X9_keeps_j54 (μ)   hS
  · replace hS := (if_pos hc).symm.trans hS
    refine g_bipush (v := 66) dX9_keeps_12 (by decide) ?_
    refine g_istore_n (lvx := [(1, .int ((66 : Int32))), (0, .ref (base + 186))]) dX9_keeps_14 rfl (by decide) rfl ?_
    obtain ⟨z12, ez12, hS⟩ := ob hS
    refine g_sub (lvx := [(0, .ref (base + 186)), (1, .int ((66 : Int32)))]) [1, 0] rfl ?_
    refine iter_ind (fun vv => G l D cy base RX9 cX9_keeps 3 none (gRm 0) (gXm yX9_keeps) (gZm D cy base 0 0 none gNN (gH cy base out)) 15 [(0, .ref (base + 186)), (1, .int (vv.1))] [] 0 0 gNN (gH cy base vv.2)) (fun xx => G l D cy base RX9 cX9_keeps 3 none (gRm 0) (gXm yX9_keeps) (gZm D cy base 0 0 none gNN (gH cy base out)) 43 [(0, .ref (base + 186))] [] 0 0 gNN (gH cy base xx)) (fun vv rr hh hin hout => k_X9_keeps_b15    vv rr hh hin (fun xx ee => hout xx ee)) gFU (((66 : Int32)), μ) z12 ez12 ?_
    show G l D cy base RX9 cX9_keeps 3 none (gRm 0) (gXm yX9_keeps) (gZm D cy base 0 0 none gNN (gH cy base out)) 43 [(0, .ref (base + 186))] [] 0 0 gNN (gH cy base z12)
    refine g_aload_n (j := 0) (x := base + 186) dX9_keeps_43 rfl rfl ?_
    refine gs_getR (r := 190) lk_RX9_19 (tk_186 _) rfl dX9_keeps_44 ?_
    refine g_bipush (v := 65) dX9_keeps_47 (by decide) ?_
    refine g_dup2 dX9_keeps_49 rfl rfl ?_
    obtain ⟨y13, ey13, hS⟩ := ob hS
    refine gs_iald (tk_190 _) dX9_keeps_50 ey13 ?_
    refine g_iconst (v := 1) dX9_keeps_51 (by decide) ?_
    refine g_isub dX9_keeps_52 ?_
    obtain ⟨m14, em14, hS⟩ := ob hS
    refine gs_iast (tk_190 _) dX9_keeps_53 em14 ?_
    exact k_X9_keeps_j54 (m14)   hS
def f_X9_counts (μ : Mem) (a1 : Int32) : Option (Int32) :=
  (ldA μ 188 49 (((34 : Int32) + a1))).bind fun y1 =>
  if y1 = (1 : Int32) then (
    some ((1 : Int32))
  ) else (
    some ((2 : Int32))
  )
set_option maxRecDepth 100000 in
set_option maxHeartbeats 4000000 in
theorem k_X9_counts {l : Launch} {D : va_G} {cy : Nat → ClassId} {base : Nat} (μ : Mem) (a1 : Int32)  {out : Int32} (hS : f_X9_counts μ a1 = some out) : gC l D cy base yX9_counts cX9_counts 2 (some .int) 0 [.ref (base + 186), .int (a1)] μ (some (.int out)) μ := by
  refine gC_of (own := RX9) (lv0 := [(0, .ref (base + 186)), (1, .int (a1))]) rfl (by decide) (Nat.le_of_ble_eq_true rfl) rfl ?_
  unfold f_X9_counts at hS
  refine g_aload_n (j := 0) (x := base + 186) dX9_counts_0 rfl rfl ?_
  refine gs_getR (r := 188) lk_RX9_13 (tk_186 _) rfl dX9_counts_1 ?_
  refine g_bipush (v := 34) dX9_counts_4 (by decide) ?_
  refine g_iload_n (j := 1) (x := a1) dX9_counts_6 rfl rfl ?_
  refine g_iadd dX9_counts_7 ?_
  obtain ⟨y1, ey1, hS⟩ := ob hS
  refine gs_iald (tk_188 _) dX9_counts_8 ey1 ?_
  refine g_iconst (v := 1) dX9_counts_9 (by decide) ?_
  refine g_icmp_ne 17 dX9_counts_10 (by decide) (fun hc => ?_) (fun hc => ?_)
  · replace hS := (if_neg hc).symm.trans hS
    refine g_iconst (v := 2) dX9_counts_17 (by decide) ?_
    obtain rfl := Option.some.inj hS
    exact g_iret rfl dX9_counts_18
  · replace hS := (if_pos hc).symm.trans hS
    refine g_iconst (v := 1) dX9_counts_13 (by decide) ?_
    refine g_goto 18 dX9_counts_14 (by decide) ?_
    obtain rfl := Option.some.inj hS
    exact g_iret rfl dX9_counts_18
def f_X9_pays_j27 (m6 : Mem) (x2 : Int32) (x3 : Int32) (x4 : Int32) (x5 : Int32) : Option (Int32 × Mem) :=
  (stA m6 190 716 (x4) (x5)).bind fun m7 =>
  (ldA m7 190 716 ((63 : Int32))).bind fun y8 =>
  if (y8 + x3) ≤ (999999 : Int32) then (
    (ldA m7 190 716 ((63 : Int32))).bind fun y9 =>
    (stA m7 190 716 ((63 : Int32)) ((y9 + x3))).bind fun m10 =>
    (ldA m10 190 716 (x2)).bind fun y11 =>
    some (y11, m10)
  ) else (
    (stA m7 190 716 ((63 : Int32)) ((999999 : Int32))).bind fun m12 =>
    (ldA m12 190 716 (x2)).bind fun y13 =>
    some (y13, m12)
  )
set_option maxRecDepth 100000 in
set_option maxHeartbeats 4000000 in
theorem k_X9_pays_j27 {l : Launch} {D : va_G} {cy : Nat → ClassId} {base : Nat} {X : gX} (m6 : Mem) (x2 : Int32) (x3 : Int32) (x4 : Int32) (x5 : Int32)  {out : Int32 × Mem} (hS : f_X9_pays_j27 m6 x2 x3 x4 x5 = some out)  : G l D cy base RX9 cX9_pays 4 (some .int) (gRm 0) X (gZm D cy base 0 0 (some (.int out.1)) gNN (gH cy base out.2)) 27 [(0, .ref (base + 186)), (1, .int (x2)), (3, .int (x3))] [.int (x5), .int (x4), .ref (base + 190)] 0 0 gNN (gH cy base m6) := by
  unfold f_X9_pays_j27 at hS
  obtain ⟨m7, em7, hS⟩ := ob hS
  refine gs_iast (tk_190 _) dX9_pays_27 em7 ?_
  refine g_aload_n (j := 0) (x := base + 186) dX9_pays_28 rfl rfl ?_
  refine gs_getR (r := 190) lk_RX9_19 (tk_186 _) rfl dX9_pays_29 ?_
  refine g_bipush (v := 63) dX9_pays_32 (by decide) ?_
  refine g_aload_n (j := 0) (x := base + 186) dX9_pays_34 rfl rfl ?_
  refine gs_getR (r := 190) lk_RX9_19 (tk_186 _) rfl dX9_pays_35 ?_
  refine g_bipush (v := 63) dX9_pays_38 (by decide) ?_
  obtain ⟨y8, ey8, hS⟩ := ob hS
  refine gs_iald (tk_190 _) dX9_pays_40 ey8 ?_
  refine g_iload_n (j := 2) (x := x3) dX9_pays_41 rfl rfl ?_
  refine g_iadd dX9_pays_42 ?_
  refine g_ldc cs_RX9_113 dX9_pays_43 ?_
  refine g_icmp_le 53 dX9_pays_45 (by decide) (fun hc => ?_) (fun hc => ?_)
  · replace hS := (if_pos hc).symm.trans hS
    refine g_aload_n (j := 0) (x := base + 186) dX9_pays_53 rfl rfl ?_
    refine gs_getR (r := 190) lk_RX9_19 (tk_186 _) rfl dX9_pays_54 ?_
    refine g_bipush (v := 63) dX9_pays_57 (by decide) ?_
    obtain ⟨y9, ey9, hS⟩ := ob hS
    refine gs_iald (tk_190 _) dX9_pays_59 ey9 ?_
    refine g_iload_n (j := 2) (x := x3) dX9_pays_60 rfl rfl ?_
    refine g_iadd dX9_pays_61 ?_
    obtain ⟨m10, em10, hS⟩ := ob hS
    refine gs_iast (tk_190 _) dX9_pays_62 em10 ?_
    refine g_aload_n (j := 0) (x := base + 186) dX9_pays_63 rfl rfl ?_
    refine gs_getR (r := 190) lk_RX9_19 (tk_186 _) rfl dX9_pays_64 ?_
    refine g_iload_n (j := 1) (x := x2) dX9_pays_67 rfl rfl ?_
    obtain ⟨y11, ey11, hS⟩ := ob hS
    refine gs_iald (tk_190 _) dX9_pays_68 ey11 ?_
    obtain rfl := Option.some.inj hS
    exact g_iret rfl dX9_pays_69
  · replace hS := (if_neg hc).symm.trans hS
    refine g_ldc cs_RX9_113 dX9_pays_48 ?_
    refine g_goto 62 dX9_pays_50 (by decide) ?_
    obtain ⟨m12, em12, hS⟩ := ob hS
    refine gs_iast (tk_190 _) dX9_pays_62 em12 ?_
    refine g_aload_n (j := 0) (x := base + 186) dX9_pays_63 rfl rfl ?_
    refine gs_getR (r := 190) lk_RX9_19 (tk_186 _) rfl dX9_pays_64 ?_
    refine g_iload_n (j := 1) (x := x2) dX9_pays_67 rfl rfl ?_
    obtain ⟨y13, ey13, hS⟩ := ob hS
    refine gs_iald (tk_190 _) dX9_pays_68 ey13 ?_
    obtain rfl := Option.some.inj hS
    exact g_iret rfl dX9_pays_69
def f_X9_pays (μ : Mem) (a1 : Int32) (a2 : Int32) (a3 : Int32) : Option (Int32 × Mem) :=
  (ldA μ 190 716 (a1)).bind fun y1 =>
  if y1 ≤ a2 then (
    f_X9_pays_j27 μ (a1) (a3) (a1) ((0 : Int32))
  ) else (
    (ldA μ 190 716 (a1)).bind fun y14 =>
    f_X9_pays_j27 μ (a1) (a3) (a1) ((y14 - a2))
  )
set_option maxRecDepth 100000 in
set_option maxHeartbeats 4000000 in
theorem k_X9_pays {l : Launch} {D : va_G} {cy : Nat → ClassId} {base : Nat} (μ : Mem) (a1 : Int32) (a2 : Int32) (a3 : Int32)  {out : Int32 × Mem} (hS : f_X9_pays μ a1 a2 a3 = some out) : gC l D cy base yX9_pays cX9_pays 4 (some .int) 0 [.ref (base + 186), .int (a1), .int (a2), .int (a3)] μ (some (.int out.1)) out.2 := by
  refine gC_of (own := RX9) (lv0 := [(0, .ref (base + 186)), (1, .int (a1)), (2, .int (a2)), (3, .int (a3))]) rfl (by decide) (Nat.le_of_ble_eq_true rfl) rfl ?_
  unfold f_X9_pays at hS
  refine g_aload_n (j := 0) (x := base + 186) dX9_pays_0 rfl rfl ?_
  refine gs_getR (r := 190) lk_RX9_19 (tk_186 _) rfl dX9_pays_1 ?_
  refine g_iload_n (j := 1) (x := a1) dX9_pays_4 rfl rfl ?_
  refine g_aload_n (j := 0) (x := base + 186) dX9_pays_5 rfl rfl ?_
  refine gs_getR (r := 190) lk_RX9_19 (tk_186 _) rfl dX9_pays_6 ?_
  refine g_iload_n (j := 1) (x := a1) dX9_pays_9 rfl rfl ?_
  obtain ⟨y1, ey1, hS⟩ := ob hS
  refine gs_iald (tk_190 _) dX9_pays_10 ey1 ?_
  refine g_iload_n (j := 2) (x := a2) dX9_pays_11 rfl rfl ?_
  refine g_icmp_le 26 dX9_pays_12 (by decide) (fun hc => ?_) (fun hc => ?_)
  · replace hS := (if_pos hc).symm.trans hS
    refine g_iconst (v := 0) dX9_pays_26 (by decide) ?_
    refine g_sub (lvx := [(0, .ref (base + 186)), (1, .int (a1)), (3, .int (a3))]) [0, 1, 3] rfl ?_
    exact k_X9_pays_j27 (μ) (a1) (a3) (a1) ((0 : Int32))  hS
  · replace hS := (if_neg hc).symm.trans hS
    refine g_aload_n (j := 0) (x := base + 186) dX9_pays_15 rfl rfl ?_
    refine gs_getR (r := 190) lk_RX9_19 (tk_186 _) rfl dX9_pays_16 ?_
    refine g_iload_n (j := 1) (x := a1) dX9_pays_19 rfl rfl ?_
    obtain ⟨y14, ey14, hS⟩ := ob hS
    refine gs_iald (tk_190 _) dX9_pays_20 ey14 ?_
    refine g_iload_n (j := 2) (x := a2) dX9_pays_21 rfl rfl ?_
    refine g_isub dX9_pays_22 ?_
    refine g_goto 27 dX9_pays_23 (by decide) ?_
    refine g_sub (lvx := [(0, .ref (base + 186)), (1, .int (a1)), (3, .int (a3))]) [0, 1, 3] rfl ?_
    exact k_X9_pays_j27 (μ) (a1) (a3) (a1) ((y14 - a2))  hS
def f_X9_falls (μ : Mem) (a1 : Int32) (a2 : Int32) : Option (Int32 × Mem) :=
  (f_X9_isPerson μ (a1)).bind fun y1 =>
  if y1 = (0 : Int32) then (
    some ((-1 : Int32), μ)
  ) else (
    (f_X9_isStair μ (a2)).bind fun y2 =>
    if y2 = (0 : Int32) then (
      some ((-1 : Int32), μ)
    ) else (
      (f_X9_keeps μ ).bind fun m4 =>
      (f_X9_counts m4 (a1)).bind fun y5 =>
      (ldA m4 188 49 (((44 : Int32) + a1))).bind fun y6 =>
      (f_X9_pays m4 (a2) (y5) (y6)).bind fun z7 =>
      some (z7.1, z7.2)
    )
  )
set_option maxRecDepth 100000 in
set_option maxHeartbeats 4000000 in
theorem k_X9_falls {l : Launch} {D : va_G} {cy : Nat → ClassId} {base : Nat} (μ : Mem) (a1 : Int32) (a2 : Int32)  {out : Int32 × Mem} (hS : f_X9_falls μ a1 a2 = some out) : gC l D cy base yX9_falls cX9_falls 3 (some .int) 2 [.ref (base + 186), .int (a1), .int (a2)] μ (some (.int out.1)) out.2 := by
  refine gC_of (own := RX9) (lv0 := [(0, .ref (base + 186)), (1, .int (a1)), (2, .int (a2))]) rfl (by decide) (Nat.le_of_ble_eq_true rfl) rfl ?_
  unfold f_X9_falls at hS
  refine g_aload_n (j := 0) (x := base + 186) dX9_falls_0 rfl rfl ?_
  refine g_iload_n (j := 1) (x := a1) dX9_falls_1 rfl rfl ?_
  obtain ⟨y1, ey1, hS⟩ := ob hS
  refine gs_callVi (As := [.int (a1)]) (st := []) (kr := 186) (k_X9_isPerson μ (a1)  ey1) cl_RX9_110 sv_X9_isPerson ckk_X9_isPerson (tk_186 _) ⟨by decide, by decide⟩ (Nat.le_of_ble_eq_true rfl) ⟨Nat.zero_le _, Nat.zero_le _⟩ rfl dX9_falls_2 rfl ?_
  refine g_if_eq 16 dX9_falls_5 (by decide) (fun hc => ?_) (fun hc => ?_)
  · replace hS := (if_pos hc).symm.trans hS
    refine g_iconst (v := -1) dX9_falls_16 (by decide) ?_
    obtain rfl := Option.some.inj hS
    exact g_iret rfl dX9_falls_17
  · replace hS := (if_neg hc).symm.trans hS
    refine g_aload_n (j := 0) (x := base + 186) dX9_falls_8 rfl rfl ?_
    refine g_iload_n (j := 2) (x := a2) dX9_falls_9 rfl rfl ?_
    obtain ⟨y2, ey2, hS⟩ := ob hS
    refine gs_callVi (As := [.int (a2)]) (st := []) (kr := 186) (k_X9_isStair μ (a2)  ey2) cl_RX9_104 sv_X9_isStair ckk_X9_isStair (tk_186 _) ⟨by decide, by decide⟩ (Nat.le_of_ble_eq_true rfl) ⟨Nat.zero_le _, Nat.zero_le _⟩ rfl dX9_falls_10 rfl ?_
    refine g_if_ne 18 dX9_falls_13 (by decide) (fun hc => ?_) (fun hc => ?_)
    · replace hS := (if_neg hc).symm.trans hS
      refine g_aload_n (j := 0) (x := base + 186) dX9_falls_18 rfl rfl ?_
      obtain ⟨m4, em4, hS⟩ := ob hS
      refine gs_callVv (As := []) (st := []) (kr := 186) (k_X9_keeps μ   em4) cl_RX9_114 sv_X9_keeps ckk_X9_keeps (tk_186 _) ⟨by decide, by decide⟩ (Nat.le_of_ble_eq_true rfl) ⟨Nat.zero_le _, Nat.zero_le _⟩ rfl dX9_falls_19 rfl ?_
      refine g_aload_n (j := 0) (x := base + 186) dX9_falls_22 rfl rfl ?_
      refine g_iload_n (j := 2) (x := a2) dX9_falls_23 rfl rfl ?_
      refine g_aload_n (j := 0) (x := base + 186) dX9_falls_24 rfl rfl ?_
      refine g_iload_n (j := 1) (x := a1) dX9_falls_25 rfl rfl ?_
      obtain ⟨y5, ey5, hS⟩ := ob hS
      refine gs_callVi (As := [.int (a1)]) (st := [.int (a2), .ref (base + 186)]) (kr := 186) (k_X9_counts m4 (a1)  ey5) cl_RX9_117 sv_X9_counts ckk_X9_counts (tk_186 _) ⟨by decide, by decide⟩ (Nat.le_of_ble_eq_true rfl) ⟨Nat.zero_le _, Nat.zero_le _⟩ rfl dX9_falls_26 rfl ?_
      refine g_aload_n (j := 0) (x := base + 186) dX9_falls_29 rfl rfl ?_
      refine gs_getR (r := 188) lk_RX9_13 (tk_186 _) rfl dX9_falls_30 ?_
      refine g_bipush (v := 44) dX9_falls_33 (by decide) ?_
      refine g_iload_n (j := 1) (x := a1) dX9_falls_35 rfl rfl ?_
      refine g_iadd dX9_falls_36 ?_
      obtain ⟨y6, ey6, hS⟩ := ob hS
      refine gs_iald (tk_188 _) dX9_falls_37 ey6 ?_
      obtain ⟨z7, ez7, hS⟩ := ob hS
      refine gs_callVi (As := [.int (a2), .int (y5), .int (y6)]) (st := []) (kr := 186) (k_X9_pays m4 (a2) (y5) (y6)  ez7) cl_RX9_120 sv_X9_pays ckk_X9_pays (tk_186 _) ⟨by decide, by decide⟩ (Nat.le_of_ble_eq_true rfl) ⟨Nat.zero_le _, Nat.zero_le _⟩ rfl dX9_falls_38 rfl ?_
      obtain rfl := Option.some.inj hS
      exact g_iret rfl dX9_falls_41
    · replace hS := (if_pos hc).symm.trans hS
      refine g_iconst (v := -1) dX9_falls_16 (by decide) ?_
      obtain rfl := Option.some.inj hS
      exact g_iret rfl dX9_falls_17
def f_X9_together (μ : Mem) (a1 : Int32) (a2 : Int32) (a3 : Int32) : Option (Int32 × Mem) :=
  (f_X9_isPerson μ (a1)).bind fun y1 =>
  if y1 = (0 : Int32) then (
    some ((-1 : Int32), μ)
  ) else (
    (f_X9_isPerson μ (a2)).bind fun y2 =>
    if y2 = (0 : Int32) then (
      some ((-1 : Int32), μ)
    ) else (
      if a1 = a2 then (
        some ((-1 : Int32), μ)
      ) else (
        (f_X9_isStair μ (a3)).bind fun y3 =>
        if y3 = (0 : Int32) then (
          some ((-1 : Int32), μ)
        ) else (
          (f_X9_keeps μ ).bind fun m5 =>
          (ldA m5 188 49 ((3 : Int32))).bind fun y6 =>
          (ldA m5 188 49 (((44 : Int32) + a1))).bind fun y7 =>
          (ldA m5 188 49 (((44 : Int32) + a2))).bind fun y8 =>
          (f_X9_pays m5 (a3) (y6) ((y7 + y8))).bind fun z9 =>
          some (z9.1, z9.2)
        )
      )
    )
  )
set_option maxRecDepth 100000 in
set_option maxHeartbeats 4000000 in
theorem k_X9_together {l : Launch} {D : va_G} {cy : Nat → ClassId} {base : Nat} (μ : Mem) (a1 : Int32) (a2 : Int32) (a3 : Int32)  {out : Int32 × Mem} (hS : f_X9_together μ a1 a2 a3 = some out) : gC l D cy base yX9_together cX9_together 4 (some .int) 2 [.ref (base + 186), .int (a1), .int (a2), .int (a3)] μ (some (.int out.1)) out.2 := by
  refine gC_of (own := RX9) (lv0 := [(0, .ref (base + 186)), (1, .int (a1)), (2, .int (a2)), (3, .int (a3))]) rfl (by decide) (Nat.le_of_ble_eq_true rfl) rfl ?_
  unfold f_X9_together at hS
  refine g_aload_n (j := 0) (x := base + 186) dX9_together_0 rfl rfl ?_
  refine g_iload_n (j := 1) (x := a1) dX9_together_1 rfl rfl ?_
  obtain ⟨y1, ey1, hS⟩ := ob hS
  refine gs_callVi (As := [.int (a1)]) (st := []) (kr := 186) (k_X9_isPerson μ (a1)  ey1) cl_RX9_110 sv_X9_isPerson ckk_X9_isPerson (tk_186 _) ⟨by decide, by decide⟩ (Nat.le_of_ble_eq_true rfl) ⟨Nat.zero_le _, Nat.zero_le _⟩ rfl dX9_together_2 rfl ?_
  refine g_if_eq 29 dX9_together_5 (by decide) (fun hc => ?_) (fun hc => ?_)
  · replace hS := (if_pos hc).symm.trans hS
    refine g_iconst (v := -1) dX9_together_29 (by decide) ?_
    obtain rfl := Option.some.inj hS
    exact g_iret rfl dX9_together_30
  · replace hS := (if_neg hc).symm.trans hS
    refine g_aload_n (j := 0) (x := base + 186) dX9_together_8 rfl rfl ?_
    refine g_iload_n (j := 2) (x := a2) dX9_together_9 rfl rfl ?_
    obtain ⟨y2, ey2, hS⟩ := ob hS
    refine gs_callVi (As := [.int (a2)]) (st := []) (kr := 186) (k_X9_isPerson μ (a2)  ey2) cl_RX9_110 sv_X9_isPerson ckk_X9_isPerson (tk_186 _) ⟨by decide, by decide⟩ (Nat.le_of_ble_eq_true rfl) ⟨Nat.zero_le _, Nat.zero_le _⟩ rfl dX9_together_10 rfl ?_
    refine g_if_eq 29 dX9_together_13 (by decide) (fun hc => ?_) (fun hc => ?_)
    · replace hS := (if_pos hc).symm.trans hS
      refine g_iconst (v := -1) dX9_together_29 (by decide) ?_
      obtain rfl := Option.some.inj hS
      exact g_iret rfl dX9_together_30
    · replace hS := (if_neg hc).symm.trans hS
      refine g_iload_n (j := 1) (x := a1) dX9_together_16 rfl rfl ?_
      refine g_iload_n (j := 2) (x := a2) dX9_together_17 rfl rfl ?_
      refine g_icmp_eq 29 dX9_together_18 (by decide) (fun hc => ?_) (fun hc => ?_)
      · replace hS := (if_pos hc).symm.trans hS
        refine g_iconst (v := -1) dX9_together_29 (by decide) ?_
        obtain rfl := Option.some.inj hS
        exact g_iret rfl dX9_together_30
      · replace hS := (if_neg hc).symm.trans hS
        refine g_aload_n (j := 0) (x := base + 186) dX9_together_21 rfl rfl ?_
        refine g_iload_n (j := 3) (x := a3) dX9_together_22 rfl rfl ?_
        obtain ⟨y3, ey3, hS⟩ := ob hS
        refine gs_callVi (As := [.int (a3)]) (st := []) (kr := 186) (k_X9_isStair μ (a3)  ey3) cl_RX9_104 sv_X9_isStair ckk_X9_isStair (tk_186 _) ⟨by decide, by decide⟩ (Nat.le_of_ble_eq_true rfl) ⟨Nat.zero_le _, Nat.zero_le _⟩ rfl dX9_together_23 rfl ?_
        refine g_if_ne 31 dX9_together_26 (by decide) (fun hc => ?_) (fun hc => ?_)
        · replace hS := (if_neg hc).symm.trans hS
          refine g_aload_n (j := 0) (x := base + 186) dX9_together_31 rfl rfl ?_
          obtain ⟨m5, em5, hS⟩ := ob hS
          refine gs_callVv (As := []) (st := []) (kr := 186) (k_X9_keeps μ   em5) cl_RX9_114 sv_X9_keeps ckk_X9_keeps (tk_186 _) ⟨by decide, by decide⟩ (Nat.le_of_ble_eq_true rfl) ⟨Nat.zero_le _, Nat.zero_le _⟩ rfl dX9_together_32 rfl ?_
          refine g_aload_n (j := 0) (x := base + 186) dX9_together_35 rfl rfl ?_
          refine g_iload_n (j := 3) (x := a3) dX9_together_36 rfl rfl ?_
          refine g_aload_n (j := 0) (x := base + 186) dX9_together_37 rfl rfl ?_
          refine gs_getR (r := 188) lk_RX9_13 (tk_186 _) rfl dX9_together_38 ?_
          refine g_iconst (v := 3) dX9_together_41 (by decide) ?_
          obtain ⟨y6, ey6, hS⟩ := ob hS
          refine gs_iald (tk_188 _) dX9_together_42 ey6 ?_
          refine g_aload_n (j := 0) (x := base + 186) dX9_together_43 rfl rfl ?_
          refine gs_getR (r := 188) lk_RX9_13 (tk_186 _) rfl dX9_together_44 ?_
          refine g_bipush (v := 44) dX9_together_47 (by decide) ?_
          refine g_iload_n (j := 1) (x := a1) dX9_together_49 rfl rfl ?_
          refine g_iadd dX9_together_50 ?_
          obtain ⟨y7, ey7, hS⟩ := ob hS
          refine gs_iald (tk_188 _) dX9_together_51 ey7 ?_
          refine g_aload_n (j := 0) (x := base + 186) dX9_together_52 rfl rfl ?_
          refine gs_getR (r := 188) lk_RX9_13 (tk_186 _) rfl dX9_together_53 ?_
          refine g_bipush (v := 44) dX9_together_56 (by decide) ?_
          refine g_iload_n (j := 2) (x := a2) dX9_together_58 rfl rfl ?_
          refine g_iadd dX9_together_59 ?_
          obtain ⟨y8, ey8, hS⟩ := ob hS
          refine gs_iald (tk_188 _) dX9_together_60 ey8 ?_
          refine g_iadd dX9_together_61 ?_
          obtain ⟨z9, ez9, hS⟩ := ob hS
          refine gs_callVi (As := [.int (a3), .int (y6), .int ((y7 + y8))]) (st := []) (kr := 186) (k_X9_pays m5 (a3) (y6) ((y7 + y8))  ez9) cl_RX9_120 sv_X9_pays ckk_X9_pays (tk_186 _) ⟨by decide, by decide⟩ (Nat.le_of_ble_eq_true rfl) ⟨Nat.zero_le _, Nat.zero_le _⟩ rfl dX9_together_62 rfl ?_
          obtain rfl := Option.some.inj hS
          exact g_iret rfl dX9_together_65
        · replace hS := (if_pos hc).symm.trans hS
          refine g_iconst (v := -1) dX9_together_29 (by decide) ?_
          obtain rfl := Option.some.inj hS
          exact g_iret rfl dX9_together_30
def f_X9_throwsDoll (μ : Mem) (a1 : Int32) : Option (Int32 × Mem) :=
  (f_X9_isStair μ (a1)).bind fun y1 =>
  if y1 = (0 : Int32) then (
    some ((-1 : Int32), μ)
  ) else (
    (ldA μ 190 716 (((7 : Int32) + a1))).bind fun y2 =>
    (ldA μ 188 49 ((2 : Int32))).bind fun y3 =>
    if y2 < y3 then (
      (f_X9_keeps μ ).bind fun m5 =>
      (ldA m5 190 716 (((7 : Int32) + a1))).bind fun y6 =>
      (stA m5 190 716 (((7 : Int32) + a1)) ((y6 + (1 : Int32)))).bind fun m7 =>
      (f_X9_pays m7 (a1) ((1 : Int32)) ((0 : Int32))).bind fun z8 =>
      some (z8.1, z8.2)
    ) else (
      some ((-2 : Int32), μ)
    )
  )
set_option maxRecDepth 100000 in
set_option maxHeartbeats 4000000 in
theorem k_X9_throwsDoll {l : Launch} {D : va_G} {cy : Nat → ClassId} {base : Nat} (μ : Mem) (a1 : Int32)  {out : Int32 × Mem} (hS : f_X9_throwsDoll μ a1 = some out) : gC l D cy base yX9_throwsDoll cX9_throwsDoll 2 (some .int) 2 [.ref (base + 186), .int (a1)] μ (some (.int out.1)) out.2 := by
  refine gC_of (own := RX9) (lv0 := [(0, .ref (base + 186)), (1, .int (a1))]) rfl (by decide) (Nat.le_of_ble_eq_true rfl) rfl ?_
  unfold f_X9_throwsDoll at hS
  refine g_aload_n (j := 0) (x := base + 186) dX9_throwsDoll_0 rfl rfl ?_
  refine g_iload_n (j := 1) (x := a1) dX9_throwsDoll_1 rfl rfl ?_
  obtain ⟨y1, ey1, hS⟩ := ob hS
  refine gs_callVi (As := [.int (a1)]) (st := []) (kr := 186) (k_X9_isStair μ (a1)  ey1) cl_RX9_104 sv_X9_isStair ckk_X9_isStair (tk_186 _) ⟨by decide, by decide⟩ (Nat.le_of_ble_eq_true rfl) ⟨Nat.zero_le _, Nat.zero_le _⟩ rfl dX9_throwsDoll_2 rfl ?_
  refine g_if_ne 10 dX9_throwsDoll_5 (by decide) (fun hc => ?_) (fun hc => ?_)
  · replace hS := (if_neg hc).symm.trans hS
    refine g_aload_n (j := 0) (x := base + 186) dX9_throwsDoll_10 rfl rfl ?_
    refine gs_getR (r := 190) lk_RX9_19 (tk_186 _) rfl dX9_throwsDoll_11 ?_
    refine g_bipush (v := 7) dX9_throwsDoll_14 (by decide) ?_
    refine g_iload_n (j := 1) (x := a1) dX9_throwsDoll_16 rfl rfl ?_
    refine g_iadd dX9_throwsDoll_17 ?_
    obtain ⟨y2, ey2, hS⟩ := ob hS
    refine gs_iald (tk_190 _) dX9_throwsDoll_18 ey2 ?_
    refine g_aload_n (j := 0) (x := base + 186) dX9_throwsDoll_19 rfl rfl ?_
    refine gs_getR (r := 188) lk_RX9_13 (tk_186 _) rfl dX9_throwsDoll_20 ?_
    refine g_iconst (v := 2) dX9_throwsDoll_23 (by decide) ?_
    obtain ⟨y3, ey3, hS⟩ := ob hS
    refine gs_iald (tk_188 _) dX9_throwsDoll_24 ey3 ?_
    refine g_icmp_lt 31 dX9_throwsDoll_25 (by decide) (fun hc => ?_) (fun hc => ?_)
    · replace hS := (if_pos hc).symm.trans hS
      refine g_aload_n (j := 0) (x := base + 186) dX9_throwsDoll_31 rfl rfl ?_
      obtain ⟨m5, em5, hS⟩ := ob hS
      refine gs_callVv (As := []) (st := []) (kr := 186) (k_X9_keeps μ   em5) cl_RX9_114 sv_X9_keeps ckk_X9_keeps (tk_186 _) ⟨by decide, by decide⟩ (Nat.le_of_ble_eq_true rfl) ⟨Nat.zero_le _, Nat.zero_le _⟩ rfl dX9_throwsDoll_32 rfl ?_
      refine g_aload_n (j := 0) (x := base + 186) dX9_throwsDoll_35 rfl rfl ?_
      refine gs_getR (r := 190) lk_RX9_19 (tk_186 _) rfl dX9_throwsDoll_36 ?_
      refine g_bipush (v := 7) dX9_throwsDoll_39 (by decide) ?_
      refine g_iload_n (j := 1) (x := a1) dX9_throwsDoll_41 rfl rfl ?_
      refine g_iadd dX9_throwsDoll_42 ?_
      refine g_dup2 dX9_throwsDoll_43 rfl rfl ?_
      obtain ⟨y6, ey6, hS⟩ := ob hS
      refine gs_iald (tk_190 _) dX9_throwsDoll_44 ey6 ?_
      refine g_iconst (v := 1) dX9_throwsDoll_45 (by decide) ?_
      refine g_iadd dX9_throwsDoll_46 ?_
      obtain ⟨m7, em7, hS⟩ := ob hS
      refine gs_iast (tk_190 _) dX9_throwsDoll_47 em7 ?_
      refine g_aload_n (j := 0) (x := base + 186) dX9_throwsDoll_48 rfl rfl ?_
      refine g_iload_n (j := 1) (x := a1) dX9_throwsDoll_49 rfl rfl ?_
      refine g_iconst (v := 1) dX9_throwsDoll_50 (by decide) ?_
      refine g_iconst (v := 0) dX9_throwsDoll_51 (by decide) ?_
      obtain ⟨z8, ez8, hS⟩ := ob hS
      refine gs_callVi (As := [.int (a1), .int ((1 : Int32)), .int ((0 : Int32))]) (st := []) (kr := 186) (k_X9_pays m7 (a1) ((1 : Int32)) ((0 : Int32))  ez8) cl_RX9_120 sv_X9_pays ckk_X9_pays (tk_186 _) ⟨by decide, by decide⟩ (Nat.le_of_ble_eq_true rfl) ⟨Nat.zero_le _, Nat.zero_le _⟩ rfl dX9_throwsDoll_52 rfl ?_
      obtain rfl := Option.some.inj hS
      exact g_iret rfl dX9_throwsDoll_55
    · replace hS := (if_neg hc).symm.trans hS
      refine g_bipush (v := -2) dX9_throwsDoll_28 (by decide) ?_
      obtain rfl := Option.some.inj hS
      exact g_iret rfl dX9_throwsDoll_30
  · replace hS := (if_pos hc).symm.trans hS
    refine g_iconst (v := -1) dX9_throwsDoll_8 (by decide) ?_
    obtain rfl := Option.some.inj hS
    exact g_iret rfl dX9_throwsDoll_9
def f_X9_sells (μ : Mem) (a1 : Int32) (a2 : Int32) (a3 : Int32) : Option (Int32 × Mem) :=
  (f_X9_isStair μ (a1)).bind fun y1 =>
  if y1 = (0 : Int32) then (
    some ((-1 : Int32), μ)
  ) else (
    (f_X9_isStair μ (a2)).bind fun y2 =>
    if y2 = (0 : Int32) then (
      some ((-1 : Int32), μ)
    ) else (
      if a1 = a2 then (
        some ((-1 : Int32), μ)
      ) else (
        (f_X9_in μ (a3) ((1 : Int32)) ((99 : Int32))).bind fun y3 =>
        if y3 = (0 : Int32) then (
          some ((-1 : Int32), μ)
        ) else (
          (ldA μ 190 716 (a1)).bind fun y4 =>
          if a3 ≤ y4 then (
            (ldA μ 190 716 (a2)).bind fun y5 =>
            if (y5 + a3) ≤ (999 : Int32) then (
              (f_X9_keeps μ ).bind fun m7 =>
              (ldA m7 190 716 (a1)).bind fun y8 =>
              (stA m7 190 716 (a1) ((y8 - a3))).bind fun m9 =>
              (ldA m9 190 716 (a2)).bind fun y10 =>
              (stA m9 190 716 (a2) ((y10 + a3))).bind fun m11 =>
              (ldA m11 190 716 ((((14 : Int32) + ((7 : Int32) * a1)) + a2))).bind fun y12 =>
              (stA m11 190 716 ((((14 : Int32) + ((7 : Int32) * a1)) + a2)) ((y12 + a3))).bind fun m13 =>
              (ldA m13 190 716 (a1)).bind fun y14 =>
              some (y14, m13)
            ) else (
              some ((-3 : Int32), μ)
            )
          ) else (
            some ((-2 : Int32), μ)
          )
        )
      )
    )
  )
set_option maxRecDepth 100000 in
set_option maxHeartbeats 4000000 in
theorem k_X9_sells {l : Launch} {D : va_G} {cy : Nat → ClassId} {base : Nat} (μ : Mem) (a1 : Int32) (a2 : Int32) (a3 : Int32)  {out : Int32 × Mem} (hS : f_X9_sells μ a1 a2 a3 = some out) : gC l D cy base yX9_sells cX9_sells 4 (some .int) 2 [.ref (base + 186), .int (a1), .int (a2), .int (a3)] μ (some (.int out.1)) out.2 := by
  refine gC_of (own := RX9) (lv0 := [(0, .ref (base + 186)), (1, .int (a1)), (2, .int (a2)), (3, .int (a3))]) rfl (by decide) (Nat.le_of_ble_eq_true rfl) rfl ?_
  unfold f_X9_sells at hS
  refine g_aload_n (j := 0) (x := base + 186) dX9_sells_0 rfl rfl ?_
  refine g_iload_n (j := 1) (x := a1) dX9_sells_1 rfl rfl ?_
  obtain ⟨y1, ey1, hS⟩ := ob hS
  refine gs_callVi (As := [.int (a1)]) (st := []) (kr := 186) (k_X9_isStair μ (a1)  ey1) cl_RX9_104 sv_X9_isStair ckk_X9_isStair (tk_186 _) ⟨by decide, by decide⟩ (Nat.le_of_ble_eq_true rfl) ⟨Nat.zero_le _, Nat.zero_le _⟩ rfl dX9_sells_2 rfl ?_
  refine g_if_eq 31 dX9_sells_5 (by decide) (fun hc => ?_) (fun hc => ?_)
  · replace hS := (if_pos hc).symm.trans hS
    refine g_iconst (v := -1) dX9_sells_31 (by decide) ?_
    obtain rfl := Option.some.inj hS
    exact g_iret rfl dX9_sells_32
  · replace hS := (if_neg hc).symm.trans hS
    refine g_aload_n (j := 0) (x := base + 186) dX9_sells_8 rfl rfl ?_
    refine g_iload_n (j := 2) (x := a2) dX9_sells_9 rfl rfl ?_
    obtain ⟨y2, ey2, hS⟩ := ob hS
    refine gs_callVi (As := [.int (a2)]) (st := []) (kr := 186) (k_X9_isStair μ (a2)  ey2) cl_RX9_104 sv_X9_isStair ckk_X9_isStair (tk_186 _) ⟨by decide, by decide⟩ (Nat.le_of_ble_eq_true rfl) ⟨Nat.zero_le _, Nat.zero_le _⟩ rfl dX9_sells_10 rfl ?_
    refine g_if_eq 31 dX9_sells_13 (by decide) (fun hc => ?_) (fun hc => ?_)
    · replace hS := (if_pos hc).symm.trans hS
      refine g_iconst (v := -1) dX9_sells_31 (by decide) ?_
      obtain rfl := Option.some.inj hS
      exact g_iret rfl dX9_sells_32
    · replace hS := (if_neg hc).symm.trans hS
      refine g_iload_n (j := 1) (x := a1) dX9_sells_16 rfl rfl ?_
      refine g_iload_n (j := 2) (x := a2) dX9_sells_17 rfl rfl ?_
      refine g_icmp_eq 31 dX9_sells_18 (by decide) (fun hc => ?_) (fun hc => ?_)
      · replace hS := (if_pos hc).symm.trans hS
        refine g_iconst (v := -1) dX9_sells_31 (by decide) ?_
        obtain rfl := Option.some.inj hS
        exact g_iret rfl dX9_sells_32
      · replace hS := (if_neg hc).symm.trans hS
        refine g_iload_n (j := 3) (x := a3) dX9_sells_21 rfl rfl ?_
        refine g_iconst (v := 1) dX9_sells_22 (by decide) ?_
        refine g_bipush (v := 99) dX9_sells_23 (by decide) ?_
        obtain ⟨y3, ey3, hS⟩ := ob hS
        refine gs_callSi (As := [.int (a3), .int ((1 : Int32)), .int ((99 : Int32))]) (st := []) (k_X9_in μ (a3) ((1 : Int32)) ((99 : Int32))  ey3) cl_RX9_54 sv_X9_in ⟨by decide, by decide⟩ (Nat.le_of_ble_eq_true rfl) ⟨Nat.zero_le _, Nat.zero_le _⟩ rfl dX9_sells_25 rfl ?_
        refine g_if_ne 33 dX9_sells_28 (by decide) (fun hc => ?_) (fun hc => ?_)
        · replace hS := (if_neg hc).symm.trans hS
          refine g_aload_n (j := 0) (x := base + 186) dX9_sells_33 rfl rfl ?_
          refine gs_getR (r := 190) lk_RX9_19 (tk_186 _) rfl dX9_sells_34 ?_
          refine g_iload_n (j := 1) (x := a1) dX9_sells_37 rfl rfl ?_
          obtain ⟨y4, ey4, hS⟩ := ob hS
          refine gs_iald (tk_190 _) dX9_sells_38 ey4 ?_
          refine g_iload_n (j := 3) (x := a3) dX9_sells_39 rfl rfl ?_
          refine g_icmp_ge 46 dX9_sells_40 (by decide) (fun hc => ?_) (fun hc => ?_)
          · replace hS := (if_pos hc).symm.trans hS
            refine g_aload_n (j := 0) (x := base + 186) dX9_sells_46 rfl rfl ?_
            refine gs_getR (r := 190) lk_RX9_19 (tk_186 _) rfl dX9_sells_47 ?_
            refine g_iload_n (j := 2) (x := a2) dX9_sells_50 rfl rfl ?_
            obtain ⟨y5, ey5, hS⟩ := ob hS
            refine gs_iald (tk_190 _) dX9_sells_51 ey5 ?_
            refine g_iload_n (j := 3) (x := a3) dX9_sells_52 rfl rfl ?_
            refine g_iadd dX9_sells_53 ?_
            refine g_sipush (v := 999) dX9_sells_54 (by decide) ?_
            refine g_icmp_le 63 dX9_sells_57 (by decide) (fun hc => ?_) (fun hc => ?_)
            · replace hS := (if_pos hc).symm.trans hS
              refine g_aload_n (j := 0) (x := base + 186) dX9_sells_63 rfl rfl ?_
              obtain ⟨m7, em7, hS⟩ := ob hS
              refine gs_callVv (As := []) (st := []) (kr := 186) (k_X9_keeps μ   em7) cl_RX9_114 sv_X9_keeps ckk_X9_keeps (tk_186 _) ⟨by decide, by decide⟩ (Nat.le_of_ble_eq_true rfl) ⟨Nat.zero_le _, Nat.zero_le _⟩ rfl dX9_sells_64 rfl ?_
              refine g_aload_n (j := 0) (x := base + 186) dX9_sells_67 rfl rfl ?_
              refine gs_getR (r := 190) lk_RX9_19 (tk_186 _) rfl dX9_sells_68 ?_
              refine g_iload_n (j := 1) (x := a1) dX9_sells_71 rfl rfl ?_
              refine g_dup2 dX9_sells_72 rfl rfl ?_
              obtain ⟨y8, ey8, hS⟩ := ob hS
              refine gs_iald (tk_190 _) dX9_sells_73 ey8 ?_
              refine g_iload_n (j := 3) (x := a3) dX9_sells_74 rfl rfl ?_
              refine g_isub dX9_sells_75 ?_
              obtain ⟨m9, em9, hS⟩ := ob hS
              refine gs_iast (tk_190 _) dX9_sells_76 em9 ?_
              refine g_aload_n (j := 0) (x := base + 186) dX9_sells_77 rfl rfl ?_
              refine gs_getR (r := 190) lk_RX9_19 (tk_186 _) rfl dX9_sells_78 ?_
              refine g_iload_n (j := 2) (x := a2) dX9_sells_81 rfl rfl ?_
              refine g_dup2 dX9_sells_82 rfl rfl ?_
              obtain ⟨y10, ey10, hS⟩ := ob hS
              refine gs_iald (tk_190 _) dX9_sells_83 ey10 ?_
              refine g_iload_n (j := 3) (x := a3) dX9_sells_84 rfl rfl ?_
              refine g_iadd dX9_sells_85 ?_
              obtain ⟨m11, em11, hS⟩ := ob hS
              refine gs_iast (tk_190 _) dX9_sells_86 em11 ?_
              refine g_aload_n (j := 0) (x := base + 186) dX9_sells_87 rfl rfl ?_
              refine gs_getR (r := 190) lk_RX9_19 (tk_186 _) rfl dX9_sells_88 ?_
              refine g_bipush (v := 14) dX9_sells_91 (by decide) ?_
              refine g_bipush (v := 7) dX9_sells_93 (by decide) ?_
              refine g_iload_n (j := 1) (x := a1) dX9_sells_95 rfl rfl ?_
              refine g_imul dX9_sells_96 ?_
              refine g_iadd dX9_sells_97 ?_
              refine g_iload_n (j := 2) (x := a2) dX9_sells_98 rfl rfl ?_
              refine g_iadd dX9_sells_99 ?_
              refine g_dup2 dX9_sells_100 rfl rfl ?_
              obtain ⟨y12, ey12, hS⟩ := ob hS
              refine gs_iald (tk_190 _) dX9_sells_101 ey12 ?_
              refine g_iload_n (j := 3) (x := a3) dX9_sells_102 rfl rfl ?_
              refine g_iadd dX9_sells_103 ?_
              obtain ⟨m13, em13, hS⟩ := ob hS
              refine gs_iast (tk_190 _) dX9_sells_104 em13 ?_
              refine g_aload_n (j := 0) (x := base + 186) dX9_sells_105 rfl rfl ?_
              refine gs_getR (r := 190) lk_RX9_19 (tk_186 _) rfl dX9_sells_106 ?_
              refine g_iload_n (j := 1) (x := a1) dX9_sells_109 rfl rfl ?_
              obtain ⟨y14, ey14, hS⟩ := ob hS
              refine gs_iald (tk_190 _) dX9_sells_110 ey14 ?_
              obtain rfl := Option.some.inj hS
              exact g_iret rfl dX9_sells_111
            · replace hS := (if_neg hc).symm.trans hS
              refine g_bipush (v := -3) dX9_sells_60 (by decide) ?_
              obtain rfl := Option.some.inj hS
              exact g_iret rfl dX9_sells_62
          · replace hS := (if_neg hc).symm.trans hS
            refine g_bipush (v := -2) dX9_sells_43 (by decide) ?_
            obtain rfl := Option.some.inj hS
            exact g_iret rfl dX9_sells_45
        · replace hS := (if_pos hc).symm.trans hS
          refine g_iconst (v := -1) dX9_sells_31 (by decide) ?_
          obtain rfl := Option.some.inj hS
          exact g_iret rfl dX9_sells_32
def f_X9_redeems (μ : Mem) (a1 : Int32) : Option (Int32 × Mem) :=
  (f_X9_isStair μ (a1)).bind fun y1 =>
  if y1 = (0 : Int32) then (
    some ((-1 : Int32), μ)
  ) else (
    (ldA μ 190 716 (a1)).bind fun y2 =>
    if y2 = (0 : Int32) then (
      some ((-2 : Int32), μ)
    ) else (
      (f_X9_keeps μ ).bind fun m4 =>
      (ldA m4 190 716 (a1)).bind fun y5 =>
      (stA m4 190 716 (a1) ((0 : Int32))).bind fun m6 =>
      some (y5, m6)
    )
  )
set_option maxRecDepth 100000 in
set_option maxHeartbeats 4000000 in
theorem k_X9_redeems {l : Launch} {D : va_G} {cy : Nat → ClassId} {base : Nat} (μ : Mem) (a1 : Int32)  {out : Int32 × Mem} (hS : f_X9_redeems μ a1 = some out) : gC l D cy base yX9_redeems cX9_redeems 3 (some .int) 2 [.ref (base + 186), .int (a1)] μ (some (.int out.1)) out.2 := by
  refine gC_of (own := RX9) (lv0 := [(0, .ref (base + 186)), (1, .int (a1))]) rfl (by decide) (Nat.le_of_ble_eq_true rfl) rfl ?_
  unfold f_X9_redeems at hS
  refine g_aload_n (j := 0) (x := base + 186) dX9_redeems_0 rfl rfl ?_
  refine g_iload_n (j := 1) (x := a1) dX9_redeems_1 rfl rfl ?_
  obtain ⟨y1, ey1, hS⟩ := ob hS
  refine gs_callVi (As := [.int (a1)]) (st := []) (kr := 186) (k_X9_isStair μ (a1)  ey1) cl_RX9_104 sv_X9_isStair ckk_X9_isStair (tk_186 _) ⟨by decide, by decide⟩ (Nat.le_of_ble_eq_true rfl) ⟨Nat.zero_le _, Nat.zero_le _⟩ rfl dX9_redeems_2 rfl ?_
  refine g_if_ne 10 dX9_redeems_5 (by decide) (fun hc => ?_) (fun hc => ?_)
  · replace hS := (if_neg hc).symm.trans hS
    refine g_aload_n (j := 0) (x := base + 186) dX9_redeems_10 rfl rfl ?_
    refine gs_getR (r := 190) lk_RX9_19 (tk_186 _) rfl dX9_redeems_11 ?_
    refine g_iload_n (j := 1) (x := a1) dX9_redeems_14 rfl rfl ?_
    obtain ⟨y2, ey2, hS⟩ := ob hS
    refine gs_iald (tk_190 _) dX9_redeems_15 ey2 ?_
    refine g_if_ne 22 dX9_redeems_16 (by decide) (fun hc => ?_) (fun hc => ?_)
    · replace hS := (if_neg hc).symm.trans hS
      refine g_aload_n (j := 0) (x := base + 186) dX9_redeems_22 rfl rfl ?_
      obtain ⟨m4, em4, hS⟩ := ob hS
      refine gs_callVv (As := []) (st := []) (kr := 186) (k_X9_keeps μ   em4) cl_RX9_114 sv_X9_keeps ckk_X9_keeps (tk_186 _) ⟨by decide, by decide⟩ (Nat.le_of_ble_eq_true rfl) ⟨Nat.zero_le _, Nat.zero_le _⟩ rfl dX9_redeems_23 rfl ?_
      refine g_aload_n (j := 0) (x := base + 186) dX9_redeems_26 rfl rfl ?_
      refine gs_getR (r := 190) lk_RX9_19 (tk_186 _) rfl dX9_redeems_27 ?_
      refine g_iload_n (j := 1) (x := a1) dX9_redeems_30 rfl rfl ?_
      obtain ⟨y5, ey5, hS⟩ := ob hS
      refine gs_iald (tk_190 _) dX9_redeems_31 ey5 ?_
      refine g_istore_n (lvx := [(2, .int (y5)), (0, .ref (base + 186)), (1, .int (a1))]) dX9_redeems_32 rfl (by decide) rfl ?_
      refine g_aload_n (j := 1) (x := base + 186) dX9_redeems_33 rfl rfl ?_
      refine gs_getR (r := 190) lk_RX9_19 (tk_186 _) rfl dX9_redeems_34 ?_
      refine g_iload_n (j := 2) (x := a1) dX9_redeems_37 rfl rfl ?_
      refine g_iconst (v := 0) dX9_redeems_38 (by decide) ?_
      obtain ⟨m6, em6, hS⟩ := ob hS
      refine gs_iast (tk_190 _) dX9_redeems_39 em6 ?_
      refine g_iload_n (j := 0) (x := y5) dX9_redeems_40 rfl rfl ?_
      obtain rfl := Option.some.inj hS
      exact g_iret rfl dX9_redeems_41
    · replace hS := (if_pos hc).symm.trans hS
      refine g_bipush (v := -2) dX9_redeems_19 (by decide) ?_
      obtain rfl := Option.some.inj hS
      exact g_iret rfl dX9_redeems_21
  · replace hS := (if_pos hc).symm.trans hS
    refine g_iconst (v := -1) dX9_redeems_8 (by decide) ?_
    obtain rfl := Option.some.inj hS
    exact g_iret rfl dX9_redeems_9
def f_X9_all_b4 (m1 : Mem)  (v : Int32 × Int32) : Option ((Int32 × Int32) ⊕ ((Int32))) :=
  (ldA m1 188 49 ((0 : Int32))).bind fun y2 =>
  if y2 ≤ v.2 then (
    some (.inr (v.1))
  ) else (
    (ldA m1 190 716 (v.2)).bind fun y3 =>
    some (.inl (((v.1 + y3)), ((v.2 + (1 : Int32)))))
  )
set_option maxRecDepth 100000 in
set_option maxHeartbeats 4000000 in
theorem k_X9_all_b4 {l : Launch} {D : va_G} {cy : Nat → ClassId} {base : Nat} {X : gX} {Z : gZ} (m1 : Mem)   (v : Int32 × Int32) (r : (Int32 × Int32) ⊕ ((Int32))) (hS : f_X9_all_b4 m1  v = some r) (hin : ∀ v2, r = .inl v2 → G l D cy base RX9 cX9_all 3 (some .int) (gRm 0) X Z 4 [(0, .ref (base + 186)), (1, .int (v2.1)), (2, .int (v2.2))] [] 0 0 gNN (gH cy base m1)) (hout0 : ∀ x, r = .inr x → G l D cy base RX9 cX9_all 3 (some .int) (gRm 0) X Z 29 [(1, .int (x))] [] 0 0 gNN (gH cy base m1)) : G l D cy base RX9 cX9_all 3 (some .int) (gRm 0) X Z 4 [(0, .ref (base + 186)), (1, .int (v.1)), (2, .int (v.2))] [] 0 0 gNN (gH cy base m1) := by
  unfold f_X9_all_b4 at hS
  refine g_iload_n (j := 2) (x := v.2) dX9_all_4 rfl rfl ?_
  refine g_aload_n (j := 0) (x := base + 186) dX9_all_5 rfl rfl ?_
  refine gs_getR (r := 188) lk_RX9_13 (tk_186 _) rfl dX9_all_6 ?_
  refine g_iconst (v := 0) dX9_all_9 (by decide) ?_
  obtain ⟨y2, ey2, hS⟩ := ob hS
  refine gs_iald (tk_188 _) dX9_all_10 ey2 ?_
  refine g_icmp_ge 29 dX9_all_11 (by decide) (fun hc => ?_) (fun hc => ?_)
  · replace hS := (if_pos hc).symm.trans hS
    refine g_sub (lvx := [(1, .int (v.1))]) [1] rfl ?_
    obtain rfl := Option.some.inj hS
    exact hout0 ((v.1)) rfl
  · replace hS := (if_neg hc).symm.trans hS
    refine g_iload_n (j := 1) (x := v.1) dX9_all_14 rfl rfl ?_
    refine g_aload_n (j := 0) (x := base + 186) dX9_all_15 rfl rfl ?_
    refine gs_getR (r := 190) lk_RX9_19 (tk_186 _) rfl dX9_all_16 ?_
    refine g_iload_n (j := 2) (x := v.2) dX9_all_19 rfl rfl ?_
    obtain ⟨y3, ey3, hS⟩ := ob hS
    refine gs_iald (tk_190 _) dX9_all_20 ey3 ?_
    refine g_iadd dX9_all_21 ?_
    refine g_istore_n (lvx := [(1, .int ((v.1 + y3))), (0, .ref (base + 186)), (2, .int (v.2))]) dX9_all_22 rfl (by decide) rfl ?_
    refine g_iinc (j := 2) (x := v.2) (v := (v.2 + (1 : Int32))) (lvx := [(2, .int ((v.2 + (1 : Int32)))), (1, .int ((v.1 + y3))), (0, .ref (base + 186))]) dX9_all_23 rfl rfl (by decide) rfl ?_
    refine g_goto 4 dX9_all_26 (by decide) ?_
    refine g_sub (lvx := [(0, .ref (base + 186)), (1, .int ((v.1 + y3))), (2, .int ((v.2 + (1 : Int32))))]) [2, 1, 0] rfl ?_
    obtain rfl := Option.some.inj hS
    exact hin ((((v.1 + y3)), ((v.2 + (1 : Int32))))) rfl
def f_X9_all (μ : Mem)  : Option (Int32) :=
  (iter gFU (f_X9_all_b4 μ ) (((0 : Int32)), ((0 : Int32)))).bind fun z4 =>
  some (z4)
set_option maxRecDepth 100000 in
set_option maxHeartbeats 4000000 in
theorem k_X9_all {l : Launch} {D : va_G} {cy : Nat → ClassId} {base : Nat} (μ : Mem)   {out : Int32} (hS : f_X9_all μ  = some out) : gC l D cy base yX9_all cX9_all 3 (some .int) 0 [.ref (base + 186)] μ (some (.int out)) μ := by
  refine gC_of (own := RX9) (lv0 := [(0, .ref (base + 186))]) rfl (by decide) (Nat.le_of_ble_eq_true rfl) rfl ?_
  unfold f_X9_all at hS
  refine g_iconst (v := 0) dX9_all_0 (by decide) ?_
  refine g_istore_n (lvx := [(1, .int ((0 : Int32))), (0, .ref (base + 186))]) dX9_all_1 rfl (by decide) rfl ?_
  refine g_iconst (v := 0) dX9_all_2 (by decide) ?_
  refine g_istore_n (lvx := [(2, .int ((0 : Int32))), (1, .int ((0 : Int32))), (0, .ref (base + 186))]) dX9_all_3 rfl (by decide) rfl ?_
  obtain ⟨z4, ez4, hS⟩ := ob hS
  refine g_sub (lvx := [(0, .ref (base + 186)), (1, .int ((0 : Int32))), (2, .int ((0 : Int32)))]) [2, 1, 0] rfl ?_
  refine iter_ind (fun vv => G l D cy base RX9 cX9_all 3 (some .int) (gRm 0) (gXm yX9_all) (gZm D cy base 0 0 (some (.int out)) gNN (gH cy base μ)) 4 [(0, .ref (base + 186)), (1, .int (vv.1)), (2, .int (vv.2))] [] 0 0 gNN (gH cy base μ)) (fun xx => G l D cy base RX9 cX9_all 3 (some .int) (gRm 0) (gXm yX9_all) (gZm D cy base 0 0 (some (.int out)) gNN (gH cy base μ)) 29 [(1, .int (xx))] [] 0 0 gNN (gH cy base μ)) (fun vv rr hh hin hout => k_X9_all_b4 μ   vv rr hh hin (fun xx ee => hout xx ee)) gFU (((0 : Int32)), ((0 : Int32))) z4 ez4 ?_
  show G l D cy base RX9 cX9_all 3 (some .int) (gRm 0) (gXm yX9_all) (gZm D cy base 0 0 (some (.int out)) gNN (gH cy base μ)) 29 [(1, .int (z4))] [] 0 0 gNN (gH cy base μ)
  refine g_iload_n (j := 0) (x := z4) dX9_all_29 rfl rfl ?_
  obtain rfl := Option.some.inj hS
  exact g_iret rfl dX9_all_30
def f_X9_more (μ : Mem) (a0 : Int32) (a1 : Int32) : Option (Int32) :=
  if (a0 + a1) ≤ (999 : Int32) then (
    some ((a0 + a1))
  ) else (
    some ((999 : Int32))
  )
set_option maxRecDepth 100000 in
set_option maxHeartbeats 4000000 in
theorem k_X9_more {l : Launch} {D : va_G} {cy : Nat → ClassId} {base : Nat} (μ : Mem) (a0 : Int32) (a1 : Int32)  {out : Int32} (hS : f_X9_more μ a0 a1 = some out) : gC l D cy base yX9_more cX9_more 2 (some .int) 0 [.int (a0), .int (a1)] μ (some (.int out)) μ := by
  refine gC_of (own := RX9) (lv0 := [(0, .int (a0)), (1, .int (a1))]) rfl (by decide) (Nat.le_of_ble_eq_true rfl) rfl ?_
  unfold f_X9_more at hS
  refine g_iload_n (j := 0) (x := a0) dX9_more_0 rfl rfl ?_
  refine g_iload_n (j := 1) (x := a1) dX9_more_1 rfl rfl ?_
  refine g_iadd dX9_more_2 ?_
  refine g_sipush (v := 999) dX9_more_3 (by decide) ?_
  refine g_icmp_le 15 dX9_more_6 (by decide) (fun hc => ?_) (fun hc => ?_)
  · replace hS := (if_pos hc).symm.trans hS
    refine g_iload_n (j := 0) (x := a0) dX9_more_15 rfl rfl ?_
    refine g_iload_n (j := 1) (x := a1) dX9_more_16 rfl rfl ?_
    refine g_iadd dX9_more_17 ?_
    obtain rfl := Option.some.inj hS
    exact g_iret rfl dX9_more_18
  · replace hS := (if_neg hc).symm.trans hS
    refine g_sipush (v := 999) dX9_more_9 (by decide) ?_
    refine g_goto 18 dX9_more_12 (by decide) ?_
    obtain rfl := Option.some.inj hS
    exact g_iret rfl dX9_more_18
def f_X9_ends_b21  (v : Int32 × Mem) : Option ((Int32 × Mem) ⊕ ((Mem))) :=
  (ldA v.2 188 49 ((0 : Int32))).bind fun y4 =>
  if y4 ≤ v.1 then (
    some (.inr (v.2))
  ) else (
    (ldA v.2 190 716 (v.1)).bind fun y5 =>
    (ldA v.2 188 49 (((27 : Int32) + v.1))).bind fun y6 =>
    (f_X9_more v.2 (y5) (y6)).bind fun y7 =>
    (stA v.2 190 716 (v.1) (y7)).bind fun m8 =>
    (stA m8 190 716 (((7 : Int32) + v.1)) ((0 : Int32))).bind fun m9 =>
    some (.inl (((v.1 + (1 : Int32))), (m9)))
  )
set_option maxRecDepth 100000 in
set_option maxHeartbeats 4000000 in
theorem k_X9_ends_b21 {l : Launch} {D : va_G} {cy : Nat → ClassId} {base : Nat} {X : gX} {Z : gZ}   (v : Int32 × Mem) (r : (Int32 × Mem) ⊕ ((Mem))) (hS : f_X9_ends_b21  v = some r) (hin : ∀ v2, r = .inl v2 → G l D cy base RX9 cX9_ends 2 (some .int) (gRm 1) X Z 21 [(0, .ref (base + 186)), (1, .int (v2.1))] [] 0 0 gNN (gH cy base v2.2)) (hout0 : ∀ x, r = .inr x → G l D cy base RX9 cX9_ends 2 (some .int) (gRm 1) X Z 71 [(0, .ref (base + 186))] [] 0 0 gNN (gH cy base x)) : G l D cy base RX9 cX9_ends 2 (some .int) (gRm 1) X Z 21 [(0, .ref (base + 186)), (1, .int (v.1))] [] 0 0 gNN (gH cy base v.2) := by
  unfold f_X9_ends_b21 at hS
  refine g_iload_n (j := 1) (x := v.1) dX9_ends_21 rfl rfl ?_
  refine g_aload_n (j := 0) (x := base + 186) dX9_ends_22 rfl rfl ?_
  refine gs_getR (r := 188) lk_RX9_13 (tk_186 _) rfl dX9_ends_23 ?_
  refine g_iconst (v := 0) dX9_ends_26 (by decide) ?_
  obtain ⟨y4, ey4, hS⟩ := ob hS
  refine gs_iald (tk_188 _) dX9_ends_27 ey4 ?_
  refine g_icmp_ge 71 dX9_ends_28 (by decide) (fun hc => ?_) (fun hc => ?_)
  · replace hS := (if_pos hc).symm.trans hS
    refine g_sub (lvx := [(0, .ref (base + 186))]) [0] rfl ?_
    obtain rfl := Option.some.inj hS
    exact hout0 ((v.2)) rfl
  · replace hS := (if_neg hc).symm.trans hS
    refine g_aload_n (j := 0) (x := base + 186) dX9_ends_31 rfl rfl ?_
    refine gs_getR (r := 190) lk_RX9_19 (tk_186 _) rfl dX9_ends_32 ?_
    refine g_iload_n (j := 1) (x := v.1) dX9_ends_35 rfl rfl ?_
    refine g_aload_n (j := 0) (x := base + 186) dX9_ends_36 rfl rfl ?_
    refine gs_getR (r := 190) lk_RX9_19 (tk_186 _) rfl dX9_ends_37 ?_
    refine g_iload_n (j := 1) (x := v.1) dX9_ends_40 rfl rfl ?_
    obtain ⟨y5, ey5, hS⟩ := ob hS
    refine gs_iald (tk_190 _) dX9_ends_41 ey5 ?_
    refine g_aload_n (j := 0) (x := base + 186) dX9_ends_42 rfl rfl ?_
    refine gs_getR (r := 188) lk_RX9_13 (tk_186 _) rfl dX9_ends_43 ?_
    refine g_bipush (v := 27) dX9_ends_46 (by decide) ?_
    refine g_iload_n (j := 1) (x := v.1) dX9_ends_48 rfl rfl ?_
    refine g_iadd dX9_ends_49 ?_
    obtain ⟨y6, ey6, hS⟩ := ob hS
    refine gs_iald (tk_188 _) dX9_ends_50 ey6 ?_
    obtain ⟨y7, ey7, hS⟩ := ob hS
    refine gs_callSi (As := [.int (y5), .int (y6)]) (st := [.int (v.1), .ref (base + 190)]) (k_X9_more v.2 (y5) (y6)  ey7) cl_RX9_124 sv_X9_more ⟨by decide, by decide⟩ (Nat.le_of_ble_eq_true rfl) ⟨Nat.zero_le _, Nat.zero_le _⟩ rfl dX9_ends_51 rfl ?_
    obtain ⟨m8, em8, hS⟩ := ob hS
    refine gs_iast (tk_190 _) dX9_ends_54 em8 ?_
    refine g_aload_n (j := 0) (x := base + 186) dX9_ends_55 rfl rfl ?_
    refine gs_getR (r := 190) lk_RX9_19 (tk_186 _) rfl dX9_ends_56 ?_
    refine g_bipush (v := 7) dX9_ends_59 (by decide) ?_
    refine g_iload_n (j := 1) (x := v.1) dX9_ends_61 rfl rfl ?_
    refine g_iadd dX9_ends_62 ?_
    refine g_iconst (v := 0) dX9_ends_63 (by decide) ?_
    obtain ⟨m9, em9, hS⟩ := ob hS
    refine gs_iast (tk_190 _) dX9_ends_64 em9 ?_
    refine g_iinc (j := 1) (x := v.1) (v := (v.1 + (1 : Int32))) (lvx := [(1, .int ((v.1 + (1 : Int32)))), (0, .ref (base + 186))]) dX9_ends_65 rfl rfl (by decide) rfl ?_
    refine g_goto 21 dX9_ends_68 (by decide) ?_
    refine g_sub (lvx := [(0, .ref (base + 186)), (1, .int ((v.1 + (1 : Int32))))]) [1, 0] rfl ?_
    obtain rfl := Option.some.inj hS
    exact hin ((((v.1 + (1 : Int32))), (m9))) rfl
def f_X9_ends_b73  (v : Int32 × Mem) : Option ((Int32 × Mem) ⊕ ((Mem))) :=
  if (49 : Int32) ≤ v.1 then (
    some (.inr (v.2))
  ) else (
    (stA v.2 190 716 (((14 : Int32) + v.1)) ((0 : Int32))).bind fun m11 =>
    some (.inl (((v.1 + (1 : Int32))), (m11)))
  )
set_option maxRecDepth 100000 in
set_option maxHeartbeats 4000000 in
theorem k_X9_ends_b73 {l : Launch} {D : va_G} {cy : Nat → ClassId} {base : Nat} {X : gX} {Z : gZ}   (v : Int32 × Mem) (r : (Int32 × Mem) ⊕ ((Mem))) (hS : f_X9_ends_b73  v = some r) (hin : ∀ v2, r = .inl v2 → G l D cy base RX9 cX9_ends 2 (some .int) (gRm 1) X Z 73 [(0, .ref (base + 186)), (1, .int (v2.1))] [] 0 0 gNN (gH cy base v2.2)) (hout0 : ∀ x, r = .inr x → G l D cy base RX9 cX9_ends 2 (some .int) (gRm 1) X Z 95 [(0, .ref (base + 186))] [] 0 0 gNN (gH cy base x)) : G l D cy base RX9 cX9_ends 2 (some .int) (gRm 1) X Z 73 [(0, .ref (base + 186)), (1, .int (v.1))] [] 0 0 gNN (gH cy base v.2) := by
  unfold f_X9_ends_b73 at hS
  refine g_iload_n (j := 1) (x := v.1) dX9_ends_73 rfl rfl ?_
  refine g_bipush (v := 49) dX9_ends_74 (by decide) ?_
  refine g_icmp_ge 95 dX9_ends_76 (by decide) (fun hc => ?_) (fun hc => ?_)
  · replace hS := (if_pos hc).symm.trans hS
    refine g_sub (lvx := [(0, .ref (base + 186))]) [0] rfl ?_
    obtain rfl := Option.some.inj hS
    exact hout0 ((v.2)) rfl
  · replace hS := (if_neg hc).symm.trans hS
    refine g_aload_n (j := 0) (x := base + 186) dX9_ends_79 rfl rfl ?_
    refine gs_getR (r := 190) lk_RX9_19 (tk_186 _) rfl dX9_ends_80 ?_
    refine g_bipush (v := 14) dX9_ends_83 (by decide) ?_
    refine g_iload_n (j := 1) (x := v.1) dX9_ends_85 rfl rfl ?_
    refine g_iadd dX9_ends_86 ?_
    refine g_iconst (v := 0) dX9_ends_87 (by decide) ?_
    obtain ⟨m11, em11, hS⟩ := ob hS
    refine gs_iast (tk_190 _) dX9_ends_88 em11 ?_
    refine g_iinc (j := 1) (x := v.1) (v := (v.1 + (1 : Int32))) (lvx := [(1, .int ((v.1 + (1 : Int32)))), (0, .ref (base + 186))]) dX9_ends_89 rfl rfl (by decide) rfl ?_
    refine g_goto 73 dX9_ends_92 (by decide) ?_
    refine g_sub (lvx := [(0, .ref (base + 186)), (1, .int ((v.1 + (1 : Int32))))]) [1, 0] rfl ?_
    obtain rfl := Option.some.inj hS
    exact hin ((((v.1 + (1 : Int32))), (m11))) rfl
def f_X9_ends (μ : Mem)  : Option (Int32 × Mem) :=
  (ldA μ 190 716 ((64 : Int32))).bind fun y1 =>
  if y1 = (99 : Int32) then (
    some ((-2 : Int32), μ)
  ) else (
    (f_X9_keeps μ ).bind fun m3 =>
    (iter gFU (f_X9_ends_b21  ) (((0 : Int32)), m3)).bind fun z10 =>
    (iter gFU (f_X9_ends_b73  ) (((0 : Int32)), z10)).bind fun z12 =>
    (ldA z12 190 716 ((64 : Int32))).bind fun y13 =>
    (stA z12 190 716 ((64 : Int32)) ((y13 + (1 : Int32)))).bind fun m14 =>
    (f_X9_all m14 ).bind fun y15 =>
    some (y15, m14)
  )
set_option maxRecDepth 100000 in
set_option maxHeartbeats 4000000 in
theorem k_X9_ends {l : Launch} {D : va_G} {cy : Nat → ClassId} {base : Nat} (μ : Mem)   {out : Int32 × Mem} (hS : f_X9_ends μ  = some out) : gC l D cy base yX9_ends cX9_ends 2 (some .int) 1 [.ref (base + 186)] μ (some (.int out.1)) out.2 := by
  refine gC_of (own := RX9) (lv0 := [(0, .ref (base + 186))]) rfl (by decide) (Nat.le_of_ble_eq_true rfl) rfl ?_
  unfold f_X9_ends at hS
  refine g_aload_n (j := 0) (x := base + 186) dX9_ends_0 rfl rfl ?_
  refine gs_getR (r := 190) lk_RX9_19 (tk_186 _) rfl dX9_ends_1 ?_
  refine g_bipush (v := 64) dX9_ends_4 (by decide) ?_
  obtain ⟨y1, ey1, hS⟩ := ob hS
  refine gs_iald (tk_190 _) dX9_ends_6 ey1 ?_
  refine g_bipush (v := 99) dX9_ends_7 (by decide) ?_
  refine g_icmp_ne 15 dX9_ends_9 (by decide) (fun hc => ?_) (fun hc => ?_)
  · replace hS := (if_neg hc).symm.trans hS
    refine g_aload_n (j := 0) (x := base + 186) dX9_ends_15 rfl rfl ?_
    obtain ⟨m3, em3, hS⟩ := ob hS
    refine gs_callVv (As := []) (st := []) (kr := 186) (k_X9_keeps μ   em3) cl_RX9_114 sv_X9_keeps ckk_X9_keeps (tk_186 _) ⟨by decide, by decide⟩ (Nat.le_of_ble_eq_true rfl) ⟨Nat.zero_le _, Nat.zero_le _⟩ rfl dX9_ends_16 rfl ?_
    refine g_iconst (v := 0) dX9_ends_19 (by decide) ?_
    refine g_istore_n (lvx := [(1, .int ((0 : Int32))), (0, .ref (base + 186))]) dX9_ends_20 rfl (by decide) rfl ?_
    obtain ⟨z10, ez10, hS⟩ := ob hS
    refine g_sub (lvx := [(0, .ref (base + 186)), (1, .int ((0 : Int32)))]) [1, 0] rfl ?_
    refine iter_ind (fun vv => G l D cy base RX9 cX9_ends 2 (some .int) (gRm 1) (gXm yX9_ends) (gZm D cy base 0 0 (some (.int out.1)) gNN (gH cy base out.2)) 21 [(0, .ref (base + 186)), (1, .int (vv.1))] [] 0 0 gNN (gH cy base vv.2)) (fun xx => G l D cy base RX9 cX9_ends 2 (some .int) (gRm 1) (gXm yX9_ends) (gZm D cy base 0 0 (some (.int out.1)) gNN (gH cy base out.2)) 71 [(0, .ref (base + 186))] [] 0 0 gNN (gH cy base xx)) (fun vv rr hh hin hout => k_X9_ends_b21    vv rr hh hin (fun xx ee => hout xx ee)) gFU (((0 : Int32)), m3) z10 ez10 ?_
    show G l D cy base RX9 cX9_ends 2 (some .int) (gRm 1) (gXm yX9_ends) (gZm D cy base 0 0 (some (.int out.1)) gNN (gH cy base out.2)) 71 [(0, .ref (base + 186))] [] 0 0 gNN (gH cy base z10)
    refine g_iconst (v := 0) dX9_ends_71 (by decide) ?_
    refine g_istore_n (lvx := [(1, .int ((0 : Int32))), (0, .ref (base + 186))]) dX9_ends_72 rfl (by decide) rfl ?_
    obtain ⟨z12, ez12, hS⟩ := ob hS
    refine g_sub (lvx := [(0, .ref (base + 186)), (1, .int ((0 : Int32)))]) [1, 0] rfl ?_
    refine iter_ind (fun vv => G l D cy base RX9 cX9_ends 2 (some .int) (gRm 1) (gXm yX9_ends) (gZm D cy base 0 0 (some (.int out.1)) gNN (gH cy base out.2)) 73 [(0, .ref (base + 186)), (1, .int (vv.1))] [] 0 0 gNN (gH cy base vv.2)) (fun xx => G l D cy base RX9 cX9_ends 2 (some .int) (gRm 1) (gXm yX9_ends) (gZm D cy base 0 0 (some (.int out.1)) gNN (gH cy base out.2)) 95 [(0, .ref (base + 186))] [] 0 0 gNN (gH cy base xx)) (fun vv rr hh hin hout => k_X9_ends_b73    vv rr hh hin (fun xx ee => hout xx ee)) gFU (((0 : Int32)), z10) z12 ez12 ?_
    show G l D cy base RX9 cX9_ends 2 (some .int) (gRm 1) (gXm yX9_ends) (gZm D cy base 0 0 (some (.int out.1)) gNN (gH cy base out.2)) 95 [(0, .ref (base + 186))] [] 0 0 gNN (gH cy base z12)
    refine g_aload_n (j := 0) (x := base + 186) dX9_ends_95 rfl rfl ?_
    refine gs_getR (r := 190) lk_RX9_19 (tk_186 _) rfl dX9_ends_96 ?_
    refine g_bipush (v := 64) dX9_ends_99 (by decide) ?_
    refine g_dup2 dX9_ends_101 rfl rfl ?_
    obtain ⟨y13, ey13, hS⟩ := ob hS
    refine gs_iald (tk_190 _) dX9_ends_102 ey13 ?_
    refine g_iconst (v := 1) dX9_ends_103 (by decide) ?_
    refine g_iadd dX9_ends_104 ?_
    obtain ⟨m14, em14, hS⟩ := ob hS
    refine gs_iast (tk_190 _) dX9_ends_105 em14 ?_
    refine g_aload_n (j := 0) (x := base + 186) dX9_ends_106 rfl rfl ?_
    obtain ⟨y15, ey15, hS⟩ := ob hS
    refine gs_callVi (As := []) (st := []) (kr := 186) (k_X9_all m14   ey15) cl_RX9_128 sv_X9_all ckk_X9_all (tk_186 _) ⟨by decide, by decide⟩ (Nat.le_of_ble_eq_true rfl) ⟨Nat.zero_le _, Nat.zero_le _⟩ rfl dX9_ends_107 rfl ?_
    obtain rfl := Option.some.inj hS
    exact g_iret rfl dX9_ends_110
  · replace hS := (if_pos hc).symm.trans hS
    refine g_bipush (v := -2) dX9_ends_12 (by decide) ?_
    obtain rfl := Option.some.inj hS
    exact g_iret rfl dX9_ends_14

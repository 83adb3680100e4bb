def f_X9_free_j55 (m6 : Mem) (x4 : Int32) (x5 : Int32) (x7 : Int32) (x8 : Int32) : Option ((Int32 × Int32) ⊕ ((Int32) ⊕ (Unit))) :=
  if x8 = (0 : Int32) then (
    some (.inr (.inl (x7)))
  ) else (
    (ldA m6 188 49 (((27 : Int32) + x4))).bind fun y9 =>
    (f_X9_more m6 (x8) (y9)).bind fun y10 =>
    some (.inl ((y10), ((x7 + (1 : Int32)))))
  )
set_option maxRecDepth 100000 in
set_option maxHeartbeats 4000000 in
theorem k_X9_free_j55 {l : Launch} {D : va_G} {cy : Nat → ClassId} {base : Nat} {X : gX} {Z : gZ} (m6 : Mem) (x4 : Int32) (x5 : Int32) (x7 : Int32) (x8 : Int32)  {r : (Int32 × Int32) ⊕ ((Int32) ⊕ (Unit))} (hS : f_X9_free_j55 m6 x4 x5 x7 x8 = some r) (hin : ∀ v2, r = .inl v2 → G l D cy base RX9 cX9_free 5 (some .int) (gRm 2) X Z 36 [(0, .ref (base + 186)), (1, .int (x4)), (2, .int (x5)), (3, .int (v2.1)), (4, .int (v2.2))] [] 0 0 gNN (gH cy base m6)) (hout0 : ∀ x, r = .inr (.inl x) → G l D cy base RX9 cX9_free 5 (some .int) (gRm 2) X Z 60 [(4, .int (x))] [] 0 0 gNN (gH cy base m6)) (hout1 : ∀ x, r = .inr (.inr (x)) → G l D cy base RX9 cX9_free 5 (some .int) (gRm 2) X Z 83 [] [] 0 0 gNN (gH cy base m6)) : G l D cy base RX9 cX9_free 5 (some .int) (gRm 2) X Z 55 [(0, .ref (base + 186)), (1, .int (x4)), (2, .int (x5)), (4, .int (x7))] [.int (x8)] 0 0 gNN (gH cy base m6) := by
  unfold f_X9_free_j55 at hS
  refine g_istore_n (lvx := [(3, .int (x8)), (0, .ref (base + 186)), (1, .int (x4)), (2, .int (x5)), (4, .int (x7))]) dX9_free_55 rfl (by decide) rfl ?_
  refine g_iload_n (j := 0) (x := x8) dX9_free_56 rfl rfl ?_
  refine g_if_ne 63 dX9_free_57 (by decide) (fun hc => ?_) (fun hc => ?_)
  · replace hS := (if_neg hc).symm.trans hS
    refine g_iload_n (j := 0) (x := x8) dX9_free_63 rfl rfl ?_
    refine g_aload_n (j := 1) (x := base + 186) dX9_free_64 rfl rfl ?_
    refine gs_getR (r := 188) lk_RX9_13 (tk_186 _) rfl dX9_free_65 ?_
    refine g_bipush (v := 27) dX9_free_68 (by decide) ?_
    refine g_iload_n (j := 2) (x := x4) dX9_free_70 rfl rfl ?_
    refine g_iadd dX9_free_71 ?_
    obtain ⟨y9, ey9, hS⟩ := ob hS
    refine gs_iald (tk_188 _) dX9_free_72 ey9 ?_
    obtain ⟨y10, ey10, hS⟩ := ob hS
    refine gs_callSi (As := [.int (x8), .int (y9)]) (st := []) (k_X9_more m6 (x8) (y9)  ey10) cl_RX9_124 sv_X9_more ⟨by decide, by decide⟩ (Nat.le_of_ble_eq_true rfl) ⟨Nat.zero_le _, Nat.zero_le _⟩ rfl dX9_free_73 rfl ?_
    refine g_istore_n (lvx := [(3, .int (y10)), (0, .ref (base + 186)), (1, .int (x4)), (2, .int (x5)), (4, .int (x7))]) dX9_free_76 rfl (by decide) rfl ?_
    refine g_iinc (j := 4) (x := x7) (v := (x7 + (1 : Int32))) (lvx := [(4, .int ((x7 + (1 : Int32)))), (3, .int (y10)), (0, .ref (base + 186)), (1, .int (x4)), (2, .int (x5))]) dX9_free_77 rfl rfl (by decide) rfl ?_
    refine g_goto 36 dX9_free_80 (by decide) ?_
    refine g_sub (lvx := [(0, .ref (base + 186)), (1, .int (x4)), (2, .int (x5)), (3, .int (y10)), (4, .int ((x7 + (1 : Int32))))]) [2, 3, 4, 1, 0] rfl ?_
    obtain rfl := Option.some.inj hS
    exact hin (((y10), ((x7 + (1 : Int32))))) rfl
  · replace hS := (if_pos hc).symm.trans hS
    refine g_sub (lvx := [(4, .int (x7))]) [4] rfl ?_
    obtain rfl := Option.some.inj hS
    exact hout0 ((x7)) rfl
def f_X9_free_b36 (m6 : Mem) (x4 : Int32) (x5 : Int32) (v : Int32 × Int32) : Option ((Int32 × Int32) ⊕ ((Int32) ⊕ (Unit))) :=
  if (99 : Int32) < v.2 then (
    some (.inr (.inr (())))
  ) else (
    if v.1 ≤ x5 then (
      f_X9_free_j55 m6 x4 x5 (v.2) ((0 : Int32))
    ) else (
      f_X9_free_j55 m6 x4 x5 (v.2) ((v.1 - x5))
    )
  )
set_option maxRecDepth 100000 in
set_option maxHeartbeats 4000000 in
theorem k_X9_free_b36 {l : Launch} {D : va_G} {cy : Nat → ClassId} {base : Nat} {X : gX} {Z : gZ} (m6 : Mem) (x4 : Int32) (x5 : Int32)  (v : Int32 × Int32) (r : (Int32 × Int32) ⊕ ((Int32) ⊕ (Unit))) (hS : f_X9_free_b36 m6 x4 x5 v = some r) (hin : ∀ v2, r = .inl v2 → G l D cy base RX9 cX9_free 5 (some .int) (gRm 2) X Z 36 [(0, .ref (base + 186)), (1, .int (x4)), (2, .int (x5)), (3, .int (v2.1)), (4, .int (v2.2))] [] 0 0 gNN (gH cy base m6)) (hout0 : ∀ x, r = .inr (.inl x) → G l D cy base RX9 cX9_free 5 (some .int) (gRm 2) X Z 60 [(4, .int (x))] [] 0 0 gNN (gH cy base m6)) (hout1 : ∀ x, r = .inr (.inr (x)) → G l D cy base RX9 cX9_free 5 (some .int) (gRm 2) X Z 83 [] [] 0 0 gNN (gH cy base m6)) : G l D cy base RX9 cX9_free 5 (some .int) (gRm 2) X Z 36 [(0, .ref (base + 186)), (1, .int (x4)), (2, .int (x5)), (3, .int (v.1)), (4, .int (v.2))] [] 0 0 gNN (gH cy base m6) := by
  unfold f_X9_free_b36 at hS
  refine g_iload (j := 4) (x := v.2) dX9_free_36 rfl ?_
  refine g_bipush (v := 99) dX9_free_38 (by decide) ?_
  refine g_icmp_gt 83 dX9_free_40 (by decide) (fun hc => ?_) (fun hc => ?_)
  · replace hS := (if_pos hc).symm.trans hS
    refine g_sub (lvx := []) [] rfl ?_
    obtain rfl := Option.some.inj hS
    exact hout1 (()) rfl
  · replace hS := (if_neg hc).symm.trans hS
    refine g_iload_n (j := 3) (x := v.1) dX9_free_43 rfl rfl ?_
    refine g_iload_n (j := 2) (x := x5) dX9_free_44 rfl rfl ?_
    refine g_icmp_le 54 dX9_free_45 (by decide) (fun hc => ?_) (fun hc => ?_)
    · replace hS := (if_pos hc).symm.trans hS
      refine g_iconst (v := 0) dX9_free_54 (by decide) ?_
      refine g_sub (lvx := [(0, .ref (base + 186)), (1, .int (x4)), (2, .int (x5)), (4, .int (v.2))]) [0, 1, 2, 4] rfl ?_
      exact k_X9_free_j55 (m6) x4 x5 (v.2) ((0 : Int32))  hS hin hout0 hout1
    · replace hS := (if_neg hc).symm.trans hS
      refine g_iload_n (j := 3) (x := v.1) dX9_free_48 rfl rfl ?_
      refine g_iload_n (j := 2) (x := x5) dX9_free_49 rfl rfl ?_
      refine g_isub dX9_free_50 ?_
      refine g_goto 55 dX9_free_51 (by decide) ?_
      refine g_sub (lvx := [(0, .ref (base + 186)), (1, .int (x4)), (2, .int (x5)), (4, .int (v.2))]) [0, 1, 2, 4] rfl ?_
      exact k_X9_free_j55 (m6) x4 x5 (v.2) ((v.1 - x5))  hS hin hout0 hout1
def f_X9_free (μ : Mem) (a1 : Int32) (a2 : Int32) : Option (Int32) :=
  (f_X9_isStair μ (a1)).bind fun y1 =>
  if y1 = (0 : Int32) then (
    some ((-1 : Int32))
  ) else (
    (f_X9_in μ (a2) ((0 : Int32)) ((99 : Int32))).bind fun y2 =>
    if y2 = (0 : Int32) then (
      some ((-1 : Int32))
    ) else (
      (ldA μ 190 716 (a1)).bind fun y3 =>
      if y3 = (0 : Int32) then (
        some ((0 : Int32))
      ) else (
        (iter gFU (f_X9_free_b36 μ (a1) (a2)) ((y3), ((1 : Int32)))).bind fun z13 =>
        Sum.elim (fun w14 => 
          some (w14)
        ) (fun w15 => 
          some ((-9 : Int32))
        ) z13
      )
    )
  )
set_option maxRecDepth 100000 in
set_option maxHeartbeats 4000000 in
theorem k_X9_free {l : Launch} {D : va_G} {cy : Nat → ClassId} {base : Nat} (μ : Mem) (a1 : Int32) (a2 : Int32)  {out : Int32} (hS : f_X9_free μ a1 a2 = some out) : gC l D cy base yX9_free cX9_free 5 (some .int) 2 [.ref (base + 186), .int (a1), .int (a2)] μ (some (.int out)) μ := by
  refine gC_of (own := RX9) (lv0 := [(0, .ref (base + 186)), (1, .int (a1)), (2, .int (a2))]) rfl (by decide) (Nat.le_of_ble_eq_true rfl) rfl ?_
  unfold f_X9_free at hS
  refine g_aload_n (j := 0) (x := base + 186) dX9_free_0 rfl rfl ?_
  refine g_iload_n (j := 1) (x := a1) dX9_free_1 rfl rfl ?_
  obtain ⟨y1, ey1, hS⟩ := ob hS
  refine gs_callVi (As := [.int (a1)]) (st := []) (kr := 186) (k_X9_isStair μ (a1)  ey1) cl_RX9_104 sv_X9_isStair ckk_X9_isStair (tk_186 _) ⟨by decide, by decide⟩ (Nat.le_of_ble_eq_true rfl) ⟨Nat.zero_le _, Nat.zero_le _⟩ rfl dX9_free_2 rfl ?_
  refine g_if_eq 18 dX9_free_5 (by decide) (fun hc => ?_) (fun hc => ?_)
  · replace hS := (if_pos hc).symm.trans hS
    refine g_iconst (v := -1) dX9_free_18 (by decide) ?_
    obtain rfl := Option.some.inj hS
    exact g_iret rfl dX9_free_19
  · replace hS := (if_neg hc).symm.trans hS
    refine g_iload_n (j := 2) (x := a2) dX9_free_8 rfl rfl ?_
    refine g_iconst (v := 0) dX9_free_9 (by decide) ?_
    refine g_bipush (v := 99) dX9_free_10 (by decide) ?_
    obtain ⟨y2, ey2, hS⟩ := ob hS
    refine gs_callSi (As := [.int (a2), .int ((0 : Int32)), .int ((99 : Int32))]) (st := []) (k_X9_in μ (a2) ((0 : Int32)) ((99 : Int32))  ey2) cl_RX9_54 sv_X9_in ⟨by decide, by decide⟩ (Nat.le_of_ble_eq_true rfl) ⟨Nat.zero_le _, Nat.zero_le _⟩ rfl dX9_free_12 rfl ?_
    refine g_if_ne 20 dX9_free_15 (by decide) (fun hc => ?_) (fun hc => ?_)
    · replace hS := (if_neg hc).symm.trans hS
      refine g_aload_n (j := 0) (x := base + 186) dX9_free_20 rfl rfl ?_
      refine gs_getR (r := 190) lk_RX9_19 (tk_186 _) rfl dX9_free_21 ?_
      refine g_iload_n (j := 1) (x := a1) dX9_free_24 rfl rfl ?_
      obtain ⟨y3, ey3, hS⟩ := ob hS
      refine gs_iald (tk_190 _) dX9_free_25 ey3 ?_
      refine g_istore_n (lvx := [(3, .int (y3)), (0, .ref (base + 186)), (1, .int (a1)), (2, .int (a2))]) dX9_free_26 rfl (by decide) rfl ?_
      refine g_iload_n (j := 0) (x := y3) dX9_free_27 rfl rfl ?_
      refine g_if_ne 33 dX9_free_28 (by decide) (fun hc => ?_) (fun hc => ?_)
      · replace hS := (if_neg hc).symm.trans hS
        refine g_iconst (v := 1) dX9_free_33 (by decide) ?_
        refine g_istore (lvx := [(4, .int ((1 : Int32))), (3, .int (y3)), (0, .ref (base + 186)), (1, .int (a1)), (2, .int (a2))]) dX9_free_34 (by decide) rfl ?_
        obtain ⟨z13, ez13, hS⟩ := ob hS
        refine g_sub (lvx := [(0, .ref (base + 186)), (1, .int (a1)), (2, .int (a2)), (3, .int (y3)), (4, .int ((1 : Int32)))]) [2, 3, 4, 1, 0] rfl ?_
        refine iter_ind (fun vv => G l D cy base RX9 cX9_free 5 (some .int) (gRm 2) (gXm yX9_free) (gZm D cy base 0 0 (some (.int out)) gNN (gH cy base μ)) 36 [(0, .ref (base + 186)), (1, .int (a1)), (2, .int (a2)), (3, .int (vv.1)), (4, .int (vv.2))] [] 0 0 gNN (gH cy base μ)) (fun xx => match xx with | (.inl xx) => G l D cy base RX9 cX9_free 5 (some .int) (gRm 2) (gXm yX9_free) (gZm D cy base 0 0 (some (.int out)) gNN (gH cy base μ)) 60 [(4, .int (xx))] [] 0 0 gNN (gH cy base μ) | (.inr (xx)) => G l D cy base RX9 cX9_free 5 (some .int) (gRm 2) (gXm yX9_free) (gZm D cy base 0 0 (some (.int out)) gNN (gH cy base μ)) 83 [] [] 0 0 gNN (gH cy base μ)) (fun vv rr hh hin hout => k_X9_free_b36 μ (a1) (a2)  vv rr hh hin (fun xx ee => hout (.inl xx) ee) (fun xx ee => hout (.inr (xx)) ee)) gFU ((y3), ((1 : Int32))) z13 ez13 ?_
        cases z13 with
        | inl w14 =>
          replace hS := (Sum.elim_inl _ _ _).symm.trans hS
          show G l D cy base RX9 cX9_free 5 (some .int) (gRm 2) (gXm yX9_free) (gZm D cy base 0 0 (some (.int out)) gNN (gH cy base μ)) 60 [(4, .int (w14))] [] 0 0 gNN (gH cy base μ)
          refine g_iload (j := 0) (x := w14) dX9_free_60 rfl ?_
          obtain rfl := Option.some.inj hS
          exact g_iret rfl dX9_free_62
        | inr w15 =>
          replace hS := (Sum.elim_inr _ _ _).symm.trans hS
          show G l D cy base RX9 cX9_free 5 (some .int) (gRm 2) (gXm yX9_free) (gZm D cy base 0 0 (some (.int out)) gNN (gH cy base μ)) 83 [] [] 0 0 gNN (gH cy base μ)
          refine g_bipush (v := -9) dX9_free_83 (by decide) ?_
          obtain rfl := Option.some.inj hS
          exact g_iret rfl dX9_free_85
      · replace hS := (if_pos hc).symm.trans hS
        refine g_iconst (v := 0) dX9_free_31 (by decide) ?_
        obtain rfl := Option.some.inj hS
        exact g_iret rfl dX9_free_32
    · replace hS := (if_pos hc).symm.trans hS
      refine g_iconst (v := -1) dX9_free_18 (by decide) ?_
      obtain rfl := Option.some.inj hS
      exact g_iret rfl dX9_free_19
def f_X9_who_j125 (m18 : Mem) (x10 : Int32) (x11 : Int32) (x12 : Int32) (x13 : Int32) (x14 : Int32) (x15 : Int32) (x16 : Int32) (x17 : Int32) (x22 : Int32) (x23 : Int32) (x24 : Int32) (x25 : Int32) (x26 : Int32) (x27 : Int32) (x28 : Int32) (x29 : Int32) : Option ((Int32 × Int32 × Int32 × Int32 × Int32 × Int32) ⊕ ((Int32 × Int32 × Int32 × Int32))) :=
  (f_X9_counts m18 (x26)).bind fun y30 =>
  (ldA m18 188 49 (((44 : Int32) + x26))).bind fun y31 =>
  if x27 ≤ (0 : Int32) then (
    some (.inl ((x22), ((x28 + x29)), ((x23 + (x27 * y30))), ((x24 + (x27 * y31))), ((x25 ||| (0 : Int32))), ((x26 + (1 : Int32)))))
  ) else (
    some (.inl ((x22), ((x28 + x29)), ((x23 + (x27 * y30))), ((x24 + (x27 * y31))), ((x25 ||| ((1 : Int32) <<< (x26 &&& 31)))), ((x26 + (1 : Int32)))))
  )
set_option maxRecDepth 100000 in
set_option maxHeartbeats 4000000 in
theorem k_X9_who_j125 {l : Launch} {D : va_G} {cy : Nat → ClassId} {base : Nat} {X : gX} {Z : gZ} (m18 : Mem) (x10 : Int32) (x11 : Int32) (x12 : Int32) (x13 : Int32) (x14 : Int32) (x15 : Int32) (x16 : Int32) (x17 : Int32) (x22 : Int32) (x23 : Int32) (x24 : Int32) (x25 : Int32) (x26 : Int32) (x27 : Int32) (x28 : Int32) (x29 : Int32)  {r : (Int32 × Int32 × Int32 × Int32 × Int32 × Int32) ⊕ ((Int32 × Int32 × Int32 × Int32))} (hS : f_X9_who_j125 m18 x10 x11 x12 x13 x14 x15 x16 x17 x22 x23 x24 x25 x26 x27 x28 x29 = some r) (hin : ∀ v2, r = .inl v2 → G l D cy base RX9 cX9_who 16 (some .int) (gRm 1) X Z 82 [(0, .ref (base + 186)), (1, .int (x10)), (2, .int (x11)), (3, .int (x12)), (4, .int (x13)), (5, .int (x14)), (6, .int (x15)), (7, .int (x16)), (8, .int (x17)), (9, .int (v2.1)), (10, .int (v2.2.1)), (11, .int (v2.2.2.1)), (12, .int (v2.2.2.2.1)), (13, .int (v2.2.2.2.2.1)), (14, .int (v2.2.2.2.2.2))] [] 0 0 gNN (gH cy base m18)) (hout0 : ∀ x, r = .inr x → G l D cy base RX9 cX9_who 16 (some .int) (gRm 1) X Z 184 [(0, .ref (base + 186)), (1, .int (x10)), (2, .int (x11)), (3, .int (x12)), (4, .int (x13)), (5, .int (x14)), (6, .int (x15)), (7, .int (x16)), (8, .int (x17)), (10, .int (x.1)), (11, .int (x.2.1)), (12, .int (x.2.2.1)), (13, .int (x.2.2.2))] [] 0 0 gNN (gH cy base m18)) : G l D cy base RX9 cX9_who 16 (some .int) (gRm 1) X Z 125 [(0, .ref (base + 186)), (1, .int (x10)), (2, .int (x11)), (3, .int (x12)), (4, .int (x13)), (5, .int (x14)), (6, .int (x15)), (7, .int (x16)), (8, .int (x17)), (9, .int (x22)), (11, .int (x23)), (12, .int (x24)), (13, .int (x25)), (14, .int (x26)), (15, .int (x27))] [.int (x29), .int (x28)] 0 0 gNN (gH cy base m18) := by
  unfold f_X9_who_j125 at hS
  refine g_iadd dX9_who_125 ?_
  refine g_istore (lvx := [(10, .int ((x28 + x29))), (0, .ref (base + 186)), (1, .int (x10)), (2, .int (x11)), (3, .int (x12)), (4, .int (x13)), (5, .int (x14)), (6, .int (x15)), (7, .int (x16)), (8, .int (x17)), (9, .int (x22)), (11, .int (x23)), (12, .int (x24)), (13, .int (x25)), (14, .int (x26)), (15, .int (x27))]) dX9_who_126 (by decide) rfl ?_
  refine g_iload (j := 11) (x := x23) dX9_who_128 rfl ?_
  refine g_iload (j := 15) (x := x27) dX9_who_130 rfl ?_
  refine g_aload_n (j := 1) (x := base + 186) dX9_who_132 rfl rfl ?_
  refine g_iload (j := 14) (x := x26) dX9_who_133 rfl ?_
  obtain ⟨y30, ey30, hS⟩ := ob hS
  refine gs_callVi (As := [.int (x26)]) (st := [.int (x27), .int (x23)]) (kr := 186) (k_X9_counts m18 (x26)  ey30) cl_RX9_117 sv_X9_counts ckk_X9_counts (tk_186 _) ⟨by decide, by decide⟩ (Nat.le_of_ble_eq_true rfl) ⟨Nat.zero_le _, Nat.zero_le _⟩ rfl dX9_who_135 rfl ?_
  refine g_imul dX9_who_138 ?_
  refine g_iadd dX9_who_139 ?_
  refine g_istore (lvx := [(11, .int ((x23 + (x27 * y30)))), (10, .int ((x28 + x29))), (0, .ref (base + 186)), (1, .int (x10)), (2, .int (x11)), (3, .int (x12)), (4, .int (x13)), (5, .int (x14)), (6, .int (x15)), (7, .int (x16)), (8, .int (x17)), (9, .int (x22)), (12, .int (x24)), (13, .int (x25)), (14, .int (x26)), (15, .int (x27))]) dX9_who_140 (by decide) rfl ?_
  refine g_iload (j := 12) (x := x24) dX9_who_142 rfl ?_
  refine g_iload (j := 15) (x := x27) dX9_who_144 rfl ?_
  refine g_aload_n (j := 2) (x := base + 186) dX9_who_146 rfl rfl ?_
  refine gs_getR (r := 188) lk_RX9_13 (tk_186 _) rfl dX9_who_147 ?_
  refine g_bipush (v := 44) dX9_who_150 (by decide) ?_
  refine g_iload (j := 14) (x := x26) dX9_who_152 rfl ?_
  refine g_iadd dX9_who_154 ?_
  obtain ⟨y31, ey31, hS⟩ := ob hS
  refine gs_iald (tk_188 _) dX9_who_155 ey31 ?_
  refine g_imul dX9_who_156 ?_
  refine g_iadd dX9_who_157 ?_
  refine g_istore (lvx := [(12, .int ((x24 + (x27 * y31)))), (11, .int ((x23 + (x27 * y30)))), (10, .int ((x28 + x29))), (0, .ref (base + 186)), (1, .int (x10)), (2, .int (x11)), (3, .int (x12)), (4, .int (x13)), (5, .int (x14)), (6, .int (x15)), (7, .int (x16)), (8, .int (x17)), (9, .int (x22)), (13, .int (x25)), (14, .int (x26)), (15, .int (x27))]) dX9_who_158 (by decide) rfl ?_
  refine g_iload (j := 13) (x := x25) dX9_who_160 rfl ?_
  refine g_iload (j := 15) (x := x27) dX9_who_162 rfl ?_
  refine g_if_le 174 dX9_who_164 (by decide) (fun hc => ?_) (fun hc => ?_)
  · replace hS := (if_pos hc).symm.trans hS
    refine g_iconst (v := 0) dX9_who_174 (by decide) ?_
    refine g_ior dX9_who_175 ?_
    refine g_istore (lvx := [(13, .int ((x25 ||| (0 : Int32)))), (12, .int ((x24 + (x27 * y31)))), (11, .int ((x23 + (x27 * y30)))), (10, .int ((x28 + x29))), (0, .ref (base + 186)), (1, .int (x10)), (2, .int (x11)), (3, .int (x12)), (4, .int (x13)), (5, .int (x14)), (6, .int (x15)), (7, .int (x16)), (8, .int (x17)), (9, .int (x22)), (14, .int (x26)), (15, .int (x27))]) dX9_who_176 (by decide) rfl ?_
    refine g_iinc (j := 14) (x := x26) (v := (x26 + (1 : Int32))) (lvx := [(14, .int ((x26 + (1 : Int32)))), (13, .int ((x25 ||| (0 : Int32)))), (12, .int ((x24 + (x27 * y31)))), (11, .int ((x23 + (x27 * y30)))), (10, .int ((x28 + x29))), (0, .ref (base + 186)), (1, .int (x10)), (2, .int (x11)), (3, .int (x12)), (4, .int (x13)), (5, .int (x14)), (6, .int (x15)), (7, .int (x16)), (8, .int (x17)), (9, .int (x22)), (15, .int (x27))]) dX9_who_178 rfl rfl (by decide) rfl ?_
    refine g_goto 82 dX9_who_181 (by decide) ?_
    refine g_sub (lvx := [(0, .ref (base + 186)), (1, .int (x10)), (2, .int (x11)), (3, .int (x12)), (4, .int (x13)), (5, .int (x14)), (6, .int (x15)), (7, .int (x16)), (8, .int (x17)), (9, .int (x22)), (10, .int ((x28 + x29))), (11, .int ((x23 + (x27 * y30)))), (12, .int ((x24 + (x27 * y31)))), (13, .int ((x25 ||| (0 : Int32)))), (14, .int ((x26 + (1 : Int32))))]) [5, 6, 7, 8, 9, 10, 11, 12, 13, 14, 4, 3, 2, 1, 0] rfl ?_
    obtain rfl := Option.some.inj hS
    exact hin (((x22), ((x28 + x29)), ((x23 + (x27 * y30))), ((x24 + (x27 * y31))), ((x25 ||| (0 : Int32))), ((x26 + (1 : Int32))))) rfl
  · replace hS := (if_neg hc).symm.trans hS
    refine g_iconst (v := 1) dX9_who_167 (by decide) ?_
    refine g_iload (j := 14) (x := x26) dX9_who_168 rfl ?_
    refine g_ishl dX9_who_170 ?_
    refine g_goto 175 dX9_who_171 (by decide) ?_
    refine g_ior dX9_who_175 ?_
    refine g_istore (lvx := [(13, .int ((x25 ||| ((1 : Int32) <<< (x26 &&& 31))))), (12, .int ((x24 + (x27 * y31)))), (11, .int ((x23 + (x27 * y30)))), (10, .int ((x28 + x29))), (0, .ref (base + 186)), (1, .int (x10)), (2, .int (x11)), (3, .int (x12)), (4, .int (x13)), (5, .int (x14)), (6, .int (x15)), (7, .int (x16)), (8, .int (x17)), (9, .int (x22)), (14, .int (x26)), (15, .int (x27))]) dX9_who_176 (by decide) rfl ?_
    refine g_iinc (j := 14) (x := x26) (v := (x26 + (1 : Int32))) (lvx := [(14, .int ((x26 + (1 : Int32)))), (13, .int ((x25 ||| ((1 : Int32) <<< (x26 &&& 31))))), (12, .int ((x24 + (x27 * y31)))), (11, .int ((x23 + (x27 * y30)))), (10, .int ((x28 + x29))), (0, .ref (base + 186)), (1, .int (x10)), (2, .int (x11)), (3, .int (x12)), (4, .int (x13)), (5, .int (x14)), (6, .int (x15)), (7, .int (x16)), (8, .int (x17)), (9, .int (x22)), (15, .int (x27))]) dX9_who_178 rfl rfl (by decide) rfl ?_
    refine g_goto 82 dX9_who_181 (by decide) ?_
    refine g_sub (lvx := [(0, .ref (base + 186)), (1, .int (x10)), (2, .int (x11)), (3, .int (x12)), (4, .int (x13)), (5, .int (x14)), (6, .int (x15)), (7, .int (x16)), (8, .int (x17)), (9, .int (x22)), (10, .int ((x28 + x29))), (11, .int ((x23 + (x27 * y30)))), (12, .int ((x24 + (x27 * y31)))), (13, .int ((x25 ||| ((1 : Int32) <<< (x26 &&& 31))))), (14, .int ((x26 + (1 : Int32))))]) [5, 6, 7, 8, 9, 10, 11, 12, 13, 14, 4, 3, 2, 1, 0] rfl ?_
    obtain rfl := Option.some.inj hS
    exact hin (((x22), ((x28 + x29)), ((x23 + (x27 * y30))), ((x24 + (x27 * y31))), ((x25 ||| ((1 : Int32) <<< (x26 &&& 31)))), ((x26 + (1 : Int32))))) rfl
def f_X9_who_b82 (m18 : Mem) (x10 : Int32) (x11 : Int32) (x12 : Int32) (x13 : Int32) (x14 : Int32) (x15 : Int32) (x16 : Int32) (x17 : Int32) (v : Int32 × Int32 × Int32 × Int32 × Int32 × Int32) : Option ((Int32 × Int32 × Int32 × Int32 × Int32 × Int32) ⊕ ((Int32 × Int32 × Int32 × Int32))) :=
  if (5 : Int32) ≤ v.2.2.2.2.2 then (
    some (.inr ((v.2.1), (v.2.2.1), (v.2.2.2.1), (v.2.2.2.2.1)))
  ) else (
    (rmI (v.1) ((7 : Int32))).bind fun y19 =>
    (dvI (v.1) ((7 : Int32))).bind fun y20 =>
    (ldA m18 188 49 ((1 : Int32))).bind fun y21 =>
    if y21 ≤ v.2.2.2.2.2 then (
      f_X9_who_j125 m18 x10 x11 x12 x13 x14 x15 x16 x17 (y20) (v.2.2.1) (v.2.2.2.1) (v.2.2.2.2.1) (v.2.2.2.2.2) (y19) (v.2.1) (((9 : Int32) * y19))
    ) else (
      f_X9_who_j125 m18 x10 x11 x12 x13 x14 x15 x16 x17 (y20) (v.2.2.1) (v.2.2.2.1) (v.2.2.2.2.1) (v.2.2.2.2.2) (y19) (v.2.1) (y19)
    )
  )
set_option maxRecDepth 100000 in
set_option maxHeartbeats 4000000 in
theorem k_X9_who_b82 {l : Launch} {D : va_G} {cy : Nat → ClassId} {base : Nat} {X : gX} {Z : gZ} (m18 : Mem) (x10 : Int32) (x11 : Int32) (x12 : Int32) (x13 : Int32) (x14 : Int32) (x15 : Int32) (x16 : Int32) (x17 : Int32)  (v : Int32 × Int32 × Int32 × Int32 × Int32 × Int32) (r : (Int32 × Int32 × Int32 × Int32 × Int32 × Int32) ⊕ ((Int32 × Int32 × Int32 × Int32))) (hS : f_X9_who_b82 m18 x10 x11 x12 x13 x14 x15 x16 x17 v = some r) (hin : ∀ v2, r = .inl v2 → G l D cy base RX9 cX9_who 16 (some .int) (gRm 1) X Z 82 [(0, .ref (base + 186)), (1, .int (x10)), (2, .int (x11)), (3, .int (x12)), (4, .int (x13)), (5, .int (x14)), (6, .int (x15)), (7, .int (x16)), (8, .int (x17)), (9, .int (v2.1)), (10, .int (v2.2.1)), (11, .int (v2.2.2.1)), (12, .int (v2.2.2.2.1)), (13, .int (v2.2.2.2.2.1)), (14, .int (v2.2.2.2.2.2))] [] 0 0 gNN (gH cy base m18)) (hout0 : ∀ x, r = .inr x → G l D cy base RX9 cX9_who 16 (some .int) (gRm 1) X Z 184 [(0, .ref (base + 186)), (1, .int (x10)), (2, .int (x11)), (3, .int (x12)), (4, .int (x13)), (5, .int (x14)), (6, .int (x15)), (7, .int (x16)), (8, .int (x17)), (10, .int (x.1)), (11, .int (x.2.1)), (12, .int (x.2.2.1)), (13, .int (x.2.2.2))] [] 0 0 gNN (gH cy base m18)) : G l D cy base RX9 cX9_who 16 (some .int) (gRm 1) X Z 82 [(0, .ref (base + 186)), (1, .int (x10)), (2, .int (x11)), (3, .int (x12)), (4, .int (x13)), (5, .int (x14)), (6, .int (x15)), (7, .int (x16)), (8, .int (x17)), (9, .int (v.1)), (10, .int (v.2.1)), (11, .int (v.2.2.1)), (12, .int (v.2.2.2.1)), (13, .int (v.2.2.2.2.1)), (14, .int (v.2.2.2.2.2))] [] 0 0 gNN (gH cy base m18) := by
  unfold f_X9_who_b82 at hS
  refine g_iload (j := 14) (x := v.2.2.2.2.2) dX9_who_82 rfl ?_
  refine g_iconst (v := 5) dX9_who_84 (by decide) ?_
  refine g_icmp_ge 184 dX9_who_85 (by decide) (fun hc => ?_) (fun hc => ?_)
  · replace hS := (if_pos hc).symm.trans hS
    refine g_sub (lvx := [(0, .ref (base + 186)), (1, .int (x10)), (2, .int (x11)), (3, .int (x12)), (4, .int (x13)), (5, .int (x14)), (6, .int (x15)), (7, .int (x16)), (8, .int (x17)), (10, .int (v.2.1)), (11, .int (v.2.2.1)), (12, .int (v.2.2.2.1)), (13, .int (v.2.2.2.2.1))]) [0, 1, 2, 3, 4, 5, 6, 7, 8, 10, 11, 12, 13] rfl ?_
    obtain rfl := Option.some.inj hS
    exact hout0 (((v.2.1), (v.2.2.1), (v.2.2.2.1), (v.2.2.2.2.1))) rfl
  · replace hS := (if_neg hc).symm.trans hS
    refine g_iload (j := 9) (x := v.1) dX9_who_88 rfl ?_
    refine g_bipush (v := 7) dX9_who_90 (by decide) ?_
    obtain ⟨y19, ey19, hS⟩ := ob hS
    refine gs_irem dX9_who_92 ey19 ?_
    refine g_istore (lvx := [(15, .int (y19)), (0, .ref (base + 186)), (1, .int (x10)), (2, .int (x11)), (3, .int (x12)), (4, .int (x13)), (5, .int (x14)), (6, .int (x15)), (7, .int (x16)), (8, .int (x17)), (9, .int (v.1)), (10, .int (v.2.1)), (11, .int (v.2.2.1)), (12, .int (v.2.2.2.1)), (13, .int (v.2.2.2.2.1)), (14, .int (v.2.2.2.2.2))]) dX9_who_93 (by decide) rfl ?_
    refine g_iload (j := 10) (x := v.1) dX9_who_95 rfl ?_
    refine g_bipush (v := 7) dX9_who_97 (by decide) ?_
    obtain ⟨y20, ey20, hS⟩ := ob hS
    refine gs_idiv dX9_who_99 ey20 ?_
    refine g_istore (lvx := [(9, .int (y20)), (15, .int (y19)), (0, .ref (base + 186)), (1, .int (x10)), (2, .int (x11)), (3, .int (x12)), (4, .int (x13)), (5, .int (x14)), (6, .int (x15)), (7, .int (x16)), (8, .int (x17)), (10, .int (v.2.1)), (11, .int (v.2.2.1)), (12, .int (v.2.2.2.1)), (13, .int (v.2.2.2.2.1)), (14, .int (v.2.2.2.2.2))]) dX9_who_100 (by decide) rfl ?_
    refine g_iload (j := 11) (x := v.2.1) dX9_who_102 rfl ?_
    refine g_iload (j := 15) (x := v.2.2.2.2.2) dX9_who_104 rfl ?_
    refine g_aload_n (j := 2) (x := base + 186) dX9_who_106 rfl rfl ?_
    refine gs_getR (r := 188) lk_RX9_13 (tk_186 _) rfl dX9_who_107 ?_
    refine g_iconst (v := 1) dX9_who_110 (by decide) ?_
    obtain ⟨y21, ey21, hS⟩ := ob hS
    refine gs_iald (tk_188 _) dX9_who_111 ey21 ?_
    refine g_icmp_ge 120 dX9_who_112 (by decide) (fun hc => ?_) (fun hc => ?_)
    · replace hS := (if_pos hc).symm.trans hS
      refine g_bipush (v := 9) dX9_who_120 (by decide) ?_
      refine g_iload (j := 1) (x := y19) dX9_who_122 rfl ?_
      refine g_imul dX9_who_124 ?_
      refine g_sub (lvx := [(0, .ref (base + 186)), (1, .int (x10)), (2, .int (x11)), (3, .int (x12)), (4, .int (x13)), (5, .int (x14)), (6, .int (x15)), (7, .int (x16)), (8, .int (x17)), (9, .int (y20)), (11, .int (v.2.2.1)), (12, .int (v.2.2.2.1)), (13, .int (v.2.2.2.2.1)), (14, .int (v.2.2.2.2.2)), (15, .int (y19))]) [2, 3, 4, 5, 6, 7, 8, 9, 10, 0, 12, 13, 14, 15, 1] rfl ?_
      exact k_X9_who_j125 (m18) x10 x11 x12 x13 x14 x15 x16 x17 (y20) (v.2.2.1) (v.2.2.2.1) (v.2.2.2.2.1) (v.2.2.2.2.2) (y19) (v.2.1) (((9 : Int32) * y19))  hS hin hout0
    · replace hS := (if_neg hc).symm.trans hS
      refine g_iload (j := 1) (x := y19) dX9_who_115 rfl ?_
      refine g_goto 125 dX9_who_117 (by decide) ?_
      refine g_sub (lvx := [(0, .ref (base + 186)), (1, .int (x10)), (2, .int (x11)), (3, .int (x12)), (4, .int (x13)), (5, .int (x14)), (6, .int (x15)), (7, .int (x16)), (8, .int (x17)), (9, .int (y20)), (11, .int (v.2.2.1)), (12, .int (v.2.2.2.1)), (13, .int (v.2.2.2.2.1)), (14, .int (v.2.2.2.2.2)), (15, .int (y19))]) [2, 3, 4, 5, 6, 7, 8, 9, 10, 0, 12, 13, 14, 15, 1] rfl ?_
      exact k_X9_who_j125 (m18) x10 x11 x12 x13 x14 x15 x16 x17 (y20) (v.2.2.1) (v.2.2.2.1) (v.2.2.2.2.1) (v.2.2.2.2.2) (y19) (v.2.1) (y19)  hS hin hout0
def f_X9_who_j238 (m9 : Mem) (x5 : Int32) (x6 : Int32) (x7 : Int32) (x8 : Int32) (x59 : Int32) (x60 : Int32) (x61 : Int32) (x62 : Int32) (x63 : Int32) (x64 : Int32) (x65 : Int32) : Option ((Int32 × Int32 × Int32 × Int32) ⊕ ((Int32 × Int32 × Int32))) :=
  if x63 = (0 : Int32) then (
    some (.inl ((x59), ((x64 &&& x65)), ((x60 ||| (0 : Int32))), ((x61 + (1 : Int32)))))
  ) else (
    some (.inl ((x59), ((x64 &&& x65)), ((x60 ||| x62)), ((x61 + (1 : Int32)))))
  )
set_option maxRecDepth 100000 in
set_option maxHeartbeats 4000000 in
theorem k_X9_who_j238 {l : Launch} {D : va_G} {cy : Nat → ClassId} {base : Nat} {X : gX} {Z : gZ} (m9 : Mem) (x5 : Int32) (x6 : Int32) (x7 : Int32) (x8 : Int32) (x59 : Int32) (x60 : Int32) (x61 : Int32) (x62 : Int32) (x63 : Int32) (x64 : Int32) (x65 : Int32)  {r : (Int32 × Int32 × Int32 × Int32) ⊕ ((Int32 × Int32 × Int32))} (hS : f_X9_who_j238 m9 x5 x6 x7 x8 x59 x60 x61 x62 x63 x64 x65 = some r) (hin : ∀ v2, r = .inl v2 → G l D cy base RX9 cX9_who 16 (some .int) (gRm 1) X Z 55 [(0, .ref (base + 186)), (1, .int (x5)), (2, .int (x6)), (3, .int (x7)), (4, .int (x8)), (5, .int (v2.1)), (6, .int (v2.2.1)), (7, .int (v2.2.2.1)), (8, .int (v2.2.2.2))] [] 0 0 gNN (gH cy base m9)) (hout0 : ∀ x, r = .inr x → G l D cy base RX9 cX9_who 16 (some .int) (gRm 1) X Z 263 [(4, .int (x8)), (5, .int (x.1)), (6, .int (x.2.1)), (7, .int (x.2.2))] [] 0 0 gNN (gH cy base m9)) : G l D cy base RX9 cX9_who 16 (some .int) (gRm 1) X Z 238 [(0, .ref (base + 186)), (1, .int (x5)), (2, .int (x6)), (3, .int (x7)), (4, .int (x8)), (5, .int (x59)), (7, .int (x60)), (8, .int (x61)), (13, .int (x62)), (14, .int (x63))] [.int (x65), .int (x64)] 0 0 gNN (gH cy base m9) := by
  unfold f_X9_who_j238 at hS
  refine g_iand dX9_who_238 ?_
  refine g_istore (lvx := [(6, .int ((x64 &&& x65))), (0, .ref (base + 186)), (1, .int (x5)), (2, .int (x6)), (3, .int (x7)), (4, .int (x8)), (5, .int (x59)), (7, .int (x60)), (8, .int (x61)), (13, .int (x62)), (14, .int (x63))]) dX9_who_239 (by decide) rfl ?_
  refine g_iload (j := 7) (x := x60) dX9_who_241 rfl ?_
  refine g_iload (j := 10) (x := x63) dX9_who_243 rfl ?_
  refine g_if_eq 253 dX9_who_245 (by decide) (fun hc => ?_) (fun hc => ?_)
  · replace hS := (if_pos hc).symm.trans hS
    refine g_iconst (v := 0) dX9_who_253 (by decide) ?_
    refine g_ior dX9_who_254 ?_
    refine g_istore (lvx := [(7, .int ((x60 ||| (0 : Int32)))), (6, .int ((x64 &&& x65))), (0, .ref (base + 186)), (1, .int (x5)), (2, .int (x6)), (3, .int (x7)), (4, .int (x8)), (5, .int (x59)), (8, .int (x61)), (13, .int (x62)), (14, .int (x63))]) dX9_who_255 (by decide) rfl ?_
    refine g_iinc (j := 8) (x := x61) (v := (x61 + (1 : Int32))) (lvx := [(8, .int ((x61 + (1 : Int32)))), (7, .int ((x60 ||| (0 : Int32)))), (6, .int ((x64 &&& x65))), (0, .ref (base + 186)), (1, .int (x5)), (2, .int (x6)), (3, .int (x7)), (4, .int (x8)), (5, .int (x59)), (13, .int (x62)), (14, .int (x63))]) dX9_who_257 rfl rfl (by decide) rfl ?_
    refine g_goto 55 dX9_who_260 (by decide) ?_
    refine g_sub (lvx := [(0, .ref (base + 186)), (1, .int (x5)), (2, .int (x6)), (3, .int (x7)), (4, .int (x8)), (5, .int (x59)), (6, .int ((x64 &&& x65))), (7, .int ((x60 ||| (0 : Int32)))), (8, .int ((x61 + (1 : Int32))))]) [3, 4, 5, 6, 7, 8, 2, 1, 0] rfl ?_
    obtain rfl := Option.some.inj hS
    exact hin (((x59), ((x64 &&& x65)), ((x60 ||| (0 : Int32))), ((x61 + (1 : Int32))))) rfl
  · replace hS := (if_neg hc).symm.trans hS
    refine g_iload (j := 9) (x := x62) dX9_who_248 rfl ?_
    refine g_goto 254 dX9_who_250 (by decide) ?_
    refine g_ior dX9_who_254 ?_
    refine g_istore (lvx := [(7, .int ((x60 ||| x62))), (6, .int ((x64 &&& x65))), (0, .ref (base + 186)), (1, .int (x5)), (2, .int (x6)), (3, .int (x7)), (4, .int (x8)), (5, .int (x59)), (8, .int (x61)), (13, .int (x62)), (14, .int (x63))]) dX9_who_255 (by decide) rfl ?_
    refine g_iinc (j := 8) (x := x61) (v := (x61 + (1 : Int32))) (lvx := [(8, .int ((x61 + (1 : Int32)))), (7, .int ((x60 ||| x62))), (6, .int ((x64 &&& x65))), (0, .ref (base + 186)), (1, .int (x5)), (2, .int (x6)), (3, .int (x7)), (4, .int (x8)), (5, .int (x59)), (13, .int (x62)), (14, .int (x63))]) dX9_who_257 rfl rfl (by decide) rfl ?_
    refine g_goto 55 dX9_who_260 (by decide) ?_
    refine g_sub (lvx := [(0, .ref (base + 186)), (1, .int (x5)), (2, .int (x6)), (3, .int (x7)), (4, .int (x8)), (5, .int (x59)), (6, .int ((x64 &&& x65))), (7, .int ((x60 ||| x62))), (8, .int ((x61 + (1 : Int32))))]) [3, 4, 5, 6, 7, 8, 2, 1, 0] rfl ?_
    obtain rfl := Option.some.inj hS
    exact hin (((x59), ((x64 &&& x65)), ((x60 ||| x62)), ((x61 + (1 : Int32))))) rfl
def f_X9_who_j221 (m9 : Mem) (x5 : Int32) (x6 : Int32) (x7 : Int32) (x8 : Int32) (x52 : Int32) (x53 : Int32) (x54 : Int32) (x55 : Int32) (x56 : Int32) (x57 : Int32) (x58 : Int32) : Option ((Int32 × Int32 × Int32 × Int32) ⊕ ((Int32 × Int32 × Int32))) :=
  if x56 = (0 : Int32) then (
    f_X9_who_j238 m9 x5 x6 x7 x8 ((x57 + x58)) (x53) (x54) (x55) (x56) (x52) ((31 : Int32))
  ) else (
    f_X9_who_j238 m9 x5 x6 x7 x8 ((x57 + x58)) (x53) (x54) (x55) (x56) (x52) (x55)
  )
set_option maxRecDepth 100000 in
set_option maxHeartbeats 4000000 in
theorem k_X9_who_j221 {l : Launch} {D : va_G} {cy : Nat → ClassId} {base : Nat} {X : gX} {Z : gZ} (m9 : Mem) (x5 : Int32) (x6 : Int32) (x7 : Int32) (x8 : Int32) (x52 : Int32) (x53 : Int32) (x54 : Int32) (x55 : Int32) (x56 : Int32) (x57 : Int32) (x58 : Int32)  {r : (Int32 × Int32 × Int32 × Int32) ⊕ ((Int32 × Int32 × Int32))} (hS : f_X9_who_j221 m9 x5 x6 x7 x8 x52 x53 x54 x55 x56 x57 x58 = some r) (hin : ∀ v2, r = .inl v2 → G l D cy base RX9 cX9_who 16 (some .int) (gRm 1) X Z 55 [(0, .ref (base + 186)), (1, .int (x5)), (2, .int (x6)), (3, .int (x7)), (4, .int (x8)), (5, .int (v2.1)), (6, .int (v2.2.1)), (7, .int (v2.2.2.1)), (8, .int (v2.2.2.2))] [] 0 0 gNN (gH cy base m9)) (hout0 : ∀ x, r = .inr x → G l D cy base RX9 cX9_who 16 (some .int) (gRm 1) X Z 263 [(4, .int (x8)), (5, .int (x.1)), (6, .int (x.2.1)), (7, .int (x.2.2))] [] 0 0 gNN (gH cy base m9)) : G l D cy base RX9 cX9_who 16 (some .int) (gRm 1) X Z 221 [(0, .ref (base + 186)), (1, .int (x5)), (2, .int (x6)), (3, .int (x7)), (4, .int (x8)), (6, .int (x52)), (7, .int (x53)), (8, .int (x54)), (13, .int (x55)), (14, .int (x56))] [.int (x58), .int (x57)] 0 0 gNN (gH cy base m9) := by
  unfold f_X9_who_j221 at hS
  refine g_iadd dX9_who_221 ?_
  refine g_istore (lvx := [(5, .int ((x57 + x58))), (0, .ref (base + 186)), (1, .int (x5)), (2, .int (x6)), (3, .int (x7)), (4, .int (x8)), (6, .int (x52)), (7, .int (x53)), (8, .int (x54)), (13, .int (x55)), (14, .int (x56))]) dX9_who_222 (by decide) rfl ?_
  refine g_iload (j := 6) (x := x52) dX9_who_224 rfl ?_
  refine g_iload (j := 10) (x := x56) dX9_who_226 rfl ?_
  refine g_if_eq 236 dX9_who_228 (by decide) (fun hc => ?_) (fun hc => ?_)
  · replace hS := (if_pos hc).symm.trans hS
    refine g_bipush (v := 31) dX9_who_236 (by decide) ?_
    refine g_sub (lvx := [(0, .ref (base + 186)), (1, .int (x5)), (2, .int (x6)), (3, .int (x7)), (4, .int (x8)), (5, .int ((x57 + x58))), (7, .int (x53)), (8, .int (x54)), (13, .int (x55)), (14, .int (x56))]) [1, 2, 3, 4, 5, 0, 7, 8, 9, 10] rfl ?_
    exact k_X9_who_j238 (m9) x5 x6 x7 x8 ((x57 + x58)) (x53) (x54) (x55) (x56) (x52) ((31 : Int32))  hS hin hout0
  · replace hS := (if_neg hc).symm.trans hS
    refine g_iload (j := 9) (x := x55) dX9_who_231 rfl ?_
    refine g_goto 238 dX9_who_233 (by decide) ?_
    refine g_sub (lvx := [(0, .ref (base + 186)), (1, .int (x5)), (2, .int (x6)), (3, .int (x7)), (4, .int (x8)), (5, .int ((x57 + x58))), (7, .int (x53)), (8, .int (x54)), (13, .int (x55)), (14, .int (x56))]) [1, 2, 3, 4, 5, 0, 7, 8, 9, 10] rfl ?_
    exact k_X9_who_j238 (m9) x5 x6 x7 x8 ((x57 + x58)) (x53) (x54) (x55) (x56) (x52) (x55)  hS hin hout0
def f_X9_who_j207 (m9 : Mem) (x5 : Int32) (x6 : Int32) (x7 : Int32) (x8 : Int32) (x46 : Int32) (x47 : Int32) (x48 : Int32) (x49 : Int32) (x50 : Int32) (x51 : Int32) : Option ((Int32 × Int32 × Int32 × Int32) ⊕ ((Int32 × Int32 × Int32))) :=
  if x51 = (0 : Int32) then (
    f_X9_who_j221 m9 x5 x6 x7 x8 (x47) (x48) (x49) (x50) (x51) (x46) ((0 : Int32))
  ) else (
    f_X9_who_j221 m9 x5 x6 x7 x8 (x47) (x48) (x49) (x50) (x51) (x46) ((1 : Int32))
  )
set_option maxRecDepth 100000 in
set_option maxHeartbeats 4000000 in
theorem k_X9_who_j207 {l : Launch} {D : va_G} {cy : Nat → ClassId} {base : Nat} {X : gX} {Z : gZ} (m9 : Mem) (x5 : Int32) (x6 : Int32) (x7 : Int32) (x8 : Int32) (x46 : Int32) (x47 : Int32) (x48 : Int32) (x49 : Int32) (x50 : Int32) (x51 : Int32)  {r : (Int32 × Int32 × Int32 × Int32) ⊕ ((Int32 × Int32 × Int32))} (hS : f_X9_who_j207 m9 x5 x6 x7 x8 x46 x47 x48 x49 x50 x51 = some r) (hin : ∀ v2, r = .inl v2 → G l D cy base RX9 cX9_who 16 (some .int) (gRm 1) X Z 55 [(0, .ref (base + 186)), (1, .int (x5)), (2, .int (x6)), (3, .int (x7)), (4, .int (x8)), (5, .int (v2.1)), (6, .int (v2.2.1)), (7, .int (v2.2.2.1)), (8, .int (v2.2.2.2))] [] 0 0 gNN (gH cy base m9)) (hout0 : ∀ x, r = .inr x → G l D cy base RX9 cX9_who 16 (some .int) (gRm 1) X Z 263 [(4, .int (x8)), (5, .int (x.1)), (6, .int (x.2.1)), (7, .int (x.2.2))] [] 0 0 gNN (gH cy base m9)) : G l D cy base RX9 cX9_who 16 (some .int) (gRm 1) X Z 207 [(0, .ref (base + 186)), (1, .int (x5)), (2, .int (x6)), (3, .int (x7)), (4, .int (x8)), (5, .int (x46)), (6, .int (x47)), (7, .int (x48)), (8, .int (x49)), (13, .int (x50))] [.int (x51)] 0 0 gNN (gH cy base m9) := by
  unfold f_X9_who_j207 at hS
  refine g_istore (lvx := [(14, .int (x51)), (0, .ref (base + 186)), (1, .int (x5)), (2, .int (x6)), (3, .int (x7)), (4, .int (x8)), (5, .int (x46)), (6, .int (x47)), (7, .int (x48)), (8, .int (x49)), (13, .int (x50))]) dX9_who_207 (by decide) rfl ?_
  refine g_iload (j := 6) (x := x46) dX9_who_209 rfl ?_
  refine g_iload (j := 0) (x := x51) dX9_who_211 rfl ?_
  refine g_if_eq 220 dX9_who_213 (by decide) (fun hc => ?_) (fun hc => ?_)
  · replace hS := (if_pos hc).symm.trans hS
    refine g_iconst (v := 0) dX9_who_220 (by decide) ?_
    refine g_sub (lvx := [(0, .ref (base + 186)), (1, .int (x5)), (2, .int (x6)), (3, .int (x7)), (4, .int (x8)), (6, .int (x47)), (7, .int (x48)), (8, .int (x49)), (13, .int (x50)), (14, .int (x51))]) [1, 2, 3, 4, 5, 7, 8, 9, 10, 0] rfl ?_
    exact k_X9_who_j221 (m9) x5 x6 x7 x8 (x47) (x48) (x49) (x50) (x51) (x46) ((0 : Int32))  hS hin hout0
  · replace hS := (if_neg hc).symm.trans hS
    refine g_iconst (v := 1) dX9_who_216 (by decide) ?_
    refine g_goto 221 dX9_who_217 (by decide) ?_
    refine g_sub (lvx := [(0, .ref (base + 186)), (1, .int (x5)), (2, .int (x6)), (3, .int (x7)), (4, .int (x8)), (6, .int (x47)), (7, .int (x48)), (8, .int (x49)), (13, .int (x50)), (14, .int (x51))]) [1, 2, 3, 4, 5, 7, 8, 9, 10, 0] rfl ?_
    exact k_X9_who_j221 (m9) x5 x6 x7 x8 (x47) (x48) (x49) (x50) (x51) (x46) ((1 : Int32))  hS hin hout0
def f_X9_who_j206 (m9 : Mem) (x5 : Int32) (x6 : Int32) (x7 : Int32) (x8 : Int32) (x41 : Int32) (x42 : Int32) (x43 : Int32) (x44 : Int32) (x45 : Int32) : Option ((Int32 × Int32 × Int32 × Int32) ⊕ ((Int32 × Int32 × Int32))) :=
  f_X9_who_j207 m9 x5 x6 x7 x8 (x41) (x42) (x43) (x44) (x45) ((0 : Int32))
set_option maxRecDepth 100000 in
set_option maxHeartbeats 4000000 in
theorem k_X9_who_j206 {l : Launch} {D : va_G} {cy : Nat → ClassId} {base : Nat} {X : gX} {Z : gZ} (m9 : Mem) (x5 : Int32) (x6 : Int32) (x7 : Int32) (x8 : Int32) (x41 : Int32) (x42 : Int32) (x43 : Int32) (x44 : Int32) (x45 : Int32)  {r : (Int32 × Int32 × Int32 × Int32) ⊕ ((Int32 × Int32 × Int32))} (hS : f_X9_who_j206 m9 x5 x6 x7 x8 x41 x42 x43 x44 x45 = some r) (hin : ∀ v2, r = .inl v2 → G l D cy base RX9 cX9_who 16 (some .int) (gRm 1) X Z 55 [(0, .ref (base + 186)), (1, .int (x5)), (2, .int (x6)), (3, .int (x7)), (4, .int (x8)), (5, .int (v2.1)), (6, .int (v2.2.1)), (7, .int (v2.2.2.1)), (8, .int (v2.2.2.2))] [] 0 0 gNN (gH cy base m9)) (hout0 : ∀ x, r = .inr x → G l D cy base RX9 cX9_who 16 (some .int) (gRm 1) X Z 263 [(4, .int (x8)), (5, .int (x.1)), (6, .int (x.2.1)), (7, .int (x.2.2))] [] 0 0 gNN (gH cy base m9)) : G l D cy base RX9 cX9_who 16 (some .int) (gRm 1) X Z 206 [(0, .ref (base + 186)), (1, .int (x5)), (2, .int (x6)), (3, .int (x7)), (4, .int (x8)), (5, .int (x41)), (6, .int (x42)), (7, .int (x43)), (8, .int (x44)), (13, .int (x45))] [] 0 0 gNN (gH cy base m9) := by
  unfold f_X9_who_j206 at hS
  refine g_iconst (v := 0) dX9_who_206 (by decide) ?_
  exact k_X9_who_j207 (m9) x5 x6 x7 x8 (x41) (x42) (x43) (x44) (x45) ((0 : Int32))  hS hin hout0
def f_X9_who_b55 (m9 : Mem) (x5 : Int32) (x6 : Int32) (x7 : Int32) (x8 : Int32) (v : Int32 × Int32 × Int32 × Int32) : Option ((Int32 × Int32 × Int32 × Int32) ⊕ ((Int32 × Int32 × Int32))) :=
  if (16807 : Int32) ≤ v.2.2.2 then (
    some (.inr ((v.1), (v.2.1), (v.2.2.1)))
  ) else (
    (iter gFU (f_X9_who_b82 m9 (x5) (x6) (x7) (x8) (v.1) (v.2.1) (v.2.2.1) (v.2.2.2)) ((v.2.2.2), ((0 : Int32)), ((0 : Int32)), ((0 : Int32)), ((0 : Int32)), ((0 : Int32)))).bind fun z40 =>
    if z40.1 = x5 then (
      if z40.2.1 = x6 then (
        if z40.2.2.1 = x7 then (
          f_X9_who_j207 m9 x5 x6 x7 x8 (v.1) (v.2.1) (v.2.2.1) (v.2.2.2) (z40.2.2.2) ((1 : Int32))
        ) else (
          f_X9_who_j206 m9 x5 x6 x7 x8 (v.1) (v.2.1) (v.2.2.1) (v.2.2.2) (z40.2.2.2)
        )
      ) else (
        f_X9_who_j206 m9 x5 x6 x7 x8 (v.1) (v.2.1) (v.2.2.1) (v.2.2.2) (z40.2.2.2)
      )
    ) else (
      f_X9_who_j206 m9 x5 x6 x7 x8 (v.1) (v.2.1) (v.2.2.1) (v.2.2.2) (z40.2.2.2)
    )
  )
set_option maxRecDepth 100000 in
set_option maxHeartbeats 4000000 in
theorem k_X9_who_b55 {l : Launch} {D : va_G} {cy : Nat → ClassId} {base : Nat} {X : gX} {Z : gZ} (m9 : Mem) (x5 : Int32) (x6 : Int32) (x7 : Int32) (x8 : Int32)  (v : Int32 × Int32 × Int32 × Int32) (r : (Int32 × Int32 × Int32 × Int32) ⊕ ((Int32 × Int32 × Int32))) (hS : f_X9_who_b55 m9 x5 x6 x7 x8 v = some r) (hin : ∀ v2, r = .inl v2 → G l D cy base RX9 cX9_who 16 (some .int) (gRm 1) X Z 55 [(0, .ref (base + 186)), (1, .int (x5)), (2, .int (x6)), (3, .int (x7)), (4, .int (x8)), (5, .int (v2.1)), (6, .int (v2.2.1)), (7, .int (v2.2.2.1)), (8, .int (v2.2.2.2))] [] 0 0 gNN (gH cy base m9)) (hout0 : ∀ x, r = .inr x → G l D cy base RX9 cX9_who 16 (some .int) (gRm 1) X Z 263 [(4, .int (x8)), (5, .int (x.1)), (6, .int (x.2.1)), (7, .int (x.2.2))] [] 0 0 gNN (gH cy base m9)) : G l D cy base RX9 cX9_who 16 (some .int) (gRm 1) X Z 55 [(0, .ref (base + 186)), (1, .int (x5)), (2, .int (x6)), (3, .int (x7)), (4, .int (x8)), (5, .int (v.1)), (6, .int (v.2.1)), (7, .int (v.2.2.1)), (8, .int (v.2.2.2))] [] 0 0 gNN (gH cy base m9) := by
  unfold f_X9_who_b55 at hS
  refine g_iload (j := 8) (x := v.2.2.2) dX9_who_55 rfl ?_
  refine g_sipush (v := 16807) dX9_who_57 (by decide) ?_
  refine g_icmp_ge 263 dX9_who_60 (by decide) (fun hc => ?_) (fun hc => ?_)
  · replace hS := (if_pos hc).symm.trans hS
    refine g_sub (lvx := [(4, .int (x8)), (5, .int (v.1)), (6, .int (v.2.1)), (7, .int (v.2.2.1))]) [4, 5, 6, 7] rfl ?_
    obtain rfl := Option.some.inj hS
    exact hout0 (((v.1), (v.2.1), (v.2.2.1))) rfl
  · replace hS := (if_neg hc).symm.trans hS
    refine g_iload (j := 8) (x := v.2.2.2) dX9_who_63 rfl ?_
    refine g_istore (lvx := [(9, .int (v.2.2.2)), (0, .ref (base + 186)), (1, .int (x5)), (2, .int (x6)), (3, .int (x7)), (4, .int (x8)), (5, .int (v.1)), (6, .int (v.2.1)), (7, .int (v.2.2.1)), (8, .int (v.2.2.2))]) dX9_who_65 (by decide) rfl ?_
    refine g_iconst (v := 0) dX9_who_67 (by decide) ?_
    refine g_istore (lvx := [(10, .int ((0 : Int32))), (9, .int (v.2.2.2)), (0, .ref (base + 186)), (1, .int (x5)), (2, .int (x6)), (3, .int (x7)), (4, .int (x8)), (5, .int (v.1)), (6, .int (v.2.1)), (7, .int (v.2.2.1)), (8, .int (v.2.2.2))]) dX9_who_68 (by decide) rfl ?_
    refine g_iconst (v := 0) dX9_who_70 (by decide) ?_
    refine g_istore (lvx := [(11, .int ((0 : Int32))), (10, .int ((0 : Int32))), (9, .int (v.2.2.2)), (0, .ref (base + 186)), (1, .int (x5)), (2, .int (x6)), (3, .int (x7)), (4, .int (x8)), (5, .int (v.1)), (6, .int (v.2.1)), (7, .int (v.2.2.1)), (8, .int (v.2.2.2))]) dX9_who_71 (by decide) rfl ?_
    refine g_iconst (v := 0) dX9_who_73 (by decide) ?_
    refine g_istore (lvx := [(12, .int ((0 : Int32))), (11, .int ((0 : Int32))), (10, .int ((0 : Int32))), (9, .int (v.2.2.2)), (0, .ref (base + 186)), (1, .int (x5)), (2, .int (x6)), (3, .int (x7)), (4, .int (x8)), (5, .int (v.1)), (6, .int (v.2.1)), (7, .int (v.2.2.1)), (8, .int (v.2.2.2))]) dX9_who_74 (by decide) rfl ?_
    refine g_iconst (v := 0) dX9_who_76 (by decide) ?_
    refine g_istore (lvx := [(13, .int ((0 : Int32))), (12, .int ((0 : Int32))), (11, .int ((0 : Int32))), (10, .int ((0 : Int32))), (9, .int (v.2.2.2)), (0, .ref (base + 186)), (1, .int (x5)), (2, .int (x6)), (3, .int (x7)), (4, .int (x8)), (5, .int (v.1)), (6, .int (v.2.1)), (7, .int (v.2.2.1)), (8, .int (v.2.2.2))]) dX9_who_77 (by decide) rfl ?_
    refine g_iconst (v := 0) dX9_who_79 (by decide) ?_
    refine g_istore (lvx := [(14, .int ((0 : Int32))), (13, .int ((0 : Int32))), (12, .int ((0 : Int32))), (11, .int ((0 : Int32))), (10, .int ((0 : Int32))), (9, .int (v.2.2.2)), (0, .ref (base + 186)), (1, .int (x5)), (2, .int (x6)), (3, .int (x7)), (4, .int (x8)), (5, .int (v.1)), (6, .int (v.2.1)), (7, .int (v.2.2.1)), (8, .int (v.2.2.2))]) dX9_who_80 (by decide) rfl ?_
    obtain ⟨z40, ez40, hS⟩ := ob hS
    refine g_sub (lvx := [(0, .ref (base + 186)), (1, .int (x5)), (2, .int (x6)), (3, .int (x7)), (4, .int (x8)), (5, .int (v.1)), (6, .int (v.2.1)), (7, .int (v.2.2.1)), (8, .int (v.2.2.2)), (9, .int (v.2.2.2)), (10, .int ((0 : Int32))), (11, .int ((0 : Int32))), (12, .int ((0 : Int32))), (13, .int ((0 : Int32))), (14, .int ((0 : Int32)))]) [6, 7, 8, 9, 10, 11, 12, 13, 14, 5, 4, 3, 2, 1, 0] rfl ?_
    refine iter_ind (fun vv => G l D cy base RX9 cX9_who 16 (some .int) (gRm 1) X Z 82 [(0, .ref (base + 186)), (1, .int (x5)), (2, .int (x6)), (3, .int (x7)), (4, .int (x8)), (5, .int (v.1)), (6, .int (v.2.1)), (7, .int (v.2.2.1)), (8, .int (v.2.2.2)), (9, .int (vv.1)), (10, .int (vv.2.1)), (11, .int (vv.2.2.1)), (12, .int (vv.2.2.2.1)), (13, .int (vv.2.2.2.2.1)), (14, .int (vv.2.2.2.2.2))] [] 0 0 gNN (gH cy base m9)) (fun xx => G l D cy base RX9 cX9_who 16 (some .int) (gRm 1) X Z 184 [(0, .ref (base + 186)), (1, .int (x5)), (2, .int (x6)), (3, .int (x7)), (4, .int (x8)), (5, .int (v.1)), (6, .int (v.2.1)), (7, .int (v.2.2.1)), (8, .int (v.2.2.2)), (10, .int (xx.1)), (11, .int (xx.2.1)), (12, .int (xx.2.2.1)), (13, .int (xx.2.2.2))] [] 0 0 gNN (gH cy base m9)) (fun vv rr hh hin hout => k_X9_who_b82 m9 (x5) (x6) (x7) (x8) (v.1) (v.2.1) (v.2.2.1) (v.2.2.2)  vv rr hh hin (fun xx ee => hout xx ee)) gFU ((v.2.2.2), ((0 : Int32)), ((0 : Int32)), ((0 : Int32)), ((0 : Int32)), ((0 : Int32))) z40 ez40 ?_
    show G l D cy base RX9 cX9_who 16 (some .int) (gRm 1) X Z 184 [(0, .ref (base + 186)), (1, .int (x5)), (2, .int (x6)), (3, .int (x7)), (4, .int (x8)), (5, .int (v.1)), (6, .int (v.2.1)), (7, .int (v.2.2.1)), (8, .int (v.2.2.2)), (10, .int (z40.1)), (11, .int (z40.2.1)), (12, .int (z40.2.2.1)), (13, .int (z40.2.2.2))] [] 0 0 gNN (gH cy base m9)
    refine g_iload (j := 9) (x := z40.1) dX9_who_184 rfl ?_
    refine g_iload_n (j := 1) (x := x5) dX9_who_186 rfl rfl ?_
    refine g_icmp_ne 206 dX9_who_187 (by decide) (fun hc => ?_) (fun hc => ?_)
    · replace hS := (if_neg hc).symm.trans hS
      refine g_sub (lvx := [(0, .ref (base + 186)), (1, .int (x5)), (2, .int (x6)), (3, .int (x7)), (4, .int (x8)), (5, .int (v.1)), (6, .int (v.2.1)), (7, .int (v.2.2.1)), (8, .int (v.2.2.2)), (13, .int (z40.2.2.2))]) [0, 1, 2, 3, 4, 5, 6, 7, 8, 12] rfl ?_
      exact k_X9_who_j206 (m9) x5 x6 x7 x8 (v.1) (v.2.1) (v.2.2.1) (v.2.2.2) (z40.2.2.2)  hS hin hout0
    · replace hS := (if_pos hc).symm.trans hS
      refine g_iload (j := 10) (x := z40.2.1) dX9_who_190 rfl ?_
      refine g_iload_n (j := 2) (x := x6) dX9_who_192 rfl rfl ?_
      refine g_icmp_ne 206 dX9_who_193 (by decide) (fun hc => ?_) (fun hc => ?_)
      · replace hS := (if_neg hc).symm.trans hS
        refine g_sub (lvx := [(0, .ref (base + 186)), (1, .int (x5)), (2, .int (x6)), (3, .int (x7)), (4, .int (x8)), (5, .int (v.1)), (6, .int (v.2.1)), (7, .int (v.2.2.1)), (8, .int (v.2.2.2)), (13, .int (z40.2.2.2))]) [0, 1, 2, 3, 4, 5, 6, 7, 8, 12] rfl ?_
        exact k_X9_who_j206 (m9) x5 x6 x7 x8 (v.1) (v.2.1) (v.2.2.1) (v.2.2.2) (z40.2.2.2)  hS hin hout0
      · replace hS := (if_pos hc).symm.trans hS
        refine g_iload (j := 11) (x := z40.2.2.1) dX9_who_196 rfl ?_
        refine g_iload_n (j := 3) (x := x7) dX9_who_198 rfl rfl ?_
        refine g_icmp_ne 206 dX9_who_199 (by decide) (fun hc => ?_) (fun hc => ?_)
        · replace hS := (if_neg hc).symm.trans hS
          refine g_sub (lvx := [(0, .ref (base + 186)), (1, .int (x5)), (2, .int (x6)), (3, .int (x7)), (4, .int (x8)), (5, .int (v.1)), (6, .int (v.2.1)), (7, .int (v.2.2.1)), (8, .int (v.2.2.2)), (13, .int (z40.2.2.2))]) [0, 1, 2, 3, 4, 5, 6, 7, 8, 12] rfl ?_
          exact k_X9_who_j206 (m9) x5 x6 x7 x8 (v.1) (v.2.1) (v.2.2.1) (v.2.2.2) (z40.2.2.2)  hS hin hout0
        · replace hS := (if_pos hc).symm.trans hS
          refine g_iconst (v := 1) dX9_who_202 (by decide) ?_
          refine g_goto 207 dX9_who_203 (by decide) ?_
          refine g_sub (lvx := [(0, .ref (base + 186)), (1, .int (x5)), (2, .int (x6)), (3, .int (x7)), (4, .int (x8)), (5, .int (v.1)), (6, .int (v.2.1)), (7, .int (v.2.2.1)), (8, .int (v.2.2.2)), (13, .int (z40.2.2.2))]) [0, 1, 2, 3, 4, 5, 6, 7, 8, 12] rfl ?_
          exact k_X9_who_j207 (m9) x5 x6 x7 x8 (v.1) (v.2.1) (v.2.2.1) (v.2.2.2) (z40.2.2.2) ((1 : Int32))  hS hin hout0
def f_X9_who (μ : Mem) (a1 : Int32) (a2 : Int32) (a3 : Int32) (a4 : Int32) : Option (Int32) :=
  (f_X9_in μ (a1) ((0 : Int32)) ((6 : Int32))).bind fun y1 =>
  if y1 = (0 : Int32) then (
    some ((-1 : Int32))
  ) else (
    (f_X9_in μ (a2) ((0 : Int32)) ((99 : Int32))).bind fun y2 =>
    if y2 = (0 : Int32) then (
      some ((-1 : Int32))
    ) else (
      (f_X9_in μ (a3) ((0 : Int32)) ((99 : Int32))).bind fun y3 =>
      if y3 = (0 : Int32) then (
        some ((-1 : Int32))
      ) else (
        (f_X9_in μ (a4) ((0 : Int32)) ((2 : Int32))).bind fun y4 =>
        if y4 = (0 : Int32) then (
          some ((-1 : Int32))
        ) else (
          (iter gFU (f_X9_who_b55 μ (a1) (a2) (a3) (a4)) (((0 : Int32)), ((31 : Int32)), ((0 : Int32)), ((0 : Int32)))).bind fun z96 =>
          if a4 = (0 : Int32) then (
            some (z96.1)
          ) else (
            if a4 = (2 : Int32) then (
              some (z96.2.2)
            ) else (
              if z96.1 = (0 : Int32) then (
                some ((0 : Int32))
              ) else (
                some (z96.2.1)
              )
            )
          )
        )
      )
    )
  )
set_option maxRecDepth 100000 in
set_option maxHeartbeats 4000000 in
theorem k_X9_who {l : Launch} {D : va_G} {cy : Nat → ClassId} {base : Nat} (μ : Mem) (a1 : Int32) (a2 : Int32) (a3 : Int32) (a4 : Int32)  {out : Int32} (hS : f_X9_who μ a1 a2 a3 a4 = some out) : gC l D cy base yX9_who cX9_who 16 (some .int) 1 [.ref (base + 186), .int (a1), .int (a2), .int (a3), .int (a4)] μ (some (.int out)) μ := by
  refine gC_of (own := RX9) (lv0 := [(0, .ref (base + 186)), (1, .int (a1)), (2, .int (a2)), (3, .int (a3)), (4, .int (a4))]) rfl (by decide) (Nat.le_of_ble_eq_true rfl) rfl ?_
  unfold f_X9_who at hS
  refine g_iload_n (j := 1) (x := a1) dX9_who_0 rfl rfl ?_
  refine g_iconst (v := 0) dX9_who_1 (by decide) ?_
  refine g_bipush (v := 6) dX9_who_2 (by decide) ?_
  obtain ⟨y1, ey1, hS⟩ := ob hS
  refine gs_callSi (As := [.int (a1), .int ((0 : Int32)), .int ((6 : Int32))]) (st := []) (k_X9_in μ (a1) ((0 : Int32)) ((6 : Int32))  ey1) cl_RX9_54 sv_X9_in ⟨by decide, by decide⟩ (Nat.le_of_ble_eq_true rfl) ⟨Nat.zero_le _, Nat.zero_le _⟩ rfl dX9_who_4 rfl ?_
  refine g_if_eq 40 dX9_who_7 (by decide) (fun hc => ?_) (fun hc => ?_)
  · replace hS := (if_pos hc).symm.trans hS
    refine g_iconst (v := -1) dX9_who_40 (by decide) ?_
    obtain rfl := Option.some.inj hS
    exact g_iret rfl dX9_who_41
  · replace hS := (if_neg hc).symm.trans hS
    refine g_iload_n (j := 2) (x := a2) dX9_who_10 rfl rfl ?_
    refine g_iconst (v := 0) dX9_who_11 (by decide) ?_
    refine g_bipush (v := 99) dX9_who_12 (by decide) ?_
    obtain ⟨y2, ey2, hS⟩ := ob hS
    refine gs_callSi (As := [.int (a2), .int ((0 : Int32)), .int ((99 : Int32))]) (st := []) (k_X9_in μ (a2) ((0 : Int32)) ((99 : Int32))  ey2) cl_RX9_54 sv_X9_in ⟨by decide, by decide⟩ (Nat.le_of_ble_eq_true rfl) ⟨Nat.zero_le _, Nat.zero_le _⟩ rfl dX9_who_14 rfl ?_
    refine g_if_eq 40 dX9_who_17 (by decide) (fun hc => ?_) (fun hc => ?_)
    · replace hS := (if_pos hc).symm.trans hS
      refine g_iconst (v := -1) dX9_who_40 (by decide) ?_
      obtain rfl := Option.some.inj hS
      exact g_iret rfl dX9_who_41
    · replace hS := (if_neg hc).symm.trans hS
      refine g_iload_n (j := 3) (x := a3) dX9_who_20 rfl rfl ?_
      refine g_iconst (v := 0) dX9_who_21 (by decide) ?_
      refine g_bipush (v := 99) dX9_who_22 (by decide) ?_
      obtain ⟨y3, ey3, hS⟩ := ob hS
      refine gs_callSi (As := [.int (a3), .int ((0 : Int32)), .int ((99 : Int32))]) (st := []) (k_X9_in μ (a3) ((0 : Int32)) ((99 : Int32))  ey3) cl_RX9_54 sv_X9_in ⟨by decide, by decide⟩ (Nat.le_of_ble_eq_true rfl) ⟨Nat.zero_le _, Nat.zero_le _⟩ rfl dX9_who_24 rfl ?_
      refine g_if_eq 40 dX9_who_27 (by decide) (fun hc => ?_) (fun hc => ?_)
      · replace hS := (if_pos hc).symm.trans hS
        refine g_iconst (v := -1) dX9_who_40 (by decide) ?_
        obtain rfl := Option.some.inj hS
        exact g_iret rfl dX9_who_41
      · replace hS := (if_neg hc).symm.trans hS
        refine g_iload (j := 4) (x := a4) dX9_who_30 rfl ?_
        refine g_iconst (v := 0) dX9_who_32 (by decide) ?_
        refine g_iconst (v := 2) dX9_who_33 (by decide) ?_
        obtain ⟨y4, ey4, hS⟩ := ob hS
        refine gs_callSi (As := [.int (a4), .int ((0 : Int32)), .int ((2 : Int32))]) (st := []) (k_X9_in μ (a4) ((0 : Int32)) ((2 : Int32))  ey4) cl_RX9_54 sv_X9_in ⟨by decide, by decide⟩ (Nat.le_of_ble_eq_true rfl) ⟨Nat.zero_le _, Nat.zero_le _⟩ rfl dX9_who_34 rfl ?_
        refine g_if_ne 42 dX9_who_37 (by decide) (fun hc => ?_) (fun hc => ?_)
        · replace hS := (if_neg hc).symm.trans hS
          refine g_iconst (v := 0) dX9_who_42 (by decide) ?_
          refine g_istore (lvx := [(5, .int ((0 : Int32))), (0, .ref (base + 186)), (1, .int (a1)), (2, .int (a2)), (3, .int (a3)), (4, .int (a4))]) dX9_who_43 (by decide) rfl ?_
          refine g_bipush (v := 31) dX9_who_45 (by decide) ?_
          refine g_istore (lvx := [(6, .int ((31 : Int32))), (5, .int ((0 : Int32))), (0, .ref (base + 186)), (1, .int (a1)), (2, .int (a2)), (3, .int (a3)), (4, .int (a4))]) dX9_who_47 (by decide) rfl ?_
          refine g_iconst (v := 0) dX9_who_49 (by decide) ?_
          refine g_istore (lvx := [(7, .int ((0 : Int32))), (6, .int ((31 : Int32))), (5, .int ((0 : Int32))), (0, .ref (base + 186)), (1, .int (a1)), (2, .int (a2)), (3, .int (a3)), (4, .int (a4))]) dX9_who_50 (by decide) rfl ?_
          refine g_iconst (v := 0) dX9_who_52 (by decide) ?_
          refine g_istore (lvx := [(8, .int ((0 : Int32))), (7, .int ((0 : Int32))), (6, .int ((31 : Int32))), (5, .int ((0 : Int32))), (0, .ref (base + 186)), (1, .int (a1)), (2, .int (a2)), (3, .int (a3)), (4, .int (a4))]) dX9_who_53 (by decide) rfl ?_
          obtain ⟨z96, ez96, hS⟩ := ob hS
          refine g_sub (lvx := [(0, .ref (base + 186)), (1, .int (a1)), (2, .int (a2)), (3, .int (a3)), (4, .int (a4)), (5, .int ((0 : Int32))), (6, .int ((31 : Int32))), (7, .int ((0 : Int32))), (8, .int ((0 : Int32)))]) [4, 5, 6, 7, 8, 3, 2, 1, 0] rfl ?_
          refine iter_ind (fun vv => G l D cy base RX9 cX9_who 16 (some .int) (gRm 1) (gXm yX9_who) (gZm D cy base 0 0 (some (.int out)) gNN (gH cy base μ)) 55 [(0, .ref (base + 186)), (1, .int (a1)), (2, .int (a2)), (3, .int (a3)), (4, .int (a4)), (5, .int (vv.1)), (6, .int (vv.2.1)), (7, .int (vv.2.2.1)), (8, .int (vv.2.2.2))] [] 0 0 gNN (gH cy base μ)) (fun xx => G l D cy base RX9 cX9_who 16 (some .int) (gRm 1) (gXm yX9_who) (gZm D cy base 0 0 (some (.int out)) gNN (gH cy base μ)) 263 [(4, .int (a4)), (5, .int (xx.1)), (6, .int (xx.2.1)), (7, .int (xx.2.2))] [] 0 0 gNN (gH cy base μ)) (fun vv rr hh hin hout => k_X9_who_b55 μ (a1) (a2) (a3) (a4)  vv rr hh hin (fun xx ee => hout xx ee)) gFU (((0 : Int32)), ((31 : Int32)), ((0 : Int32)), ((0 : Int32))) z96 ez96 ?_
          show G l D cy base RX9 cX9_who 16 (some .int) (gRm 1) (gXm yX9_who) (gZm D cy base 0 0 (some (.int out)) gNN (gH cy base μ)) 263 [(4, .int (a4)), (5, .int (z96.1)), (6, .int (z96.2.1)), (7, .int (z96.2.2))] [] 0 0 gNN (gH cy base μ)
          refine g_iload (j := 0) (x := a4) dX9_who_263 rfl ?_
          refine g_if_ne 273 dX9_who_265 (by decide) (fun hc => ?_) (fun hc => ?_)
          · replace hS := (if_neg hc).symm.trans hS
            refine g_iload (j := 0) (x := a4) dX9_who_273 rfl ?_
            refine g_iconst (v := 2) dX9_who_275 (by decide) ?_
            refine g_icmp_ne 284 dX9_who_276 (by decide) (fun hc => ?_) (fun hc => ?_)
            · replace hS := (if_neg hc).symm.trans hS
              refine g_iload (j := 1) (x := z96.1) dX9_who_284 rfl ?_
              refine g_if_ne 293 dX9_who_286 (by decide) (fun hc => ?_) (fun hc => ?_)
              · replace hS := (if_neg hc).symm.trans hS
                refine g_iload (j := 2) (x := z96.2.1) dX9_who_293 rfl ?_
                obtain rfl := Option.some.inj hS
                exact g_iret rfl dX9_who_295
              · replace hS := (if_pos hc).symm.trans hS
                refine g_iconst (v := 0) dX9_who_289 (by decide) ?_
                refine g_goto 295 dX9_who_290 (by decide) ?_
                obtain rfl := Option.some.inj hS
                exact g_iret rfl dX9_who_295
            · replace hS := (if_pos hc).symm.trans hS
              refine g_iload (j := 3) (x := z96.2.2) dX9_who_279 rfl ?_
              refine g_goto 295 dX9_who_281 (by decide) ?_
              obtain rfl := Option.some.inj hS
              exact g_iret rfl dX9_who_295
          · replace hS := (if_pos hc).symm.trans hS
            refine g_iload (j := 1) (x := z96.1) dX9_who_268 rfl ?_
            refine g_goto 295 dX9_who_270 (by decide) ?_
            obtain rfl := Option.some.inj hS
            exact g_iret rfl dX9_who_295
        · replace hS := (if_pos hc).symm.trans hS
          refine g_iconst (v := -1) dX9_who_40 (by decide) ?_
          obtain rfl := Option.some.inj hS
          exact g_iret rfl dX9_who_41
def f_X9_odds_b29 (m6 : Mem) (x3 : Int32) (x4 : Int32) (x5 : Int32) (v : Int32 × Int32) : Option ((Int32 × Int32) ⊕ ((Int32))) :=
  (ldA m6 188 49 ((1 : Int32))).bind fun y7 =>
  if y7 ≤ v.2 then (
    some (.inr (v.1))
  ) else (
    some (.inl (((v.1 * (10 : Int32))), ((v.2 + (1 : Int32)))))
  )
set_option maxRecDepth 100000 in
set_option maxHeartbeats 4000000 in
theorem k_X9_odds_b29 {l : Launch} {D : va_G} {cy : Nat → ClassId} {base : Nat} {X : gX} {Z : gZ} (m6 : Mem) (x3 : Int32) (x4 : Int32) (x5 : Int32)  (v : Int32 × Int32) (r : (Int32 × Int32) ⊕ ((Int32))) (hS : f_X9_odds_b29 m6 x3 x4 x5 v = some r) (hin : ∀ v2, r = .inl v2 → G l D cy base RX9 cX9_odds 10 (some .int) (gRm 1) X Z 29 [(0, .ref (base + 186)), (1, .int (x3)), (2, .int (x4)), (3, .int (x5)), (4, .int (v2.1)), (5, .int (v2.2))] [] 0 0 gNN (gH cy base m6)) (hout0 : ∀ x, r = .inr x → G l D cy base RX9 cX9_odds 10 (some .int) (gRm 1) X Z 53 [(0, .ref (base + 186)), (1, .int (x3)), (2, .int (x4)), (3, .int (x5)), (4, .int (x))] [] 0 0 gNN (gH cy base m6)) : G l D cy base RX9 cX9_odds 10 (some .int) (gRm 1) X Z 29 [(0, .ref (base + 186)), (1, .int (x3)), (2, .int (x4)), (3, .int (x5)), (4, .int (v.1)), (5, .int (v.2))] [] 0 0 gNN (gH cy base m6) := by
  unfold f_X9_odds_b29 at hS
  refine g_iload (j := 5) (x := v.2) dX9_odds_29 rfl ?_
  refine g_aload_n (j := 0) (x := base + 186) dX9_odds_31 rfl rfl ?_
  refine gs_getR (r := 188) lk_RX9_13 (tk_186 _) rfl dX9_odds_32 ?_
  refine g_iconst (v := 1) dX9_odds_35 (by decide) ?_
  obtain ⟨y7, ey7, hS⟩ := ob hS
  refine gs_iald (tk_188 _) dX9_odds_36 ey7 ?_
  refine g_icmp_ge 53 dX9_odds_37 (by decide) (fun hc => ?_) (fun hc => ?_)
  · replace hS := (if_pos hc).symm.trans hS
    refine g_sub (lvx := [(0, .ref (base + 186)), (1, .int (x3)), (2, .int (x4)), (3, .int (x5)), (4, .int (v.1))]) [0, 1, 2, 3, 4] rfl ?_
    obtain rfl := Option.some.inj hS
    exact hout0 ((v.1)) rfl
  · replace hS := (if_neg hc).symm.trans hS
    refine g_iload (j := 4) (x := v.1) dX9_odds_40 rfl ?_
    refine g_bipush (v := 10) dX9_odds_42 (by decide) ?_
    refine g_imul dX9_odds_44 ?_
    refine g_istore (lvx := [(4, .int ((v.1 * (10 : Int32)))), (0, .ref (base + 186)), (1, .int (x3)), (2, .int (x4)), (3, .int (x5)), (5, .int (v.2))]) dX9_odds_45 (by decide) rfl ?_
    refine g_iinc (j := 5) (x := v.2) (v := (v.2 + (1 : Int32))) (lvx := [(5, .int ((v.2 + (1 : Int32)))), (4, .int ((v.1 * (10 : Int32)))), (0, .ref (base + 186)), (1, .int (x3)), (2, .int (x4)), (3, .int (x5))]) dX9_odds_47 rfl rfl (by decide) rfl ?_
    refine g_goto 29 dX9_odds_50 (by decide) ?_
    refine g_sub (lvx := [(0, .ref (base + 186)), (1, .int (x3)), (2, .int (x4)), (3, .int (x5)), (4, .int ((v.1 * (10 : Int32)))), (5, .int ((v.2 + (1 : Int32))))]) [2, 3, 4, 5, 1, 0] rfl ?_
    obtain rfl := Option.some.inj hS
    exact hin ((((v.1 * (10 : Int32))), ((v.2 + (1 : Int32))))) rfl
def f_X9_odds_j140 (m19 : Mem) (x14 : Int32) (x15 : Int32) (x16 : Int32) (x17 : Int32) (x18 : Int32) (x26 : Int32) (x27 : Int32) (x28 : Int32) (x29 : Int32) (x30 : Int32) : Option ((Int32 × Int32 × Int32) ⊕ ((Int32 × Int32))) :=
  if x28 = (0 : Int32) then (
    some (.inl (((x29 * x30)), ((x26 + (0 : Int32))), ((x27 + (1 : Int32)))))
  ) else (
    (f_X9_counts m19 (x27)).bind fun y31 =>
    some (.inl (((x29 * x30)), ((x26 + y31)), ((x27 + (1 : Int32)))))
  )
set_option maxRecDepth 100000 in
set_option maxHeartbeats 4000000 in
theorem k_X9_odds_j140 {l : Launch} {D : va_G} {cy : Nat → ClassId} {base : Nat} {X : gX} {Z : gZ} (m19 : Mem) (x14 : Int32) (x15 : Int32) (x16 : Int32) (x17 : Int32) (x18 : Int32) (x26 : Int32) (x27 : Int32) (x28 : Int32) (x29 : Int32) (x30 : Int32)  {r : (Int32 × Int32 × Int32) ⊕ ((Int32 × Int32))} (hS : f_X9_odds_j140 m19 x14 x15 x16 x17 x18 x26 x27 x28 x29 x30 = some r) (hin : ∀ v2, r = .inl v2 → G l D cy base RX9 cX9_odds 10 (some .int) (gRm 1) X Z 78 [(0, .ref (base + 186)), (1, .int (x14)), (2, .int (x15)), (3, .int (x16)), (4, .int (x17)), (5, .int (x18)), (6, .int (v2.1)), (7, .int (v2.2.1)), (8, .int (v2.2.2))] [] 0 0 gNN (gH cy base m19)) (hout0 : ∀ x, r = .inr x → G l D cy base RX9 cX9_odds 10 (some .int) (gRm 1) X Z 169 [(0, .ref (base + 186)), (1, .int (x14)), (2, .int (x15)), (3, .int (x16)), (4, .int (x17)), (5, .int (x18)), (6, .int (x.1)), (7, .int (x.2))] [] 0 0 gNN (gH cy base m19)) : G l D cy base RX9 cX9_odds 10 (some .int) (gRm 1) X Z 140 [(0, .ref (base + 186)), (1, .int (x14)), (2, .int (x15)), (3, .int (x16)), (4, .int (x17)), (5, .int (x18)), (7, .int (x26)), (8, .int (x27)), (9, .int (x28))] [.int (x30), .int (x29)] 0 0 gNN (gH cy base m19) := by
  unfold f_X9_odds_j140 at hS
  refine g_imul dX9_odds_140 ?_
  refine g_istore (lvx := [(6, .int ((x29 * x30))), (0, .ref (base + 186)), (1, .int (x14)), (2, .int (x15)), (3, .int (x16)), (4, .int (x17)), (5, .int (x18)), (7, .int (x26)), (8, .int (x27)), (9, .int (x28))]) dX9_odds_141 (by decide) rfl ?_
  refine g_iload (j := 7) (x := x26) dX9_odds_143 rfl ?_
  refine g_iload (j := 9) (x := x28) dX9_odds_145 rfl ?_
  refine g_if_eq 159 dX9_odds_147 (by decide) (fun hc => ?_) (fun hc => ?_)
  · replace hS := (if_pos hc).symm.trans hS
    refine g_iconst (v := 0) dX9_odds_159 (by decide) ?_
    refine g_iadd dX9_odds_160 ?_
    refine g_istore (lvx := [(7, .int ((x26 + (0 : Int32)))), (6, .int ((x29 * x30))), (0, .ref (base + 186)), (1, .int (x14)), (2, .int (x15)), (3, .int (x16)), (4, .int (x17)), (5, .int (x18)), (8, .int (x27)), (9, .int (x28))]) dX9_odds_161 (by decide) rfl ?_
    refine g_iinc (j := 8) (x := x27) (v := (x27 + (1 : Int32))) (lvx := [(8, .int ((x27 + (1 : Int32)))), (7, .int ((x26 + (0 : Int32)))), (6, .int ((x29 * x30))), (0, .ref (base + 186)), (1, .int (x14)), (2, .int (x15)), (3, .int (x16)), (4, .int (x17)), (5, .int (x18)), (9, .int (x28))]) dX9_odds_163 rfl rfl (by decide) rfl ?_
    refine g_goto 78 dX9_odds_166 (by decide) ?_
    refine g_sub (lvx := [(0, .ref (base + 186)), (1, .int (x14)), (2, .int (x15)), (3, .int (x16)), (4, .int (x17)), (5, .int (x18)), (6, .int ((x29 * x30))), (7, .int ((x26 + (0 : Int32)))), (8, .int ((x27 + (1 : Int32))))]) [3, 4, 5, 6, 7, 8, 2, 1, 0] rfl ?_
    obtain rfl := Option.some.inj hS
    exact hin ((((x29 * x30)), ((x26 + (0 : Int32))), ((x27 + (1 : Int32))))) rfl
  · replace hS := (if_neg hc).symm.trans hS
    refine g_aload_n (j := 1) (x := base + 186) dX9_odds_150 rfl rfl ?_
    refine g_iload (j := 8) (x := x27) dX9_odds_151 rfl ?_
    obtain ⟨y31, ey31, hS⟩ := ob hS
    refine gs_callVi (As := [.int (x27)]) (st := [.int (x26)]) (kr := 186) (k_X9_counts m19 (x27)  ey31) cl_RX9_117 sv_X9_counts ckk_X9_counts (tk_186 _) ⟨by decide, by decide⟩ (Nat.le_of_ble_eq_true rfl) ⟨Nat.zero_le _, Nat.zero_le _⟩ rfl dX9_odds_153 rfl ?_
    refine g_goto 160 dX9_odds_156 (by decide) ?_
    refine g_iadd dX9_odds_160 ?_
    refine g_istore (lvx := [(7, .int ((x26 + y31))), (6, .int ((x29 * x30))), (0, .ref (base + 186)), (1, .int (x14)), (2, .int (x15)), (3, .int (x16)), (4, .int (x17)), (5, .int (x18)), (8, .int (x27)), (9, .int (x28))]) dX9_odds_161 (by decide) rfl ?_
    refine g_iinc (j := 8) (x := x27) (v := (x27 + (1 : Int32))) (lvx := [(8, .int ((x27 + (1 : Int32)))), (7, .int ((x26 + y31))), (6, .int ((x29 * x30))), (0, .ref (base + 186)), (1, .int (x14)), (2, .int (x15)), (3, .int (x16)), (4, .int (x17)), (5, .int (x18)), (9, .int (x28))]) dX9_odds_163 rfl rfl (by decide) rfl ?_
    refine g_goto 78 dX9_odds_166 (by decide) ?_
    refine g_sub (lvx := [(0, .ref (base + 186)), (1, .int (x14)), (2, .int (x15)), (3, .int (x16)), (4, .int (x17)), (5, .int (x18)), (6, .int ((x29 * x30))), (7, .int ((x26 + y31))), (8, .int ((x27 + (1 : Int32))))]) [3, 4, 5, 6, 7, 8, 2, 1, 0] rfl ?_
    obtain rfl := Option.some.inj hS
    exact hin ((((x29 * x30)), ((x26 + y31)), ((x27 + (1 : Int32))))) rfl
def f_X9_odds_j105 (m19 : Mem) (x14 : Int32) (x15 : Int32) (x16 : Int32) (x17 : Int32) (x18 : Int32) (x21 : Int32) (x22 : Int32) (x23 : Int32) (x24 : Int32) : Option ((Int32 × Int32 × Int32) ⊕ ((Int32 × Int32))) :=
  if x24 = (0 : Int32) then (
    (ldA m19 188 49 (((39 : Int32) + x23))).bind fun y25 =>
    f_X9_odds_j140 m19 x14 x15 x16 x17 x18 (x22) (x23) (x24) (x21) (y25)
  ) else (
    (ldA m19 188 49 (((39 : Int32) + x23))).bind fun y32 =>
    f_X9_odds_j140 m19 x14 x15 x16 x17 x18 (x22) (x23) (x24) (x21) (((10 : Int32) - y32))
  )
set_option maxRecDepth 100000 in
set_option maxHeartbeats 4000000 in
theorem k_X9_odds_j105 {l : Launch} {D : va_G} {cy : Nat → ClassId} {base : Nat} {X : gX} {Z : gZ} (m19 : Mem) (x14 : Int32) (x15 : Int32) (x16 : Int32) (x17 : Int32) (x18 : Int32) (x21 : Int32) (x22 : Int32) (x23 : Int32) (x24 : Int32)  {r : (Int32 × Int32 × Int32) ⊕ ((Int32 × Int32))} (hS : f_X9_odds_j105 m19 x14 x15 x16 x17 x18 x21 x22 x23 x24 = some r) (hin : ∀ v2, r = .inl v2 → G l D cy base RX9 cX9_odds 10 (some .int) (gRm 1) X Z 78 [(0, .ref (base + 186)), (1, .int (x14)), (2, .int (x15)), (3, .int (x16)), (4, .int (x17)), (5, .int (x18)), (6, .int (v2.1)), (7, .int (v2.2.1)), (8, .int (v2.2.2))] [] 0 0 gNN (gH cy base m19)) (hout0 : ∀ x, r = .inr x → G l D cy base RX9 cX9_odds 10 (some .int) (gRm 1) X Z 169 [(0, .ref (base + 186)), (1, .int (x14)), (2, .int (x15)), (3, .int (x16)), (4, .int (x17)), (5, .int (x18)), (6, .int (x.1)), (7, .int (x.2))] [] 0 0 gNN (gH cy base m19)) : G l D cy base RX9 cX9_odds 10 (some .int) (gRm 1) X Z 105 [(0, .ref (base + 186)), (1, .int (x14)), (2, .int (x15)), (3, .int (x16)), (4, .int (x17)), (5, .int (x18)), (6, .int (x21)), (7, .int (x22)), (8, .int (x23))] [.int (x24)] 0 0 gNN (gH cy base m19) := by
  unfold f_X9_odds_j105 at hS
  refine g_istore (lvx := [(9, .int (x24)), (0, .ref (base + 186)), (1, .int (x14)), (2, .int (x15)), (3, .int (x16)), (4, .int (x17)), (5, .int (x18)), (6, .int (x21)), (7, .int (x22)), (8, .int (x23))]) dX9_odds_105 (by decide) rfl ?_
  refine g_iload (j := 7) (x := x21) dX9_odds_107 rfl ?_
  refine g_iload (j := 0) (x := x24) dX9_odds_109 rfl ?_
  refine g_if_eq 130 dX9_odds_111 (by decide) (fun hc => ?_) (fun hc => ?_)
  · replace hS := (if_pos hc).symm.trans hS
    refine g_aload_n (j := 1) (x := base + 186) dX9_odds_130 rfl rfl ?_
    refine gs_getR (r := 188) lk_RX9_13 (tk_186 _) rfl dX9_odds_131 ?_
    refine g_bipush (v := 39) dX9_odds_134 (by decide) ?_
    refine g_iload (j := 9) (x := x23) dX9_odds_136 rfl ?_
    refine g_iadd dX9_odds_138 ?_
    obtain ⟨y25, ey25, hS⟩ := ob hS
    refine gs_iald (tk_188 _) dX9_odds_139 ey25 ?_
    refine g_sub (lvx := [(0, .ref (base + 186)), (1, .int (x14)), (2, .int (x15)), (3, .int (x16)), (4, .int (x17)), (5, .int (x18)), (7, .int (x22)), (8, .int (x23)), (9, .int (x24))]) [1, 2, 3, 4, 5, 6, 8, 9, 0] rfl ?_
    exact k_X9_odds_j140 (m19) x14 x15 x16 x17 x18 (x22) (x23) (x24) (x21) (y25)  hS hin hout0
  · replace hS := (if_neg hc).symm.trans hS
    refine g_bipush (v := 10) dX9_odds_114 (by decide) ?_
    refine g_aload_n (j := 1) (x := base + 186) dX9_odds_116 rfl rfl ?_
    refine gs_getR (r := 188) lk_RX9_13 (tk_186 _) rfl dX9_odds_117 ?_
    refine g_bipush (v := 39) dX9_odds_120 (by decide) ?_
    refine g_iload (j := 9) (x := x23) dX9_odds_122 rfl ?_
    refine g_iadd dX9_odds_124 ?_
    obtain ⟨y32, ey32, hS⟩ := ob hS
    refine gs_iald (tk_188 _) dX9_odds_125 ey32 ?_
    refine g_isub dX9_odds_126 ?_
    refine g_goto 140 dX9_odds_127 (by decide) ?_
    refine g_sub (lvx := [(0, .ref (base + 186)), (1, .int (x14)), (2, .int (x15)), (3, .int (x16)), (4, .int (x17)), (5, .int (x18)), (7, .int (x22)), (8, .int (x23)), (9, .int (x24))]) [1, 2, 3, 4, 5, 6, 8, 9, 0] rfl ?_
    exact k_X9_odds_j140 (m19) x14 x15 x16 x17 x18 (x22) (x23) (x24) (x21) (((10 : Int32) - y32))  hS hin hout0
def f_X9_odds_b78 (m19 : Mem) (x14 : Int32) (x15 : Int32) (x16 : Int32) (x17 : Int32) (x18 : Int32) (v : Int32 × Int32 × Int32) : Option ((Int32 × Int32 × Int32) ⊕ ((Int32 × Int32))) :=
  (ldA m19 188 49 ((1 : Int32))).bind fun y20 =>
  if y20 ≤ v.2.2 then (
    some (.inr ((v.1), (v.2.1)))
  ) else (
    if ((x18 >>> (v.2.2 &&& 31)) &&& (1 : Int32)) = (1 : Int32) then (
      f_X9_odds_j105 m19 x14 x15 x16 x17 x18 (v.1) (v.2.1) (v.2.2) ((1 : Int32))
    ) else (
      f_X9_odds_j105 m19 x14 x15 x16 x17 x18 (v.1) (v.2.1) (v.2.2) ((0 : Int32))
    )
  )
set_option maxRecDepth 100000 in
set_option maxHeartbeats 4000000 in
theorem k_X9_odds_b78 {l : Launch} {D : va_G} {cy : Nat → ClassId} {base : Nat} {X : gX} {Z : gZ} (m19 : Mem) (x14 : Int32) (x15 : Int32) (x16 : Int32) (x17 : Int32) (x18 : Int32)  (v : Int32 × Int32 × Int32) (r : (Int32 × Int32 × Int32) ⊕ ((Int32 × Int32))) (hS : f_X9_odds_b78 m19 x14 x15 x16 x17 x18 v = some r) (hin : ∀ v2, r = .inl v2 → G l D cy base RX9 cX9_odds 10 (some .int) (gRm 1) X Z 78 [(0, .ref (base + 186)), (1, .int (x14)), (2, .int (x15)), (3, .int (x16)), (4, .int (x17)), (5, .int (x18)), (6, .int (v2.1)), (7, .int (v2.2.1)), (8, .int (v2.2.2))] [] 0 0 gNN (gH cy base m19)) (hout0 : ∀ x, r = .inr x → G l D cy base RX9 cX9_odds 10 (some .int) (gRm 1) X Z 169 [(0, .ref (base + 186)), (1, .int (x14)), (2, .int (x15)), (3, .int (x16)), (4, .int (x17)), (5, .int (x18)), (6, .int (x.1)), (7, .int (x.2))] [] 0 0 gNN (gH cy base m19)) : G l D cy base RX9 cX9_odds 10 (some .int) (gRm 1) X Z 78 [(0, .ref (base + 186)), (1, .int (x14)), (2, .int (x15)), (3, .int (x16)), (4, .int (x17)), (5, .int (x18)), (6, .int (v.1)), (7, .int (v.2.1)), (8, .int (v.2.2))] [] 0 0 gNN (gH cy base m19) := by
  unfold f_X9_odds_b78 at hS
  refine g_iload (j := 8) (x := v.2.2) dX9_odds_78 rfl ?_
  refine g_aload_n (j := 0) (x := base + 186) dX9_odds_80 rfl rfl ?_
  refine gs_getR (r := 188) lk_RX9_13 (tk_186 _) rfl dX9_odds_81 ?_
  refine g_iconst (v := 1) dX9_odds_84 (by decide) ?_
  obtain ⟨y20, ey20, hS⟩ := ob hS
  refine gs_iald (tk_188 _) dX9_odds_85 ey20 ?_
  refine g_icmp_ge 169 dX9_odds_86 (by decide) (fun hc => ?_) (fun hc => ?_)
  · replace hS := (if_pos hc).symm.trans hS
    refine g_sub (lvx := [(0, .ref (base + 186)), (1, .int (x14)), (2, .int (x15)), (3, .int (x16)), (4, .int (x17)), (5, .int (x18)), (6, .int (v.1)), (7, .int (v.2.1))]) [0, 1, 2, 3, 4, 5, 6, 7] rfl ?_
    obtain rfl := Option.some.inj hS
    exact hout0 (((v.1), (v.2.1))) rfl
  · replace hS := (if_neg hc).symm.trans hS
    refine g_iload (j := 5) (x := x18) dX9_odds_89 rfl ?_
    refine g_iload (j := 8) (x := v.2.2) dX9_odds_91 rfl ?_
    refine g_ishr dX9_odds_93 ?_
    refine g_iconst (v := 1) dX9_odds_94 (by decide) ?_
    refine g_iand dX9_odds_95 ?_
    refine g_iconst (v := 1) dX9_odds_96 (by decide) ?_
    refine g_icmp_ne 104 dX9_odds_97 (by decide) (fun hc => ?_) (fun hc => ?_)
    · replace hS := (if_neg hc).symm.trans hS
      refine g_iconst (v := 0) dX9_odds_104 (by decide) ?_
      exact k_X9_odds_j105 (m19) x14 x15 x16 x17 x18 (v.1) (v.2.1) (v.2.2) ((0 : Int32))  hS hin hout0
    · replace hS := (if_pos hc).symm.trans hS
      refine g_iconst (v := 1) dX9_odds_100 (by decide) ?_
      refine g_goto 105 dX9_odds_101 (by decide) ?_
      exact k_X9_odds_j105 (m19) x14 x15 x16 x17 x18 (v.1) (v.2.1) (v.2.2) ((1 : Int32))  hS hin hout0
def f_X9_odds_b56 (m12 : Mem) (x9 : Int32) (x10 : Int32) (x11 : Int32) (v : Int32 × Int32) : Option ((Int32 × Int32) ⊕ ((Int32))) :=
  (ldA m12 188 49 ((1 : Int32))).bind fun y13 =>
  if ((1 : Int32) <<< (y13 &&& 31)) ≤ v.2 then (
    some (.inr (v.1))
  ) else (
    (iter gFU (f_X9_odds_b78 m12 (x9) (x10) (v.1) (x11) (v.2)) (((1 : Int32)), ((0 : Int32)), ((0 : Int32)))).bind fun z42 =>
    if z42.2 < x9 then (
      some (.inl (((v.1 + (0 : Int32))), ((v.2 + (1 : Int32)))))
    ) else (
      some (.inl (((v.1 + z42.1)), ((v.2 + (1 : Int32)))))
    )
  )
set_option maxRecDepth 100000 in
set_option maxHeartbeats 4000000 in
theorem k_X9_odds_b56 {l : Launch} {D : va_G} {cy : Nat → ClassId} {base : Nat} {X : gX} {Z : gZ} (m12 : Mem) (x9 : Int32) (x10 : Int32) (x11 : Int32)  (v : Int32 × Int32) (r : (Int32 × Int32) ⊕ ((Int32))) (hS : f_X9_odds_b56 m12 x9 x10 x11 v = some r) (hin : ∀ v2, r = .inl v2 → G l D cy base RX9 cX9_odds 10 (some .int) (gRm 1) X Z 56 [(0, .ref (base + 186)), (1, .int (x9)), (2, .int (x10)), (3, .int (v2.1)), (4, .int (x11)), (5, .int (v2.2))] [] 0 0 gNN (gH cy base m12)) (hout0 : ∀ x, r = .inr x → G l D cy base RX9 cX9_odds 10 (some .int) (gRm 1) X Z 190 [(2, .int (x10)), (3, .int (x)), (4, .int (x11))] [] 0 0 gNN (gH cy base m12)) : G l D cy base RX9 cX9_odds 10 (some .int) (gRm 1) X Z 56 [(0, .ref (base + 186)), (1, .int (x9)), (2, .int (x10)), (3, .int (v.1)), (4, .int (x11)), (5, .int (v.2))] [] 0 0 gNN (gH cy base m12) := by
  unfold f_X9_odds_b56 at hS
  refine g_iload (j := 5) (x := v.2) dX9_odds_56 rfl ?_
  refine g_iconst (v := 1) dX9_odds_58 (by decide) ?_
  refine g_aload_n (j := 0) (x := base + 186) dX9_odds_59 rfl rfl ?_
  refine gs_getR (r := 188) lk_RX9_13 (tk_186 _) rfl dX9_odds_60 ?_
  refine g_iconst (v := 1) dX9_odds_63 (by decide) ?_
  obtain ⟨y13, ey13, hS⟩ := ob hS
  refine gs_iald (tk_188 _) dX9_odds_64 ey13 ?_
  refine g_ishl dX9_odds_65 ?_
  refine g_icmp_ge 190 dX9_odds_66 (by decide) (fun hc => ?_) (fun hc => ?_)
  · replace hS := (if_pos hc).symm.trans hS
    refine g_sub (lvx := [(2, .int (x10)), (3, .int (v.1)), (4, .int (x11))]) [2, 3, 4] rfl ?_
    obtain rfl := Option.some.inj hS
    exact hout0 ((v.1)) rfl
  · replace hS := (if_neg hc).symm.trans hS
    refine g_iconst (v := 1) dX9_odds_69 (by decide) ?_
    refine g_istore (lvx := [(6, .int ((1 : Int32))), (0, .ref (base + 186)), (1, .int (x9)), (2, .int (x10)), (3, .int (v.1)), (4, .int (x11)), (5, .int (v.2))]) dX9_odds_70 (by decide) rfl ?_
    refine g_iconst (v := 0) dX9_odds_72 (by decide) ?_
    refine g_istore (lvx := [(7, .int ((0 : Int32))), (6, .int ((1 : Int32))), (0, .ref (base + 186)), (1, .int (x9)), (2, .int (x10)), (3, .int (v.1)), (4, .int (x11)), (5, .int (v.2))]) dX9_odds_73 (by decide) rfl ?_
    refine g_iconst (v := 0) dX9_odds_75 (by decide) ?_
    refine g_istore (lvx := [(8, .int ((0 : Int32))), (7, .int ((0 : Int32))), (6, .int ((1 : Int32))), (0, .ref (base + 186)), (1, .int (x9)), (2, .int (x10)), (3, .int (v.1)), (4, .int (x11)), (5, .int (v.2))]) dX9_odds_76 (by decide) rfl ?_
    obtain ⟨z42, ez42, hS⟩ := ob hS
    refine g_sub (lvx := [(0, .ref (base + 186)), (1, .int (x9)), (2, .int (x10)), (3, .int (v.1)), (4, .int (x11)), (5, .int (v.2)), (6, .int ((1 : Int32))), (7, .int ((0 : Int32))), (8, .int ((0 : Int32)))]) [3, 4, 5, 6, 7, 8, 2, 1, 0] rfl ?_
    refine iter_ind (fun vv => G l D cy base RX9 cX9_odds 10 (some .int) (gRm 1) X Z 78 [(0, .ref (base + 186)), (1, .int (x9)), (2, .int (x10)), (3, .int (v.1)), (4, .int (x11)), (5, .int (v.2)), (6, .int (vv.1)), (7, .int (vv.2.1)), (8, .int (vv.2.2))] [] 0 0 gNN (gH cy base m12)) (fun xx => G l D cy base RX9 cX9_odds 10 (some .int) (gRm 1) X Z 169 [(0, .ref (base + 186)), (1, .int (x9)), (2, .int (x10)), (3, .int (v.1)), (4, .int (x11)), (5, .int (v.2)), (6, .int (xx.1)), (7, .int (xx.2))] [] 0 0 gNN (gH cy base m12)) (fun vv rr hh hin hout => k_X9_odds_b78 m12 (x9) (x10) (v.1) (x11) (v.2)  vv rr hh hin (fun xx ee => hout xx ee)) gFU (((1 : Int32)), ((0 : Int32)), ((0 : Int32))) z42 ez42 ?_
    show G l D cy base RX9 cX9_odds 10 (some .int) (gRm 1) X Z 169 [(0, .ref (base + 186)), (1, .int (x9)), (2, .int (x10)), (3, .int (v.1)), (4, .int (x11)), (5, .int (v.2)), (6, .int (z42.1)), (7, .int (z42.2))] [] 0 0 gNN (gH cy base m12)
    refine g_iload_n (j := 3) (x := v.1) dX9_odds_169 rfl rfl ?_
    refine g_iload (j := 7) (x := z42.2) dX9_odds_170 rfl ?_
    refine g_iload_n (j := 1) (x := x9) dX9_odds_172 rfl rfl ?_
    refine g_icmp_lt 181 dX9_odds_173 (by decide) (fun hc => ?_) (fun hc => ?_)
    · replace hS := (if_pos hc).symm.trans hS
      refine g_iconst (v := 0) dX9_odds_181 (by decide) ?_
      refine g_iadd dX9_odds_182 ?_
      refine g_istore_n (lvx := [(3, .int ((v.1 + (0 : Int32)))), (0, .ref (base + 186)), (1, .int (x9)), (2, .int (x10)), (4, .int (x11)), (5, .int (v.2)), (6, .int (z42.1)), (7, .int (z42.2))]) dX9_odds_183 rfl (by decide) rfl ?_
      refine g_iinc (j := 5) (x := v.2) (v := (v.2 + (1 : Int32))) (lvx := [(5, .int ((v.2 + (1 : Int32)))), (3, .int ((v.1 + (0 : Int32)))), (0, .ref (base + 186)), (1, .int (x9)), (2, .int (x10)), (4, .int (x11)), (6, .int (z42.1)), (7, .int (z42.2))]) dX9_odds_184 rfl rfl (by decide) rfl ?_
      refine g_goto 56 dX9_odds_187 (by decide) ?_
      refine g_sub (lvx := [(0, .ref (base + 186)), (1, .int (x9)), (2, .int (x10)), (3, .int ((v.1 + (0 : Int32)))), (4, .int (x11)), (5, .int ((v.2 + (1 : Int32))))]) [2, 3, 4, 1, 5, 0] rfl ?_
      obtain rfl := Option.some.inj hS
      exact hin ((((v.1 + (0 : Int32))), ((v.2 + (1 : Int32))))) rfl
    · replace hS := (if_neg hc).symm.trans hS
      refine g_iload (j := 6) (x := z42.1) dX9_odds_176 rfl ?_
      refine g_goto 182 dX9_odds_178 (by decide) ?_
      refine g_iadd dX9_odds_182 ?_
      refine g_istore_n (lvx := [(3, .int ((v.1 + z42.1))), (0, .ref (base + 186)), (1, .int (x9)), (2, .int (x10)), (4, .int (x11)), (5, .int (v.2)), (6, .int (z42.1)), (7, .int (z42.2))]) dX9_odds_183 rfl (by decide) rfl ?_
      refine g_iinc (j := 5) (x := v.2) (v := (v.2 + (1 : Int32))) (lvx := [(5, .int ((v.2 + (1 : Int32)))), (3, .int ((v.1 + z42.1))), (0, .ref (base + 186)), (1, .int (x9)), (2, .int (x10)), (4, .int (x11)), (6, .int (z42.1)), (7, .int (z42.2))]) dX9_odds_184 rfl rfl (by decide) rfl ?_
      refine g_goto 56 dX9_odds_187 (by decide) ?_
      refine g_sub (lvx := [(0, .ref (base + 186)), (1, .int (x9)), (2, .int (x10)), (3, .int ((v.1 + z42.1))), (4, .int (x11)), (5, .int ((v.2 + (1 : Int32))))]) [2, 3, 4, 1, 5, 0] rfl ?_
      obtain rfl := Option.some.inj hS
      exact hin ((((v.1 + z42.1)), ((v.2 + (1 : Int32))))) rfl
def f_X9_odds_b197 (m47 : Mem) (x44 : Int32) (x45 : Int32) (x46 : Int32) (v : Int32 × Int32) : Option ((Int32 × Int32) ⊕ ((Int32))) :=
  if v.2 ≤ (0 : Int32) then (
    some (.inr (v.1))
  ) else (
    (rmI (v.1) (v.2)).bind fun y48 =>
    some (.inl ((v.2), (y48)))
  )
set_option maxRecDepth 100000 in
set_option maxHeartbeats 4000000 in
theorem k_X9_odds_b197 {l : Launch} {D : va_G} {cy : Nat → ClassId} {base : Nat} {X : gX} {Z : gZ} (m47 : Mem) (x44 : Int32) (x45 : Int32) (x46 : Int32)  (v : Int32 × Int32) (r : (Int32 × Int32) ⊕ ((Int32))) (hS : f_X9_odds_b197 m47 x44 x45 x46 v = some r) (hin : ∀ v2, r = .inl v2 → G l D cy base RX9 cX9_odds 10 (some .int) (gRm 1) X Z 197 [(2, .int (x44)), (3, .int (x45)), (4, .int (x46)), (5, .int (v2.1)), (6, .int (v2.2))] [] 0 0 gNN (gH cy base m47)) (hout0 : ∀ x, r = .inr x → G l D cy base RX9 cX9_odds 10 (some .int) (gRm 1) X Z 220 [(2, .int (x44)), (3, .int (x45)), (4, .int (x46)), (5, .int (x))] [] 0 0 gNN (gH cy base m47)) : G l D cy base RX9 cX9_odds 10 (some .int) (gRm 1) X Z 197 [(2, .int (x44)), (3, .int (x45)), (4, .int (x46)), (5, .int (v.1)), (6, .int (v.2))] [] 0 0 gNN (gH cy base m47) := by
  unfold f_X9_odds_b197 at hS
  refine g_iload (j := 4) (x := v.2) dX9_odds_197 rfl ?_
  refine g_if_le 220 dX9_odds_199 (by decide) (fun hc => ?_) (fun hc => ?_)
  · replace hS := (if_pos hc).symm.trans hS
    refine g_sub (lvx := [(2, .int (x44)), (3, .int (x45)), (4, .int (x46)), (5, .int (v.1))]) [0, 1, 2, 3] rfl ?_
    obtain rfl := Option.some.inj hS
    exact hout0 ((v.1)) rfl
  · replace hS := (if_neg hc).symm.trans hS
    refine g_iload (j := 3) (x := v.1) dX9_odds_202 rfl ?_
    refine g_iload (j := 4) (x := v.2) dX9_odds_204 rfl ?_
    obtain ⟨y48, ey48, hS⟩ := ob hS
    refine gs_irem dX9_odds_206 ey48 ?_
    refine g_istore (lvx := [(7, .int (y48)), (2, .int (x44)), (3, .int (x45)), (4, .int (x46)), (5, .int (v.1)), (6, .int (v.2))]) dX9_odds_207 (by decide) rfl ?_
    refine g_iload (j := 5) (x := v.2) dX9_odds_209 rfl ?_
    refine g_istore (lvx := [(5, .int (v.2)), (7, .int (y48)), (2, .int (x44)), (3, .int (x45)), (4, .int (x46)), (6, .int (v.2))]) dX9_odds_211 (by decide) rfl ?_
    refine g_iload (j := 1) (x := y48) dX9_odds_213 rfl ?_
    refine g_istore (lvx := [(6, .int (y48)), (5, .int (v.2)), (7, .int (y48)), (2, .int (x44)), (3, .int (x45)), (4, .int (x46))]) dX9_odds_215 (by decide) rfl ?_
    refine g_goto 197 dX9_odds_217 (by decide) ?_
    refine g_sub (lvx := [(2, .int (x44)), (3, .int (x45)), (4, .int (x46)), (5, .int (v.2)), (6, .int (y48))]) [3, 4, 5, 1, 0] rfl ?_
    obtain rfl := Option.some.inj hS
    exact hin (((v.2), (y48))) rfl
def f_X9_odds (μ : Mem) (a1 : Int32) (a2 : Int32) : Option (Int32) :=
  (f_X9_in μ (a1) ((0 : Int32)) ((99 : Int32))).bind fun y1 =>
  if y1 = (0 : Int32) then (
    some ((-1 : Int32))
  ) else (
    (f_X9_in μ (a2) ((0 : Int32)) ((1 : Int32))).bind fun y2 =>
    if y2 = (0 : Int32) then (
      some ((-1 : Int32))
    ) else (
      (iter gFU (f_X9_odds_b29 μ (a1) (a2) ((0 : Int32))) (((1 : Int32)), ((0 : Int32)))).bind fun z8 =>
      (iter gFU (f_X9_odds_b56 μ (a1) (a2) (z8)) (((0 : Int32)), ((0 : Int32)))).bind fun z43 =>
      (iter gFU (f_X9_odds_b197 μ (a2) (z43) (z8)) ((z43), (z8))).bind fun z49 =>
      if a2 = (0 : Int32) then (
        (dvI (z43) (z49)).bind fun y51 =>
        some (y51)
      ) else (
        (dvI (z8) (z49)).bind fun y50 =>
        some (y50)
      )
    )
  )
set_option maxRecDepth 100000 in
set_option maxHeartbeats 4000000 in
theorem k_X9_odds {l : Launch} {D : va_G} {cy : Nat → ClassId} {base : Nat} (μ : Mem) (a1 : Int32) (a2 : Int32)  {out : Int32} (hS : f_X9_odds μ a1 a2 = some out) : gC l D cy base yX9_odds cX9_odds 10 (some .int) 1 [.ref (base + 186), .int (a1), .int (a2)] μ (some (.int out)) μ := by
  refine gC_of (own := RX9) (lv0 := [(0, .ref (base + 186)), (1, .int (a1)), (2, .int (a2))]) rfl (by decide) (Nat.le_of_ble_eq_true rfl) rfl ?_
  unfold f_X9_odds at hS
  refine g_iload_n (j := 1) (x := a1) dX9_odds_0 rfl rfl ?_
  refine g_iconst (v := 0) dX9_odds_1 (by decide) ?_
  refine g_bipush (v := 99) dX9_odds_2 (by decide) ?_
  obtain ⟨y1, ey1, hS⟩ := ob hS
  refine gs_callSi (As := [.int (a1), .int ((0 : Int32)), .int ((99 : Int32))]) (st := []) (k_X9_in μ (a1) ((0 : Int32)) ((99 : Int32))  ey1) cl_RX9_54 sv_X9_in ⟨by decide, by decide⟩ (Nat.le_of_ble_eq_true rfl) ⟨Nat.zero_le _, Nat.zero_le _⟩ rfl dX9_odds_4 rfl ?_
  refine g_if_eq 19 dX9_odds_7 (by decide) (fun hc => ?_) (fun hc => ?_)
  · replace hS := (if_pos hc).symm.trans hS
    refine g_iconst (v := -1) dX9_odds_19 (by decide) ?_
    obtain rfl := Option.some.inj hS
    exact g_iret rfl dX9_odds_20
  · replace hS := (if_neg hc).symm.trans hS
    refine g_iload_n (j := 2) (x := a2) dX9_odds_10 rfl rfl ?_
    refine g_iconst (v := 0) dX9_odds_11 (by decide) ?_
    refine g_iconst (v := 1) dX9_odds_12 (by decide) ?_
    obtain ⟨y2, ey2, hS⟩ := ob hS
    refine gs_callSi (As := [.int (a2), .int ((0 : Int32)), .int ((1 : Int32))]) (st := []) (k_X9_in μ (a2) ((0 : Int32)) ((1 : Int32))  ey2) cl_RX9_54 sv_X9_in ⟨by decide, by decide⟩ (Nat.le_of_ble_eq_true rfl) ⟨Nat.zero_le _, Nat.zero_le _⟩ rfl dX9_odds_13 rfl ?_
    refine g_if_ne 21 dX9_odds_16 (by decide) (fun hc => ?_) (fun hc => ?_)
    · replace hS := (if_neg hc).symm.trans hS
      refine g_iconst (v := 0) dX9_odds_21 (by decide) ?_
      refine g_istore_n (lvx := [(3, .int ((0 : Int32))), (0, .ref (base + 186)), (1, .int (a1)), (2, .int (a2))]) dX9_odds_22 rfl (by decide) rfl ?_
      refine g_iconst (v := 1) dX9_odds_23 (by decide) ?_
      refine g_istore (lvx := [(4, .int ((1 : Int32))), (3, .int ((0 : Int32))), (0, .ref (base + 186)), (1, .int (a1)), (2, .int (a2))]) dX9_odds_24 (by decide) rfl ?_
      refine g_iconst (v := 0) dX9_odds_26 (by decide) ?_
      refine g_istore (lvx := [(5, .int ((0 : Int32))), (4, .int ((1 : Int32))), (3, .int ((0 : Int32))), (0, .ref (base + 186)), (1, .int (a1)), (2, .int (a2))]) dX9_odds_27 (by decide) rfl ?_
      obtain ⟨z8, ez8, hS⟩ := ob hS
      refine g_sub (lvx := [(0, .ref (base + 186)), (1, .int (a1)), (2, .int (a2)), (3, .int ((0 : Int32))), (4, .int ((1 : Int32))), (5, .int ((0 : Int32)))]) [3, 4, 5, 2, 1, 0] rfl ?_
      refine iter_ind (fun vv => G l D cy base RX9 cX9_odds 10 (some .int) (gRm 1) (gXm yX9_odds) (gZm D cy base 0 0 (some (.int out)) gNN (gH cy base μ)) 29 [(0, .ref (base + 186)), (1, .int (a1)), (2, .int (a2)), (3, .int ((0 : Int32))), (4, .int (vv.1)), (5, .int (vv.2))] [] 0 0 gNN (gH cy base μ)) (fun xx => G l D cy base RX9 cX9_odds 10 (some .int) (gRm 1) (gXm yX9_odds) (gZm D cy base 0 0 (some (.int out)) gNN (gH cy base μ)) 53 [(0, .ref (base + 186)), (1, .int (a1)), (2, .int (a2)), (3, .int ((0 : Int32))), (4, .int (xx))] [] 0 0 gNN (gH cy base μ)) (fun vv rr hh hin hout => k_X9_odds_b29 μ (a1) (a2) ((0 : Int32))  vv rr hh hin (fun xx ee => hout xx ee)) gFU (((1 : Int32)), ((0 : Int32))) z8 ez8 ?_
      show G l D cy base RX9 cX9_odds 10 (some .int) (gRm 1) (gXm yX9_odds) (gZm D cy base 0 0 (some (.int out)) gNN (gH cy base μ)) 53 [(0, .ref (base + 186)), (1, .int (a1)), (2, .int (a2)), (3, .int ((0 : Int32))), (4, .int (z8))] [] 0 0 gNN (gH cy base μ)
      refine g_iconst (v := 0) dX9_odds_53 (by decide) ?_
      refine g_istore (lvx := [(5, .int ((0 : Int32))), (0, .ref (base + 186)), (1, .int (a1)), (2, .int (a2)), (3, .int ((0 : Int32))), (4, .int (z8))]) dX9_odds_54 (by decide) rfl ?_
      obtain ⟨z43, ez43, hS⟩ := ob hS
      refine g_sub (lvx := [(0, .ref (base + 186)), (1, .int (a1)), (2, .int (a2)), (3, .int ((0 : Int32))), (4, .int (z8)), (5, .int ((0 : Int32)))]) [1, 2, 3, 4, 5, 0] rfl ?_
      refine iter_ind (fun vv => G l D cy base RX9 cX9_odds 10 (some .int) (gRm 1) (gXm yX9_odds) (gZm D cy base 0 0 (some (.int out)) gNN (gH cy base μ)) 56 [(0, .ref (base + 186)), (1, .int (a1)), (2, .int (a2)), (3, .int (vv.1)), (4, .int (z8)), (5, .int (vv.2))] [] 0 0 gNN (gH cy base μ)) (fun xx => G l D cy base RX9 cX9_odds 10 (some .int) (gRm 1) (gXm yX9_odds) (gZm D cy base 0 0 (some (.int out)) gNN (gH cy base μ)) 190 [(2, .int (a2)), (3, .int (xx)), (4, .int (z8))] [] 0 0 gNN (gH cy base μ)) (fun vv rr hh hin hout => k_X9_odds_b56 μ (a1) (a2) (z8)  vv rr hh hin (fun xx ee => hout xx ee)) gFU (((0 : Int32)), ((0 : Int32))) z43 ez43 ?_
      show G l D cy base RX9 cX9_odds 10 (some .int) (gRm 1) (gXm yX9_odds) (gZm D cy base 0 0 (some (.int out)) gNN (gH cy base μ)) 190 [(2, .int (a2)), (3, .int (z43)), (4, .int (z8))] [] 0 0 gNN (gH cy base μ)
      refine g_iload_n (j := 1) (x := z43) dX9_odds_190 rfl rfl ?_
      refine g_istore (lvx := [(5, .int (z43)), (2, .int (a2)), (3, .int (z43)), (4, .int (z8))]) dX9_odds_191 (by decide) rfl ?_
      refine g_iload (j := 3) (x := z8) dX9_odds_193 rfl ?_
      refine g_istore (lvx := [(6, .int (z8)), (5, .int (z43)), (2, .int (a2)), (3, .int (z43)), (4, .int (z8))]) dX9_odds_195 (by decide) rfl ?_
      obtain ⟨z49, ez49, hS⟩ := ob hS
      refine g_sub (lvx := [(2, .int (a2)), (3, .int (z43)), (4, .int (z8)), (5, .int (z43)), (6, .int (z8))]) [2, 3, 4, 1, 0] rfl ?_
      refine iter_ind (fun vv => G l D cy base RX9 cX9_odds 10 (some .int) (gRm 1) (gXm yX9_odds) (gZm D cy base 0 0 (some (.int out)) gNN (gH cy base μ)) 197 [(2, .int (a2)), (3, .int (z43)), (4, .int (z8)), (5, .int (vv.1)), (6, .int (vv.2))] [] 0 0 gNN (gH cy base μ)) (fun xx => G l D cy base RX9 cX9_odds 10 (some .int) (gRm 1) (gXm yX9_odds) (gZm D cy base 0 0 (some (.int out)) gNN (gH cy base μ)) 220 [(2, .int (a2)), (3, .int (z43)), (4, .int (z8)), (5, .int (xx))] [] 0 0 gNN (gH cy base μ)) (fun vv rr hh hin hout => k_X9_odds_b197 μ (a2) (z43) (z8)  vv rr hh hin (fun xx ee => hout xx ee)) gFU ((z43), (z8)) z49 ez49 ?_
      show G l D cy base RX9 cX9_odds 10 (some .int) (gRm 1) (gXm yX9_odds) (gZm D cy base 0 0 (some (.int out)) gNN (gH cy base μ)) 220 [(2, .int (a2)), (3, .int (z43)), (4, .int (z8)), (5, .int (z49))] [] 0 0 gNN (gH cy base μ)
      refine g_iload_n (j := 0) (x := a2) dX9_odds_220 rfl rfl ?_
      refine g_if_ne 231 dX9_odds_221 (by decide) (fun hc => ?_) (fun hc => ?_)
      · replace hS := (if_neg hc).symm.trans hS
        refine g_iload (j := 2) (x := z8) dX9_odds_231 rfl ?_
        refine g_iload (j := 3) (x := z49) dX9_odds_233 rfl ?_
        obtain ⟨y50, ey50, hS⟩ := ob hS
        refine gs_idiv dX9_odds_235 ey50 ?_
        obtain rfl := Option.some.inj hS
        exact g_iret rfl dX9_odds_236
      · replace hS := (if_pos hc).symm.trans hS
        refine g_iload_n (j := 1) (x := z43) dX9_odds_224 rfl rfl ?_
        refine g_iload (j := 3) (x := z49) dX9_odds_225 rfl ?_
        obtain ⟨y51, ey51, hS⟩ := ob hS
        refine gs_idiv dX9_odds_227 ey51 ?_
        refine g_goto 236 dX9_odds_228 (by decide) ?_
        obtain rfl := Option.some.inj hS
        exact g_iret rfl dX9_odds_236
    · replace hS := (if_pos hc).symm.trans hS
      refine g_iconst (v := -1) dX9_odds_19 (by decide) ?_
      obtain rfl := Option.some.inj hS
      exact g_iret rfl dX9_odds_20
def f_X9_mark_j80 (m7 : Mem) (x3 : Int32) (x4 : Int32) (x5 : Int64) (x6 : Int64) : Option (Int32 × Mem) :=
  (stL m7 186 ((x5 + x6))).bind fun m8 =>
  (ldA m8 190 716 (x4)).bind fun y9 =>
  (ldA m8 188 49 (((20 : Int32) + x4))).bind fun y10 =>
  (ldA m8 190 716 (x4)).bind fun y11 =>
  (ldA m8 190 716 (((7 : Int32) + x4))).bind fun y12 =>
  if x3 = (0 : Int32) then (
    (ldA m8 190 716 (x4)).bind fun y16 =>
    some (y16, m8)
  ) else (
    if x3 = (1 : Int32) then (
      some ((y9 + y10), m8)
    ) else (
      if x3 = (2 : Int32) then (
        some ((y11 - y12), m8)
      ) else (
        if x3 = (3 : Int32) then (
          some (((2 : Int32) * (y9 + y10)), m8)
        ) else (
          if x3 = (4 : Int32) then (
            (ldA m8 188 49 (((27 : Int32) + x4))).bind fun y15 =>
            some (((y11 - y12) + y15), m8)
          ) else (
            (ldA m8 190 716 (x4)).bind fun y13 =>
            (ldA m8 190 716 ((64 : Int32))).bind fun y14 =>
            some ((y13 + y14), m8)
          )
        )
      )
    )
  )
set_option maxRecDepth 100000 in
set_option maxHeartbeats 4000000 in
theorem k_X9_mark_j80 {l : Launch} {D : va_G} {cy : Nat → ClassId} {base : Nat} {X : gX} (m7 : Mem) (x3 : Int32) (x4 : Int32) (x5 : Int64) (x6 : Int64)  {out : Int32 × Mem} (hS : f_X9_mark_j80 m7 x3 x4 x5 x6 = some out)  : G l D cy base RX9 cX9_mark 5 (some .int) (gRm 2) X (gZm D cy base 0 0 (some (.int out.1)) gNN (gH cy base out.2)) 80 [(0, .ref (base + 186)), (1, .int (x3)), (2, .int (x4))] [.long (x6), .long (x5), .ref (base + 186)] 0 0 gNN (gH cy base m7) := by
  unfold f_X9_mark_j80 at hS
  refine g_ladd dX9_mark_80 ?_
  obtain ⟨m8, em8, hS⟩ := ob hS
  refine gs_putL lw_RX9_165 (tk_186 _) rfl uq186 rfl rfl dX9_mark_81 em8 ?_
  refine g_aload_n (j := 0) (x := base + 186) dX9_mark_84 rfl rfl ?_
  refine gs_getR (r := 190) lk_RX9_19 (tk_186 _) rfl dX9_mark_85 ?_
  refine g_iload_n (j := 2) (x := x4) dX9_mark_88 rfl rfl ?_
  obtain ⟨y9, ey9, hS⟩ := ob hS
  refine gs_iald (tk_190 _) dX9_mark_89 ey9 ?_
  refine g_aload_n (j := 0) (x := base + 186) dX9_mark_90 rfl rfl ?_
  refine gs_getR (r := 188) lk_RX9_13 (tk_186 _) rfl dX9_mark_91 ?_
  refine g_bipush (v := 20) dX9_mark_94 (by decide) ?_
  refine g_iload_n (j := 2) (x := x4) dX9_mark_96 rfl rfl ?_
  refine g_iadd dX9_mark_97 ?_
  obtain ⟨y10, ey10, hS⟩ := ob hS
  refine gs_iald (tk_188 _) dX9_mark_98 ey10 ?_
  refine g_iadd dX9_mark_99 ?_
  refine g_istore_n (lvx := [(3, .int ((y9 + y10))), (0, .ref (base + 186)), (1, .int (x3)), (2, .int (x4))]) dX9_mark_100 rfl (by decide) rfl ?_
  refine g_aload_n (j := 1) (x := base + 186) dX9_mark_101 rfl rfl ?_
  refine gs_getR (r := 190) lk_RX9_19 (tk_186 _) rfl dX9_mark_102 ?_
  refine g_iload_n (j := 3) (x := x4) dX9_mark_105 rfl rfl ?_
  obtain ⟨y11, ey11, hS⟩ := ob hS
  refine gs_iald (tk_190 _) dX9_mark_106 ey11 ?_
  refine g_aload_n (j := 1) (x := base + 186) dX9_mark_107 rfl rfl ?_
  refine gs_getR (r := 190) lk_RX9_19 (tk_186 _) rfl dX9_mark_108 ?_
  refine g_bipush (v := 7) dX9_mark_111 (by decide) ?_
  refine g_iload_n (j := 3) (x := x4) dX9_mark_113 rfl rfl ?_
  refine g_iadd dX9_mark_114 ?_
  obtain ⟨y12, ey12, hS⟩ := ob hS
  refine gs_iald (tk_190 _) dX9_mark_115 ey12 ?_
  refine g_isub dX9_mark_116 ?_
  refine g_istore (lvx := [(4, .int ((y11 - y12))), (3, .int ((y9 + y10))), (0, .ref (base + 186)), (1, .int (x3)), (2, .int (x4))]) dX9_mark_117 (by decide) rfl ?_
  refine g_iload_n (j := 3) (x := x3) dX9_mark_119 rfl rfl ?_
  refine g_if_ne 132 dX9_mark_120 (by decide) (fun hc => ?_) (fun hc => ?_)
  · replace hS := (if_neg hc).symm.trans hS
    refine g_iload_n (j := 3) (x := x3) dX9_mark_132 rfl rfl ?_
    refine g_iconst (v := 1) dX9_mark_133 (by decide) ?_
    refine g_icmp_ne 141 dX9_mark_134 (by decide) (fun hc => ?_) (fun hc => ?_)
    · replace hS := (if_neg hc).symm.trans hS
      refine g_iload_n (j := 3) (x := x3) dX9_mark_141 rfl rfl ?_
      refine g_iconst (v := 2) dX9_mark_142 (by decide) ?_
      refine g_icmp_ne 151 dX9_mark_143 (by decide) (fun hc => ?_) (fun hc => ?_)
      · replace hS := (if_neg hc).symm.trans hS
        refine g_iload_n (j := 3) (x := x3) dX9_mark_151 rfl rfl ?_
        refine g_iconst (v := 3) dX9_mark_152 (by decide) ?_
        refine g_icmp_ne 162 dX9_mark_153 (by decide) (fun hc => ?_) (fun hc => ?_)
        · replace hS := (if_neg hc).symm.trans hS
          refine g_iload_n (j := 3) (x := x3) dX9_mark_162 rfl rfl ?_
          refine g_iconst (v := 4) dX9_mark_163 (by decide) ?_
          refine g_icmp_ne 182 dX9_mark_164 (by decide) (fun hc => ?_) (fun hc => ?_)
          · replace hS := (if_neg hc).symm.trans hS
            refine g_aload_n (j := 2) (x := base + 186) dX9_mark_182 rfl rfl ?_
            refine gs_getR (r := 190) lk_RX9_19 (tk_186 _) rfl dX9_mark_183 ?_
            refine g_iload_n (j := 4) (x := x4) dX9_mark_186 rfl rfl ?_
            obtain ⟨y13, ey13, hS⟩ := ob hS
            refine gs_iald (tk_190 _) dX9_mark_187 ey13 ?_
            refine g_aload_n (j := 2) (x := base + 186) dX9_mark_188 rfl rfl ?_
            refine gs_getR (r := 190) lk_RX9_19 (tk_186 _) rfl dX9_mark_189 ?_
            refine g_bipush (v := 64) dX9_mark_192 (by decide) ?_
            obtain ⟨y14, ey14, hS⟩ := ob hS
            refine gs_iald (tk_190 _) dX9_mark_194 ey14 ?_
            refine g_iadd dX9_mark_195 ?_
            obtain rfl := Option.some.inj hS
            exact g_iret rfl dX9_mark_196
          · replace hS := (if_pos hc).symm.trans hS
            refine g_iload (j := 0) (x := (y11 - y12)) dX9_mark_167 rfl ?_
            refine g_aload_n (j := 2) (x := base + 186) dX9_mark_169 rfl rfl ?_
            refine gs_getR (r := 188) lk_RX9_13 (tk_186 _) rfl dX9_mark_170 ?_
            refine g_bipush (v := 27) dX9_mark_173 (by decide) ?_
            refine g_iload_n (j := 4) (x := x4) dX9_mark_175 rfl rfl ?_
            refine g_iadd dX9_mark_176 ?_
            obtain ⟨y15, ey15, hS⟩ := ob hS
            refine gs_iald (tk_188 _) dX9_mark_177 ey15 ?_
            refine g_iadd dX9_mark_178 ?_
            refine g_goto 196 dX9_mark_179 (by decide) ?_
            obtain rfl := Option.some.inj hS
            exact g_iret rfl dX9_mark_196
        · replace hS := (if_pos hc).symm.trans hS
          refine g_iconst (v := 2) dX9_mark_156 (by decide) ?_
          refine g_iload_n (j := 1) (x := (y9 + y10)) dX9_mark_157 rfl rfl ?_
          refine g_imul dX9_mark_158 ?_
          refine g_goto 196 dX9_mark_159 (by decide) ?_
          obtain rfl := Option.some.inj hS
          exact g_iret rfl dX9_mark_196
      · replace hS := (if_pos hc).symm.trans hS
        refine g_iload (j := 0) (x := (y11 - y12)) dX9_mark_146 rfl ?_
        refine g_goto 196 dX9_mark_148 (by decide) ?_
        obtain rfl := Option.some.inj hS
        exact g_iret rfl dX9_mark_196
    · replace hS := (if_pos hc).symm.trans hS
      refine g_iload_n (j := 1) (x := (y9 + y10)) dX9_mark_137 rfl rfl ?_
      refine g_goto 196 dX9_mark_138 (by decide) ?_
      obtain rfl := Option.some.inj hS
      exact g_iret rfl dX9_mark_196
  · replace hS := (if_pos hc).symm.trans hS
    refine g_aload_n (j := 2) (x := base + 186) dX9_mark_123 rfl rfl ?_
    refine gs_getR (r := 190) lk_RX9_19 (tk_186 _) rfl dX9_mark_124 ?_
    refine g_iload_n (j := 4) (x := x4) dX9_mark_127 rfl rfl ?_
    obtain ⟨y16, ey16, hS⟩ := ob hS
    refine gs_iald (tk_190 _) dX9_mark_128 ey16 ?_
    refine g_goto 196 dX9_mark_129 (by decide) ?_
    obtain rfl := Option.some.inj hS
    exact g_iret rfl dX9_mark_196
def f_X9_mark (μ : Mem) (a1 : Int32) (a2 : Int32) : Option (Int32 × Mem) :=
  (f_X9_in μ (a1) ((0 : Int32)) ((5 : Int32))).bind fun y1 =>
  if y1 = (0 : Int32) then (
    some ((-1000000 : Int32), μ)
  ) else (
    (f_X9_isStair μ (a2)).bind fun y2 =>
    if y2 = (0 : Int32) then (
      some ((-1000000 : Int32), μ)
    ) else (
      if a1 = (0 : Int32) then (
        f_X9_mark_j80 μ (a1) (a2) ((gl μ 186)) ((1 : Int64))
      ) else (
        if a1 = (1 : Int32) then (
          f_X9_mark_j80 μ (a1) (a2) ((gl μ 186)) ((11 : Int64))
        ) else (
          if a1 = (2 : Int32) then (
            f_X9_mark_j80 μ (a1) (a2) ((gl μ 186)) ((101 : Int64))
          ) else (
            if a1 = (3 : Int32) then (
              f_X9_mark_j80 μ (a1) (a2) ((gl μ 186)) ((1011 : Int64))
            ) else (
              if a1 = (4 : Int32) then (
                f_X9_mark_j80 μ (a1) (a2) ((gl μ 186)) ((10101 : Int64))
              ) else (
                f_X9_mark_j80 μ (a1) (a2) ((gl μ 186)) ((100001 : Int64))
              )
            )
          )
        )
      )
    )
  )
set_option maxRecDepth 100000 in
set_option maxHeartbeats 4000000 in
theorem k_X9_mark {l : Launch} {D : va_G} {cy : Nat → ClassId} {base : Nat} (μ : Mem) (a1 : Int32) (a2 : Int32)  {out : Int32 × Mem} (hS : f_X9_mark μ a1 a2 = some out) : gC l D cy base yX9_mark cX9_mark 5 (some .int) 2 [.ref (base + 186), .int (a1), .int (a2)] μ (some (.int out.1)) out.2 := by
  refine gC_of (own := RX9) (lv0 := [(0, .ref (base + 186)), (1, .int (a1)), (2, .int (a2))]) rfl (by decide) (Nat.le_of_ble_eq_true rfl) rfl ?_
  unfold f_X9_mark at hS
  refine g_iload_n (j := 1) (x := a1) dX9_mark_0 rfl rfl ?_
  refine g_iconst (v := 0) dX9_mark_1 (by decide) ?_
  refine g_iconst (v := 5) dX9_mark_2 (by decide) ?_
  obtain ⟨y1, ey1, hS⟩ := ob hS
  refine gs_callSi (As := [.int (a1), .int ((0 : Int32)), .int ((5 : Int32))]) (st := []) (k_X9_in μ (a1) ((0 : Int32)) ((5 : Int32))  ey1) cl_RX9_54 sv_X9_in ⟨by decide, by decide⟩ (Nat.le_of_ble_eq_true rfl) ⟨Nat.zero_le _, Nat.zero_le _⟩ rfl dX9_mark_3 rfl ?_
  refine g_if_eq 17 dX9_mark_6 (by decide) (fun hc => ?_) (fun hc => ?_)
  · replace hS := (if_pos hc).symm.trans hS
    refine g_ldc cs_RX9_164 dX9_mark_17 ?_
    obtain rfl := Option.some.inj hS
    exact g_iret rfl dX9_mark_19
  · replace hS := (if_neg hc).symm.trans hS
    refine g_aload_n (j := 0) (x := base + 186) dX9_mark_9 rfl rfl ?_
    refine g_iload_n (j := 2) (x := a2) dX9_mark_10 rfl rfl ?_
    obtain ⟨y2, ey2, hS⟩ := ob hS
    refine gs_callVi (As := [.int (a2)]) (st := []) (kr := 186) (k_X9_isStair μ (a2)  ey2) cl_RX9_104 sv_X9_isStair ckk_X9_isStair (tk_186 _) ⟨by decide, by decide⟩ (Nat.le_of_ble_eq_true rfl) ⟨Nat.zero_le _, Nat.zero_le _⟩ rfl dX9_mark_11 rfl ?_
    refine g_if_ne 20 dX9_mark_14 (by decide) (fun hc => ?_) (fun hc => ?_)
    · replace hS := (if_neg hc).symm.trans hS
      refine g_aload_n (j := 0) (x := base + 186) dX9_mark_20 rfl rfl ?_
      refine g_dup dX9_mark_21 rfl ?_
      refine gs_getL lk_RX9_165 (tk_186 _) rfl dX9_mark_22 ?_
      refine g_iload_n (j := 1) (x := a1) dX9_mark_25 rfl rfl ?_
      refine g_if_ne 33 dX9_mark_26 (by decide) (fun hc => ?_) (fun hc => ?_)
      · replace hS := (if_neg hc).symm.trans hS
        refine g_iload_n (j := 1) (x := a1) dX9_mark_33 rfl rfl ?_
        refine g_iconst (v := 1) dX9_mark_34 (by decide) ?_
        refine g_icmp_ne 44 dX9_mark_35 (by decide) (fun hc => ?_) (fun hc => ?_)
        · replace hS := (if_neg hc).symm.trans hS
          refine g_iload_n (j := 1) (x := a1) dX9_mark_44 rfl rfl ?_
          refine g_iconst (v := 2) dX9_mark_45 (by decide) ?_
          refine g_icmp_ne 55 dX9_mark_46 (by decide) (fun hc => ?_) (fun hc => ?_)
          · replace hS := (if_neg hc).symm.trans hS
            refine g_iload_n (j := 1) (x := a1) dX9_mark_55 rfl rfl ?_
            refine g_iconst (v := 3) dX9_mark_56 (by decide) ?_
            refine g_icmp_ne 66 dX9_mark_57 (by decide) (fun hc => ?_) (fun hc => ?_)
            · replace hS := (if_neg hc).symm.trans hS
              refine g_iload_n (j := 1) (x := a1) dX9_mark_66 rfl rfl ?_
              refine g_iconst (v := 4) dX9_mark_67 (by decide) ?_
              refine g_icmp_ne 77 dX9_mark_68 (by decide) (fun hc => ?_) (fun hc => ?_)
              · replace hS := (if_neg hc).symm.trans hS
                refine g_ldc2 cs_RX9_177 dX9_mark_77 ?_
                exact k_X9_mark_j80 (μ) (a1) (a2) ((gl μ 186)) ((100001 : Int64))  hS
              · replace hS := (if_pos hc).symm.trans hS
                refine g_ldc2 cs_RX9_175 dX9_mark_71 ?_
                refine g_goto 80 dX9_mark_74 (by decide) ?_
                exact k_X9_mark_j80 (μ) (a1) (a2) ((gl μ 186)) ((10101 : Int64))  hS
            · replace hS := (if_pos hc).symm.trans hS
              refine g_ldc2 cs_RX9_173 dX9_mark_60 ?_
              refine g_goto 80 dX9_mark_63 (by decide) ?_
              exact k_X9_mark_j80 (μ) (a1) (a2) ((gl μ 186)) ((1011 : Int64))  hS
          · replace hS := (if_pos hc).symm.trans hS
            refine g_ldc2 cs_RX9_171 dX9_mark_49 ?_
            refine g_goto 80 dX9_mark_52 (by decide) ?_
            exact k_X9_mark_j80 (μ) (a1) (a2) ((gl μ 186)) ((101 : Int64))  hS
        · replace hS := (if_pos hc).symm.trans hS
          refine g_ldc2 cs_RX9_169 dX9_mark_38 ?_
          refine g_goto 80 dX9_mark_41 (by decide) ?_
          exact k_X9_mark_j80 (μ) (a1) (a2) ((gl μ 186)) ((11 : Int64))  hS
      · replace hS := (if_pos hc).symm.trans hS
        refine g_lconst (v := 1) dX9_mark_29 (by decide) ?_
        refine g_goto 80 dX9_mark_30 (by decide) ?_
        exact k_X9_mark_j80 (μ) (a1) (a2) ((gl μ 186)) ((1 : Int64))  hS
    · replace hS := (if_pos hc).symm.trans hS
      refine g_ldc cs_RX9_164 dX9_mark_17 ?_
      obtain rfl := Option.some.inj hS
      exact g_iret rfl dX9_mark_19

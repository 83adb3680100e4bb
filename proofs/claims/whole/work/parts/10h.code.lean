def f_X9_surest_j118 (m11 : Mem) (x8 : Int32) (x9 : Int32) (x10 : Int32) (x15 : Int32) (x16 : Int32) (x17 : Int32) : Option ((Int32 × Int32) ⊕ ((Int32))) :=
  if x17 = (0 : Int32) then (
    some (.inl ((x15), ((x16 + (-1 : Int32)))))
  ) else (
    some (.inl ((x16), ((x16 + (-1 : Int32)))))
  )
set_option maxRecDepth 100000 in
set_option maxHeartbeats 4000000 in
theorem k_X9_surest_j118 {l : Launch} {D : va_G} {cy : Nat → ClassId} {base : Nat} {X : gX} {Z : gZ} (m11 : Mem) (x8 : Int32) (x9 : Int32) (x10 : Int32) (x15 : Int32) (x16 : Int32) (x17 : Int32)  {r : (Int32 × Int32) ⊕ ((Int32))} (hS : f_X9_surest_j118 m11 x8 x9 x10 x15 x16 x17 = some r) (hin : ∀ v2, r = .inl v2 → G l D cy base RX9 cX9_surest 8 (some .int) (gRm 2) X Z 56 [(0, .ref (base + 186)), (1, .int (x8)), (2, .int (x9)), (3, .int (x10)), (4, .int (v2.1)), (5, .int (v2.2))] [] 0 0 gNN (gH cy base m11)) (hout0 : ∀ x, r = .inr x → G l D cy base RX9 cX9_surest 8 (some .int) (gRm 2) X Z 140 [(0, .ref (base + 186)), (1, .int (x8)), (3, .int (x10)), (4, .int (x))] [] 0 0 gNN (gH cy base m11)) : G l D cy base RX9 cX9_surest 8 (some .int) (gRm 2) X Z 118 [(0, .ref (base + 186)), (1, .int (x8)), (2, .int (x9)), (3, .int (x10)), (4, .int (x15)), (5, .int (x16))] [.int (x17)] 0 0 gNN (gH cy base m11) := by
  unfold f_X9_surest_j118 at hS
  refine g_istore (lvx := [(7, .int (x17)), (0, .ref (base + 186)), (1, .int (x8)), (2, .int (x9)), (3, .int (x10)), (4, .int (x15)), (5, .int (x16))]) dX9_surest_118 (by decide) rfl ?_
  refine g_iload (j := 0) (x := x17) dX9_surest_120 rfl ?_
  refine g_if_eq 130 dX9_surest_122 (by decide) (fun hc => ?_) (fun hc => ?_)
  · replace hS := (if_pos hc).symm.trans hS
    refine g_iload (j := 5) (x := x15) dX9_surest_130 rfl ?_
    refine g_istore (lvx := [(4, .int (x15)), (7, .int (x17)), (0, .ref (base + 186)), (1, .int (x8)), (2, .int (x9)), (3, .int (x10)), (5, .int (x16))]) dX9_surest_132 (by decide) rfl ?_
    refine g_iinc (j := 6) (x := x16) (v := (x16 + (-1 : Int32))) (lvx := [(5, .int ((x16 + (-1 : Int32)))), (4, .int (x15)), (7, .int (x17)), (0, .ref (base + 186)), (1, .int (x8)), (2, .int (x9)), (3, .int (x10))]) dX9_surest_134 rfl rfl (by decide) rfl ?_
    refine g_goto 56 dX9_surest_137 (by decide) ?_
    refine g_sub (lvx := [(0, .ref (base + 186)), (1, .int (x8)), (2, .int (x9)), (3, .int (x10)), (4, .int (x15)), (5, .int ((x16 + (-1 : Int32))))]) [3, 4, 5, 6, 1, 0] rfl ?_
    obtain rfl := Option.some.inj hS
    exact hin (((x15), ((x16 + (-1 : Int32))))) rfl
  · replace hS := (if_neg hc).symm.trans hS
    refine g_iload (j := 6) (x := x16) dX9_surest_125 rfl ?_
    refine g_goto 132 dX9_surest_127 (by decide) ?_
    refine g_istore (lvx := [(4, .int (x16)), (7, .int (x17)), (0, .ref (base + 186)), (1, .int (x8)), (2, .int (x9)), (3, .int (x10)), (5, .int (x16))]) dX9_surest_132 (by decide) rfl ?_
    refine g_iinc (j := 6) (x := x16) (v := (x16 + (-1 : Int32))) (lvx := [(5, .int ((x16 + (-1 : Int32)))), (4, .int (x16)), (7, .int (x17)), (0, .ref (base + 186)), (1, .int (x8)), (2, .int (x9)), (3, .int (x10))]) dX9_surest_134 rfl rfl (by decide) rfl ?_
    refine g_goto 56 dX9_surest_137 (by decide) ?_
    refine g_sub (lvx := [(0, .ref (base + 186)), (1, .int (x8)), (2, .int (x9)), (3, .int (x10)), (4, .int (x16)), (5, .int ((x16 + (-1 : Int32))))]) [3, 4, 5, 6, 1, 0] rfl ?_
    obtain rfl := Option.some.inj hS
    exact hin (((x16), ((x16 + (-1 : Int32))))) rfl
def f_X9_surest_j117 (m11 : Mem) (x8 : Int32) (x9 : Int32) (x10 : Int32) (x13 : Int32) (x14 : Int32) : Option ((Int32 × Int32) ⊕ ((Int32))) :=
  f_X9_surest_j118 m11 x8 x9 x10 (x13) (x14) ((0 : Int32))
set_option maxRecDepth 100000 in
set_option maxHeartbeats 4000000 in
theorem k_X9_surest_j117 {l : Launch} {D : va_G} {cy : Nat → ClassId} {base : Nat} {X : gX} {Z : gZ} (m11 : Mem) (x8 : Int32) (x9 : Int32) (x10 : Int32) (x13 : Int32) (x14 : Int32)  {r : (Int32 × Int32) ⊕ ((Int32))} (hS : f_X9_surest_j117 m11 x8 x9 x10 x13 x14 = some r) (hin : ∀ v2, r = .inl v2 → G l D cy base RX9 cX9_surest 8 (some .int) (gRm 2) X Z 56 [(0, .ref (base + 186)), (1, .int (x8)), (2, .int (x9)), (3, .int (x10)), (4, .int (v2.1)), (5, .int (v2.2))] [] 0 0 gNN (gH cy base m11)) (hout0 : ∀ x, r = .inr x → G l D cy base RX9 cX9_surest 8 (some .int) (gRm 2) X Z 140 [(0, .ref (base + 186)), (1, .int (x8)), (3, .int (x10)), (4, .int (x))] [] 0 0 gNN (gH cy base m11)) : G l D cy base RX9 cX9_surest 8 (some .int) (gRm 2) X Z 117 [(0, .ref (base + 186)), (1, .int (x8)), (2, .int (x9)), (3, .int (x10)), (4, .int (x13)), (5, .int (x14))] [] 0 0 gNN (gH cy base m11) := by
  unfold f_X9_surest_j117 at hS
  refine g_iconst (v := 0) dX9_surest_117 (by decide) ?_
  exact k_X9_surest_j118 (m11) x8 x9 x10 (x13) (x14) ((0 : Int32))  hS hin hout0
def f_X9_surest_b56 (m11 : Mem) (x8 : Int32) (x9 : Int32) (x10 : Int32) (v : Int32 × Int32) : Option ((Int32 × Int32) ⊕ ((Int32))) :=
  if v.2 < (0 : Int32) then (
    some (.inr (v.1))
  ) else (
    (f_X9_other m11 (v.2) (x8)).bind fun y12 =>
    if y12 < (0 : Int32) then (
      f_X9_surest_j117 m11 x8 x9 x10 (v.1) (v.2)
    ) else (
      (ldA m11 195 7 (y12)).bind fun y18 =>
      if y18 < (0 : Int32) then (
        f_X9_surest_j117 m11 x8 x9 x10 (v.1) (v.2)
      ) else (
        if x8 = x9 then (
          f_X9_surest_j117 m11 x8 x9 x10 (v.1) (v.2)
        ) else (
          (ldA m11 195 7 (y12)).bind fun y23 =>
          (f_X9_weight m11 (v.2)).bind fun y24 =>
          (ldA m11 195 7 (x8)).bind fun y25 =>
          if (y23 + y24) = y25 then (
            f_X9_surest_j118 m11 x8 x9 x10 (v.1) (v.2) ((1 : Int32))
          ) else (
            f_X9_surest_j117 m11 x8 x9 x10 (v.1) (v.2)
          )
        )
      )
    )
  )
set_option maxRecDepth 100000 in
set_option maxHeartbeats 4000000 in
theorem k_X9_surest_b56 {l : Launch} {D : va_G} {cy : Nat → ClassId} {base : Nat} {X : gX} {Z : gZ} (m11 : Mem) (x8 : Int32) (x9 : Int32) (x10 : Int32)  (v : Int32 × Int32) (r : (Int32 × Int32) ⊕ ((Int32))) (hS : f_X9_surest_b56 m11 x8 x9 x10 v = some r) (hin : ∀ v2, r = .inl v2 → G l D cy base RX9 cX9_surest 8 (some .int) (gRm 2) X Z 56 [(0, .ref (base + 186)), (1, .int (x8)), (2, .int (x9)), (3, .int (x10)), (4, .int (v2.1)), (5, .int (v2.2))] [] 0 0 gNN (gH cy base m11)) (hout0 : ∀ x, r = .inr x → G l D cy base RX9 cX9_surest 8 (some .int) (gRm 2) X Z 140 [(0, .ref (base + 186)), (1, .int (x8)), (3, .int (x10)), (4, .int (x))] [] 0 0 gNN (gH cy base m11)) : G l D cy base RX9 cX9_surest 8 (some .int) (gRm 2) X Z 56 [(0, .ref (base + 186)), (1, .int (x8)), (2, .int (x9)), (3, .int (x10)), (4, .int (v.1)), (5, .int (v.2))] [] 0 0 gNN (gH cy base m11) := by
  unfold f_X9_surest_b56 at hS
  refine g_iload (j := 5) (x := v.2) dX9_surest_56 rfl ?_
  refine g_if_lt 140 dX9_surest_58 (by decide) (fun hc => ?_) (fun hc => ?_)
  · replace hS := (if_pos hc).symm.trans hS
    refine g_sub (lvx := [(0, .ref (base + 186)), (1, .int (x8)), (3, .int (x10)), (4, .int (v.1))]) [0, 1, 3, 4] rfl ?_
    obtain rfl := Option.some.inj hS
    exact hout0 ((v.1)) rfl
  · replace hS := (if_neg hc).symm.trans hS
    refine g_aload_n (j := 0) (x := base + 186) dX9_surest_61 rfl rfl ?_
    refine g_iload (j := 5) (x := v.2) dX9_surest_62 rfl ?_
    refine g_iload_n (j := 1) (x := x8) dX9_surest_64 rfl rfl ?_
    obtain ⟨y12, ey12, hS⟩ := ob hS
    refine gs_callVi (As := [.int (v.2), .int (x8)]) (st := []) (kr := 186) (k_X9_other m11 (v.2) (x8)  ey12) cl_RX9_151 sv_X9_other ckk_X9_other (tk_186 _) ⟨by decide, by decide⟩ (Nat.le_of_ble_eq_true rfl) ⟨Nat.zero_le _, Nat.zero_le _⟩ rfl dX9_surest_65 rfl ?_
    refine g_istore (lvx := [(6, .int (y12)), (0, .ref (base + 186)), (1, .int (x8)), (2, .int (x9)), (3, .int (x10)), (4, .int (v.1)), (5, .int (v.2))]) dX9_surest_68 (by decide) rfl ?_
    refine g_iload (j := 0) (x := y12) dX9_surest_70 rfl ?_
    refine g_if_lt 117 dX9_surest_72 (by decide) (fun hc => ?_) (fun hc => ?_)
    · replace hS := (if_pos hc).symm.trans hS
      refine g_sub (lvx := [(0, .ref (base + 186)), (1, .int (x8)), (2, .int (x9)), (3, .int (x10)), (4, .int (v.1)), (5, .int (v.2))]) [1, 2, 3, 4, 5, 6] rfl ?_
      exact k_X9_surest_j117 (m11) x8 x9 x10 (v.1) (v.2)  hS hin hout0
    · replace hS := (if_neg hc).symm.trans hS
      refine g_aload_n (j := 1) (x := base + 186) dX9_surest_75 rfl rfl ?_
      refine gs_getR (r := 195) lk_RX9_35 (tk_186 _) rfl dX9_surest_76 ?_
      refine g_iload (j := 0) (x := y12) dX9_surest_79 rfl ?_
      obtain ⟨y18, ey18, hS⟩ := ob hS
      refine gs_iald (tk_195 _) dX9_surest_81 ey18 ?_
      refine g_if_lt 117 dX9_surest_82 (by decide) (fun hc => ?_) (fun hc => ?_)
      · replace hS := (if_pos hc).symm.trans hS
        refine g_sub (lvx := [(0, .ref (base + 186)), (1, .int (x8)), (2, .int (x9)), (3, .int (x10)), (4, .int (v.1)), (5, .int (v.2))]) [1, 2, 3, 4, 5, 6] rfl ?_
        exact k_X9_surest_j117 (m11) x8 x9 x10 (v.1) (v.2)  hS hin hout0
      · replace hS := (if_neg hc).symm.trans hS
        refine g_iload_n (j := 2) (x := x8) dX9_surest_85 rfl rfl ?_
        refine g_iload_n (j := 3) (x := x9) dX9_surest_86 rfl rfl ?_
        refine g_icmp_eq 117 dX9_surest_87 (by decide) (fun hc => ?_) (fun hc => ?_)
        · replace hS := (if_pos hc).symm.trans hS
          refine g_sub (lvx := [(0, .ref (base + 186)), (1, .int (x8)), (2, .int (x9)), (3, .int (x10)), (4, .int (v.1)), (5, .int (v.2))]) [1, 2, 3, 4, 5, 6] rfl ?_
          exact k_X9_surest_j117 (m11) x8 x9 x10 (v.1) (v.2)  hS hin hout0
        · replace hS := (if_neg hc).symm.trans hS
          refine g_aload_n (j := 1) (x := base + 186) dX9_surest_90 rfl rfl ?_
          refine gs_getR (r := 195) lk_RX9_35 (tk_186 _) rfl dX9_surest_91 ?_
          refine g_iload (j := 0) (x := y12) dX9_surest_94 rfl ?_
          obtain ⟨y23, ey23, hS⟩ := ob hS
          refine gs_iald (tk_195 _) dX9_surest_96 ey23 ?_
          refine g_aload_n (j := 1) (x := base + 186) dX9_surest_97 rfl rfl ?_
          refine g_iload (j := 6) (x := v.2) dX9_surest_98 rfl ?_
          obtain ⟨y24, ey24, hS⟩ := ob hS
          refine gs_callVi (As := [.int (v.2)]) (st := [.int (y23)]) (kr := 186) (k_X9_weight m11 (v.2)  ey24) cl_RX9_141 sv_X9_weight ckk_X9_weight (tk_186 _) ⟨by decide, by decide⟩ (Nat.le_of_ble_eq_true rfl) ⟨Nat.zero_le _, Nat.zero_le _⟩ rfl dX9_surest_100 rfl ?_
          refine g_iadd dX9_surest_103 ?_
          refine g_aload_n (j := 1) (x := base + 186) dX9_surest_104 rfl rfl ?_
          refine gs_getR (r := 195) lk_RX9_35 (tk_186 _) rfl dX9_surest_105 ?_
          refine g_iload_n (j := 2) (x := x8) dX9_surest_108 rfl rfl ?_
          obtain ⟨y25, ey25, hS⟩ := ob hS
          refine gs_iald (tk_195 _) dX9_surest_109 ey25 ?_
          refine g_icmp_ne 117 dX9_surest_110 (by decide) (fun hc => ?_) (fun hc => ?_)
          · replace hS := (if_neg hc).symm.trans hS
            refine g_sub (lvx := [(0, .ref (base + 186)), (1, .int (x8)), (2, .int (x9)), (3, .int (x10)), (4, .int (v.1)), (5, .int (v.2))]) [1, 2, 3, 4, 5, 6] rfl ?_
            exact k_X9_surest_j117 (m11) x8 x9 x10 (v.1) (v.2)  hS hin hout0
          · replace hS := (if_pos hc).symm.trans hS
            refine g_iconst (v := 1) dX9_surest_113 (by decide) ?_
            refine g_goto 118 dX9_surest_114 (by decide) ?_
            refine g_sub (lvx := [(0, .ref (base + 186)), (1, .int (x8)), (2, .int (x9)), (3, .int (x10)), (4, .int (v.1)), (5, .int (v.2))]) [1, 2, 3, 4, 5, 6] rfl ?_
            exact k_X9_surest_j118 (m11) x8 x9 x10 (v.1) (v.2) ((1 : Int32))  hS hin hout0
def f_X9_surest (μ : Mem) (a1 : Int32) (a2 : Int32) (a3 : Int32) : Option (Int32 × Mem) :=
  (f_X9_isFloor μ (a1)).bind fun y1 =>
  if y1 = (0 : Int32) then (
    some ((-1 : Int32), μ)
  ) else (
    (f_X9_isFloor μ (a2)).bind fun y2 =>
    if y2 = (0 : Int32) then (
      some ((-1 : Int32), μ)
    ) else (
      (f_X9_in μ (a3) ((0 : Int32)) ((2 : Int32))).bind fun y3 =>
      if y3 = (0 : Int32) then (
        some ((-1 : Int32), μ)
      ) else (
        (f_X9_lays μ (a2)).bind fun m5 =>
        (ldA m5 195 7 (a1)).bind fun y6 =>
        if (0 : Int32) ≤ y6 then (
          (ldA m5 188 49 ((0 : Int32))).bind fun y7 =>
          (iter gFU (f_X9_surest_b56 m5 (a1) (a2) (a3)) (((-9 : Int32)), ((y7 - (1 : Int32))))).bind fun z31 =>
          if a3 = (0 : Int32) then (
            (ldA m5 195 7 (a1)).bind fun y34 =>
            (dvI (y34) ((1000 : Int32))).bind fun y35 =>
            some (y35, m5)
          ) else (
            if a3 = (1 : Int32) then (
              (ldA m5 195 7 (a1)).bind fun y32 =>
              (rmI (y32) ((1000 : Int32))).bind fun y33 =>
              some (y33, m5)
            ) else (
              some (z31, m5)
            )
          )
        ) else (
          some ((-9 : Int32), m5)
        )
      )
    )
  )
set_option maxRecDepth 100000 in
set_option maxHeartbeats 4000000 in
theorem k_X9_surest {l : Launch} {D : va_G} {cy : Nat → ClassId} {base : Nat} (μ : Mem) (a1 : Int32) (a2 : Int32) (a3 : Int32)  {out : Int32 × Mem} (hS : f_X9_surest μ a1 a2 a3 = some out) : gC l D cy base yX9_surest cX9_surest 8 (some .int) 2 [.ref (base + 186), .int (a1), .int (a2), .int (a3)] μ (some (.int out.1)) out.2 := by
  refine gC_of (own := RX9) (lv0 := [(0, .ref (base + 186)), (1, .int (a1)), (2, .int (a2)), (3, .int (a3))]) rfl (by decide) (Nat.le_of_ble_eq_true rfl) rfl ?_
  unfold f_X9_surest at hS
  refine g_iload_n (j := 1) (x := a1) dX9_surest_0 rfl rfl ?_
  obtain ⟨y1, ey1, hS⟩ := ob hS
  refine gs_callSi (As := [.int (a1)]) (st := []) (k_X9_isFloor μ (a1)  ey1) cl_RX9_144 sv_X9_isFloor ⟨by decide, by decide⟩ (Nat.le_of_ble_eq_true rfl) ⟨Nat.zero_le _, Nat.zero_le _⟩ rfl dX9_surest_1 rfl ?_
  refine g_if_eq 23 dX9_surest_4 (by decide) (fun hc => ?_) (fun hc => ?_)
  · replace hS := (if_pos hc).symm.trans hS
    refine g_iconst (v := -1) dX9_surest_23 (by decide) ?_
    obtain rfl := Option.some.inj hS
    exact g_iret rfl dX9_surest_24
  · replace hS := (if_neg hc).symm.trans hS
    refine g_iload_n (j := 2) (x := a2) dX9_surest_7 rfl rfl ?_
    obtain ⟨y2, ey2, hS⟩ := ob hS
    refine gs_callSi (As := [.int (a2)]) (st := []) (k_X9_isFloor μ (a2)  ey2) cl_RX9_144 sv_X9_isFloor ⟨by decide, by decide⟩ (Nat.le_of_ble_eq_true rfl) ⟨Nat.zero_le _, Nat.zero_le _⟩ rfl dX9_surest_8 rfl ?_
    refine g_if_eq 23 dX9_surest_11 (by decide) (fun hc => ?_) (fun hc => ?_)
    · replace hS := (if_pos hc).symm.trans hS
      refine g_iconst (v := -1) dX9_surest_23 (by decide) ?_
      obtain rfl := Option.some.inj hS
      exact g_iret rfl dX9_surest_24
    · replace hS := (if_neg hc).symm.trans hS
      refine g_iload_n (j := 3) (x := a3) dX9_surest_14 rfl rfl ?_
      refine g_iconst (v := 0) dX9_surest_15 (by decide) ?_
      refine g_iconst (v := 2) dX9_surest_16 (by decide) ?_
      obtain ⟨y3, ey3, hS⟩ := ob hS
      refine gs_callSi (As := [.int (a3), .int ((0 : Int32)), .int ((2 : Int32))]) (st := []) (k_X9_in μ (a3) ((0 : Int32)) ((2 : Int32))  ey3) cl_RX9_54 sv_X9_in ⟨by decide, by decide⟩ (Nat.le_of_ble_eq_true rfl) ⟨Nat.zero_le _, Nat.zero_le _⟩ rfl dX9_surest_17 rfl ?_
      refine g_if_ne 25 dX9_surest_20 (by decide) (fun hc => ?_) (fun hc => ?_)
      · replace hS := (if_neg hc).symm.trans hS
        refine g_aload_n (j := 0) (x := base + 186) dX9_surest_25 rfl rfl ?_
        refine g_iload_n (j := 2) (x := a2) dX9_surest_26 rfl rfl ?_
        obtain ⟨m5, em5, hS⟩ := ob hS
        refine gs_callVv (As := [.int (a2)]) (st := []) (kr := 186) (k_X9_lays μ (a2)  em5) cl_RX9_147 sv_X9_lays ckk_X9_lays (tk_186 _) ⟨by decide, by decide⟩ (Nat.le_of_ble_eq_true rfl) ⟨Nat.zero_le _, Nat.zero_le _⟩ rfl dX9_surest_27 rfl ?_
        refine g_aload_n (j := 0) (x := base + 186) dX9_surest_30 rfl rfl ?_
        refine gs_getR (r := 195) lk_RX9_35 (tk_186 _) rfl dX9_surest_31 ?_
        refine g_iload_n (j := 1) (x := a1) dX9_surest_34 rfl rfl ?_
        obtain ⟨y6, ey6, hS⟩ := ob hS
        refine gs_iald (tk_195 _) dX9_surest_35 ey6 ?_
        refine g_if_ge 42 dX9_surest_36 (by decide) (fun hc => ?_) (fun hc => ?_)
        · replace hS := (if_pos hc).symm.trans hS
          refine g_bipush (v := -9) dX9_surest_42 (by decide) ?_
          refine g_istore (lvx := [(4, .int ((-9 : Int32))), (0, .ref (base + 186)), (1, .int (a1)), (2, .int (a2)), (3, .int (a3))]) dX9_surest_44 (by decide) rfl ?_
          refine g_aload_n (j := 1) (x := base + 186) dX9_surest_46 rfl rfl ?_
          refine gs_getR (r := 188) lk_RX9_13 (tk_186 _) rfl dX9_surest_47 ?_
          refine g_iconst (v := 0) dX9_surest_50 (by decide) ?_
          obtain ⟨y7, ey7, hS⟩ := ob hS
          refine gs_iald (tk_188 _) dX9_surest_51 ey7 ?_
          refine g_iconst (v := 1) dX9_surest_52 (by decide) ?_
          refine g_isub dX9_surest_53 ?_
          refine g_istore (lvx := [(5, .int ((y7 - (1 : Int32)))), (4, .int ((-9 : Int32))), (0, .ref (base + 186)), (1, .int (a1)), (2, .int (a2)), (3, .int (a3))]) dX9_surest_54 (by decide) rfl ?_
          obtain ⟨z31, ez31, hS⟩ := ob hS
          refine g_sub (lvx := [(0, .ref (base + 186)), (1, .int (a1)), (2, .int (a2)), (3, .int (a3)), (4, .int ((-9 : Int32))), (5, .int ((y7 - (1 : Int32))))]) [2, 3, 4, 5, 1, 0] rfl ?_
          refine iter_ind (fun vv => G l D cy base RX9 cX9_surest 8 (some .int) (gRm 2) (gXm yX9_surest) (gZm D cy base 0 0 (some (.int out.1)) gNN (gH cy base out.2)) 56 [(0, .ref (base + 186)), (1, .int (a1)), (2, .int (a2)), (3, .int (a3)), (4, .int (vv.1)), (5, .int (vv.2))] [] 0 0 gNN (gH cy base m5)) (fun xx => G l D cy base RX9 cX9_surest 8 (some .int) (gRm 2) (gXm yX9_surest) (gZm D cy base 0 0 (some (.int out.1)) gNN (gH cy base out.2)) 140 [(0, .ref (base + 186)), (1, .int (a1)), (3, .int (a3)), (4, .int (xx))] [] 0 0 gNN (gH cy base m5)) (fun vv rr hh hin hout => k_X9_surest_b56 m5 (a1) (a2) (a3)  vv rr hh hin (fun xx ee => hout xx ee)) gFU (((-9 : Int32)), ((y7 - (1 : Int32)))) z31 ez31 ?_
          show G l D cy base RX9 cX9_surest 8 (some .int) (gRm 2) (gXm yX9_surest) (gZm D cy base 0 0 (some (.int out.1)) gNN (gH cy base out.2)) 140 [(0, .ref (base + 186)), (1, .int (a1)), (3, .int (a3)), (4, .int (z31))] [] 0 0 gNN (gH cy base m5)
          refine g_iload_n (j := 2) (x := a3) dX9_surest_140 rfl rfl ?_
          refine g_if_ne 157 dX9_surest_141 (by decide) (fun hc => ?_) (fun hc => ?_)
          · replace hS := (if_neg hc).symm.trans hS
            refine g_iload_n (j := 2) (x := a3) dX9_surest_157 rfl rfl ?_
            refine g_iconst (v := 1) dX9_surest_158 (by decide) ?_
            refine g_icmp_ne 175 dX9_surest_159 (by decide) (fun hc => ?_) (fun hc => ?_)
            · replace hS := (if_neg hc).symm.trans hS
              refine g_iload (j := 3) (x := z31) dX9_surest_175 rfl ?_
              obtain rfl := Option.some.inj hS
              exact g_iret rfl dX9_surest_177
            · replace hS := (if_pos hc).symm.trans hS
              refine g_aload_n (j := 0) (x := base + 186) dX9_surest_162 rfl rfl ?_
              refine gs_getR (r := 195) lk_RX9_35 (tk_186 _) rfl dX9_surest_163 ?_
              refine g_iload_n (j := 1) (x := a1) dX9_surest_166 rfl rfl ?_
              obtain ⟨y32, ey32, hS⟩ := ob hS
              refine gs_iald (tk_195 _) dX9_surest_167 ey32 ?_
              refine g_sipush (v := 1000) dX9_surest_168 (by decide) ?_
              obtain ⟨y33, ey33, hS⟩ := ob hS
              refine gs_irem dX9_surest_171 ey33 ?_
              refine g_goto 177 dX9_surest_172 (by decide) ?_
              obtain rfl := Option.some.inj hS
              exact g_iret rfl dX9_surest_177
          · replace hS := (if_pos hc).symm.trans hS
            refine g_aload_n (j := 0) (x := base + 186) dX9_surest_144 rfl rfl ?_
            refine gs_getR (r := 195) lk_RX9_35 (tk_186 _) rfl dX9_surest_145 ?_
            refine g_iload_n (j := 1) (x := a1) dX9_surest_148 rfl rfl ?_
            obtain ⟨y34, ey34, hS⟩ := ob hS
            refine gs_iald (tk_195 _) dX9_surest_149 ey34 ?_
            refine g_sipush (v := 1000) dX9_surest_150 (by decide) ?_
            obtain ⟨y35, ey35, hS⟩ := ob hS
            refine gs_idiv dX9_surest_153 ey35 ?_
            refine g_goto 177 dX9_surest_154 (by decide) ?_
            obtain rfl := Option.some.inj hS
            exact g_iret rfl dX9_surest_177
        · replace hS := (if_neg hc).symm.trans hS
          refine g_bipush (v := -9) dX9_surest_39 (by decide) ?_
          obtain rfl := Option.some.inj hS
          exact g_iret rfl dX9_surest_41
      · replace hS := (if_pos hc).symm.trans hS
        refine g_iconst (v := -1) dX9_surest_23 (by decide) ?_
        obtain rfl := Option.some.inj hS
        exact g_iret rfl dX9_surest_24
def f_X9_isWay_j81 (m7 : Mem) (x4 : Int32) (x5 : Int32) (x6 : Int32) (x15 : Int32) (x16 : Int32) (x17 : Int32) (x18 : Int32) (x19 : Int32) : Option ((Int32 × Int32) ⊕ ((Int32))) :=
  if x19 = (0 : Int32) then (
    some (.inl (((x15 ||| (0 : Int32))), ((x16 + (1 : Int32)))))
  ) else (
    some (.inl (((x15 ||| (((1 : Int32) <<< (x17 &&& 31)) ||| ((1 : Int32) <<< (x18 &&& 31))))), ((x16 + (1 : Int32)))))
  )
set_option maxRecDepth 100000 in
set_option maxHeartbeats 4000000 in
theorem k_X9_isWay_j81 {l : Launch} {D : va_G} {cy : Nat → ClassId} {base : Nat} {X : gX} {Z : gZ} (m7 : Mem) (x4 : Int32) (x5 : Int32) (x6 : Int32) (x15 : Int32) (x16 : Int32) (x17 : Int32) (x18 : Int32) (x19 : Int32)  {r : (Int32 × Int32) ⊕ ((Int32))} (hS : f_X9_isWay_j81 m7 x4 x5 x6 x15 x16 x17 x18 x19 = some r) (hin : ∀ v2, r = .inl v2 → G l D cy base RX9 cX9_isWay 10 (some .boolean) (gRm 0) X Z 18 [(0, .ref (base + 186)), (2, .int (x4)), (3, .int (x5)), (4, .int (v2.1)), (5, .int (x6)), (6, .int (v2.2))] [] 0 0 gNN (gH cy base m7)) (hout0 : ∀ x, r = .inr x → G l D cy base RX9 cX9_isWay 10 (some .boolean) (gRm 0) X Z 112 [(0, .ref (base + 186)), (2, .int (x4)), (3, .int (x5)), (4, .int (x)), (5, .int (x6))] [] 0 0 gNN (gH cy base m7)) : G l D cy base RX9 cX9_isWay 10 (some .boolean) (gRm 0) X Z 81 [(0, .ref (base + 186)), (2, .int (x4)), (3, .int (x5)), (4, .int (x15)), (5, .int (x6)), (6, .int (x16)), (7, .int (x17)), (8, .int (x18))] [.int (x19)] 0 0 gNN (gH cy base m7) := by
  unfold f_X9_isWay_j81 at hS
  refine g_istore (lvx := [(9, .int (x19)), (0, .ref (base + 186)), (2, .int (x4)), (3, .int (x5)), (4, .int (x15)), (5, .int (x6)), (6, .int (x16)), (7, .int (x17)), (8, .int (x18))]) dX9_isWay_81 (by decide) rfl ?_
  refine g_iload (j := 4) (x := x15) dX9_isWay_83 rfl ?_
  refine g_iload (j := 0) (x := x19) dX9_isWay_85 rfl ?_
  refine g_if_eq 102 dX9_isWay_87 (by decide) (fun hc => ?_) (fun hc => ?_)
  · replace hS := (if_pos hc).symm.trans hS
    refine g_iconst (v := 0) dX9_isWay_102 (by decide) ?_
    refine g_ior dX9_isWay_103 ?_
    refine g_istore (lvx := [(4, .int ((x15 ||| (0 : Int32)))), (9, .int (x19)), (0, .ref (base + 186)), (2, .int (x4)), (3, .int (x5)), (5, .int (x6)), (6, .int (x16)), (7, .int (x17)), (8, .int (x18))]) dX9_isWay_104 (by decide) rfl ?_
    refine g_iinc (j := 6) (x := x16) (v := (x16 + (1 : Int32))) (lvx := [(6, .int ((x16 + (1 : Int32)))), (4, .int ((x15 ||| (0 : Int32)))), (9, .int (x19)), (0, .ref (base + 186)), (2, .int (x4)), (3, .int (x5)), (5, .int (x6)), (7, .int (x17)), (8, .int (x18))]) dX9_isWay_106 rfl rfl (by decide) rfl ?_
    refine g_goto 18 dX9_isWay_109 (by decide) ?_
    refine g_sub (lvx := [(0, .ref (base + 186)), (2, .int (x4)), (3, .int (x5)), (4, .int ((x15 ||| (0 : Int32)))), (5, .int (x6)), (6, .int ((x16 + (1 : Int32))))]) [3, 4, 5, 1, 6, 0] rfl ?_
    obtain rfl := Option.some.inj hS
    exact hin ((((x15 ||| (0 : Int32))), ((x16 + (1 : Int32))))) rfl
  · replace hS := (if_neg hc).symm.trans hS
    refine g_iconst (v := 1) dX9_isWay_90 (by decide) ?_
    refine g_iload (j := 7) (x := x17) dX9_isWay_91 rfl ?_
    refine g_ishl dX9_isWay_93 ?_
    refine g_iconst (v := 1) dX9_isWay_94 (by decide) ?_
    refine g_iload (j := 8) (x := x18) dX9_isWay_95 rfl ?_
    refine g_ishl dX9_isWay_97 ?_
    refine g_ior dX9_isWay_98 ?_
    refine g_goto 103 dX9_isWay_99 (by decide) ?_
    refine g_ior dX9_isWay_103 ?_
    refine g_istore (lvx := [(4, .int ((x15 ||| (((1 : Int32) <<< (x17 &&& 31)) ||| ((1 : Int32) <<< (x18 &&& 31)))))), (9, .int (x19)), (0, .ref (base + 186)), (2, .int (x4)), (3, .int (x5)), (5, .int (x6)), (6, .int (x16)), (7, .int (x17)), (8, .int (x18))]) dX9_isWay_104 (by decide) rfl ?_
    refine g_iinc (j := 6) (x := x16) (v := (x16 + (1 : Int32))) (lvx := [(6, .int ((x16 + (1 : Int32)))), (4, .int ((x15 ||| (((1 : Int32) <<< (x17 &&& 31)) ||| ((1 : Int32) <<< (x18 &&& 31)))))), (9, .int (x19)), (0, .ref (base + 186)), (2, .int (x4)), (3, .int (x5)), (5, .int (x6)), (7, .int (x17)), (8, .int (x18))]) dX9_isWay_106 rfl rfl (by decide) rfl ?_
    refine g_goto 18 dX9_isWay_109 (by decide) ?_
    refine g_sub (lvx := [(0, .ref (base + 186)), (2, .int (x4)), (3, .int (x5)), (4, .int ((x15 ||| (((1 : Int32) <<< (x17 &&& 31)) ||| ((1 : Int32) <<< (x18 &&& 31)))))), (5, .int (x6)), (6, .int ((x16 + (1 : Int32))))]) [3, 4, 5, 1, 6, 0] rfl ?_
    obtain rfl := Option.some.inj hS
    exact hin ((((x15 ||| (((1 : Int32) <<< (x17 &&& 31)) ||| ((1 : Int32) <<< (x18 &&& 31))))), ((x16 + (1 : Int32))))) rfl
def f_X9_isWay_j80 (m7 : Mem) (x4 : Int32) (x5 : Int32) (x6 : Int32) (x11 : Int32) (x12 : Int32) (x13 : Int32) (x14 : Int32) : Option ((Int32 × Int32) ⊕ ((Int32))) :=
  f_X9_isWay_j81 m7 x4 x5 x6 (x11) (x12) (x13) (x14) ((0 : Int32))
set_option maxRecDepth 100000 in
set_option maxHeartbeats 4000000 in
theorem k_X9_isWay_j80 {l : Launch} {D : va_G} {cy : Nat → ClassId} {base : Nat} {X : gX} {Z : gZ} (m7 : Mem) (x4 : Int32) (x5 : Int32) (x6 : Int32) (x11 : Int32) (x12 : Int32) (x13 : Int32) (x14 : Int32)  {r : (Int32 × Int32) ⊕ ((Int32))} (hS : f_X9_isWay_j80 m7 x4 x5 x6 x11 x12 x13 x14 = some r) (hin : ∀ v2, r = .inl v2 → G l D cy base RX9 cX9_isWay 10 (some .boolean) (gRm 0) X Z 18 [(0, .ref (base + 186)), (2, .int (x4)), (3, .int (x5)), (4, .int (v2.1)), (5, .int (x6)), (6, .int (v2.2))] [] 0 0 gNN (gH cy base m7)) (hout0 : ∀ x, r = .inr x → G l D cy base RX9 cX9_isWay 10 (some .boolean) (gRm 0) X Z 112 [(0, .ref (base + 186)), (2, .int (x4)), (3, .int (x5)), (4, .int (x)), (5, .int (x6))] [] 0 0 gNN (gH cy base m7)) : G l D cy base RX9 cX9_isWay 10 (some .boolean) (gRm 0) X Z 80 [(0, .ref (base + 186)), (2, .int (x4)), (3, .int (x5)), (4, .int (x11)), (5, .int (x6)), (6, .int (x12)), (7, .int (x13)), (8, .int (x14))] [] 0 0 gNN (gH cy base m7) := by
  unfold f_X9_isWay_j80 at hS
  refine g_iconst (v := 0) dX9_isWay_80 (by decide) ?_
  exact k_X9_isWay_j81 (m7) x4 x5 x6 (x11) (x12) (x13) (x14) ((0 : Int32))  hS hin hout0
def f_X9_isWay_b18 (m7 : Mem) (x4 : Int32) (x5 : Int32) (x6 : Int32) (v : Int32 × Int32) : Option ((Int32 × Int32) ⊕ ((Int32))) :=
  (ldA m7 188 49 ((0 : Int32))).bind fun y8 =>
  if y8 ≤ v.2 then (
    some (.inr (v.1))
  ) else (
    (ldA m7 188 49 (((6 : Int32) + v.2))).bind fun y9 =>
    (ldA m7 188 49 (((13 : Int32) + v.2))).bind fun y10 =>
    if v.2 = x5 then (
      f_X9_isWay_j80 m7 x4 x5 x6 (v.1) (v.2) (y9) (y10)
    ) else (
      if (((v.1 >>> (y9 &&& 31)) ||| (v.1 >>> (y10 &&& 31))) &&& (1 : Int32)) = (1 : Int32) then (
        f_X9_isWay_j81 m7 x4 x5 x6 (v.1) (v.2) (y9) (y10) ((1 : Int32))
      ) else (
        f_X9_isWay_j80 m7 x4 x5 x6 (v.1) (v.2) (y9) (y10)
      )
    )
  )
set_option maxRecDepth 100000 in
set_option maxHeartbeats 4000000 in
theorem k_X9_isWay_b18 {l : Launch} {D : va_G} {cy : Nat → ClassId} {base : Nat} {X : gX} {Z : gZ} (m7 : Mem) (x4 : Int32) (x5 : Int32) (x6 : Int32)  (v : Int32 × Int32) (r : (Int32 × Int32) ⊕ ((Int32))) (hS : f_X9_isWay_b18 m7 x4 x5 x6 v = some r) (hin : ∀ v2, r = .inl v2 → G l D cy base RX9 cX9_isWay 10 (some .boolean) (gRm 0) X Z 18 [(0, .ref (base + 186)), (2, .int (x4)), (3, .int (x5)), (4, .int (v2.1)), (5, .int (x6)), (6, .int (v2.2))] [] 0 0 gNN (gH cy base m7)) (hout0 : ∀ x, r = .inr x → G l D cy base RX9 cX9_isWay 10 (some .boolean) (gRm 0) X Z 112 [(0, .ref (base + 186)), (2, .int (x4)), (3, .int (x5)), (4, .int (x)), (5, .int (x6))] [] 0 0 gNN (gH cy base m7)) : G l D cy base RX9 cX9_isWay 10 (some .boolean) (gRm 0) X Z 18 [(0, .ref (base + 186)), (2, .int (x4)), (3, .int (x5)), (4, .int (v.1)), (5, .int (x6)), (6, .int (v.2))] [] 0 0 gNN (gH cy base m7) := by
  unfold f_X9_isWay_b18 at hS
  refine g_iload (j := 5) (x := v.2) dX9_isWay_18 rfl ?_
  refine g_aload_n (j := 0) (x := base + 186) dX9_isWay_20 rfl rfl ?_
  refine gs_getR (r := 188) lk_RX9_13 (tk_186 _) rfl dX9_isWay_21 ?_
  refine g_iconst (v := 0) dX9_isWay_24 (by decide) ?_
  obtain ⟨y8, ey8, hS⟩ := ob hS
  refine gs_iald (tk_188 _) dX9_isWay_25 ey8 ?_
  refine g_icmp_ge 112 dX9_isWay_26 (by decide) (fun hc => ?_) (fun hc => ?_)
  · replace hS := (if_pos hc).symm.trans hS
    refine g_sub (lvx := [(0, .ref (base + 186)), (2, .int (x4)), (3, .int (x5)), (4, .int (v.1)), (5, .int (x6))]) [0, 1, 2, 3, 4] rfl ?_
    obtain rfl := Option.some.inj hS
    exact hout0 ((v.1)) rfl
  · replace hS := (if_neg hc).symm.trans hS
    refine g_aload_n (j := 0) (x := base + 186) dX9_isWay_29 rfl rfl ?_
    refine gs_getR (r := 188) lk_RX9_13 (tk_186 _) rfl dX9_isWay_30 ?_
    refine g_bipush (v := 6) dX9_isWay_33 (by decide) ?_
    refine g_iload (j := 5) (x := v.2) dX9_isWay_35 rfl ?_
    refine g_iadd dX9_isWay_37 ?_
    obtain ⟨y9, ey9, hS⟩ := ob hS
    refine gs_iald (tk_188 _) dX9_isWay_38 ey9 ?_
    refine g_istore (lvx := [(7, .int (y9)), (0, .ref (base + 186)), (2, .int (x4)), (3, .int (x5)), (4, .int (v.1)), (5, .int (x6)), (6, .int (v.2))]) dX9_isWay_39 (by decide) rfl ?_
    refine g_aload_n (j := 1) (x := base + 186) dX9_isWay_41 rfl rfl ?_
    refine gs_getR (r := 188) lk_RX9_13 (tk_186 _) rfl dX9_isWay_42 ?_
    refine g_bipush (v := 13) dX9_isWay_45 (by decide) ?_
    refine g_iload (j := 6) (x := v.2) dX9_isWay_47 rfl ?_
    refine g_iadd dX9_isWay_49 ?_
    obtain ⟨y10, ey10, hS⟩ := ob hS
    refine gs_iald (tk_188 _) dX9_isWay_50 ey10 ?_
    refine g_istore (lvx := [(8, .int (y10)), (7, .int (y9)), (0, .ref (base + 186)), (2, .int (x4)), (3, .int (x5)), (4, .int (v.1)), (5, .int (x6)), (6, .int (v.2))]) dX9_isWay_51 (by decide) rfl ?_
    refine g_iload (j := 7) (x := v.2) dX9_isWay_53 rfl ?_
    refine g_iload_n (j := 4) (x := x5) dX9_isWay_55 rfl rfl ?_
    refine g_icmp_eq 80 dX9_isWay_56 (by decide) (fun hc => ?_) (fun hc => ?_)
    · replace hS := (if_pos hc).symm.trans hS
      refine g_sub (lvx := [(0, .ref (base + 186)), (2, .int (x4)), (3, .int (x5)), (4, .int (v.1)), (5, .int (x6)), (6, .int (v.2)), (7, .int (y9)), (8, .int (y10))]) [2, 3, 4, 5, 6, 7, 1, 0] rfl ?_
      exact k_X9_isWay_j80 (m7) x4 x5 x6 (v.1) (v.2) (y9) (y10)  hS hin hout0
    · replace hS := (if_neg hc).symm.trans hS
      refine g_iload (j := 5) (x := v.1) dX9_isWay_59 rfl ?_
      refine g_iload (j := 1) (x := y9) dX9_isWay_61 rfl ?_
      refine g_ishr dX9_isWay_63 ?_
      refine g_iload (j := 5) (x := v.1) dX9_isWay_64 rfl ?_
      refine g_iload (j := 0) (x := y10) dX9_isWay_66 rfl ?_
      refine g_ishr dX9_isWay_68 ?_
      refine g_ior dX9_isWay_69 ?_
      refine g_iconst (v := 1) dX9_isWay_70 (by decide) ?_
      refine g_iand dX9_isWay_71 ?_
      refine g_iconst (v := 1) dX9_isWay_72 (by decide) ?_
      refine g_icmp_ne 80 dX9_isWay_73 (by decide) (fun hc => ?_) (fun hc => ?_)
      · replace hS := (if_neg hc).symm.trans hS
        refine g_sub (lvx := [(0, .ref (base + 186)), (2, .int (x4)), (3, .int (x5)), (4, .int (v.1)), (5, .int (x6)), (6, .int (v.2)), (7, .int (y9)), (8, .int (y10))]) [2, 3, 4, 5, 6, 7, 1, 0] rfl ?_
        exact k_X9_isWay_j80 (m7) x4 x5 x6 (v.1) (v.2) (y9) (y10)  hS hin hout0
      · replace hS := (if_pos hc).symm.trans hS
        refine g_iconst (v := 1) dX9_isWay_76 (by decide) ?_
        refine g_goto 81 dX9_isWay_77 (by decide) ?_
        refine g_sub (lvx := [(0, .ref (base + 186)), (2, .int (x4)), (3, .int (x5)), (4, .int (v.1)), (5, .int (x6)), (6, .int (v.2)), (7, .int (y9)), (8, .int (y10))]) [2, 3, 4, 5, 6, 7, 1, 0] rfl ?_
        exact k_X9_isWay_j81 (m7) x4 x5 x6 (v.1) (v.2) (y9) (y10) ((1 : Int32))  hS hin hout0
def f_X9_isWay_b8 (m3 : Mem) (x1 : Int32) (x2 : Int32) (v : Int32 × Int32) : Option ((Int32 × Int32) ⊕ ((Int32))) :=
  if (7 : Int32) ≤ v.2 then (
    some (.inr (v.1))
  ) else (
    (iter gFU (f_X9_isWay_b18 m3 (x1) (x2) (v.2)) ((v.1), ((0 : Int32)))).bind fun z29 =>
    some (.inl ((z29), ((v.2 + (1 : Int32)))))
  )
set_option maxRecDepth 100000 in
set_option maxHeartbeats 4000000 in
theorem k_X9_isWay_b8 {l : Launch} {D : va_G} {cy : Nat → ClassId} {base : Nat} {X : gX} {Z : gZ} (m3 : Mem) (x1 : Int32) (x2 : Int32)  (v : Int32 × Int32) (r : (Int32 × Int32) ⊕ ((Int32))) (hS : f_X9_isWay_b8 m3 x1 x2 v = some r) (hin : ∀ v2, r = .inl v2 → G l D cy base RX9 cX9_isWay 10 (some .boolean) (gRm 0) X Z 8 [(0, .ref (base + 186)), (2, .int (x1)), (3, .int (x2)), (4, .int (v2.1)), (5, .int (v2.2))] [] 0 0 gNN (gH cy base m3)) (hout0 : ∀ x, r = .inr x → G l D cy base RX9 cX9_isWay 10 (some .boolean) (gRm 0) X Z 118 [(2, .int (x1)), (4, .int (x))] [] 0 0 gNN (gH cy base m3)) : G l D cy base RX9 cX9_isWay 10 (some .boolean) (gRm 0) X Z 8 [(0, .ref (base + 186)), (2, .int (x1)), (3, .int (x2)), (4, .int (v.1)), (5, .int (v.2))] [] 0 0 gNN (gH cy base m3) := by
  unfold f_X9_isWay_b8 at hS
  refine g_iload (j := 4) (x := v.2) dX9_isWay_8 rfl ?_
  refine g_bipush (v := 7) dX9_isWay_10 (by decide) ?_
  refine g_icmp_ge 118 dX9_isWay_12 (by decide) (fun hc => ?_) (fun hc => ?_)
  · replace hS := (if_pos hc).symm.trans hS
    refine g_sub (lvx := [(2, .int (x1)), (4, .int (v.1))]) [1, 3] rfl ?_
    obtain rfl := Option.some.inj hS
    exact hout0 ((v.1)) rfl
  · replace hS := (if_neg hc).symm.trans hS
    refine g_iconst (v := 0) dX9_isWay_15 (by decide) ?_
    refine g_istore (lvx := [(6, .int ((0 : Int32))), (0, .ref (base + 186)), (2, .int (x1)), (3, .int (x2)), (4, .int (v.1)), (5, .int (v.2))]) dX9_isWay_16 (by decide) rfl ?_
    obtain ⟨z29, ez29, hS⟩ := ob hS
    refine g_sub (lvx := [(0, .ref (base + 186)), (2, .int (x1)), (3, .int (x2)), (4, .int (v.1)), (5, .int (v.2)), (6, .int ((0 : Int32)))]) [1, 2, 3, 4, 5, 0] rfl ?_
    refine iter_ind (fun vv => G l D cy base RX9 cX9_isWay 10 (some .boolean) (gRm 0) X Z 18 [(0, .ref (base + 186)), (2, .int (x1)), (3, .int (x2)), (4, .int (vv.1)), (5, .int (v.2)), (6, .int (vv.2))] [] 0 0 gNN (gH cy base m3)) (fun xx => G l D cy base RX9 cX9_isWay 10 (some .boolean) (gRm 0) X Z 112 [(0, .ref (base + 186)), (2, .int (x1)), (3, .int (x2)), (4, .int (xx)), (5, .int (v.2))] [] 0 0 gNN (gH cy base m3)) (fun vv rr hh hin hout => k_X9_isWay_b18 m3 (x1) (x2) (v.2)  vv rr hh hin (fun xx ee => hout xx ee)) gFU ((v.1), ((0 : Int32))) z29 ez29 ?_
    show G l D cy base RX9 cX9_isWay 10 (some .boolean) (gRm 0) X Z 112 [(0, .ref (base + 186)), (2, .int (x1)), (3, .int (x2)), (4, .int (z29)), (5, .int (v.2))] [] 0 0 gNN (gH cy base m3)
    refine g_iinc (j := 4) (x := v.2) (v := (v.2 + (1 : Int32))) (lvx := [(5, .int ((v.2 + (1 : Int32)))), (0, .ref (base + 186)), (2, .int (x1)), (3, .int (x2)), (4, .int (z29))]) dX9_isWay_112 rfl rfl (by decide) rfl ?_
    refine g_goto 8 dX9_isWay_115 (by decide) ?_
    refine g_sub (lvx := [(0, .ref (base + 186)), (2, .int (x1)), (3, .int (x2)), (4, .int (z29)), (5, .int ((v.2 + (1 : Int32))))]) [1, 2, 3, 4, 0] rfl ?_
    obtain rfl := Option.some.inj hS
    exact hin (((z29), ((v.2 + (1 : Int32))))) rfl
def f_X9_isWay (μ : Mem) (a1 : Int32) (a2 : Int32) (a3 : Int32) : Option (Int32) :=
  (iter gFU (f_X9_isWay_b8 μ (a2) (a3)) ((((1 : Int32) <<< (a1 &&& 31))), ((0 : Int32)))).bind fun z30 =>
  if ((z30 >>> (a2 &&& 31)) &&& (1 : Int32)) = (1 : Int32) then (
    some (1 : Int32)
  ) else (
    some (0 : Int32)
  )
set_option maxRecDepth 100000 in
set_option maxHeartbeats 4000000 in
theorem k_X9_isWay {l : Launch} {D : va_G} {cy : Nat → ClassId} {base : Nat} (μ : Mem) (a1 : Int32) (a2 : Int32) (a3 : Int32)  {out : Int32} (hS : f_X9_isWay μ a1 a2 a3 = some out) : gC l D cy base yX9_isWay cX9_isWay 10 (some .boolean) 0 [.ref (base + 186), .int (a1), .int (a2), .int (a3)] μ (some (.int out)) μ := by
  refine gC_of (own := RX9) (lv0 := [(0, .ref (base + 186)), (1, .int (a1)), (2, .int (a2)), (3, .int (a3))]) rfl (by decide) (Nat.le_of_ble_eq_true rfl) rfl ?_
  unfold f_X9_isWay at hS
  refine g_iconst (v := 1) dX9_isWay_0 (by decide) ?_
  refine g_iload_n (j := 1) (x := a1) dX9_isWay_1 rfl rfl ?_
  refine g_ishl dX9_isWay_2 ?_
  refine g_istore (lvx := [(4, .int (((1 : Int32) <<< (a1 &&& 31)))), (0, .ref (base + 186)), (1, .int (a1)), (2, .int (a2)), (3, .int (a3))]) dX9_isWay_3 (by decide) rfl ?_
  refine g_iconst (v := 0) dX9_isWay_5 (by decide) ?_
  refine g_istore (lvx := [(5, .int ((0 : Int32))), (4, .int (((1 : Int32) <<< (a1 &&& 31)))), (0, .ref (base + 186)), (1, .int (a1)), (2, .int (a2)), (3, .int (a3))]) dX9_isWay_6 (by decide) rfl ?_
  obtain ⟨z30, ez30, hS⟩ := ob hS
  refine g_sub (lvx := [(0, .ref (base + 186)), (2, .int (a2)), (3, .int (a3)), (4, .int (((1 : Int32) <<< (a1 &&& 31)))), (5, .int ((0 : Int32)))]) [2, 4, 5, 1, 0] rfl ?_
  refine iter_ind (fun vv => G l D cy base RX9 cX9_isWay 10 (some .boolean) (gRm 0) (gXm yX9_isWay) (gZm D cy base 0 0 (some (.int out)) gNN (gH cy base μ)) 8 [(0, .ref (base + 186)), (2, .int (a2)), (3, .int (a3)), (4, .int (vv.1)), (5, .int (vv.2))] [] 0 0 gNN (gH cy base μ)) (fun xx => G l D cy base RX9 cX9_isWay 10 (some .boolean) (gRm 0) (gXm yX9_isWay) (gZm D cy base 0 0 (some (.int out)) gNN (gH cy base μ)) 118 [(2, .int (a2)), (4, .int (xx))] [] 0 0 gNN (gH cy base μ)) (fun vv rr hh hin hout => k_X9_isWay_b8 μ (a2) (a3)  vv rr hh hin (fun xx ee => hout xx ee)) gFU ((((1 : Int32) <<< (a1 &&& 31))), ((0 : Int32))) z30 ez30 ?_
  show G l D cy base RX9 cX9_isWay 10 (some .boolean) (gRm 0) (gXm yX9_isWay) (gZm D cy base 0 0 (some (.int out)) gNN (gH cy base μ)) 118 [(2, .int (a2)), (4, .int (z30))] [] 0 0 gNN (gH cy base μ)
  refine g_iload (j := 1) (x := z30) dX9_isWay_118 rfl ?_
  refine g_iload_n (j := 0) (x := a2) dX9_isWay_120 rfl rfl ?_
  refine g_ishr dX9_isWay_121 ?_
  refine g_iconst (v := 1) dX9_isWay_122 (by decide) ?_
  refine g_iand dX9_isWay_123 ?_
  refine g_iconst (v := 1) dX9_isWay_124 (by decide) ?_
  refine g_icmp_ne 132 dX9_isWay_125 (by decide) (fun hc => ?_) (fun hc => ?_)
  · replace hS := (if_neg hc).symm.trans hS
    refine g_iconst (v := 0) dX9_isWay_132 (by decide) ?_
    obtain rfl := Option.some.inj hS
    exact g_zret (v := (0 : Int32)) rfl rfl dX9_isWay_133
  · replace hS := (if_pos hc).symm.trans hS
    refine g_iconst (v := 1) dX9_isWay_128 (by decide) ?_
    refine g_goto 133 dX9_isWay_129 (by decide) ?_
    obtain rfl := Option.some.inj hS
    exact g_zret (v := (1 : Int32)) rfl rfl dX9_isWay_133
def f_X9_bars_b21 (m5 : Mem) (x3 : Int32) (x4 : Int32) (v : Int32 × Int32) : Option ((Int32 × Int32) ⊕ ((Int32))) :=
  (ldA m5 188 49 ((0 : Int32))).bind fun y6 =>
  if y6 ≤ v.2 then (
    some (.inr (v.1))
  ) else (
    (f_X9_isWay m5 (x3) (x4) ((-1 : Int32))).bind fun y7 =>
    if y7 = (0 : Int32) then (
      some (.inl (((v.1 ||| (0 : Int32))), ((v.2 + (1 : Int32)))))
    ) else (
      (f_X9_isWay m5 (x3) (x4) (v.2)).bind fun y8 =>
      if y8 = (0 : Int32) then (
        some (.inl (((v.1 ||| ((1 : Int32) <<< (v.2 &&& 31)))), ((v.2 + (1 : Int32)))))
      ) else (
        some (.inl (((v.1 ||| (0 : Int32))), ((v.2 + (1 : Int32)))))
      )
    )
  )
set_option maxRecDepth 100000 in
set_option maxHeartbeats 4000000 in
theorem k_X9_bars_b21 {l : Launch} {D : va_G} {cy : Nat → ClassId} {base : Nat} {X : gX} {Z : gZ} (m5 : Mem) (x3 : Int32) (x4 : Int32)  (v : Int32 × Int32) (r : (Int32 × Int32) ⊕ ((Int32))) (hS : f_X9_bars_b21 m5 x3 x4 v = some r) (hin : ∀ v2, r = .inl v2 → G l D cy base RX9 cX9_bars 5 (some .int) (gRm 2) X Z 21 [(0, .ref (base + 186)), (1, .int (x3)), (2, .int (x4)), (3, .int (v2.1)), (4, .int (v2.2))] [] 0 0 gNN (gH cy base m5)) (hout0 : ∀ x, r = .inr x → G l D cy base RX9 cX9_bars 5 (some .int) (gRm 2) X Z 70 [(3, .int (x))] [] 0 0 gNN (gH cy base m5)) : G l D cy base RX9 cX9_bars 5 (some .int) (gRm 2) X Z 21 [(0, .ref (base + 186)), (1, .int (x3)), (2, .int (x4)), (3, .int (v.1)), (4, .int (v.2))] [] 0 0 gNN (gH cy base m5) := by
  unfold f_X9_bars_b21 at hS
  refine g_iload (j := 4) (x := v.2) dX9_bars_21 rfl ?_
  refine g_aload_n (j := 0) (x := base + 186) dX9_bars_23 rfl rfl ?_
  refine gs_getR (r := 188) lk_RX9_13 (tk_186 _) rfl dX9_bars_24 ?_
  refine g_iconst (v := 0) dX9_bars_27 (by decide) ?_
  obtain ⟨y6, ey6, hS⟩ := ob hS
  refine gs_iald (tk_188 _) dX9_bars_28 ey6 ?_
  refine g_icmp_ge 70 dX9_bars_29 (by decide) (fun hc => ?_) (fun hc => ?_)
  · replace hS := (if_pos hc).symm.trans hS
    refine g_sub (lvx := [(3, .int (v.1))]) [3] rfl ?_
    obtain rfl := Option.some.inj hS
    exact hout0 ((v.1)) rfl
  · replace hS := (if_neg hc).symm.trans hS
    refine g_iload_n (j := 3) (x := v.1) dX9_bars_32 rfl rfl ?_
    refine g_aload_n (j := 0) (x := base + 186) dX9_bars_33 rfl rfl ?_
    refine g_iload_n (j := 1) (x := x3) dX9_bars_34 rfl rfl ?_
    refine g_iload_n (j := 2) (x := x4) dX9_bars_35 rfl rfl ?_
    refine g_iconst (v := -1) dX9_bars_36 (by decide) ?_
    obtain ⟨y7, ey7, hS⟩ := ob hS
    refine gs_callVi (As := [.int (x3), .int (x4), .int ((-1 : Int32))]) (st := [.int (v.1)]) (kr := 186) (k_X9_isWay m5 (x3) (x4) ((-1 : Int32))  ey7) cl_RX9_154 sv_X9_isWay ckk_X9_isWay (tk_186 _) ⟨by decide, by decide⟩ (Nat.le_of_ble_eq_true rfl) ⟨Nat.zero_le _, Nat.zero_le _⟩ rfl dX9_bars_37 rfl ?_
    refine g_if_eq 61 dX9_bars_40 (by decide) (fun hc => ?_) (fun hc => ?_)
    · replace hS := (if_pos hc).symm.trans hS
      refine g_iconst (v := 0) dX9_bars_61 (by decide) ?_
      refine g_ior dX9_bars_62 ?_
      refine g_istore_n (lvx := [(3, .int ((v.1 ||| (0 : Int32)))), (0, .ref (base + 186)), (1, .int (x3)), (2, .int (x4)), (4, .int (v.2))]) dX9_bars_63 rfl (by decide) rfl ?_
      refine g_iinc (j := 4) (x := v.2) (v := (v.2 + (1 : Int32))) (lvx := [(4, .int ((v.2 + (1 : Int32)))), (3, .int ((v.1 ||| (0 : Int32)))), (0, .ref (base + 186)), (1, .int (x3)), (2, .int (x4))]) dX9_bars_64 rfl rfl (by decide) rfl ?_
      refine g_goto 21 dX9_bars_67 (by decide) ?_
      refine g_sub (lvx := [(0, .ref (base + 186)), (1, .int (x3)), (2, .int (x4)), (3, .int ((v.1 ||| (0 : Int32)))), (4, .int ((v.2 + (1 : Int32))))]) [2, 3, 4, 1, 0] rfl ?_
      obtain rfl := Option.some.inj hS
      exact hin ((((v.1 ||| (0 : Int32))), ((v.2 + (1 : Int32))))) rfl
    · replace hS := (if_neg hc).symm.trans hS
      refine g_aload_n (j := 0) (x := base + 186) dX9_bars_43 rfl rfl ?_
      refine g_iload_n (j := 1) (x := x3) dX9_bars_44 rfl rfl ?_
      refine g_iload_n (j := 2) (x := x4) dX9_bars_45 rfl rfl ?_
      refine g_iload (j := 4) (x := v.2) dX9_bars_46 rfl ?_
      obtain ⟨y8, ey8, hS⟩ := ob hS
      refine gs_callVi (As := [.int (x3), .int (x4), .int (v.2)]) (st := [.int (v.1)]) (kr := 186) (k_X9_isWay m5 (x3) (x4) (v.2)  ey8) cl_RX9_154 sv_X9_isWay ckk_X9_isWay (tk_186 _) ⟨by decide, by decide⟩ (Nat.le_of_ble_eq_true rfl) ⟨Nat.zero_le _, Nat.zero_le _⟩ rfl dX9_bars_48 rfl ?_
      refine g_if_ne 61 dX9_bars_51 (by decide) (fun hc => ?_) (fun hc => ?_)
      · replace hS := (if_neg hc).symm.trans hS
        refine g_iconst (v := 0) dX9_bars_61 (by decide) ?_
        refine g_ior dX9_bars_62 ?_
        refine g_istore_n (lvx := [(3, .int ((v.1 ||| (0 : Int32)))), (0, .ref (base + 186)), (1, .int (x3)), (2, .int (x4)), (4, .int (v.2))]) dX9_bars_63 rfl (by decide) rfl ?_
        refine g_iinc (j := 4) (x := v.2) (v := (v.2 + (1 : Int32))) (lvx := [(4, .int ((v.2 + (1 : Int32)))), (3, .int ((v.1 ||| (0 : Int32)))), (0, .ref (base + 186)), (1, .int (x3)), (2, .int (x4))]) dX9_bars_64 rfl rfl (by decide) rfl ?_
        refine g_goto 21 dX9_bars_67 (by decide) ?_
        refine g_sub (lvx := [(0, .ref (base + 186)), (1, .int (x3)), (2, .int (x4)), (3, .int ((v.1 ||| (0 : Int32)))), (4, .int ((v.2 + (1 : Int32))))]) [2, 3, 4, 1, 0] rfl ?_
        obtain rfl := Option.some.inj hS
        exact hin ((((v.1 ||| (0 : Int32))), ((v.2 + (1 : Int32))))) rfl
      · replace hS := (if_pos hc).symm.trans hS
        refine g_iconst (v := 1) dX9_bars_54 (by decide) ?_
        refine g_iload (j := 4) (x := v.2) dX9_bars_55 rfl ?_
        refine g_ishl dX9_bars_57 ?_
        refine g_goto 62 dX9_bars_58 (by decide) ?_
        refine g_ior dX9_bars_62 ?_
        refine g_istore_n (lvx := [(3, .int ((v.1 ||| ((1 : Int32) <<< (v.2 &&& 31))))), (0, .ref (base + 186)), (1, .int (x3)), (2, .int (x4)), (4, .int (v.2))]) dX9_bars_63 rfl (by decide) rfl ?_
        refine g_iinc (j := 4) (x := v.2) (v := (v.2 + (1 : Int32))) (lvx := [(4, .int ((v.2 + (1 : Int32)))), (3, .int ((v.1 ||| ((1 : Int32) <<< (v.2 &&& 31))))), (0, .ref (base + 186)), (1, .int (x3)), (2, .int (x4))]) dX9_bars_64 rfl rfl (by decide) rfl ?_
        refine g_goto 21 dX9_bars_67 (by decide) ?_
        refine g_sub (lvx := [(0, .ref (base + 186)), (1, .int (x3)), (2, .int (x4)), (3, .int ((v.1 ||| ((1 : Int32) <<< (v.2 &&& 31))))), (4, .int ((v.2 + (1 : Int32))))]) [2, 3, 4, 1, 0] rfl ?_
        obtain rfl := Option.some.inj hS
        exact hin ((((v.1 ||| ((1 : Int32) <<< (v.2 &&& 31)))), ((v.2 + (1 : Int32))))) rfl
def f_X9_bars (μ : Mem) (a1 : Int32) (a2 : Int32) : Option (Int32) :=
  (f_X9_isFloor μ (a1)).bind fun y1 =>
  if y1 = (0 : Int32) then (
    some ((-1 : Int32))
  ) else (
    (f_X9_isFloor μ (a2)).bind fun y2 =>
    if y2 = (0 : Int32) then (
      some ((-1 : Int32))
    ) else (
      (iter gFU (f_X9_bars_b21 μ (a1) (a2)) (((0 : Int32)), ((0 : Int32)))).bind fun z9 =>
      some (z9)
    )
  )
set_option maxRecDepth 100000 in
set_option maxHeartbeats 4000000 in
theorem k_X9_bars {l : Launch} {D : va_G} {cy : Nat → ClassId} {base : Nat} (μ : Mem) (a1 : Int32) (a2 : Int32)  {out : Int32} (hS : f_X9_bars μ a1 a2 = some out) : gC l D cy base yX9_bars cX9_bars 5 (some .int) 2 [.ref (base + 186), .int (a1), .int (a2)] μ (some (.int out)) μ := by
  refine gC_of (own := RX9) (lv0 := [(0, .ref (base + 186)), (1, .int (a1)), (2, .int (a2))]) rfl (by decide) (Nat.le_of_ble_eq_true rfl) rfl ?_
  unfold f_X9_bars at hS
  refine g_iload_n (j := 1) (x := a1) dX9_bars_0 rfl rfl ?_
  obtain ⟨y1, ey1, hS⟩ := ob hS
  refine gs_callSi (As := [.int (a1)]) (st := []) (k_X9_isFloor μ (a1)  ey1) cl_RX9_144 sv_X9_isFloor ⟨by decide, by decide⟩ (Nat.le_of_ble_eq_true rfl) ⟨Nat.zero_le _, Nat.zero_le _⟩ rfl dX9_bars_1 rfl ?_
  refine g_if_eq 14 dX9_bars_4 (by decide) (fun hc => ?_) (fun hc => ?_)
  · replace hS := (if_pos hc).symm.trans hS
    refine g_iconst (v := -1) dX9_bars_14 (by decide) ?_
    obtain rfl := Option.some.inj hS
    exact g_iret rfl dX9_bars_15
  · replace hS := (if_neg hc).symm.trans hS
    refine g_iload_n (j := 2) (x := a2) dX9_bars_7 rfl rfl ?_
    obtain ⟨y2, ey2, hS⟩ := ob hS
    refine gs_callSi (As := [.int (a2)]) (st := []) (k_X9_isFloor μ (a2)  ey2) cl_RX9_144 sv_X9_isFloor ⟨by decide, by decide⟩ (Nat.le_of_ble_eq_true rfl) ⟨Nat.zero_le _, Nat.zero_le _⟩ rfl dX9_bars_8 rfl ?_
    refine g_if_ne 16 dX9_bars_11 (by decide) (fun hc => ?_) (fun hc => ?_)
    · replace hS := (if_neg hc).symm.trans hS
      refine g_iconst (v := 0) dX9_bars_16 (by decide) ?_
      refine g_istore_n (lvx := [(3, .int ((0 : Int32))), (0, .ref (base + 186)), (1, .int (a1)), (2, .int (a2))]) dX9_bars_17 rfl (by decide) rfl ?_
      refine g_iconst (v := 0) dX9_bars_18 (by decide) ?_
      refine g_istore (lvx := [(4, .int ((0 : Int32))), (3, .int ((0 : Int32))), (0, .ref (base + 186)), (1, .int (a1)), (2, .int (a2))]) dX9_bars_19 (by decide) rfl ?_
      obtain ⟨z9, ez9, hS⟩ := ob hS
      refine g_sub (lvx := [(0, .ref (base + 186)), (1, .int (a1)), (2, .int (a2)), (3, .int ((0 : Int32))), (4, .int ((0 : Int32)))]) [2, 3, 4, 1, 0] rfl ?_
      refine iter_ind (fun vv => G l D cy base RX9 cX9_bars 5 (some .int) (gRm 2) (gXm yX9_bars) (gZm D cy base 0 0 (some (.int out)) gNN (gH cy base μ)) 21 [(0, .ref (base + 186)), (1, .int (a1)), (2, .int (a2)), (3, .int (vv.1)), (4, .int (vv.2))] [] 0 0 gNN (gH cy base μ)) (fun xx => G l D cy base RX9 cX9_bars 5 (some .int) (gRm 2) (gXm yX9_bars) (gZm D cy base 0 0 (some (.int out)) gNN (gH cy base μ)) 70 [(3, .int (xx))] [] 0 0 gNN (gH cy base μ)) (fun vv rr hh hin hout => k_X9_bars_b21 μ (a1) (a2)  vv rr hh hin (fun xx ee => hout xx ee)) gFU (((0 : Int32)), ((0 : Int32))) z9 ez9 ?_
      show G l D cy base RX9 cX9_bars 5 (some .int) (gRm 2) (gXm yX9_bars) (gZm D cy base 0 0 (some (.int out)) gNN (gH cy base μ)) 70 [(3, .int (z9))] [] 0 0 gNN (gH cy base μ)
      refine g_iload_n (j := 0) (x := z9) dX9_bars_70 rfl rfl ?_
      obtain rfl := Option.some.inj hS
      exact g_iret rfl dX9_bars_71
    · replace hS := (if_pos hc).symm.trans hS
      refine g_iconst (v := -1) dX9_bars_14 (by decide) ?_
      obtain rfl := Option.some.inj hS
      exact g_iret rfl dX9_bars_15
def f_X9_better (μ : Mem) (a0 : Int32) (a1 : Int32) : Option (Int32) :=
  if a0 < (0 : Int32) then (
    some (a1)
  ) else (
    if a1 < (0 : Int32) then (
      some (a0)
    ) else (
      if a0 ≤ a1 then (
        some (a0)
      ) else (
        some (a1)
      )
    )
  )
set_option maxRecDepth 100000 in
set_option maxHeartbeats 4000000 in
theorem k_X9_better {l : Launch} {D : va_G} {cy : Nat → ClassId} {base : Nat} (μ : Mem) (a0 : Int32) (a1 : Int32)  {out : Int32} (hS : f_X9_better μ a0 a1 = some out) : gC l D cy base yX9_better cX9_better 2 (some .int) 0 [.int (a0), .int (a1)] μ (some (.int out)) μ := by
  refine gC_of (own := RX9) (lv0 := [(0, .int (a0)), (1, .int (a1))]) rfl (by decide) (Nat.le_of_ble_eq_true rfl) rfl ?_
  unfold f_X9_better at hS
  refine g_iload_n (j := 0) (x := a0) dX9_better_0 rfl rfl ?_
  refine g_if_lt 13 dX9_better_1 (by decide) (fun hc => ?_) (fun hc => ?_)
  · replace hS := (if_pos hc).symm.trans hS
    refine g_iload_n (j := 1) (x := a1) dX9_better_13 rfl rfl ?_
    refine g_goto 18 dX9_better_14 (by decide) ?_
    obtain rfl := Option.some.inj hS
    exact g_iret rfl dX9_better_18
  · replace hS := (if_neg hc).symm.trans hS
    refine g_iload_n (j := 1) (x := a1) dX9_better_4 rfl rfl ?_
    refine g_if_lt 17 dX9_better_5 (by decide) (fun hc => ?_) (fun hc => ?_)
    · replace hS := (if_pos hc).symm.trans hS
      refine g_iload_n (j := 0) (x := a0) dX9_better_17 rfl rfl ?_
      obtain rfl := Option.some.inj hS
      exact g_iret rfl dX9_better_18
    · replace hS := (if_neg hc).symm.trans hS
      refine g_iload_n (j := 1) (x := a1) dX9_better_8 rfl rfl ?_
      refine g_iload_n (j := 0) (x := a0) dX9_better_9 rfl rfl ?_
      refine g_icmp_ge 17 dX9_better_10 (by decide) (fun hc => ?_) (fun hc => ?_)
      · replace hS := (if_pos hc).symm.trans hS
        refine g_iload_n (j := 0) (x := a0) dX9_better_17 rfl rfl ?_
        obtain rfl := Option.some.inj hS
        exact g_iret rfl dX9_better_18
      · replace hS := (if_neg hc).symm.trans hS
        refine g_iload_n (j := 1) (x := a1) dX9_better_13 rfl rfl ?_
        refine g_goto 18 dX9_better_14 (by decide) ?_
        obtain rfl := Option.some.inj hS
        exact g_iret rfl dX9_better_18
def f_X9_paid_j144 (m22 : Mem) (x18 : Int32) (x19 : Int32) (x20 : Int32) (x21 : Int32) (x25 : Int32) (x26 : Int32) (x27 : Int32) : Option ((Int32 × Int32) ⊕ ((Int32))) :=
  (ldA m22 196 1000 (x27)).bind fun y28 =>
  (ldA m22 188 49 (((44 : Int32) + x21))).bind fun y29 =>
  (ldA m22 188 49 (((44 : Int32) + x25))).bind fun y30 =>
  (f_X9_better m22 (x26) (((y28 + ((10000 : Int32) * (y29 + y30))) + (1 : Int32)))).bind fun y31 =>
  some (.inl ((y31), ((x25 + (1 : Int32)))))
set_option maxRecDepth 100000 in
set_option maxHeartbeats 4000000 in
theorem k_X9_paid_j144 {l : Launch} {D : va_G} {cy : Nat → ClassId} {base : Nat} {X : gX} {Z : gZ} (m22 : Mem) (x18 : Int32) (x19 : Int32) (x20 : Int32) (x21 : Int32) (x25 : Int32) (x26 : Int32) (x27 : Int32)  {r : (Int32 × Int32) ⊕ ((Int32))} (hS : f_X9_paid_j144 m22 x18 x19 x20 x21 x25 x26 x27 = some r) (hin : ∀ v2, r = .inl v2 → G l D cy base RX9 cX9_paid 9 (some .int) (gRm 2) X Z 101 [(0, .ref (base + 186)), (1, .int (x18)), (2, .int (x19)), (3, .int (x20)), (4, .int (v2.1)), (5, .int (x21)), (7, .int (v2.2))] [] 0 0 gNN (gH cy base m22)) (hout0 : ∀ x, r = .inr x → G l D cy base RX9 cX9_paid 9 (some .int) (gRm 2) X Z 184 [(0, .ref (base + 186)), (1, .int (x18)), (2, .int (x19)), (3, .int (x20)), (4, .int (x)), (5, .int (x21))] [] 0 0 gNN (gH cy base m22)) : G l D cy base RX9 cX9_paid 9 (some .int) (gRm 2) X Z 144 [(0, .ref (base + 186)), (1, .int (x18)), (2, .int (x19)), (3, .int (x20)), (5, .int (x21)), (7, .int (x25))] [.int (x27), .ref (base + 196), .int (x26)] 0 0 gNN (gH cy base m22) := by
  unfold f_X9_paid_j144 at hS
  obtain ⟨y28, ey28, hS⟩ := ob hS
  refine gs_iald (tk_196 _) dX9_paid_144 ey28 ?_
  refine g_sipush (v := 10000) dX9_paid_145 (by decide) ?_
  refine g_aload_n (j := 0) (x := base + 186) dX9_paid_148 rfl rfl ?_
  refine gs_getR (r := 188) lk_RX9_13 (tk_186 _) rfl dX9_paid_149 ?_
  refine g_bipush (v := 44) dX9_paid_152 (by decide) ?_
  refine g_iload (j := 4) (x := x21) dX9_paid_154 rfl ?_
  refine g_iadd dX9_paid_156 ?_
  obtain ⟨y29, ey29, hS⟩ := ob hS
  refine gs_iald (tk_188 _) dX9_paid_157 ey29 ?_
  refine g_aload_n (j := 0) (x := base + 186) dX9_paid_158 rfl rfl ?_
  refine gs_getR (r := 188) lk_RX9_13 (tk_186 _) rfl dX9_paid_159 ?_
  refine g_bipush (v := 44) dX9_paid_162 (by decide) ?_
  refine g_iload (j := 5) (x := x25) dX9_paid_164 rfl ?_
  refine g_iadd dX9_paid_166 ?_
  obtain ⟨y30, ey30, hS⟩ := ob hS
  refine gs_iald (tk_188 _) dX9_paid_167 ey30 ?_
  refine g_iadd dX9_paid_168 ?_
  refine g_imul dX9_paid_169 ?_
  refine g_iadd dX9_paid_170 ?_
  refine g_iconst (v := 1) dX9_paid_171 (by decide) ?_
  refine g_iadd dX9_paid_172 ?_
  obtain ⟨y31, ey31, hS⟩ := ob hS
  refine gs_callSi (As := [.int (x26), .int (((y28 + ((10000 : Int32) * (y29 + y30))) + (1 : Int32)))]) (st := []) (k_X9_better m22 (x26) (((y28 + ((10000 : Int32) * (y29 + y30))) + (1 : Int32)))  ey31) cl_RX9_157 sv_X9_better ⟨by decide, by decide⟩ (Nat.le_of_ble_eq_true rfl) ⟨Nat.zero_le _, Nat.zero_le _⟩ rfl dX9_paid_173 rfl ?_
  refine g_istore (lvx := [(4, .int (y31)), (0, .ref (base + 186)), (1, .int (x18)), (2, .int (x19)), (3, .int (x20)), (5, .int (x21)), (7, .int (x25))]) dX9_paid_176 (by decide) rfl ?_
  refine g_iinc (j := 6) (x := x25) (v := (x25 + (1 : Int32))) (lvx := [(7, .int ((x25 + (1 : Int32)))), (4, .int (y31)), (0, .ref (base + 186)), (1, .int (x18)), (2, .int (x19)), (3, .int (x20)), (5, .int (x21))]) dX9_paid_178 rfl rfl (by decide) rfl ?_
  refine g_goto 101 dX9_paid_181 (by decide) ?_
  refine g_sub (lvx := [(0, .ref (base + 186)), (1, .int (x18)), (2, .int (x19)), (3, .int (x20)), (4, .int (y31)), (5, .int (x21)), (7, .int ((x25 + (1 : Int32))))]) [2, 3, 4, 5, 1, 6, 0] rfl ?_
  obtain rfl := Option.some.inj hS
  exact hin (((y31), ((x25 + (1 : Int32))))) rfl
def f_X9_paid_b101 (m22 : Mem) (x18 : Int32) (x19 : Int32) (x20 : Int32) (x21 : Int32) (v : Int32 × Int32) : Option ((Int32 × Int32) ⊕ ((Int32))) :=
  if x21 ≤ v.2 then (
    some (.inr (v.1))
  ) else (
    (ldA m22 188 49 ((3 : Int32))).bind fun y23 =>
    if y23 ≤ (0 : Int32) then (
      some (.inr (v.1))
    ) else (
      (ldA m22 188 49 ((3 : Int32))).bind fun y24 =>
      if (0 : Int32) ≤ (x20 - y24) then (
        f_X9_paid_j144 m22 x18 x19 x20 x21 (v.2) (v.1) ((x20 - y24))
      ) else (
        f_X9_paid_j144 m22 x18 x19 x20 x21 (v.2) (v.1) ((0 : Int32))
      )
    )
  )
set_option maxRecDepth 100000 in
set_option maxHeartbeats 4000000 in
theorem k_X9_paid_b101 {l : Launch} {D : va_G} {cy : Nat → ClassId} {base : Nat} {X : gX} {Z : gZ} (m22 : Mem) (x18 : Int32) (x19 : Int32) (x20 : Int32) (x21 : Int32)  (v : Int32 × Int32) (r : (Int32 × Int32) ⊕ ((Int32))) (hS : f_X9_paid_b101 m22 x18 x19 x20 x21 v = some r) (hin : ∀ v2, r = .inl v2 → G l D cy base RX9 cX9_paid 9 (some .int) (gRm 2) X Z 101 [(0, .ref (base + 186)), (1, .int (x18)), (2, .int (x19)), (3, .int (x20)), (4, .int (v2.1)), (5, .int (x21)), (7, .int (v2.2))] [] 0 0 gNN (gH cy base m22)) (hout0 : ∀ x, r = .inr x → G l D cy base RX9 cX9_paid 9 (some .int) (gRm 2) X Z 184 [(0, .ref (base + 186)), (1, .int (x18)), (2, .int (x19)), (3, .int (x20)), (4, .int (x)), (5, .int (x21))] [] 0 0 gNN (gH cy base m22)) : G l D cy base RX9 cX9_paid 9 (some .int) (gRm 2) X Z 101 [(0, .ref (base + 186)), (1, .int (x18)), (2, .int (x19)), (3, .int (x20)), (4, .int (v.1)), (5, .int (x21)), (7, .int (v.2))] [] 0 0 gNN (gH cy base m22) := by
  unfold f_X9_paid_b101 at hS
  refine g_iload (j := 6) (x := v.2) dX9_paid_101 rfl ?_
  refine g_iload (j := 5) (x := x21) dX9_paid_103 rfl ?_
  refine g_icmp_ge 184 dX9_paid_105 (by decide) (fun hc => ?_) (fun hc => ?_)
  · replace hS := (if_pos hc).symm.trans hS
    refine g_sub (lvx := [(0, .ref (base + 186)), (1, .int (x18)), (2, .int (x19)), (3, .int (x20)), (4, .int (v.1)), (5, .int (x21))]) [0, 1, 2, 3, 4, 5] rfl ?_
    obtain rfl := Option.some.inj hS
    exact hout0 ((v.1)) rfl
  · replace hS := (if_neg hc).symm.trans hS
    refine g_aload_n (j := 0) (x := base + 186) dX9_paid_108 rfl rfl ?_
    refine gs_getR (r := 188) lk_RX9_13 (tk_186 _) rfl dX9_paid_109 ?_
    refine g_iconst (v := 3) dX9_paid_112 (by decide) ?_
    obtain ⟨y23, ey23, hS⟩ := ob hS
    refine gs_iald (tk_188 _) dX9_paid_113 ey23 ?_
    refine g_if_le 184 dX9_paid_114 (by decide) (fun hc => ?_) (fun hc => ?_)
    · replace hS := (if_pos hc).symm.trans hS
      refine g_sub (lvx := [(0, .ref (base + 186)), (1, .int (x18)), (2, .int (x19)), (3, .int (x20)), (4, .int (v.1)), (5, .int (x21))]) [0, 1, 2, 3, 4, 5] rfl ?_
      obtain rfl := Option.some.inj hS
      exact hout0 ((v.1)) rfl
    · replace hS := (if_neg hc).symm.trans hS
      refine g_iload_n (j := 3) (x := x20) dX9_paid_117 rfl rfl ?_
      refine g_aload_n (j := 0) (x := base + 186) dX9_paid_118 rfl rfl ?_
      refine gs_getR (r := 188) lk_RX9_13 (tk_186 _) rfl dX9_paid_119 ?_
      refine g_iconst (v := 3) dX9_paid_122 (by decide) ?_
      obtain ⟨y24, ey24, hS⟩ := ob hS
      refine gs_iald (tk_188 _) dX9_paid_123 ey24 ?_
      refine g_isub dX9_paid_124 ?_
      refine g_istore (lvx := [(8, .int ((x20 - y24))), (0, .ref (base + 186)), (1, .int (x18)), (2, .int (x19)), (3, .int (x20)), (4, .int (v.1)), (5, .int (x21)), (7, .int (v.2))]) dX9_paid_125 (by decide) rfl ?_
      refine g_iload (j := 5) (x := v.1) dX9_paid_127 rfl ?_
      refine g_aload_n (j := 1) (x := base + 186) dX9_paid_129 rfl rfl ?_
      refine gs_getR (r := 196) lk_RX9_38 (tk_186 _) rfl dX9_paid_130 ?_
      refine g_iload (j := 0) (x := (x20 - y24)) dX9_paid_133 rfl ?_
      refine g_if_ge 142 dX9_paid_135 (by decide) (fun hc => ?_) (fun hc => ?_)
      · replace hS := (if_pos hc).symm.trans hS
        refine g_iload (j := 0) (x := (x20 - y24)) dX9_paid_142 rfl ?_
        refine g_sub (lvx := [(0, .ref (base + 186)), (1, .int (x18)), (2, .int (x19)), (3, .int (x20)), (5, .int (x21)), (7, .int (v.2))]) [1, 2, 3, 4, 6, 7] rfl ?_
        exact k_X9_paid_j144 (m22) x18 x19 x20 x21 (v.2) (v.1) ((x20 - y24))  hS hin hout0
      · replace hS := (if_neg hc).symm.trans hS
        refine g_iconst (v := 0) dX9_paid_138 (by decide) ?_
        refine g_goto 144 dX9_paid_139 (by decide) ?_
        refine g_sub (lvx := [(0, .ref (base + 186)), (1, .int (x18)), (2, .int (x19)), (3, .int (x20)), (5, .int (x21)), (7, .int (v.2))]) [1, 2, 3, 4, 6, 7] rfl ?_
        exact k_X9_paid_j144 (m22) x18 x19 x20 x21 (v.2) (v.1) ((0 : Int32))  hS hin hout0
def f_X9_paid_j75 (m9 : Mem) (x6 : Int32) (x7 : Int32) (x8 : Int32) (x12 : Int32) (x13 : Int32) (x14 : Int32) : Option ((Int32 × Int32) ⊕ ((Int32))) :=
  (ldA m9 196 1000 (x14)).bind fun y15 =>
  (ldA m9 188 49 (((44 : Int32) + x12))).bind fun y16 =>
  (f_X9_better m9 (x13) (((y15 + ((10000 : Int32) * y16)) + (1 : Int32)))).bind fun y17 =>
  (iter gFU (f_X9_paid_b101 m9 (x6) (x7) (x8) (x12)) ((y17), ((0 : Int32)))).bind fun z35 =>
  some (.inl ((z35), ((x12 + (1 : Int32)))))
set_option maxRecDepth 100000 in
set_option maxHeartbeats 4000000 in
theorem k_X9_paid_j75 {l : Launch} {D : va_G} {cy : Nat → ClassId} {base : Nat} {X : gX} {Z : gZ} (m9 : Mem) (x6 : Int32) (x7 : Int32) (x8 : Int32) (x12 : Int32) (x13 : Int32) (x14 : Int32)  {r : (Int32 × Int32) ⊕ ((Int32))} (hS : f_X9_paid_j75 m9 x6 x7 x8 x12 x13 x14 = some r) (hin : ∀ v2, r = .inl v2 → G l D cy base RX9 cX9_paid 9 (some .int) (gRm 2) X Z 37 [(0, .ref (base + 186)), (1, .int (x6)), (2, .int (x7)), (3, .int (x8)), (4, .int (v2.1)), (5, .int (v2.2))] [] 0 0 gNN (gH cy base m9)) (hout0 : ∀ x, r = .inr x → G l D cy base RX9 cX9_paid 9 (some .int) (gRm 2) X Z 190 [(0, .ref (base + 186)), (1, .int (x6)), (2, .int (x7)), (3, .int (x8)), (4, .int (x))] [] 0 0 gNN (gH cy base m9)) : G l D cy base RX9 cX9_paid 9 (some .int) (gRm 2) X Z 75 [(0, .ref (base + 186)), (1, .int (x6)), (2, .int (x7)), (3, .int (x8)), (5, .int (x12))] [.int (x14), .ref (base + 196), .int (x13)] 0 0 gNN (gH cy base m9) := by
  unfold f_X9_paid_j75 at hS
  obtain ⟨y15, ey15, hS⟩ := ob hS
  refine gs_iald (tk_196 _) dX9_paid_75 ey15 ?_
  refine g_sipush (v := 10000) dX9_paid_76 (by decide) ?_
  refine g_aload_n (j := 0) (x := base + 186) dX9_paid_79 rfl rfl ?_
  refine gs_getR (r := 188) lk_RX9_13 (tk_186 _) rfl dX9_paid_80 ?_
  refine g_bipush (v := 44) dX9_paid_83 (by decide) ?_
  refine g_iload (j := 4) (x := x12) dX9_paid_85 rfl ?_
  refine g_iadd dX9_paid_87 ?_
  obtain ⟨y16, ey16, hS⟩ := ob hS
  refine gs_iald (tk_188 _) dX9_paid_88 ey16 ?_
  refine g_imul dX9_paid_89 ?_
  refine g_iadd dX9_paid_90 ?_
  refine g_iconst (v := 1) dX9_paid_91 (by decide) ?_
  refine g_iadd dX9_paid_92 ?_
  obtain ⟨y17, ey17, hS⟩ := ob hS
  refine gs_callSi (As := [.int (x13), .int (((y15 + ((10000 : Int32) * y16)) + (1 : Int32)))]) (st := []) (k_X9_better m9 (x13) (((y15 + ((10000 : Int32) * y16)) + (1 : Int32)))  ey17) cl_RX9_157 sv_X9_better ⟨by decide, by decide⟩ (Nat.le_of_ble_eq_true rfl) ⟨Nat.zero_le _, Nat.zero_le _⟩ rfl dX9_paid_93 rfl ?_
  refine g_istore (lvx := [(4, .int (y17)), (0, .ref (base + 186)), (1, .int (x6)), (2, .int (x7)), (3, .int (x8)), (5, .int (x12))]) dX9_paid_96 (by decide) rfl ?_
  refine g_iconst (v := 0) dX9_paid_98 (by decide) ?_
  refine g_istore (lvx := [(7, .int ((0 : Int32))), (4, .int (y17)), (0, .ref (base + 186)), (1, .int (x6)), (2, .int (x7)), (3, .int (x8)), (5, .int (x12))]) dX9_paid_99 (by decide) rfl ?_
  obtain ⟨z35, ez35, hS⟩ := ob hS
  refine g_sub (lvx := [(0, .ref (base + 186)), (1, .int (x6)), (2, .int (x7)), (3, .int (x8)), (4, .int (y17)), (5, .int (x12)), (7, .int ((0 : Int32)))]) [2, 3, 4, 5, 1, 6, 0] rfl ?_
  refine iter_ind (fun vv => G l D cy base RX9 cX9_paid 9 (some .int) (gRm 2) X Z 101 [(0, .ref (base + 186)), (1, .int (x6)), (2, .int (x7)), (3, .int (x8)), (4, .int (vv.1)), (5, .int (x12)), (7, .int (vv.2))] [] 0 0 gNN (gH cy base m9)) (fun xx => G l D cy base RX9 cX9_paid 9 (some .int) (gRm 2) X Z 184 [(0, .ref (base + 186)), (1, .int (x6)), (2, .int (x7)), (3, .int (x8)), (4, .int (xx)), (5, .int (x12))] [] 0 0 gNN (gH cy base m9)) (fun vv rr hh hin hout => k_X9_paid_b101 m9 (x6) (x7) (x8) (x12)  vv rr hh hin (fun xx ee => hout xx ee)) gFU ((y17), ((0 : Int32))) z35 ez35 ?_
  show G l D cy base RX9 cX9_paid 9 (some .int) (gRm 2) X Z 184 [(0, .ref (base + 186)), (1, .int (x6)), (2, .int (x7)), (3, .int (x8)), (4, .int (z35)), (5, .int (x12))] [] 0 0 gNN (gH cy base m9)
  refine g_iinc (j := 5) (x := x12) (v := (x12 + (1 : Int32))) (lvx := [(5, .int ((x12 + (1 : Int32)))), (0, .ref (base + 186)), (1, .int (x6)), (2, .int (x7)), (3, .int (x8)), (4, .int (z35))]) dX9_paid_184 rfl rfl (by decide) rfl ?_
  refine g_goto 37 dX9_paid_187 (by decide) ?_
  refine g_sub (lvx := [(0, .ref (base + 186)), (1, .int (x6)), (2, .int (x7)), (3, .int (x8)), (4, .int (z35)), (5, .int ((x12 + (1 : Int32))))]) [1, 2, 3, 4, 5, 0] rfl ?_
  obtain rfl := Option.some.inj hS
  exact hin (((z35), ((x12 + (1 : Int32))))) rfl
def f_X9_paid_b37 (m9 : Mem) (x6 : Int32) (x7 : Int32) (x8 : Int32) (v : Int32 × Int32) : Option ((Int32 × Int32) ⊕ ((Int32))) :=
  (ldA m9 188 49 ((1 : Int32))).bind fun y10 =>
  if y10 ≤ v.2 then (
    some (.inr (v.1))
  ) else (
    (f_X9_counts m9 (v.2)).bind fun y11 =>
    if (0 : Int32) ≤ (x8 - y11) then (
      f_X9_paid_j75 m9 x6 x7 x8 (v.2) (v.1) ((x8 - y11))
    ) else (
      f_X9_paid_j75 m9 x6 x7 x8 (v.2) (v.1) ((0 : Int32))
    )
  )
set_option maxRecDepth 100000 in
set_option maxHeartbeats 4000000 in
theorem k_X9_paid_b37 {l : Launch} {D : va_G} {cy : Nat → ClassId} {base : Nat} {X : gX} {Z : gZ} (m9 : Mem) (x6 : Int32) (x7 : Int32) (x8 : Int32)  (v : Int32 × Int32) (r : (Int32 × Int32) ⊕ ((Int32))) (hS : f_X9_paid_b37 m9 x6 x7 x8 v = some r) (hin : ∀ v2, r = .inl v2 → G l D cy base RX9 cX9_paid 9 (some .int) (gRm 2) X Z 37 [(0, .ref (base + 186)), (1, .int (x6)), (2, .int (x7)), (3, .int (x8)), (4, .int (v2.1)), (5, .int (v2.2))] [] 0 0 gNN (gH cy base m9)) (hout0 : ∀ x, r = .inr x → G l D cy base RX9 cX9_paid 9 (some .int) (gRm 2) X Z 190 [(0, .ref (base + 186)), (1, .int (x6)), (2, .int (x7)), (3, .int (x8)), (4, .int (x))] [] 0 0 gNN (gH cy base m9)) : G l D cy base RX9 cX9_paid 9 (some .int) (gRm 2) X Z 37 [(0, .ref (base + 186)), (1, .int (x6)), (2, .int (x7)), (3, .int (x8)), (4, .int (v.1)), (5, .int (v.2))] [] 0 0 gNN (gH cy base m9) := by
  unfold f_X9_paid_b37 at hS
  refine g_iload (j := 5) (x := v.2) dX9_paid_37 rfl ?_
  refine g_aload_n (j := 0) (x := base + 186) dX9_paid_39 rfl rfl ?_
  refine gs_getR (r := 188) lk_RX9_13 (tk_186 _) rfl dX9_paid_40 ?_
  refine g_iconst (v := 1) dX9_paid_43 (by decide) ?_
  obtain ⟨y10, ey10, hS⟩ := ob hS
  refine gs_iald (tk_188 _) dX9_paid_44 ey10 ?_
  refine g_icmp_ge 190 dX9_paid_45 (by decide) (fun hc => ?_) (fun hc => ?_)
  · replace hS := (if_pos hc).symm.trans hS
    refine g_sub (lvx := [(0, .ref (base + 186)), (1, .int (x6)), (2, .int (x7)), (3, .int (x8)), (4, .int (v.1))]) [0, 1, 2, 3, 4] rfl ?_
    obtain rfl := Option.some.inj hS
    exact hout0 ((v.1)) rfl
  · replace hS := (if_neg hc).symm.trans hS
    refine g_iload_n (j := 3) (x := x8) dX9_paid_48 rfl rfl ?_
    refine g_aload_n (j := 0) (x := base + 186) dX9_paid_49 rfl rfl ?_
    refine g_iload (j := 5) (x := v.2) dX9_paid_50 rfl ?_
    obtain ⟨y11, ey11, hS⟩ := ob hS
    refine gs_callVi (As := [.int (v.2)]) (st := [.int (x8)]) (kr := 186) (k_X9_counts m9 (v.2)  ey11) cl_RX9_117 sv_X9_counts ckk_X9_counts (tk_186 _) ⟨by decide, by decide⟩ (Nat.le_of_ble_eq_true rfl) ⟨Nat.zero_le _, Nat.zero_le _⟩ rfl dX9_paid_52 rfl ?_
    refine g_isub dX9_paid_55 ?_
    refine g_istore (lvx := [(6, .int ((x8 - y11))), (0, .ref (base + 186)), (1, .int (x6)), (2, .int (x7)), (3, .int (x8)), (4, .int (v.1)), (5, .int (v.2))]) dX9_paid_56 (by decide) rfl ?_
    refine g_iload (j := 5) (x := v.1) dX9_paid_58 rfl ?_
    refine g_aload_n (j := 1) (x := base + 186) dX9_paid_60 rfl rfl ?_
    refine gs_getR (r := 196) lk_RX9_38 (tk_186 _) rfl dX9_paid_61 ?_
    refine g_iload (j := 0) (x := (x8 - y11)) dX9_paid_64 rfl ?_
    refine g_if_ge 73 dX9_paid_66 (by decide) (fun hc => ?_) (fun hc => ?_)
    · replace hS := (if_pos hc).symm.trans hS
      refine g_iload (j := 0) (x := (x8 - y11)) dX9_paid_73 rfl ?_
      refine g_sub (lvx := [(0, .ref (base + 186)), (1, .int (x6)), (2, .int (x7)), (3, .int (x8)), (5, .int (v.2))]) [1, 2, 3, 4, 6] rfl ?_
      exact k_X9_paid_j75 (m9) x6 x7 x8 (v.2) (v.1) ((x8 - y11))  hS hin hout0
    · replace hS := (if_neg hc).symm.trans hS
      refine g_iconst (v := 0) dX9_paid_69 (by decide) ?_
      refine g_goto 75 dX9_paid_70 (by decide) ?_
      refine g_sub (lvx := [(0, .ref (base + 186)), (1, .int (x6)), (2, .int (x7)), (3, .int (x8)), (5, .int (v.2))]) [1, 2, 3, 4, 6] rfl ?_
      exact k_X9_paid_j75 (m9) x6 x7 x8 (v.2) (v.1) ((0 : Int32))  hS hin hout0
def f_X9_paid_b21 (x3 : Int32) (x4 : Int32) (v : Int32 × Mem) : Option ((Int32 × Mem) ⊕ ((Mem))) :=
  (ldA v.2 190 716 (x3)).bind fun y5 =>
  if y5 < v.1 then (
    some (.inr (v.2))
  ) else (
    (iter gFU (f_X9_paid_b37 v.2 (x3) (x4) (v.1)) (((-1 : Int32)), ((0 : Int32)))).bind fun z39 =>
    (stA v.2 196 1000 (v.1) (z39)).bind fun m40 =>
    some (.inl (((v.1 + (1 : Int32))), (m40)))
  )
set_option maxRecDepth 100000 in
set_option maxHeartbeats 4000000 in
theorem k_X9_paid_b21 {l : Launch} {D : va_G} {cy : Nat → ClassId} {base : Nat} {X : gX} {Z : gZ} (x3 : Int32) (x4 : Int32)  (v : Int32 × Mem) (r : (Int32 × Mem) ⊕ ((Mem))) (hS : f_X9_paid_b21 x3 x4 v = some r) (hin : ∀ v2, r = .inl v2 → G l D cy base RX9 cX9_paid 9 (some .int) (gRm 2) X Z 21 [(0, .ref (base + 186)), (1, .int (x3)), (2, .int (x4)), (3, .int (v2.1))] [] 0 0 gNN (gH cy base v2.2)) (hout0 : ∀ x, r = .inr x → G l D cy base RX9 cX9_paid 9 (some .int) (gRm 2) X Z 204 [(0, .ref (base + 186)), (1, .int (x3)), (2, .int (x4))] [] 0 0 gNN (gH cy base x)) : G l D cy base RX9 cX9_paid 9 (some .int) (gRm 2) X Z 21 [(0, .ref (base + 186)), (1, .int (x3)), (2, .int (x4)), (3, .int (v.1))] [] 0 0 gNN (gH cy base v.2) := by
  unfold f_X9_paid_b21 at hS
  refine g_iload_n (j := 3) (x := v.1) dX9_paid_21 rfl rfl ?_
  refine g_aload_n (j := 0) (x := base + 186) dX9_paid_22 rfl rfl ?_
  refine gs_getR (r := 190) lk_RX9_19 (tk_186 _) rfl dX9_paid_23 ?_
  refine g_iload_n (j := 1) (x := x3) dX9_paid_26 rfl rfl ?_
  obtain ⟨y5, ey5, hS⟩ := ob hS
  refine gs_iald (tk_190 _) dX9_paid_27 ey5 ?_
  refine g_icmp_gt 204 dX9_paid_28 (by decide) (fun hc => ?_) (fun hc => ?_)
  · replace hS := (if_pos hc).symm.trans hS
    refine g_sub (lvx := [(0, .ref (base + 186)), (1, .int (x3)), (2, .int (x4))]) [0, 1, 2] rfl ?_
    obtain rfl := Option.some.inj hS
    exact hout0 ((v.2)) rfl
  · replace hS := (if_neg hc).symm.trans hS
    refine g_iconst (v := -1) dX9_paid_31 (by decide) ?_
    refine g_istore (lvx := [(4, .int ((-1 : Int32))), (0, .ref (base + 186)), (1, .int (x3)), (2, .int (x4)), (3, .int (v.1))]) dX9_paid_32 (by decide) rfl ?_
    refine g_iconst (v := 0) dX9_paid_34 (by decide) ?_
    refine g_istore (lvx := [(5, .int ((0 : Int32))), (4, .int ((-1 : Int32))), (0, .ref (base + 186)), (1, .int (x3)), (2, .int (x4)), (3, .int (v.1))]) dX9_paid_35 (by decide) rfl ?_
    obtain ⟨z39, ez39, hS⟩ := ob hS
    refine g_sub (lvx := [(0, .ref (base + 186)), (1, .int (x3)), (2, .int (x4)), (3, .int (v.1)), (4, .int ((-1 : Int32))), (5, .int ((0 : Int32)))]) [2, 3, 4, 5, 1, 0] rfl ?_
    refine iter_ind (fun vv => G l D cy base RX9 cX9_paid 9 (some .int) (gRm 2) X Z 37 [(0, .ref (base + 186)), (1, .int (x3)), (2, .int (x4)), (3, .int (v.1)), (4, .int (vv.1)), (5, .int (vv.2))] [] 0 0 gNN (gH cy base v.2)) (fun xx => G l D cy base RX9 cX9_paid 9 (some .int) (gRm 2) X Z 190 [(0, .ref (base + 186)), (1, .int (x3)), (2, .int (x4)), (3, .int (v.1)), (4, .int (xx))] [] 0 0 gNN (gH cy base v.2)) (fun vv rr hh hin hout => k_X9_paid_b37 v.2 (x3) (x4) (v.1)  vv rr hh hin (fun xx ee => hout xx ee)) gFU (((-1 : Int32)), ((0 : Int32))) z39 ez39 ?_
    show G l D cy base RX9 cX9_paid 9 (some .int) (gRm 2) X Z 190 [(0, .ref (base + 186)), (1, .int (x3)), (2, .int (x4)), (3, .int (v.1)), (4, .int (z39))] [] 0 0 gNN (gH cy base v.2)
    refine g_aload_n (j := 0) (x := base + 186) dX9_paid_190 rfl rfl ?_
    refine gs_getR (r := 196) lk_RX9_38 (tk_186 _) rfl dX9_paid_191 ?_
    refine g_iload_n (j := 3) (x := v.1) dX9_paid_194 rfl rfl ?_
    refine g_iload (j := 4) (x := z39) dX9_paid_195 rfl ?_
    obtain ⟨m40, em40, hS⟩ := ob hS
    refine gs_iast (tk_196 _) dX9_paid_197 em40 ?_
    refine g_iinc (j := 3) (x := v.1) (v := (v.1 + (1 : Int32))) (lvx := [(3, .int ((v.1 + (1 : Int32)))), (0, .ref (base + 186)), (1, .int (x3)), (2, .int (x4)), (4, .int (z39))]) dX9_paid_198 rfl rfl (by decide) rfl ?_
    refine g_goto 21 dX9_paid_201 (by decide) ?_
    refine g_sub (lvx := [(0, .ref (base + 186)), (1, .int (x3)), (2, .int (x4)), (3, .int ((v.1 + (1 : Int32))))]) [1, 2, 3, 0] rfl ?_
    obtain rfl := Option.some.inj hS
    exact hin ((((v.1 + (1 : Int32))), (m40))) rfl
def f_X9_paid_j225 (m45 : Mem) (x43 : Int32) (x44 : Int32) : Option (Int32 × Mem) :=
  if x44 = (0 : Int32) then (
    (ldA m45 190 716 (x43)).bind fun y49 =>
    (ldA m45 196 1000 (y49)).bind fun y50 =>
    (dvI (y50) ((10000 : Int32))).bind fun y51 =>
    some (y51, m45)
  ) else (
    (ldA m45 190 716 (x43)).bind fun y46 =>
    (ldA m45 196 1000 (y46)).bind fun y47 =>
    (rmI (y47) ((10000 : Int32))).bind fun y48 =>
    some (y48, m45)
  )
set_option maxRecDepth 100000 in
set_option maxHeartbeats 4000000 in
theorem k_X9_paid_j225 {l : Launch} {D : va_G} {cy : Nat → ClassId} {base : Nat} {X : gX} (m45 : Mem) (x43 : Int32) (x44 : Int32)  {out : Int32 × Mem} (hS : f_X9_paid_j225 m45 x43 x44 = some out)  : G l D cy base RX9 cX9_paid 9 (some .int) (gRm 2) X (gZm D cy base 0 0 (some (.int out.1)) gNN (gH cy base out.2)) 225 [(0, .ref (base + 186)), (1, .int (x43)), (2, .int (x44))] [] 0 0 gNN (gH cy base m45) := by
  unfold f_X9_paid_j225 at hS
  refine g_iload_n (j := 2) (x := x44) dX9_paid_225 rfl rfl ?_
  refine g_if_ne 247 dX9_paid_226 (by decide) (fun hc => ?_) (fun hc => ?_)
  · replace hS := (if_neg hc).symm.trans hS
    refine g_aload_n (j := 0) (x := base + 186) dX9_paid_247 rfl rfl ?_
    refine gs_getR (r := 196) lk_RX9_38 (tk_186 _) rfl dX9_paid_248 ?_
    refine g_aload_n (j := 0) (x := base + 186) dX9_paid_251 rfl rfl ?_
    refine gs_getR (r := 190) lk_RX9_19 (tk_186 _) rfl dX9_paid_252 ?_
    refine g_iload_n (j := 1) (x := x43) dX9_paid_255 rfl rfl ?_
    obtain ⟨y46, ey46, hS⟩ := ob hS
    refine gs_iald (tk_190 _) dX9_paid_256 ey46 ?_
    obtain ⟨y47, ey47, hS⟩ := ob hS
    refine gs_iald (tk_196 _) dX9_paid_257 ey47 ?_
    refine g_sipush (v := 10000) dX9_paid_258 (by decide) ?_
    obtain ⟨y48, ey48, hS⟩ := ob hS
    refine gs_irem dX9_paid_261 ey48 ?_
    obtain rfl := Option.some.inj hS
    exact g_iret rfl dX9_paid_262
  · replace hS := (if_pos hc).symm.trans hS
    refine g_aload_n (j := 0) (x := base + 186) dX9_paid_229 rfl rfl ?_
    refine gs_getR (r := 196) lk_RX9_38 (tk_186 _) rfl dX9_paid_230 ?_
    refine g_aload_n (j := 0) (x := base + 186) dX9_paid_233 rfl rfl ?_
    refine gs_getR (r := 190) lk_RX9_19 (tk_186 _) rfl dX9_paid_234 ?_
    refine g_iload_n (j := 1) (x := x43) dX9_paid_237 rfl rfl ?_
    obtain ⟨y49, ey49, hS⟩ := ob hS
    refine gs_iald (tk_190 _) dX9_paid_238 ey49 ?_
    obtain ⟨y50, ey50, hS⟩ := ob hS
    refine gs_iald (tk_196 _) dX9_paid_239 ey50 ?_
    refine g_sipush (v := 10000) dX9_paid_240 (by decide) ?_
    obtain ⟨y51, ey51, hS⟩ := ob hS
    refine gs_idiv dX9_paid_243 ey51 ?_
    refine g_goto 262 dX9_paid_244 (by decide) ?_
    obtain rfl := Option.some.inj hS
    exact g_iret rfl dX9_paid_262
def f_X9_paid (μ : Mem) (a1 : Int32) (a2 : Int32) : Option (Int32 × Mem) :=
  (f_X9_isStair μ (a1)).bind fun y1 =>
  if y1 = (0 : Int32) then (
    some ((-1 : Int32), μ)
  ) else (
    (f_X9_in μ (a2) ((0 : Int32)) ((1 : Int32))).bind fun y2 =>
    if y2 = (0 : Int32) then (
      some ((-1 : Int32), μ)
    ) else (
      (iter gFU (f_X9_paid_b21  (a1) (a2)) (((1 : Int32)), μ)).bind fun z41 =>
      (ldA z41 190 716 (a1)).bind fun y42 =>
      if y42 ≤ (0 : Int32) then (
        f_X9_paid_j225 z41 (a1) (a2)
      ) else (
        (ldA z41 188 49 ((1 : Int32))).bind fun y52 =>
        if y52 = (0 : Int32) then (
          some ((-9 : Int32), z41)
        ) else (
          f_X9_paid_j225 z41 (a1) (a2)
        )
      )
    )
  )
set_option maxRecDepth 100000 in
set_option maxHeartbeats 4000000 in
theorem k_X9_paid {l : Launch} {D : va_G} {cy : Nat → ClassId} {base : Nat} (μ : Mem) (a1 : Int32) (a2 : Int32)  {out : Int32 × Mem} (hS : f_X9_paid μ a1 a2 = some out) : gC l D cy base yX9_paid cX9_paid 9 (some .int) 2 [.ref (base + 186), .int (a1), .int (a2)] μ (some (.int out.1)) out.2 := by
  refine gC_of (own := RX9) (lv0 := [(0, .ref (base + 186)), (1, .int (a1)), (2, .int (a2))]) rfl (by decide) (Nat.le_of_ble_eq_true rfl) rfl ?_
  unfold f_X9_paid at hS
  refine g_aload_n (j := 0) (x := base + 186) dX9_paid_0 rfl rfl ?_
  refine g_iload_n (j := 1) (x := a1) dX9_paid_1 rfl rfl ?_
  obtain ⟨y1, ey1, hS⟩ := ob hS
  refine gs_callVi (As := [.int (a1)]) (st := []) (kr := 186) (k_X9_isStair μ (a1)  ey1) cl_RX9_104 sv_X9_isStair ckk_X9_isStair (tk_186 _) ⟨by decide, by decide⟩ (Nat.le_of_ble_eq_true rfl) ⟨Nat.zero_le _, Nat.zero_le _⟩ rfl dX9_paid_2 rfl ?_
  refine g_if_eq 17 dX9_paid_5 (by decide) (fun hc => ?_) (fun hc => ?_)
  · replace hS := (if_pos hc).symm.trans hS
    refine g_iconst (v := -1) dX9_paid_17 (by decide) ?_
    obtain rfl := Option.some.inj hS
    exact g_iret rfl dX9_paid_18
  · replace hS := (if_neg hc).symm.trans hS
    refine g_iload_n (j := 2) (x := a2) dX9_paid_8 rfl rfl ?_
    refine g_iconst (v := 0) dX9_paid_9 (by decide) ?_
    refine g_iconst (v := 1) dX9_paid_10 (by decide) ?_
    obtain ⟨y2, ey2, hS⟩ := ob hS
    refine gs_callSi (As := [.int (a2), .int ((0 : Int32)), .int ((1 : Int32))]) (st := []) (k_X9_in μ (a2) ((0 : Int32)) ((1 : Int32))  ey2) cl_RX9_54 sv_X9_in ⟨by decide, by decide⟩ (Nat.le_of_ble_eq_true rfl) ⟨Nat.zero_le _, Nat.zero_le _⟩ rfl dX9_paid_11 rfl ?_
    refine g_if_ne 19 dX9_paid_14 (by decide) (fun hc => ?_) (fun hc => ?_)
    · replace hS := (if_neg hc).symm.trans hS
      refine g_iconst (v := 1) dX9_paid_19 (by decide) ?_
      refine g_istore_n (lvx := [(3, .int ((1 : Int32))), (0, .ref (base + 186)), (1, .int (a1)), (2, .int (a2))]) dX9_paid_20 rfl (by decide) rfl ?_
      obtain ⟨z41, ez41, hS⟩ := ob hS
      refine g_sub (lvx := [(0, .ref (base + 186)), (1, .int (a1)), (2, .int (a2)), (3, .int ((1 : Int32)))]) [1, 2, 3, 0] rfl ?_
      refine iter_ind (fun vv => G l D cy base RX9 cX9_paid 9 (some .int) (gRm 2) (gXm yX9_paid) (gZm D cy base 0 0 (some (.int out.1)) gNN (gH cy base out.2)) 21 [(0, .ref (base + 186)), (1, .int (a1)), (2, .int (a2)), (3, .int (vv.1))] [] 0 0 gNN (gH cy base vv.2)) (fun xx => G l D cy base RX9 cX9_paid 9 (some .int) (gRm 2) (gXm yX9_paid) (gZm D cy base 0 0 (some (.int out.1)) gNN (gH cy base out.2)) 204 [(0, .ref (base + 186)), (1, .int (a1)), (2, .int (a2))] [] 0 0 gNN (gH cy base xx)) (fun vv rr hh hin hout => k_X9_paid_b21  (a1) (a2)  vv rr hh hin (fun xx ee => hout xx ee)) gFU (((1 : Int32)), μ) z41 ez41 ?_
      show G l D cy base RX9 cX9_paid 9 (some .int) (gRm 2) (gXm yX9_paid) (gZm D cy base 0 0 (some (.int out.1)) gNN (gH cy base out.2)) 204 [(0, .ref (base + 186)), (1, .int (a1)), (2, .int (a2))] [] 0 0 gNN (gH cy base z41)
      refine g_aload_n (j := 0) (x := base + 186) dX9_paid_204 rfl rfl ?_
      refine gs_getR (r := 190) lk_RX9_19 (tk_186 _) rfl dX9_paid_205 ?_
      refine g_iload_n (j := 1) (x := a1) dX9_paid_208 rfl rfl ?_
      obtain ⟨y42, ey42, hS⟩ := ob hS
      refine gs_iald (tk_190 _) dX9_paid_209 ey42 ?_
      refine g_if_le 225 dX9_paid_210 (by decide) (fun hc => ?_) (fun hc => ?_)
      · replace hS := (if_pos hc).symm.trans hS
        exact k_X9_paid_j225 (z41) (a1) (a2)  hS
      · replace hS := (if_neg hc).symm.trans hS
        refine g_aload_n (j := 0) (x := base + 186) dX9_paid_213 rfl rfl ?_
        refine gs_getR (r := 188) lk_RX9_13 (tk_186 _) rfl dX9_paid_214 ?_
        refine g_iconst (v := 1) dX9_paid_217 (by decide) ?_
        obtain ⟨y52, ey52, hS⟩ := ob hS
        refine gs_iald (tk_188 _) dX9_paid_218 ey52 ?_
        refine g_if_ne 225 dX9_paid_219 (by decide) (fun hc => ?_) (fun hc => ?_)
        · replace hS := (if_neg hc).symm.trans hS
          exact k_X9_paid_j225 (z41) (a1) (a2)  hS
        · replace hS := (if_pos hc).symm.trans hS
          refine g_bipush (v := -9) dX9_paid_222 (by decide) ?_
          obtain rfl := Option.some.inj hS
          exact g_iret rfl dX9_paid_224
    · replace hS := (if_pos hc).symm.trans hS
      refine g_iconst (v := -1) dX9_paid_17 (by decide) ?_
      obtain rfl := Option.some.inj hS
      exact g_iret rfl dX9_paid_18
def f_X9_dueBy_j79 (m11 : Mem) (x8 : Int32) (x9 : Int32) (x10 : Int32) (x13 : Int32) (x14 : Int32) (x15 : Int32) (x16 : Int32) : Option ((Int32 × Int32) ⊕ ((Int32))) :=
  if x13 ≤ (x15 - x16) then (
    some (.inl ((x13), ((x14 + (1 : Int32)))))
  ) else (
    some (.inl (((x15 - x16)), ((x14 + (1 : Int32)))))
  )
set_option maxRecDepth 100000 in
set_option maxHeartbeats 4000000 in
theorem k_X9_dueBy_j79 {l : Launch} {D : va_G} {cy : Nat → ClassId} {base : Nat} {X : gX} {Z : gZ} (m11 : Mem) (x8 : Int32) (x9 : Int32) (x10 : Int32) (x13 : Int32) (x14 : Int32) (x15 : Int32) (x16 : Int32)  {r : (Int32 × Int32) ⊕ ((Int32))} (hS : f_X9_dueBy_j79 m11 x8 x9 x10 x13 x14 x15 x16 = some r) (hin : ∀ v2, r = .inl v2 → G l D cy base RX9 cX9_dueBy 8 (some .int) (gRm 0) X Z 38 [(0, .ref (base + 186)), (1, .int (x8)), (2, .int (x9)), (3, .int (v2.1)), (4, .int (x10)), (5, .int (v2.2))] [] 0 0 gNN (gH cy base m11)) (hout0 : ∀ x, r = .inr x → G l D cy base RX9 cX9_dueBy 8 (some .int) (gRm 0) X Z 101 [(3, .int (x))] [] 0 0 gNN (gH cy base m11)) : G l D cy base RX9 cX9_dueBy 8 (some .int) (gRm 0) X Z 79 [(0, .ref (base + 186)), (1, .int (x8)), (2, .int (x9)), (3, .int (x13)), (4, .int (x10)), (5, .int (x14))] [.int (x16), .int (x15)] 0 0 gNN (gH cy base m11) := by
  unfold f_X9_dueBy_j79 at hS
  refine g_isub dX9_dueBy_79 ?_
  refine g_istore (lvx := [(7, .int ((x15 - x16))), (0, .ref (base + 186)), (1, .int (x8)), (2, .int (x9)), (3, .int (x13)), (4, .int (x10)), (5, .int (x14))]) dX9_dueBy_80 (by decide) rfl ?_
  refine g_iload (j := 0) (x := (x15 - x16)) dX9_dueBy_82 rfl ?_
  refine g_iload_n (j := 4) (x := x13) dX9_dueBy_84 rfl rfl ?_
  refine g_icmp_ge 93 dX9_dueBy_85 (by decide) (fun hc => ?_) (fun hc => ?_)
  · replace hS := (if_pos hc).symm.trans hS
    refine g_iload_n (j := 4) (x := x13) dX9_dueBy_93 rfl rfl ?_
    refine g_istore_n (lvx := [(3, .int (x13)), (7, .int ((x15 - x16))), (0, .ref (base + 186)), (1, .int (x8)), (2, .int (x9)), (4, .int (x10)), (5, .int (x14))]) dX9_dueBy_94 rfl (by decide) rfl ?_
    refine g_iinc (j := 6) (x := x14) (v := (x14 + (1 : Int32))) (lvx := [(5, .int ((x14 + (1 : Int32)))), (3, .int (x13)), (7, .int ((x15 - x16))), (0, .ref (base + 186)), (1, .int (x8)), (2, .int (x9)), (4, .int (x10))]) dX9_dueBy_95 rfl rfl (by decide) rfl ?_
    refine g_goto 38 dX9_dueBy_98 (by decide) ?_
    refine g_sub (lvx := [(0, .ref (base + 186)), (1, .int (x8)), (2, .int (x9)), (3, .int (x13)), (4, .int (x10)), (5, .int ((x14 + (1 : Int32))))]) [3, 4, 5, 1, 6, 0] rfl ?_
    obtain rfl := Option.some.inj hS
    exact hin (((x13), ((x14 + (1 : Int32))))) rfl
  · replace hS := (if_neg hc).symm.trans hS
    refine g_iload (j := 0) (x := (x15 - x16)) dX9_dueBy_88 rfl ?_
    refine g_goto 94 dX9_dueBy_90 (by decide) ?_
    refine g_istore_n (lvx := [(3, .int ((x15 - x16))), (7, .int ((x15 - x16))), (0, .ref (base + 186)), (1, .int (x8)), (2, .int (x9)), (4, .int (x10)), (5, .int (x14))]) dX9_dueBy_94 rfl (by decide) rfl ?_
    refine g_iinc (j := 6) (x := x14) (v := (x14 + (1 : Int32))) (lvx := [(5, .int ((x14 + (1 : Int32)))), (3, .int ((x15 - x16))), (7, .int ((x15 - x16))), (0, .ref (base + 186)), (1, .int (x8)), (2, .int (x9)), (4, .int (x10))]) dX9_dueBy_95 rfl rfl (by decide) rfl ?_
    refine g_goto 38 dX9_dueBy_98 (by decide) ?_
    refine g_sub (lvx := [(0, .ref (base + 186)), (1, .int (x8)), (2, .int (x9)), (3, .int ((x15 - x16))), (4, .int (x10)), (5, .int ((x14 + (1 : Int32))))]) [3, 4, 5, 1, 6, 0] rfl ?_
    obtain rfl := Option.some.inj hS
    exact hin ((((x15 - x16)), ((x14 + (1 : Int32))))) rfl
def f_X9_dueBy_b38 (m11 : Mem) (x8 : Int32) (x9 : Int32) (x10 : Int32) (v : Int32 × Int32) : Option ((Int32 × Int32) ⊕ ((Int32))) :=
  if x9 < ((3 : Int32) * v.2) then (
    some (.inr (v.1))
  ) else (
    (ldA m11 190 716 (x8)).bind fun y12 =>
    if x10 ≤ (x9 - ((3 : Int32) * v.2)) then (
      f_X9_dueBy_j79 m11 x8 x9 x10 (v.1) (v.2) ((y12 - ((4 : Int32) * v.2))) (x10)
    ) else (
      f_X9_dueBy_j79 m11 x8 x9 x10 (v.1) (v.2) ((y12 - ((4 : Int32) * v.2))) ((x9 - ((3 : Int32) * v.2)))
    )
  )
set_option maxRecDepth 100000 in
set_option maxHeartbeats 4000000 in
theorem k_X9_dueBy_b38 {l : Launch} {D : va_G} {cy : Nat → ClassId} {base : Nat} {X : gX} {Z : gZ} (m11 : Mem) (x8 : Int32) (x9 : Int32) (x10 : Int32)  (v : Int32 × Int32) (r : (Int32 × Int32) ⊕ ((Int32))) (hS : f_X9_dueBy_b38 m11 x8 x9 x10 v = some r) (hin : ∀ v2, r = .inl v2 → G l D cy base RX9 cX9_dueBy 8 (some .int) (gRm 0) X Z 38 [(0, .ref (base + 186)), (1, .int (x8)), (2, .int (x9)), (3, .int (v2.1)), (4, .int (x10)), (5, .int (v2.2))] [] 0 0 gNN (gH cy base m11)) (hout0 : ∀ x, r = .inr x → G l D cy base RX9 cX9_dueBy 8 (some .int) (gRm 0) X Z 101 [(3, .int (x))] [] 0 0 gNN (gH cy base m11)) : G l D cy base RX9 cX9_dueBy 8 (some .int) (gRm 0) X Z 38 [(0, .ref (base + 186)), (1, .int (x8)), (2, .int (x9)), (3, .int (v.1)), (4, .int (x10)), (5, .int (v.2))] [] 0 0 gNN (gH cy base m11) := by
  unfold f_X9_dueBy_b38 at hS
  refine g_iconst (v := 3) dX9_dueBy_38 (by decide) ?_
  refine g_iload (j := 5) (x := v.2) dX9_dueBy_39 rfl ?_
  refine g_imul dX9_dueBy_41 ?_
  refine g_iload_n (j := 2) (x := x9) dX9_dueBy_42 rfl rfl ?_
  refine g_icmp_gt 101 dX9_dueBy_43 (by decide) (fun hc => ?_) (fun hc => ?_)
  · replace hS := (if_pos hc).symm.trans hS
    refine g_sub (lvx := [(3, .int (v.1))]) [3] rfl ?_
    obtain rfl := Option.some.inj hS
    exact hout0 ((v.1)) rfl
  · replace hS := (if_neg hc).symm.trans hS
    refine g_iload_n (j := 2) (x := x9) dX9_dueBy_46 rfl rfl ?_
    refine g_iconst (v := 3) dX9_dueBy_47 (by decide) ?_
    refine g_iload (j := 5) (x := v.2) dX9_dueBy_48 rfl ?_
    refine g_imul dX9_dueBy_50 ?_
    refine g_isub dX9_dueBy_51 ?_
    refine g_istore (lvx := [(6, .int ((x9 - ((3 : Int32) * v.2)))), (0, .ref (base + 186)), (1, .int (x8)), (2, .int (x9)), (3, .int (v.1)), (4, .int (x10)), (5, .int (v.2))]) dX9_dueBy_52 (by decide) rfl ?_
    refine g_aload_n (j := 1) (x := base + 186) dX9_dueBy_54 rfl rfl ?_
    refine gs_getR (r := 190) lk_RX9_19 (tk_186 _) rfl dX9_dueBy_55 ?_
    refine g_iload_n (j := 2) (x := x8) dX9_dueBy_58 rfl rfl ?_
    obtain ⟨y12, ey12, hS⟩ := ob hS
    refine gs_iald (tk_190 _) dX9_dueBy_59 ey12 ?_
    refine g_iconst (v := 4) dX9_dueBy_60 (by decide) ?_
    refine g_iload (j := 6) (x := v.2) dX9_dueBy_61 rfl ?_
    refine g_imul dX9_dueBy_63 ?_
    refine g_isub dX9_dueBy_64 ?_
    refine g_iload (j := 0) (x := (x9 - ((3 : Int32) * v.2))) dX9_dueBy_65 rfl ?_
    refine g_iload (j := 5) (x := x10) dX9_dueBy_67 rfl ?_
    refine g_icmp_ge 77 dX9_dueBy_69 (by decide) (fun hc => ?_) (fun hc => ?_)
    · replace hS := (if_pos hc).symm.trans hS
      refine g_iload (j := 5) (x := x10) dX9_dueBy_77 rfl ?_
      refine g_sub (lvx := [(0, .ref (base + 186)), (1, .int (x8)), (2, .int (x9)), (3, .int (v.1)), (4, .int (x10)), (5, .int (v.2))]) [1, 2, 3, 4, 5, 6] rfl ?_
      exact k_X9_dueBy_j79 (m11) x8 x9 x10 (v.1) (v.2) ((y12 - ((4 : Int32) * v.2))) (x10)  hS hin hout0
    · replace hS := (if_neg hc).symm.trans hS
      refine g_iload (j := 0) (x := (x9 - ((3 : Int32) * v.2))) dX9_dueBy_72 rfl ?_
      refine g_goto 79 dX9_dueBy_74 (by decide) ?_
      refine g_sub (lvx := [(0, .ref (base + 186)), (1, .int (x8)), (2, .int (x9)), (3, .int (v.1)), (4, .int (x10)), (5, .int (v.2))]) [1, 2, 3, 4, 5, 6] rfl ?_
      exact k_X9_dueBy_j79 (m11) x8 x9 x10 (v.1) (v.2) ((y12 - ((4 : Int32) * v.2))) ((x9 - ((3 : Int32) * v.2)))  hS hin hout0
def f_X9_dueBy_j16 (m5 : Mem) (x2 : Int32) (x3 : Int32) (x4 : Int32) : Option (Int32) :=
  (ldA m5 188 49 ((2 : Int32))).bind fun y6 =>
  (ldA m5 190 716 (((7 : Int32) + x2))).bind fun y7 =>
  (iter gFU (f_X9_dueBy_b38 m5 (x2) (x3) ((y6 - y7))) ((x4), ((0 : Int32)))).bind fun z21 =>
  if (0 : Int32) ≤ z21 then (
    some (z21)
  ) else (
    some ((0 : Int32))
  )
set_option maxRecDepth 100000 in
set_option maxHeartbeats 4000000 in
theorem k_X9_dueBy_j16 {l : Launch} {D : va_G} {cy : Nat → ClassId} {base : Nat} {X : gX} (m5 : Mem) (x2 : Int32) (x3 : Int32) (x4 : Int32)  {out : Int32} (hS : f_X9_dueBy_j16 m5 x2 x3 x4 = some out)  : G l D cy base RX9 cX9_dueBy 8 (some .int) (gRm 0) X (gZm D cy base 0 0 (some (.int out)) gNN (gH cy base m5)) 16 [(0, .ref (base + 186)), (1, .int (x2)), (2, .int (x3))] [.int (x4)] 0 0 gNN (gH cy base m5) := by
  unfold f_X9_dueBy_j16 at hS
  refine g_istore_n (lvx := [(3, .int (x4)), (0, .ref (base + 186)), (1, .int (x2)), (2, .int (x3))]) dX9_dueBy_16 rfl (by decide) rfl ?_
  refine g_aload_n (j := 1) (x := base + 186) dX9_dueBy_17 rfl rfl ?_
  refine gs_getR (r := 188) lk_RX9_13 (tk_186 _) rfl dX9_dueBy_18 ?_
  refine g_iconst (v := 2) dX9_dueBy_21 (by decide) ?_
  obtain ⟨y6, ey6, hS⟩ := ob hS
  refine gs_iald (tk_188 _) dX9_dueBy_22 ey6 ?_
  refine g_aload_n (j := 1) (x := base + 186) dX9_dueBy_23 rfl rfl ?_
  refine gs_getR (r := 190) lk_RX9_19 (tk_186 _) rfl dX9_dueBy_24 ?_
  refine g_bipush (v := 7) dX9_dueBy_27 (by decide) ?_
  refine g_iload_n (j := 2) (x := x2) dX9_dueBy_29 rfl rfl ?_
  refine g_iadd dX9_dueBy_30 ?_
  obtain ⟨y7, ey7, hS⟩ := ob hS
  refine gs_iald (tk_190 _) dX9_dueBy_31 ey7 ?_
  refine g_isub dX9_dueBy_32 ?_
  refine g_istore (lvx := [(4, .int ((y6 - y7))), (3, .int (x4)), (0, .ref (base + 186)), (1, .int (x2)), (2, .int (x3))]) dX9_dueBy_33 (by decide) rfl ?_
  refine g_iconst (v := 0) dX9_dueBy_35 (by decide) ?_
  refine g_istore (lvx := [(5, .int ((0 : Int32))), (4, .int ((y6 - y7))), (3, .int (x4)), (0, .ref (base + 186)), (1, .int (x2)), (2, .int (x3))]) dX9_dueBy_36 (by decide) rfl ?_
  obtain ⟨z21, ez21, hS⟩ := ob hS
  refine g_sub (lvx := [(0, .ref (base + 186)), (1, .int (x2)), (2, .int (x3)), (3, .int (x4)), (4, .int ((y6 - y7))), (5, .int ((0 : Int32)))]) [3, 4, 5, 2, 1, 0] rfl ?_
  refine iter_ind (fun vv => G l D cy base RX9 cX9_dueBy 8 (some .int) (gRm 0) X (gZm D cy base 0 0 (some (.int out)) gNN (gH cy base m5)) 38 [(0, .ref (base + 186)), (1, .int (x2)), (2, .int (x3)), (3, .int (vv.1)), (4, .int ((y6 - y7))), (5, .int (vv.2))] [] 0 0 gNN (gH cy base m5)) (fun xx => G l D cy base RX9 cX9_dueBy 8 (some .int) (gRm 0) X (gZm D cy base 0 0 (some (.int out)) gNN (gH cy base m5)) 101 [(3, .int (xx))] [] 0 0 gNN (gH cy base m5)) (fun vv rr hh hin hout => k_X9_dueBy_b38 m5 (x2) (x3) ((y6 - y7))  vv rr hh hin (fun xx ee => hout xx ee)) gFU ((x4), ((0 : Int32))) z21 ez21 ?_
  show G l D cy base RX9 cX9_dueBy 8 (some .int) (gRm 0) X (gZm D cy base 0 0 (some (.int out)) gNN (gH cy base m5)) 101 [(3, .int (z21))] [] 0 0 gNN (gH cy base m5)
  refine g_iload_n (j := 0) (x := z21) dX9_dueBy_101 rfl rfl ?_
  refine g_if_ge 109 dX9_dueBy_102 (by decide) (fun hc => ?_) (fun hc => ?_)
  · replace hS := (if_pos hc).symm.trans hS
    refine g_iload_n (j := 0) (x := z21) dX9_dueBy_109 rfl rfl ?_
    obtain rfl := Option.some.inj hS
    exact g_iret rfl dX9_dueBy_110
  · replace hS := (if_neg hc).symm.trans hS
    refine g_iconst (v := 0) dX9_dueBy_105 (by decide) ?_
    refine g_goto 110 dX9_dueBy_106 (by decide) ?_
    obtain rfl := Option.some.inj hS
    exact g_iret rfl dX9_dueBy_110
def f_X9_dueBy (μ : Mem) (a1 : Int32) (a2 : Int32) : Option (Int32) :=
  if a2 ≤ (11 : Int32) then (
    (ldA μ 190 716 (a1)).bind fun y1 =>
    f_X9_dueBy_j16 μ (a1) (a2) (y1)
  ) else (
    f_X9_dueBy_j16 μ (a1) (a2) ((0 : Int32))
  )
set_option maxRecDepth 100000 in
set_option maxHeartbeats 4000000 in
theorem k_X9_dueBy {l : Launch} {D : va_G} {cy : Nat → ClassId} {base : Nat} (μ : Mem) (a1 : Int32) (a2 : Int32)  {out : Int32} (hS : f_X9_dueBy μ a1 a2 = some out) : gC l D cy base yX9_dueBy cX9_dueBy 8 (some .int) 0 [.ref (base + 186), .int (a1), .int (a2)] μ (some (.int out)) μ := by
  refine gC_of (own := RX9) (lv0 := [(0, .ref (base + 186)), (1, .int (a1)), (2, .int (a2))]) rfl (by decide) (Nat.le_of_ble_eq_true rfl) rfl ?_
  unfold f_X9_dueBy at hS
  refine g_iload_n (j := 2) (x := a2) dX9_dueBy_0 rfl rfl ?_
  refine g_bipush (v := 11) dX9_dueBy_1 (by decide) ?_
  refine g_icmp_le 10 dX9_dueBy_3 (by decide) (fun hc => ?_) (fun hc => ?_)
  · replace hS := (if_pos hc).symm.trans hS
    refine g_aload_n (j := 0) (x := base + 186) dX9_dueBy_10 rfl rfl ?_
    refine gs_getR (r := 190) lk_RX9_19 (tk_186 _) rfl dX9_dueBy_11 ?_
    refine g_iload_n (j := 1) (x := a1) dX9_dueBy_14 rfl rfl ?_
    obtain ⟨y1, ey1, hS⟩ := ob hS
    refine gs_iald (tk_190 _) dX9_dueBy_15 ey1 ?_
    exact k_X9_dueBy_j16 (μ) (a1) (a2) (y1)  hS
  · replace hS := (if_neg hc).symm.trans hS
    refine g_iconst (v := 0) dX9_dueBy_6 (by decide) ?_
    refine g_goto 16 dX9_dueBy_7 (by decide) ?_
    exact k_X9_dueBy_j16 (μ) (a1) (a2) ((0 : Int32))  hS
def f_X9_coins_b31 (x4 : Int32) (x5 : Int32) (v : Int32 × Mem) : Option ((Int32 × Mem) ⊕ ((Mem))) :=
  if x4 < v.1 then (
    some (.inr (v.2))
  ) else (
    (ldA v.2 188 49 ((0 : Int32))).bind fun y6 =>
    (stA v.2 197 800 ((((100 : Int32) * y6) + v.1)) ((0 : Int32))).bind fun m7 =>
    (ldA m7 188 49 ((0 : Int32))).bind fun y8 =>
    (stA m7 198 800 ((((100 : Int32) * y8) + v.1)) ((0 : Int32))).bind fun m9 =>
    some (.inl (((v.1 + (1 : Int32))), (m9)))
  )
set_option maxRecDepth 100000 in
set_option maxHeartbeats 4000000 in
theorem k_X9_coins_b31 {l : Launch} {D : va_G} {cy : Nat → ClassId} {base : Nat} {X : gX} {Z : gZ} (x4 : Int32) (x5 : Int32)  (v : Int32 × Mem) (r : (Int32 × Mem) ⊕ ((Mem))) (hS : f_X9_coins_b31 x4 x5 v = some r) (hin : ∀ v2, r = .inl v2 → G l D cy base RX9 cX9_coins 12 (some .int) (gRm 1) X Z 31 [(0, .ref (base + 186)), (1, .int (x4)), (2, .int (x5)), (3, .int (v2.1))] [] 0 0 gNN (gH cy base v2.2)) (hout0 : ∀ x, r = .inr x → G l D cy base RX9 cX9_coins 12 (some .int) (gRm 1) X Z 76 [(0, .ref (base + 186)), (1, .int (x4)), (2, .int (x5))] [] 0 0 gNN (gH cy base x)) : G l D cy base RX9 cX9_coins 12 (some .int) (gRm 1) X Z 31 [(0, .ref (base + 186)), (1, .int (x4)), (2, .int (x5)), (3, .int (v.1))] [] 0 0 gNN (gH cy base v.2) := by
  unfold f_X9_coins_b31 at hS
  refine g_iload_n (j := 3) (x := v.1) dX9_coins_31 rfl rfl ?_
  refine g_iload_n (j := 1) (x := x4) dX9_coins_32 rfl rfl ?_
  refine g_icmp_gt 76 dX9_coins_33 (by decide) (fun hc => ?_) (fun hc => ?_)
  · replace hS := (if_pos hc).symm.trans hS
    refine g_sub (lvx := [(0, .ref (base + 186)), (1, .int (x4)), (2, .int (x5))]) [0, 1, 2] rfl ?_
    obtain rfl := Option.some.inj hS
    exact hout0 ((v.2)) rfl
  · replace hS := (if_neg hc).symm.trans hS
    refine g_aload_n (j := 0) (x := base + 186) dX9_coins_36 rfl rfl ?_
    refine gs_getR (r := 197) lk_RX9_41 (tk_186 _) rfl dX9_coins_37 ?_
    refine g_bipush (v := 100) dX9_coins_40 (by decide) ?_
    refine g_aload_n (j := 0) (x := base + 186) dX9_coins_42 rfl rfl ?_
    refine gs_getR (r := 188) lk_RX9_13 (tk_186 _) rfl dX9_coins_43 ?_
    refine g_iconst (v := 0) dX9_coins_46 (by decide) ?_
    obtain ⟨y6, ey6, hS⟩ := ob hS
    refine gs_iald (tk_188 _) dX9_coins_47 ey6 ?_
    refine g_imul dX9_coins_48 ?_
    refine g_iload_n (j := 3) (x := v.1) dX9_coins_49 rfl rfl ?_
    refine g_iadd dX9_coins_50 ?_
    refine g_iconst (v := 0) dX9_coins_51 (by decide) ?_
    obtain ⟨m7, em7, hS⟩ := ob hS
    refine gs_iast (tk_197 _) dX9_coins_52 em7 ?_
    refine g_aload_n (j := 0) (x := base + 186) dX9_coins_53 rfl rfl ?_
    refine gs_getR (r := 198) lk_RX9_44 (tk_186 _) rfl dX9_coins_54 ?_
    refine g_bipush (v := 100) dX9_coins_57 (by decide) ?_
    refine g_aload_n (j := 0) (x := base + 186) dX9_coins_59 rfl rfl ?_
    refine gs_getR (r := 188) lk_RX9_13 (tk_186 _) rfl dX9_coins_60 ?_
    refine g_iconst (v := 0) dX9_coins_63 (by decide) ?_
    obtain ⟨y8, ey8, hS⟩ := ob hS
    refine gs_iald (tk_188 _) dX9_coins_64 ey8 ?_
    refine g_imul dX9_coins_65 ?_
    refine g_iload_n (j := 3) (x := v.1) dX9_coins_66 rfl rfl ?_
    refine g_iadd dX9_coins_67 ?_
    refine g_iconst (v := 0) dX9_coins_68 (by decide) ?_
    obtain ⟨m9, em9, hS⟩ := ob hS
    refine gs_iast (tk_198 _) dX9_coins_69 em9 ?_
    refine g_iinc (j := 3) (x := v.1) (v := (v.1 + (1 : Int32))) (lvx := [(3, .int ((v.1 + (1 : Int32)))), (0, .ref (base + 186)), (1, .int (x4)), (2, .int (x5))]) dX9_coins_70 rfl rfl (by decide) rfl ?_
    refine g_goto 31 dX9_coins_73 (by decide) ?_
    refine g_sub (lvx := [(0, .ref (base + 186)), (1, .int (x4)), (2, .int (x5)), (3, .int ((v.1 + (1 : Int32))))]) [1, 2, 3, 0] rfl ?_
    obtain rfl := Option.some.inj hS
    exact hin ((((v.1 + (1 : Int32))), (m9))) rfl
def f_X9_coins_j198 (m21 : Mem) (x17 : Int32) (x18 : Int32) (x19 : Int32) (x20 : Int32) (x36 : Int32) (x37 : Int32) (x38 : Int32) (x39 : Int32) (x40 : Int32) : Option ((Int32 × Int32 × Int32) ⊕ ((Int32 × Int32))) :=
  if x39 = (0 : Int32) then (
    some (.inl ((x40), (x36), ((x37 + (1 : Int32)))))
  ) else (
    some (.inl ((x40), (x38), ((x37 + (1 : Int32)))))
  )
set_option maxRecDepth 100000 in
set_option maxHeartbeats 4000000 in
theorem k_X9_coins_j198 {l : Launch} {D : va_G} {cy : Nat → ClassId} {base : Nat} {X : gX} {Z : gZ} (m21 : Mem) (x17 : Int32) (x18 : Int32) (x19 : Int32) (x20 : Int32) (x36 : Int32) (x37 : Int32) (x38 : Int32) (x39 : Int32) (x40 : Int32)  {r : (Int32 × Int32 × Int32) ⊕ ((Int32 × Int32))} (hS : f_X9_coins_j198 m21 x17 x18 x19 x20 x36 x37 x38 x39 x40 = some r) (hin : ∀ v2, r = .inl v2 → G l D cy base RX9 cX9_coins 12 (some .int) (gRm 1) X Z 108 [(0, .ref (base + 186)), (1, .int (x17)), (2, .int (x18)), (3, .int (x19)), (4, .int (x20)), (5, .int (v2.1)), (6, .int (v2.2.1)), (7, .int (v2.2.2))] [] 0 0 gNN (gH cy base m21)) (hout0 : ∀ x, r = .inr x → G l D cy base RX9 cX9_coins 12 (some .int) (gRm 1) X Z 220 [(0, .ref (base + 186)), (1, .int (x17)), (2, .int (x18)), (3, .int (x19)), (4, .int (x20)), (5, .int (x.1)), (6, .int (x.2))] [] 0 0 gNN (gH cy base m21)) : G l D cy base RX9 cX9_coins 12 (some .int) (gRm 1) X Z 198 [(0, .ref (base + 186)), (1, .int (x17)), (2, .int (x18)), (3, .int (x19)), (4, .int (x20)), (6, .int (x36)), (7, .int (x37)), (10, .int (x38)), (11, .int (x39))] [.int (x40)] 0 0 gNN (gH cy base m21) := by
  unfold f_X9_coins_j198 at hS
  refine g_istore (lvx := [(5, .int (x40)), (0, .ref (base + 186)), (1, .int (x17)), (2, .int (x18)), (3, .int (x19)), (4, .int (x20)), (6, .int (x36)), (7, .int (x37)), (10, .int (x38)), (11, .int (x39))]) dX9_coins_198 (by decide) rfl ?_
  refine g_iload (j := 9) (x := x39) dX9_coins_200 rfl ?_
  refine g_if_eq 210 dX9_coins_202 (by decide) (fun hc => ?_) (fun hc => ?_)
  · replace hS := (if_pos hc).symm.trans hS
    refine g_iload (j := 6) (x := x36) dX9_coins_210 rfl ?_
    refine g_istore (lvx := [(6, .int (x36)), (5, .int (x40)), (0, .ref (base + 186)), (1, .int (x17)), (2, .int (x18)), (3, .int (x19)), (4, .int (x20)), (7, .int (x37)), (10, .int (x38)), (11, .int (x39))]) dX9_coins_212 (by decide) rfl ?_
    refine g_iinc (j := 7) (x := x37) (v := (x37 + (1 : Int32))) (lvx := [(7, .int ((x37 + (1 : Int32)))), (6, .int (x36)), (5, .int (x40)), (0, .ref (base + 186)), (1, .int (x17)), (2, .int (x18)), (3, .int (x19)), (4, .int (x20)), (10, .int (x38)), (11, .int (x39))]) dX9_coins_214 rfl rfl (by decide) rfl ?_
    refine g_goto 108 dX9_coins_217 (by decide) ?_
    refine g_sub (lvx := [(0, .ref (base + 186)), (1, .int (x17)), (2, .int (x18)), (3, .int (x19)), (4, .int (x20)), (5, .int (x40)), (6, .int (x36)), (7, .int ((x37 + (1 : Int32))))]) [3, 4, 5, 6, 7, 2, 1, 0] rfl ?_
    obtain rfl := Option.some.inj hS
    exact hin (((x40), (x36), ((x37 + (1 : Int32))))) rfl
  · replace hS := (if_neg hc).symm.trans hS
    refine g_iload (j := 8) (x := x38) dX9_coins_205 rfl ?_
    refine g_goto 212 dX9_coins_207 (by decide) ?_
    refine g_istore (lvx := [(6, .int (x38)), (5, .int (x40)), (0, .ref (base + 186)), (1, .int (x17)), (2, .int (x18)), (3, .int (x19)), (4, .int (x20)), (7, .int (x37)), (10, .int (x38)), (11, .int (x39))]) dX9_coins_212 (by decide) rfl ?_
    refine g_iinc (j := 7) (x := x37) (v := (x37 + (1 : Int32))) (lvx := [(7, .int ((x37 + (1 : Int32)))), (6, .int (x38)), (5, .int (x40)), (0, .ref (base + 186)), (1, .int (x17)), (2, .int (x18)), (3, .int (x19)), (4, .int (x20)), (10, .int (x38)), (11, .int (x39))]) dX9_coins_214 rfl rfl (by decide) rfl ?_
    refine g_goto 108 dX9_coins_217 (by decide) ?_
    refine g_sub (lvx := [(0, .ref (base + 186)), (1, .int (x17)), (2, .int (x18)), (3, .int (x19)), (4, .int (x20)), (5, .int (x40)), (6, .int (x38)), (7, .int ((x37 + (1 : Int32))))]) [3, 4, 5, 6, 7, 2, 1, 0] rfl ?_
    obtain rfl := Option.some.inj hS
    exact hin (((x40), (x38), ((x37 + (1 : Int32))))) rfl
def f_X9_coins_j184 (m21 : Mem) (x17 : Int32) (x18 : Int32) (x19 : Int32) (x20 : Int32) (x30 : Int32) (x31 : Int32) (x32 : Int32) (x33 : Int32) (x34 : Int32) (x35 : Int32) : Option ((Int32 × Int32 × Int32) ⊕ ((Int32 × Int32))) :=
  if x35 = (0 : Int32) then (
    f_X9_coins_j198 m21 x17 x18 x19 x20 (x31) (x32) (x34) (x35) (x30)
  ) else (
    f_X9_coins_j198 m21 x17 x18 x19 x20 (x31) (x32) (x34) (x35) (x33)
  )
set_option maxRecDepth 100000 in
set_option maxHeartbeats 4000000 in
theorem k_X9_coins_j184 {l : Launch} {D : va_G} {cy : Nat → ClassId} {base : Nat} {X : gX} {Z : gZ} (m21 : Mem) (x17 : Int32) (x18 : Int32) (x19 : Int32) (x20 : Int32) (x30 : Int32) (x31 : Int32) (x32 : Int32) (x33 : Int32) (x34 : Int32) (x35 : Int32)  {r : (Int32 × Int32 × Int32) ⊕ ((Int32 × Int32))} (hS : f_X9_coins_j184 m21 x17 x18 x19 x20 x30 x31 x32 x33 x34 x35 = some r) (hin : ∀ v2, r = .inl v2 → G l D cy base RX9 cX9_coins 12 (some .int) (gRm 1) X Z 108 [(0, .ref (base + 186)), (1, .int (x17)), (2, .int (x18)), (3, .int (x19)), (4, .int (x20)), (5, .int (v2.1)), (6, .int (v2.2.1)), (7, .int (v2.2.2))] [] 0 0 gNN (gH cy base m21)) (hout0 : ∀ x, r = .inr x → G l D cy base RX9 cX9_coins 12 (some .int) (gRm 1) X Z 220 [(0, .ref (base + 186)), (1, .int (x17)), (2, .int (x18)), (3, .int (x19)), (4, .int (x20)), (5, .int (x.1)), (6, .int (x.2))] [] 0 0 gNN (gH cy base m21)) : G l D cy base RX9 cX9_coins 12 (some .int) (gRm 1) X Z 184 [(0, .ref (base + 186)), (1, .int (x17)), (2, .int (x18)), (3, .int (x19)), (4, .int (x20)), (5, .int (x30)), (6, .int (x31)), (7, .int (x32)), (9, .int (x33)), (10, .int (x34))] [.int (x35)] 0 0 gNN (gH cy base m21) := by
  unfold f_X9_coins_j184 at hS
  refine g_istore (lvx := [(11, .int (x35)), (0, .ref (base + 186)), (1, .int (x17)), (2, .int (x18)), (3, .int (x19)), (4, .int (x20)), (5, .int (x30)), (6, .int (x31)), (7, .int (x32)), (9, .int (x33)), (10, .int (x34))]) dX9_coins_184 (by decide) rfl ?_
  refine g_iload (j := 0) (x := x35) dX9_coins_186 rfl ?_
  refine g_if_eq 196 dX9_coins_188 (by decide) (fun hc => ?_) (fun hc => ?_)
  · replace hS := (if_pos hc).symm.trans hS
    refine g_iload (j := 6) (x := x30) dX9_coins_196 rfl ?_
    refine g_sub (lvx := [(0, .ref (base + 186)), (1, .int (x17)), (2, .int (x18)), (3, .int (x19)), (4, .int (x20)), (6, .int (x31)), (7, .int (x32)), (10, .int (x34)), (11, .int (x35))]) [1, 2, 3, 4, 5, 7, 8, 10, 0] rfl ?_
    exact k_X9_coins_j198 (m21) x17 x18 x19 x20 (x31) (x32) (x34) (x35) (x30)  hS hin hout0
  · replace hS := (if_neg hc).symm.trans hS
    refine g_iload (j := 9) (x := x33) dX9_coins_191 rfl ?_
    refine g_goto 198 dX9_coins_193 (by decide) ?_
    refine g_sub (lvx := [(0, .ref (base + 186)), (1, .int (x17)), (2, .int (x18)), (3, .int (x19)), (4, .int (x20)), (6, .int (x31)), (7, .int (x32)), (10, .int (x34)), (11, .int (x35))]) [1, 2, 3, 4, 5, 7, 8, 10, 0] rfl ?_
    exact k_X9_coins_j198 (m21) x17 x18 x19 x20 (x31) (x32) (x34) (x35) (x33)  hS hin hout0
def f_X9_coins_j179 (m21 : Mem) (x17 : Int32) (x18 : Int32) (x19 : Int32) (x20 : Int32) (x25 : Int32) (x26 : Int32) (x27 : Int32) (x28 : Int32) (x29 : Int32) : Option ((Int32 × Int32 × Int32) ⊕ ((Int32 × Int32))) :=
  f_X9_coins_j184 m21 x17 x18 x19 x20 (x25) (x26) (x27) (x28) (x29) ((1 : Int32))
set_option maxRecDepth 100000 in
set_option maxHeartbeats 4000000 in
theorem k_X9_coins_j179 {l : Launch} {D : va_G} {cy : Nat → ClassId} {base : Nat} {X : gX} {Z : gZ} (m21 : Mem) (x17 : Int32) (x18 : Int32) (x19 : Int32) (x20 : Int32) (x25 : Int32) (x26 : Int32) (x27 : Int32) (x28 : Int32) (x29 : Int32)  {r : (Int32 × Int32 × Int32) ⊕ ((Int32 × Int32))} (hS : f_X9_coins_j179 m21 x17 x18 x19 x20 x25 x26 x27 x28 x29 = some r) (hin : ∀ v2, r = .inl v2 → G l D cy base RX9 cX9_coins 12 (some .int) (gRm 1) X Z 108 [(0, .ref (base + 186)), (1, .int (x17)), (2, .int (x18)), (3, .int (x19)), (4, .int (x20)), (5, .int (v2.1)), (6, .int (v2.2.1)), (7, .int (v2.2.2))] [] 0 0 gNN (gH cy base m21)) (hout0 : ∀ x, r = .inr x → G l D cy base RX9 cX9_coins 12 (some .int) (gRm 1) X Z 220 [(0, .ref (base + 186)), (1, .int (x17)), (2, .int (x18)), (3, .int (x19)), (4, .int (x20)), (5, .int (x.1)), (6, .int (x.2))] [] 0 0 gNN (gH cy base m21)) : G l D cy base RX9 cX9_coins 12 (some .int) (gRm 1) X Z 179 [(0, .ref (base + 186)), (1, .int (x17)), (2, .int (x18)), (3, .int (x19)), (4, .int (x20)), (5, .int (x25)), (6, .int (x26)), (7, .int (x27)), (9, .int (x28)), (10, .int (x29))] [] 0 0 gNN (gH cy base m21) := by
  unfold f_X9_coins_j179 at hS
  refine g_iconst (v := 1) dX9_coins_179 (by decide) ?_
  refine g_goto 184 dX9_coins_180 (by decide) ?_
  exact k_X9_coins_j184 (m21) x17 x18 x19 x20 (x25) (x26) (x27) (x28) (x29) ((1 : Int32))  hS hin hout0
def f_X9_coins_j183 (m21 : Mem) (x17 : Int32) (x18 : Int32) (x19 : Int32) (x20 : Int32) (x46 : Int32) (x47 : Int32) (x48 : Int32) (x49 : Int32) (x50 : Int32) : Option ((Int32 × Int32 × Int32) ⊕ ((Int32 × Int32))) :=
  f_X9_coins_j184 m21 x17 x18 x19 x20 (x46) (x47) (x48) (x49) (x50) ((0 : Int32))
set_option maxRecDepth 100000 in
set_option maxHeartbeats 4000000 in
theorem k_X9_coins_j183 {l : Launch} {D : va_G} {cy : Nat → ClassId} {base : Nat} {X : gX} {Z : gZ} (m21 : Mem) (x17 : Int32) (x18 : Int32) (x19 : Int32) (x20 : Int32) (x46 : Int32) (x47 : Int32) (x48 : Int32) (x49 : Int32) (x50 : Int32)  {r : (Int32 × Int32 × Int32) ⊕ ((Int32 × Int32))} (hS : f_X9_coins_j183 m21 x17 x18 x19 x20 x46 x47 x48 x49 x50 = some r) (hin : ∀ v2, r = .inl v2 → G l D cy base RX9 cX9_coins 12 (some .int) (gRm 1) X Z 108 [(0, .ref (base + 186)), (1, .int (x17)), (2, .int (x18)), (3, .int (x19)), (4, .int (x20)), (5, .int (v2.1)), (6, .int (v2.2.1)), (7, .int (v2.2.2))] [] 0 0 gNN (gH cy base m21)) (hout0 : ∀ x, r = .inr x → G l D cy base RX9 cX9_coins 12 (some .int) (gRm 1) X Z 220 [(0, .ref (base + 186)), (1, .int (x17)), (2, .int (x18)), (3, .int (x19)), (4, .int (x20)), (5, .int (x.1)), (6, .int (x.2))] [] 0 0 gNN (gH cy base m21)) : G l D cy base RX9 cX9_coins 12 (some .int) (gRm 1) X Z 183 [(0, .ref (base + 186)), (1, .int (x17)), (2, .int (x18)), (3, .int (x19)), (4, .int (x20)), (5, .int (x46)), (6, .int (x47)), (7, .int (x48)), (9, .int (x49)), (10, .int (x50))] [] 0 0 gNN (gH cy base m21) := by
  unfold f_X9_coins_j183 at hS
  refine g_iconst (v := 0) dX9_coins_183 (by decide) ?_
  exact k_X9_coins_j184 (m21) x17 x18 x19 x20 (x46) (x47) (x48) (x49) (x50) ((0 : Int32))  hS hin hout0
def f_X9_coins_b108 (m21 : Mem) (x17 : Int32) (x18 : Int32) (x19 : Int32) (x20 : Int32) (v : Int32 × Int32 × Int32) : Option ((Int32 × Int32 × Int32) ⊕ ((Int32 × Int32))) :=
  if x20 < v.2.2 then (
    some (.inr ((v.1), (v.2.1)))
  ) else (
    (f_X9_dueBy m21 (x19) (v.2.2)).bind fun y22 =>
    (ldA m21 197 800 (((((100 : Int32) * (x19 + (1 : Int32))) + x20) - v.2.2))).bind fun y23 =>
    (ldA m21 198 800 (((((100 : Int32) * (x19 + (1 : Int32))) + x20) - v.2.2))).bind fun y24 =>
    if (y22 + y23) < v.1 then (
      f_X9_coins_j179 m21 x17 x18 x19 x20 (v.1) (v.2.1) (v.2.2) ((y22 + y23)) ((v.2.2 + y24))
    ) else (
      if (y22 + y23) = v.1 then (
        if v.2.1 ≤ (v.2.2 + y24) then (
          f_X9_coins_j183 m21 x17 x18 x19 x20 (v.1) (v.2.1) (v.2.2) ((y22 + y23)) ((v.2.2 + y24))
        ) else (
          f_X9_coins_j179 m21 x17 x18 x19 x20 (v.1) (v.2.1) (v.2.2) ((y22 + y23)) ((v.2.2 + y24))
        )
      ) else (
        f_X9_coins_j183 m21 x17 x18 x19 x20 (v.1) (v.2.1) (v.2.2) ((y22 + y23)) ((v.2.2 + y24))
      )
    )
  )
set_option maxRecDepth 100000 in
set_option maxHeartbeats 4000000 in
theorem k_X9_coins_b108 {l : Launch} {D : va_G} {cy : Nat → ClassId} {base : Nat} {X : gX} {Z : gZ} (m21 : Mem) (x17 : Int32) (x18 : Int32) (x19 : Int32) (x20 : Int32)  (v : Int32 × Int32 × Int32) (r : (Int32 × Int32 × Int32) ⊕ ((Int32 × Int32))) (hS : f_X9_coins_b108 m21 x17 x18 x19 x20 v = some r) (hin : ∀ v2, r = .inl v2 → G l D cy base RX9 cX9_coins 12 (some .int) (gRm 1) X Z 108 [(0, .ref (base + 186)), (1, .int (x17)), (2, .int (x18)), (3, .int (x19)), (4, .int (x20)), (5, .int (v2.1)), (6, .int (v2.2.1)), (7, .int (v2.2.2))] [] 0 0 gNN (gH cy base m21)) (hout0 : ∀ x, r = .inr x → G l D cy base RX9 cX9_coins 12 (some .int) (gRm 1) X Z 220 [(0, .ref (base + 186)), (1, .int (x17)), (2, .int (x18)), (3, .int (x19)), (4, .int (x20)), (5, .int (x.1)), (6, .int (x.2))] [] 0 0 gNN (gH cy base m21)) : G l D cy base RX9 cX9_coins 12 (some .int) (gRm 1) X Z 108 [(0, .ref (base + 186)), (1, .int (x17)), (2, .int (x18)), (3, .int (x19)), (4, .int (x20)), (5, .int (v.1)), (6, .int (v.2.1)), (7, .int (v.2.2))] [] 0 0 gNN (gH cy base m21) := by
  unfold f_X9_coins_b108 at hS
  refine g_iload (j := 7) (x := v.2.2) dX9_coins_108 rfl ?_
  refine g_iload (j := 4) (x := x20) dX9_coins_110 rfl ?_
  refine g_icmp_gt 220 dX9_coins_112 (by decide) (fun hc => ?_) (fun hc => ?_)
  · replace hS := (if_pos hc).symm.trans hS
    refine g_sub (lvx := [(0, .ref (base + 186)), (1, .int (x17)), (2, .int (x18)), (3, .int (x19)), (4, .int (x20)), (5, .int (v.1)), (6, .int (v.2.1))]) [0, 1, 2, 3, 4, 5, 6] rfl ?_
    obtain rfl := Option.some.inj hS
    exact hout0 (((v.1), (v.2.1))) rfl
  · replace hS := (if_neg hc).symm.trans hS
    refine g_bipush (v := 100) dX9_coins_115 (by decide) ?_
    refine g_iload_n (j := 3) (x := x19) dX9_coins_117 rfl rfl ?_
    refine g_iconst (v := 1) dX9_coins_118 (by decide) ?_
    refine g_iadd dX9_coins_119 ?_
    refine g_imul dX9_coins_120 ?_
    refine g_iload (j := 4) (x := x20) dX9_coins_121 rfl ?_
    refine g_iadd dX9_coins_123 ?_
    refine g_iload (j := 7) (x := v.2.2) dX9_coins_124 rfl ?_
    refine g_isub dX9_coins_126 ?_
    refine g_istore (lvx := [(8, .int (((((100 : Int32) * (x19 + (1 : Int32))) + x20) - v.2.2))), (0, .ref (base + 186)), (1, .int (x17)), (2, .int (x18)), (3, .int (x19)), (4, .int (x20)), (5, .int (v.1)), (6, .int (v.2.1)), (7, .int (v.2.2))]) dX9_coins_127 (by decide) rfl ?_
    refine g_aload_n (j := 1) (x := base + 186) dX9_coins_129 rfl rfl ?_
    refine g_iload_n (j := 4) (x := x19) dX9_coins_130 rfl rfl ?_
    refine g_iload (j := 8) (x := v.2.2) dX9_coins_131 rfl ?_
    obtain ⟨y22, ey22, hS⟩ := ob hS
    refine gs_callVi (As := [.int (x19), .int (v.2.2)]) (st := []) (kr := 186) (k_X9_dueBy m21 (x19) (v.2.2)  ey22) cl_RX9_161 sv_X9_dueBy ckk_X9_dueBy (tk_186 _) ⟨by decide, by decide⟩ (Nat.le_of_ble_eq_true rfl) ⟨Nat.zero_le _, Nat.zero_le _⟩ rfl dX9_coins_133 rfl ?_
    refine g_aload_n (j := 1) (x := base + 186) dX9_coins_136 rfl rfl ?_
    refine gs_getR (r := 197) lk_RX9_41 (tk_186 _) rfl dX9_coins_137 ?_
    refine g_iload (j := 0) (x := ((((100 : Int32) * (x19 + (1 : Int32))) + x20) - v.2.2)) dX9_coins_140 rfl ?_
    obtain ⟨y23, ey23, hS⟩ := ob hS
    refine gs_iald (tk_197 _) dX9_coins_142 ey23 ?_
    refine g_iadd dX9_coins_143 ?_
    refine g_istore (lvx := [(9, .int ((y22 + y23))), (8, .int (((((100 : Int32) * (x19 + (1 : Int32))) + x20) - v.2.2))), (0, .ref (base + 186)), (1, .int (x17)), (2, .int (x18)), (3, .int (x19)), (4, .int (x20)), (5, .int (v.1)), (6, .int (v.2.1)), (7, .int (v.2.2))]) dX9_coins_144 (by decide) rfl ?_
    refine g_iload (j := 9) (x := v.2.2) dX9_coins_146 rfl ?_
    refine g_aload_n (j := 2) (x := base + 186) dX9_coins_148 rfl rfl ?_
    refine gs_getR (r := 198) lk_RX9_44 (tk_186 _) rfl dX9_coins_149 ?_
    refine g_iload (j := 1) (x := ((((100 : Int32) * (x19 + (1 : Int32))) + x20) - v.2.2)) dX9_coins_152 rfl ?_
    obtain ⟨y24, ey24, hS⟩ := ob hS
    refine gs_iald (tk_198 _) dX9_coins_154 ey24 ?_
    refine g_iadd dX9_coins_155 ?_
    refine g_istore (lvx := [(10, .int ((v.2.2 + y24))), (9, .int ((y22 + y23))), (8, .int (((((100 : Int32) * (x19 + (1 : Int32))) + x20) - v.2.2))), (0, .ref (base + 186)), (1, .int (x17)), (2, .int (x18)), (3, .int (x19)), (4, .int (x20)), (5, .int (v.1)), (6, .int (v.2.1)), (7, .int (v.2.2))]) dX9_coins_156 (by decide) rfl ?_
    refine g_iload (j := 1) (x := (y22 + y23)) dX9_coins_158 rfl ?_
    refine g_iload (j := 8) (x := v.1) dX9_coins_160 rfl ?_
    refine g_icmp_lt 179 dX9_coins_162 (by decide) (fun hc => ?_) (fun hc => ?_)
    · replace hS := (if_pos hc).symm.trans hS
      refine g_sub (lvx := [(0, .ref (base + 186)), (1, .int (x17)), (2, .int (x18)), (3, .int (x19)), (4, .int (x20)), (5, .int (v.1)), (6, .int (v.2.1)), (7, .int (v.2.2)), (9, .int ((y22 + y23))), (10, .int ((v.2.2 + y24)))]) [3, 4, 5, 6, 7, 8, 9, 10, 1, 0] rfl ?_
      exact k_X9_coins_j179 (m21) x17 x18 x19 x20 (v.1) (v.2.1) (v.2.2) ((y22 + y23)) ((v.2.2 + y24))  hS hin hout0
    · replace hS := (if_neg hc).symm.trans hS
      refine g_iload (j := 1) (x := (y22 + y23)) dX9_coins_165 rfl ?_
      refine g_iload (j := 8) (x := v.1) dX9_coins_167 rfl ?_
      refine g_icmp_ne 183 dX9_coins_169 (by decide) (fun hc => ?_) (fun hc => ?_)
      · replace hS := (if_neg hc).symm.trans hS
        refine g_sub (lvx := [(0, .ref (base + 186)), (1, .int (x17)), (2, .int (x18)), (3, .int (x19)), (4, .int (x20)), (5, .int (v.1)), (6, .int (v.2.1)), (7, .int (v.2.2)), (9, .int ((y22 + y23))), (10, .int ((v.2.2 + y24)))]) [3, 4, 5, 6, 7, 8, 9, 10, 1, 0] rfl ?_
        exact k_X9_coins_j183 (m21) x17 x18 x19 x20 (v.1) (v.2.1) (v.2.2) ((y22 + y23)) ((v.2.2 + y24))  hS hin hout0
      · replace hS := (if_pos hc).symm.trans hS
        refine g_iload (j := 0) (x := (v.2.2 + y24)) dX9_coins_172 rfl ?_
        refine g_iload (j := 9) (x := v.2.1) dX9_coins_174 rfl ?_
        refine g_icmp_ge 183 dX9_coins_176 (by decide) (fun hc => ?_) (fun hc => ?_)
        · replace hS := (if_pos hc).symm.trans hS
          refine g_sub (lvx := [(0, .ref (base + 186)), (1, .int (x17)), (2, .int (x18)), (3, .int (x19)), (4, .int (x20)), (5, .int (v.1)), (6, .int (v.2.1)), (7, .int (v.2.2)), (9, .int ((y22 + y23))), (10, .int ((v.2.2 + y24)))]) [3, 4, 5, 6, 7, 8, 9, 10, 1, 0] rfl ?_
          exact k_X9_coins_j183 (m21) x17 x18 x19 x20 (v.1) (v.2.1) (v.2.2) ((y22 + y23)) ((v.2.2 + y24))  hS hin hout0
        · replace hS := (if_neg hc).symm.trans hS
          refine g_sub (lvx := [(0, .ref (base + 186)), (1, .int (x17)), (2, .int (x18)), (3, .int (x19)), (4, .int (x20)), (5, .int (v.1)), (6, .int (v.2.1)), (7, .int (v.2.2)), (9, .int ((y22 + y23))), (10, .int ((v.2.2 + y24)))]) [3, 4, 5, 6, 7, 8, 9, 10, 1, 0] rfl ?_
          exact k_X9_coins_j179 (m21) x17 x18 x19 x20 (v.1) (v.2.1) (v.2.2) ((y22 + y23)) ((v.2.2 + y24))  hS hin hout0
def f_X9_coins_b92 (x14 : Int32) (x15 : Int32) (x16 : Int32) (v : Int32 × Mem) : Option ((Int32 × Mem) ⊕ ((Mem))) :=
  if x14 < v.1 then (
    some (.inr (v.2))
  ) else (
    (iter gFU (f_X9_coins_b108 v.2 (x14) (x15) (x16) (v.1)) (((1000000 : Int32)), ((0 : Int32)), ((0 : Int32)))).bind fun z67 =>
    (stA v.2 197 800 ((((100 : Int32) * x16) + v.1)) (z67.1)).bind fun m68 =>
    (stA m68 198 800 ((((100 : Int32) * x16) + v.1)) (z67.2)).bind fun m69 =>
    some (.inl (((v.1 + (1 : Int32))), (m69)))
  )
set_option maxRecDepth 100000 in
set_option maxHeartbeats 4000000 in
theorem k_X9_coins_b92 {l : Launch} {D : va_G} {cy : Nat → ClassId} {base : Nat} {X : gX} {Z : gZ} (x14 : Int32) (x15 : Int32) (x16 : Int32)  (v : Int32 × Mem) (r : (Int32 × Mem) ⊕ ((Mem))) (hS : f_X9_coins_b92 x14 x15 x16 v = some r) (hin : ∀ v2, r = .inl v2 → G l D cy base RX9 cX9_coins 12 (some .int) (gRm 1) X Z 92 [(0, .ref (base + 186)), (1, .int (x14)), (2, .int (x15)), (3, .int (x16)), (4, .int (v2.1))] [] 0 0 gNN (gH cy base v2.2)) (hout0 : ∀ x, r = .inr x → G l D cy base RX9 cX9_coins 12 (some .int) (gRm 1) X Z 254 [(0, .ref (base + 186)), (1, .int (x14)), (2, .int (x15)), (3, .int (x16))] [] 0 0 gNN (gH cy base x)) : G l D cy base RX9 cX9_coins 12 (some .int) (gRm 1) X Z 92 [(0, .ref (base + 186)), (1, .int (x14)), (2, .int (x15)), (3, .int (x16)), (4, .int (v.1))] [] 0 0 gNN (gH cy base v.2) := by
  unfold f_X9_coins_b92 at hS
  refine g_iload (j := 4) (x := v.1) dX9_coins_92 rfl ?_
  refine g_iload_n (j := 1) (x := x14) dX9_coins_94 rfl rfl ?_
  refine g_icmp_gt 254 dX9_coins_95 (by decide) (fun hc => ?_) (fun hc => ?_)
  · replace hS := (if_pos hc).symm.trans hS
    refine g_sub (lvx := [(0, .ref (base + 186)), (1, .int (x14)), (2, .int (x15)), (3, .int (x16))]) [0, 1, 2, 3] rfl ?_
    obtain rfl := Option.some.inj hS
    exact hout0 ((v.2)) rfl
  · replace hS := (if_neg hc).symm.trans hS
    refine g_ldc cs_RX9_160 dX9_coins_98 ?_
    refine g_istore (lvx := [(5, .int ((1000000 : Int32))), (0, .ref (base + 186)), (1, .int (x14)), (2, .int (x15)), (3, .int (x16)), (4, .int (v.1))]) dX9_coins_100 (by decide) rfl ?_
    refine g_iconst (v := 0) dX9_coins_102 (by decide) ?_
    refine g_istore (lvx := [(6, .int ((0 : Int32))), (5, .int ((1000000 : Int32))), (0, .ref (base + 186)), (1, .int (x14)), (2, .int (x15)), (3, .int (x16)), (4, .int (v.1))]) dX9_coins_103 (by decide) rfl ?_
    refine g_iconst (v := 0) dX9_coins_105 (by decide) ?_
    refine g_istore (lvx := [(7, .int ((0 : Int32))), (6, .int ((0 : Int32))), (5, .int ((1000000 : Int32))), (0, .ref (base + 186)), (1, .int (x14)), (2, .int (x15)), (3, .int (x16)), (4, .int (v.1))]) dX9_coins_106 (by decide) rfl ?_
    obtain ⟨z67, ez67, hS⟩ := ob hS
    refine g_sub (lvx := [(0, .ref (base + 186)), (1, .int (x14)), (2, .int (x15)), (3, .int (x16)), (4, .int (v.1)), (5, .int ((1000000 : Int32))), (6, .int ((0 : Int32))), (7, .int ((0 : Int32)))]) [3, 4, 5, 6, 7, 2, 1, 0] rfl ?_
    refine iter_ind (fun vv => G l D cy base RX9 cX9_coins 12 (some .int) (gRm 1) X Z 108 [(0, .ref (base + 186)), (1, .int (x14)), (2, .int (x15)), (3, .int (x16)), (4, .int (v.1)), (5, .int (vv.1)), (6, .int (vv.2.1)), (7, .int (vv.2.2))] [] 0 0 gNN (gH cy base v.2)) (fun xx => G l D cy base RX9 cX9_coins 12 (some .int) (gRm 1) X Z 220 [(0, .ref (base + 186)), (1, .int (x14)), (2, .int (x15)), (3, .int (x16)), (4, .int (v.1)), (5, .int (xx.1)), (6, .int (xx.2))] [] 0 0 gNN (gH cy base v.2)) (fun vv rr hh hin hout => k_X9_coins_b108 v.2 (x14) (x15) (x16) (v.1)  vv rr hh hin (fun xx ee => hout xx ee)) gFU (((1000000 : Int32)), ((0 : Int32)), ((0 : Int32))) z67 ez67 ?_
    show G l D cy base RX9 cX9_coins 12 (some .int) (gRm 1) X Z 220 [(0, .ref (base + 186)), (1, .int (x14)), (2, .int (x15)), (3, .int (x16)), (4, .int (v.1)), (5, .int (z67.1)), (6, .int (z67.2))] [] 0 0 gNN (gH cy base v.2)
    refine g_aload_n (j := 0) (x := base + 186) dX9_coins_220 rfl rfl ?_
    refine gs_getR (r := 197) lk_RX9_41 (tk_186 _) rfl dX9_coins_221 ?_
    refine g_bipush (v := 100) dX9_coins_224 (by decide) ?_
    refine g_iload_n (j := 3) (x := x16) dX9_coins_226 rfl rfl ?_
    refine g_imul dX9_coins_227 ?_
    refine g_iload (j := 4) (x := v.1) dX9_coins_228 rfl ?_
    refine g_iadd dX9_coins_230 ?_
    refine g_iload (j := 5) (x := z67.1) dX9_coins_231 rfl ?_
    obtain ⟨m68, em68, hS⟩ := ob hS
    refine gs_iast (tk_197 _) dX9_coins_233 em68 ?_
    refine g_aload_n (j := 0) (x := base + 186) dX9_coins_234 rfl rfl ?_
    refine gs_getR (r := 198) lk_RX9_44 (tk_186 _) rfl dX9_coins_235 ?_
    refine g_bipush (v := 100) dX9_coins_238 (by decide) ?_
    refine g_iload_n (j := 3) (x := x16) dX9_coins_240 rfl rfl ?_
    refine g_imul dX9_coins_241 ?_
    refine g_iload (j := 4) (x := v.1) dX9_coins_242 rfl ?_
    refine g_iadd dX9_coins_244 ?_
    refine g_iload (j := 6) (x := z67.2) dX9_coins_245 rfl ?_
    obtain ⟨m69, em69, hS⟩ := ob hS
    refine gs_iast (tk_198 _) dX9_coins_247 em69 ?_
    refine g_iinc (j := 4) (x := v.1) (v := (v.1 + (1 : Int32))) (lvx := [(4, .int ((v.1 + (1 : Int32)))), (0, .ref (base + 186)), (1, .int (x14)), (2, .int (x15)), (3, .int (x16)), (5, .int (z67.1)), (6, .int (z67.2))]) dX9_coins_248 rfl rfl (by decide) rfl ?_
    refine g_goto 92 dX9_coins_251 (by decide) ?_
    refine g_sub (lvx := [(0, .ref (base + 186)), (1, .int (x14)), (2, .int (x15)), (3, .int (x16)), (4, .int ((v.1 + (1 : Int32))))]) [1, 2, 3, 4, 0] rfl ?_
    obtain rfl := Option.some.inj hS
    exact hin ((((v.1 + (1 : Int32))), (m69))) rfl
def f_X9_coins_b85 (x12 : Int32) (x13 : Int32) (v : Int32 × Mem) : Option ((Int32 × Mem) ⊕ ((Mem))) :=
  if v.1 < (0 : Int32) then (
    some (.inr (v.2))
  ) else (
    (iter gFU (f_X9_coins_b92  (x12) (x13) (v.1)) (((0 : Int32)), v.2)).bind fun z70 =>
    some (.inl (((v.1 + (-1 : Int32))), (z70)))
  )
set_option maxRecDepth 100000 in
set_option maxHeartbeats 4000000 in
theorem k_X9_coins_b85 {l : Launch} {D : va_G} {cy : Nat → ClassId} {base : Nat} {X : gX} {Z : gZ} (x12 : Int32) (x13 : Int32)  (v : Int32 × Mem) (r : (Int32 × Mem) ⊕ ((Mem))) (hS : f_X9_coins_b85 x12 x13 v = some r) (hin : ∀ v2, r = .inl v2 → G l D cy base RX9 cX9_coins 12 (some .int) (gRm 1) X Z 85 [(0, .ref (base + 186)), (1, .int (x12)), (2, .int (x13)), (3, .int (v2.1))] [] 0 0 gNN (gH cy base v2.2)) (hout0 : ∀ x, r = .inr x → G l D cy base RX9 cX9_coins 12 (some .int) (gRm 1) X Z 260 [(0, .ref (base + 186)), (1, .int (x12)), (2, .int (x13))] [] 0 0 gNN (gH cy base x)) : G l D cy base RX9 cX9_coins 12 (some .int) (gRm 1) X Z 85 [(0, .ref (base + 186)), (1, .int (x12)), (2, .int (x13)), (3, .int (v.1))] [] 0 0 gNN (gH cy base v.2) := by
  unfold f_X9_coins_b85 at hS
  refine g_iload_n (j := 3) (x := v.1) dX9_coins_85 rfl rfl ?_
  refine g_if_lt 260 dX9_coins_86 (by decide) (fun hc => ?_) (fun hc => ?_)
  · replace hS := (if_pos hc).symm.trans hS
    refine g_sub (lvx := [(0, .ref (base + 186)), (1, .int (x12)), (2, .int (x13))]) [0, 1, 2] rfl ?_
    obtain rfl := Option.some.inj hS
    exact hout0 ((v.2)) rfl
  · replace hS := (if_neg hc).symm.trans hS
    refine g_iconst (v := 0) dX9_coins_89 (by decide) ?_
    refine g_istore (lvx := [(4, .int ((0 : Int32))), (0, .ref (base + 186)), (1, .int (x12)), (2, .int (x13)), (3, .int (v.1))]) dX9_coins_90 (by decide) rfl ?_
    obtain ⟨z70, ez70, hS⟩ := ob hS
    refine g_sub (lvx := [(0, .ref (base + 186)), (1, .int (x12)), (2, .int (x13)), (3, .int (v.1)), (4, .int ((0 : Int32)))]) [1, 2, 3, 4, 0] rfl ?_
    refine iter_ind (fun vv => G l D cy base RX9 cX9_coins 12 (some .int) (gRm 1) X Z 92 [(0, .ref (base + 186)), (1, .int (x12)), (2, .int (x13)), (3, .int (v.1)), (4, .int (vv.1))] [] 0 0 gNN (gH cy base vv.2)) (fun xx => G l D cy base RX9 cX9_coins 12 (some .int) (gRm 1) X Z 254 [(0, .ref (base + 186)), (1, .int (x12)), (2, .int (x13)), (3, .int (v.1))] [] 0 0 gNN (gH cy base xx)) (fun vv rr hh hin hout => k_X9_coins_b92  (x12) (x13) (v.1)  vv rr hh hin (fun xx ee => hout xx ee)) gFU (((0 : Int32)), v.2) z70 ez70 ?_
    show G l D cy base RX9 cX9_coins 12 (some .int) (gRm 1) X Z 254 [(0, .ref (base + 186)), (1, .int (x12)), (2, .int (x13)), (3, .int (v.1))] [] 0 0 gNN (gH cy base z70)
    refine g_iinc (j := 3) (x := v.1) (v := (v.1 + (-1 : Int32))) (lvx := [(3, .int ((v.1 + (-1 : Int32)))), (0, .ref (base + 186)), (1, .int (x12)), (2, .int (x13))]) dX9_coins_254 rfl rfl (by decide) rfl ?_
    refine g_goto 85 dX9_coins_257 (by decide) ?_
    refine g_sub (lvx := [(0, .ref (base + 186)), (1, .int (x12)), (2, .int (x13)), (3, .int ((v.1 + (-1 : Int32))))]) [1, 2, 3, 0] rfl ?_
    obtain rfl := Option.some.inj hS
    exact hin ((((v.1 + (-1 : Int32))), (z70))) rfl
def f_X9_coins_j391 (m77 : Mem) (x74 : Int32) (x75 : Int32) (x76 : Int32) (x83 : Int32) (x84 : Int32) (x85 : Int32) : Option ((Int32 × Int32) ⊕ ((Int32))) :=
  if x85 = (0 : Int32) then (
    some (.inl ((x83), ((x84 + (1 : Int32)))))
  ) else (
    some (.inl ((x84), ((x84 + (1 : Int32)))))
  )
set_option maxRecDepth 100000 in
set_option maxHeartbeats 4000000 in
theorem k_X9_coins_j391 {l : Launch} {D : va_G} {cy : Nat → ClassId} {base : Nat} {X : gX} {Z : gZ} (m77 : Mem) (x74 : Int32) (x75 : Int32) (x76 : Int32) (x83 : Int32) (x84 : Int32) (x85 : Int32)  {r : (Int32 × Int32) ⊕ ((Int32))} (hS : f_X9_coins_j391 m77 x74 x75 x76 x83 x84 x85 = some r) (hin : ∀ v2, r = .inl v2 → G l D cy base RX9 cX9_coins 12 (some .int) (gRm 1) X Z 305 [(0, .ref (base + 186)), (2, .int (x74)), (3, .int (x75)), (4, .int (v2.1)), (5, .int (x76)), (6, .int (v2.2))] [] 0 0 gNN (gH cy base m77)) (hout0 : ∀ x, r = .inr x → G l D cy base RX9 cX9_coins 12 (some .int) (gRm 1) X Z 413 [(0, .ref (base + 186)), (2, .int (x74)), (3, .int (x75)), (4, .int (x)), (5, .int (x76))] [] 0 0 gNN (gH cy base m77)) : G l D cy base RX9 cX9_coins 12 (some .int) (gRm 1) X Z 391 [(0, .ref (base + 186)), (2, .int (x74)), (3, .int (x75)), (4, .int (x83)), (5, .int (x76)), (6, .int (x84))] [.int (x85)] 0 0 gNN (gH cy base m77) := by
  unfold f_X9_coins_j391 at hS
  refine g_istore (lvx := [(8, .int (x85)), (0, .ref (base + 186)), (2, .int (x74)), (3, .int (x75)), (4, .int (x83)), (5, .int (x76)), (6, .int (x84))]) dX9_coins_391 (by decide) rfl ?_
  refine g_iload (j := 0) (x := x85) dX9_coins_393 rfl ?_
  refine g_if_eq 403 dX9_coins_395 (by decide) (fun hc => ?_) (fun hc => ?_)
  · replace hS := (if_pos hc).symm.trans hS
    refine g_iload (j := 4) (x := x83) dX9_coins_403 rfl ?_
    refine g_istore (lvx := [(4, .int (x83)), (8, .int (x85)), (0, .ref (base + 186)), (2, .int (x74)), (3, .int (x75)), (5, .int (x76)), (6, .int (x84))]) dX9_coins_405 (by decide) rfl ?_
    refine g_iinc (j := 6) (x := x84) (v := (x84 + (1 : Int32))) (lvx := [(6, .int ((x84 + (1 : Int32)))), (4, .int (x83)), (8, .int (x85)), (0, .ref (base + 186)), (2, .int (x74)), (3, .int (x75)), (5, .int (x76))]) dX9_coins_407 rfl rfl (by decide) rfl ?_
    refine g_goto 305 dX9_coins_410 (by decide) ?_
    refine g_sub (lvx := [(0, .ref (base + 186)), (2, .int (x74)), (3, .int (x75)), (4, .int (x83)), (5, .int (x76)), (6, .int ((x84 + (1 : Int32))))]) [3, 4, 5, 1, 6, 0] rfl ?_
    obtain rfl := Option.some.inj hS
    exact hin (((x83), ((x84 + (1 : Int32))))) rfl
  · replace hS := (if_neg hc).symm.trans hS
    refine g_iload (j := 6) (x := x84) dX9_coins_398 rfl ?_
    refine g_goto 405 dX9_coins_400 (by decide) ?_
    refine g_istore (lvx := [(4, .int (x84)), (8, .int (x85)), (0, .ref (base + 186)), (2, .int (x74)), (3, .int (x75)), (5, .int (x76)), (6, .int (x84))]) dX9_coins_405 (by decide) rfl ?_
    refine g_iinc (j := 6) (x := x84) (v := (x84 + (1 : Int32))) (lvx := [(6, .int ((x84 + (1 : Int32)))), (4, .int (x84)), (8, .int (x85)), (0, .ref (base + 186)), (2, .int (x74)), (3, .int (x75)), (5, .int (x76))]) dX9_coins_407 rfl rfl (by decide) rfl ?_
    refine g_goto 305 dX9_coins_410 (by decide) ?_
    refine g_sub (lvx := [(0, .ref (base + 186)), (2, .int (x74)), (3, .int (x75)), (4, .int (x84)), (5, .int (x76)), (6, .int ((x84 + (1 : Int32))))]) [3, 4, 5, 1, 6, 0] rfl ?_
    obtain rfl := Option.some.inj hS
    exact hin (((x84), ((x84 + (1 : Int32))))) rfl
def f_X9_coins_j390 (m77 : Mem) (x74 : Int32) (x75 : Int32) (x76 : Int32) (x81 : Int32) (x82 : Int32) : Option ((Int32 × Int32) ⊕ ((Int32))) :=
  f_X9_coins_j391 m77 x74 x75 x76 (x81) (x82) ((0 : Int32))
set_option maxRecDepth 100000 in
set_option maxHeartbeats 4000000 in
theorem k_X9_coins_j390 {l : Launch} {D : va_G} {cy : Nat → ClassId} {base : Nat} {X : gX} {Z : gZ} (m77 : Mem) (x74 : Int32) (x75 : Int32) (x76 : Int32) (x81 : Int32) (x82 : Int32)  {r : (Int32 × Int32) ⊕ ((Int32))} (hS : f_X9_coins_j390 m77 x74 x75 x76 x81 x82 = some r) (hin : ∀ v2, r = .inl v2 → G l D cy base RX9 cX9_coins 12 (some .int) (gRm 1) X Z 305 [(0, .ref (base + 186)), (2, .int (x74)), (3, .int (x75)), (4, .int (v2.1)), (5, .int (x76)), (6, .int (v2.2))] [] 0 0 gNN (gH cy base m77)) (hout0 : ∀ x, r = .inr x → G l D cy base RX9 cX9_coins 12 (some .int) (gRm 1) X Z 413 [(0, .ref (base + 186)), (2, .int (x74)), (3, .int (x75)), (4, .int (x)), (5, .int (x76))] [] 0 0 gNN (gH cy base m77)) : G l D cy base RX9 cX9_coins 12 (some .int) (gRm 1) X Z 390 [(0, .ref (base + 186)), (2, .int (x74)), (3, .int (x75)), (4, .int (x81)), (5, .int (x76)), (6, .int (x82))] [] 0 0 gNN (gH cy base m77) := by
  unfold f_X9_coins_j390 at hS
  refine g_iconst (v := 0) dX9_coins_390 (by decide) ?_
  exact k_X9_coins_j391 (m77) x74 x75 x76 (x81) (x82) ((0 : Int32))  hS hin hout0
def f_X9_coins_b305 (m77 : Mem) (x74 : Int32) (x75 : Int32) (x76 : Int32) (v : Int32 × Int32) : Option ((Int32 × Int32) ⊕ ((Int32))) :=
  if x75 < v.2 then (
    some (.inr (v.1))
  ) else (
    if (0 : Int32) ≤ v.1 then (
      some (.inr (v.1))
    ) else (
      (f_X9_dueBy m77 (x76) (v.2)).bind fun y78 =>
      (ldA m77 197 800 (((((100 : Int32) * (x76 + (1 : Int32))) + x75) - v.2))).bind fun y79 =>
      (ldA m77 197 800 ((((100 : Int32) * x76) + x75))).bind fun y80 =>
      if (y78 + y79) = y80 then (
        (ldA m77 198 800 (((((100 : Int32) * (x76 + (1 : Int32))) + x75) - v.2))).bind fun y86 =>
        (ldA m77 198 800 ((((100 : Int32) * x76) + x75))).bind fun y87 =>
        if (v.2 + y86) = y87 then (
          f_X9_coins_j391 m77 x74 x75 x76 (v.1) (v.2) ((1 : Int32))
        ) else (
          f_X9_coins_j390 m77 x74 x75 x76 (v.1) (v.2)
        )
      ) else (
        f_X9_coins_j390 m77 x74 x75 x76 (v.1) (v.2)
      )
    )
  )
set_option maxRecDepth 100000 in
set_option maxHeartbeats 4000000 in
theorem k_X9_coins_b305 {l : Launch} {D : va_G} {cy : Nat → ClassId} {base : Nat} {X : gX} {Z : gZ} (m77 : Mem) (x74 : Int32) (x75 : Int32) (x76 : Int32)  (v : Int32 × Int32) (r : (Int32 × Int32) ⊕ ((Int32))) (hS : f_X9_coins_b305 m77 x74 x75 x76 v = some r) (hin : ∀ v2, r = .inl v2 → G l D cy base RX9 cX9_coins 12 (some .int) (gRm 1) X Z 305 [(0, .ref (base + 186)), (2, .int (x74)), (3, .int (x75)), (4, .int (v2.1)), (5, .int (x76)), (6, .int (v2.2))] [] 0 0 gNN (gH cy base m77)) (hout0 : ∀ x, r = .inr x → G l D cy base RX9 cX9_coins 12 (some .int) (gRm 1) X Z 413 [(0, .ref (base + 186)), (2, .int (x74)), (3, .int (x75)), (4, .int (x)), (5, .int (x76))] [] 0 0 gNN (gH cy base m77)) : G l D cy base RX9 cX9_coins 12 (some .int) (gRm 1) X Z 305 [(0, .ref (base + 186)), (2, .int (x74)), (3, .int (x75)), (4, .int (v.1)), (5, .int (x76)), (6, .int (v.2))] [] 0 0 gNN (gH cy base m77) := by
  unfold f_X9_coins_b305 at hS
  refine g_iload (j := 5) (x := v.2) dX9_coins_305 rfl ?_
  refine g_iload_n (j := 2) (x := x75) dX9_coins_307 rfl rfl ?_
  refine g_icmp_gt 413 dX9_coins_308 (by decide) (fun hc => ?_) (fun hc => ?_)
  · replace hS := (if_pos hc).symm.trans hS
    refine g_sub (lvx := [(0, .ref (base + 186)), (2, .int (x74)), (3, .int (x75)), (4, .int (v.1)), (5, .int (x76))]) [0, 1, 2, 3, 4] rfl ?_
    obtain rfl := Option.some.inj hS
    exact hout0 ((v.1)) rfl
  · replace hS := (if_neg hc).symm.trans hS
    refine g_iload (j := 3) (x := v.1) dX9_coins_311 rfl ?_
    refine g_if_ge 413 dX9_coins_313 (by decide) (fun hc => ?_) (fun hc => ?_)
    · replace hS := (if_pos hc).symm.trans hS
      refine g_sub (lvx := [(0, .ref (base + 186)), (2, .int (x74)), (3, .int (x75)), (4, .int (v.1)), (5, .int (x76))]) [0, 1, 2, 3, 4] rfl ?_
      obtain rfl := Option.some.inj hS
      exact hout0 ((v.1)) rfl
    · replace hS := (if_neg hc).symm.trans hS
      refine g_bipush (v := 100) dX9_coins_316 (by decide) ?_
      refine g_iload (j := 4) (x := x76) dX9_coins_318 rfl ?_
      refine g_iconst (v := 1) dX9_coins_320 (by decide) ?_
      refine g_iadd dX9_coins_321 ?_
      refine g_imul dX9_coins_322 ?_
      refine g_iload_n (j := 2) (x := x75) dX9_coins_323 rfl rfl ?_
      refine g_iadd dX9_coins_324 ?_
      refine g_iload (j := 5) (x := v.2) dX9_coins_325 rfl ?_
      refine g_isub dX9_coins_327 ?_
      refine g_istore (lvx := [(7, .int (((((100 : Int32) * (x76 + (1 : Int32))) + x75) - v.2))), (0, .ref (base + 186)), (2, .int (x74)), (3, .int (x75)), (4, .int (v.1)), (5, .int (x76)), (6, .int (v.2))]) dX9_coins_328 (by decide) rfl ?_
      refine g_aload_n (j := 1) (x := base + 186) dX9_coins_330 rfl rfl ?_
      refine g_iload (j := 5) (x := x76) dX9_coins_331 rfl ?_
      refine g_iload (j := 6) (x := v.2) dX9_coins_333 rfl ?_
      obtain ⟨y78, ey78, hS⟩ := ob hS
      refine gs_callVi (As := [.int (x76), .int (v.2)]) (st := []) (kr := 186) (k_X9_dueBy m77 (x76) (v.2)  ey78) cl_RX9_161 sv_X9_dueBy ckk_X9_dueBy (tk_186 _) ⟨by decide, by decide⟩ (Nat.le_of_ble_eq_true rfl) ⟨Nat.zero_le _, Nat.zero_le _⟩ rfl dX9_coins_335 rfl ?_
      refine g_aload_n (j := 1) (x := base + 186) dX9_coins_338 rfl rfl ?_
      refine gs_getR (r := 197) lk_RX9_41 (tk_186 _) rfl dX9_coins_339 ?_
      refine g_iload (j := 0) (x := ((((100 : Int32) * (x76 + (1 : Int32))) + x75) - v.2)) dX9_coins_342 rfl ?_
      obtain ⟨y79, ey79, hS⟩ := ob hS
      refine gs_iald (tk_197 _) dX9_coins_344 ey79 ?_
      refine g_iadd dX9_coins_345 ?_
      refine g_aload_n (j := 1) (x := base + 186) dX9_coins_346 rfl rfl ?_
      refine gs_getR (r := 197) lk_RX9_41 (tk_186 _) rfl dX9_coins_347 ?_
      refine g_bipush (v := 100) dX9_coins_350 (by decide) ?_
      refine g_iload (j := 5) (x := x76) dX9_coins_352 rfl ?_
      refine g_imul dX9_coins_354 ?_
      refine g_iload_n (j := 3) (x := x75) dX9_coins_355 rfl rfl ?_
      refine g_iadd dX9_coins_356 ?_
      obtain ⟨y80, ey80, hS⟩ := ob hS
      refine gs_iald (tk_197 _) dX9_coins_357 ey80 ?_
      refine g_icmp_ne 390 dX9_coins_358 (by decide) (fun hc => ?_) (fun hc => ?_)
      · replace hS := (if_neg hc).symm.trans hS
        refine g_sub (lvx := [(0, .ref (base + 186)), (2, .int (x74)), (3, .int (x75)), (4, .int (v.1)), (5, .int (x76)), (6, .int (v.2))]) [1, 2, 3, 4, 5, 6] rfl ?_
        exact k_X9_coins_j390 (m77) x74 x75 x76 (v.1) (v.2)  hS hin hout0
      · replace hS := (if_pos hc).symm.trans hS
        refine g_iload (j := 6) (x := v.2) dX9_coins_361 rfl ?_
        refine g_aload_n (j := 1) (x := base + 186) dX9_coins_363 rfl rfl ?_
        refine gs_getR (r := 198) lk_RX9_44 (tk_186 _) rfl dX9_coins_364 ?_
        refine g_iload (j := 0) (x := ((((100 : Int32) * (x76 + (1 : Int32))) + x75) - v.2)) dX9_coins_367 rfl ?_
        obtain ⟨y86, ey86, hS⟩ := ob hS
        refine gs_iald (tk_198 _) dX9_coins_369 ey86 ?_
        refine g_iadd dX9_coins_370 ?_
        refine g_aload_n (j := 1) (x := base + 186) dX9_coins_371 rfl rfl ?_
        refine gs_getR (r := 198) lk_RX9_44 (tk_186 _) rfl dX9_coins_372 ?_
        refine g_bipush (v := 100) dX9_coins_375 (by decide) ?_
        refine g_iload (j := 5) (x := x76) dX9_coins_377 rfl ?_
        refine g_imul dX9_coins_379 ?_
        refine g_iload_n (j := 3) (x := x75) dX9_coins_380 rfl rfl ?_
        refine g_iadd dX9_coins_381 ?_
        obtain ⟨y87, ey87, hS⟩ := ob hS
        refine gs_iald (tk_198 _) dX9_coins_382 ey87 ?_
        refine g_icmp_ne 390 dX9_coins_383 (by decide) (fun hc => ?_) (fun hc => ?_)
        · replace hS := (if_neg hc).symm.trans hS
          refine g_sub (lvx := [(0, .ref (base + 186)), (2, .int (x74)), (3, .int (x75)), (4, .int (v.1)), (5, .int (x76)), (6, .int (v.2))]) [1, 2, 3, 4, 5, 6] rfl ?_
          exact k_X9_coins_j390 (m77) x74 x75 x76 (v.1) (v.2)  hS hin hout0
        · replace hS := (if_pos hc).symm.trans hS
          refine g_iconst (v := 1) dX9_coins_386 (by decide) ?_
          refine g_goto 391 dX9_coins_387 (by decide) ?_
          refine g_sub (lvx := [(0, .ref (base + 186)), (2, .int (x74)), (3, .int (x75)), (4, .int (v.1)), (5, .int (x76)), (6, .int (v.2))]) [1, 2, 3, 4, 5, 6] rfl ?_
          exact k_X9_coins_j391 (m77) x74 x75 x76 (v.1) (v.2) ((1 : Int32))  hS hin hout0
def f_X9_coins_b293 (m73 : Mem) (x72 : Int32) (v : Int32 × Int32 × Int32) : Option ((Int32 × Int32 × Int32) ⊕ ((Int32))) :=
  if x72 < v.2.2 then (
    some (.inr (v.2.1))
  ) else (
    (iter gFU (f_X9_coins_b305 m73 (x72) (v.1) (v.2.2)) (((-1 : Int32)), ((0 : Int32)))).bind fun z93 =>
    some (.inl (((v.1 - z93)), (z93), ((v.2.2 + (1 : Int32)))))
  )
set_option maxRecDepth 100000 in
set_option maxHeartbeats 4000000 in
theorem k_X9_coins_b293 {l : Launch} {D : va_G} {cy : Nat → ClassId} {base : Nat} {X : gX} {Z : gZ} (m73 : Mem) (x72 : Int32)  (v : Int32 × Int32 × Int32) (r : (Int32 × Int32 × Int32) ⊕ ((Int32))) (hS : f_X9_coins_b293 m73 x72 v = some r) (hin : ∀ v2, r = .inl v2 → G l D cy base RX9 cX9_coins 12 (some .int) (gRm 1) X Z 293 [(0, .ref (base + 186)), (2, .int (x72)), (3, .int (v2.1)), (4, .int (v2.2.1)), (5, .int (v2.2.2))] [] 0 0 gNN (gH cy base m73)) (hout0 : ∀ x, r = .inr x → G l D cy base RX9 cX9_coins 12 (some .int) (gRm 1) X Z 424 [(4, .int (x))] [] 0 0 gNN (gH cy base m73)) : G l D cy base RX9 cX9_coins 12 (some .int) (gRm 1) X Z 293 [(0, .ref (base + 186)), (2, .int (x72)), (3, .int (v.1)), (4, .int (v.2.1)), (5, .int (v.2.2))] [] 0 0 gNN (gH cy base m73) := by
  unfold f_X9_coins_b293 at hS
  refine g_iload (j := 4) (x := v.2.2) dX9_coins_293 rfl ?_
  refine g_iload_n (j := 1) (x := x72) dX9_coins_295 rfl rfl ?_
  refine g_icmp_gt 424 dX9_coins_296 (by decide) (fun hc => ?_) (fun hc => ?_)
  · replace hS := (if_pos hc).symm.trans hS
    refine g_sub (lvx := [(4, .int (v.2.1))]) [3] rfl ?_
    obtain rfl := Option.some.inj hS
    exact hout0 ((v.2.1)) rfl
  · replace hS := (if_neg hc).symm.trans hS
    refine g_iconst (v := -1) dX9_coins_299 (by decide) ?_
    refine g_istore (lvx := [(4, .int ((-1 : Int32))), (0, .ref (base + 186)), (2, .int (x72)), (3, .int (v.1)), (5, .int (v.2.2))]) dX9_coins_300 (by decide) rfl ?_
    refine g_iconst (v := 0) dX9_coins_302 (by decide) ?_
    refine g_istore (lvx := [(6, .int ((0 : Int32))), (4, .int ((-1 : Int32))), (0, .ref (base + 186)), (2, .int (x72)), (3, .int (v.1)), (5, .int (v.2.2))]) dX9_coins_303 (by decide) rfl ?_
    obtain ⟨z93, ez93, hS⟩ := ob hS
    refine g_sub (lvx := [(0, .ref (base + 186)), (2, .int (x72)), (3, .int (v.1)), (4, .int ((-1 : Int32))), (5, .int (v.2.2)), (6, .int ((0 : Int32)))]) [2, 3, 4, 1, 5, 0] rfl ?_
    refine iter_ind (fun vv => G l D cy base RX9 cX9_coins 12 (some .int) (gRm 1) X Z 305 [(0, .ref (base + 186)), (2, .int (x72)), (3, .int (v.1)), (4, .int (vv.1)), (5, .int (v.2.2)), (6, .int (vv.2))] [] 0 0 gNN (gH cy base m73)) (fun xx => G l D cy base RX9 cX9_coins 12 (some .int) (gRm 1) X Z 413 [(0, .ref (base + 186)), (2, .int (x72)), (3, .int (v.1)), (4, .int (xx)), (5, .int (v.2.2))] [] 0 0 gNN (gH cy base m73)) (fun vv rr hh hin hout => k_X9_coins_b305 m73 (x72) (v.1) (v.2.2)  vv rr hh hin (fun xx ee => hout xx ee)) gFU (((-1 : Int32)), ((0 : Int32))) z93 ez93 ?_
    show G l D cy base RX9 cX9_coins 12 (some .int) (gRm 1) X Z 413 [(0, .ref (base + 186)), (2, .int (x72)), (3, .int (v.1)), (4, .int (z93)), (5, .int (v.2.2))] [] 0 0 gNN (gH cy base m73)
    refine g_iload_n (j := 2) (x := v.1) dX9_coins_413 rfl rfl ?_
    refine g_iload (j := 3) (x := z93) dX9_coins_414 rfl ?_
    refine g_isub dX9_coins_416 ?_
    refine g_istore_n (lvx := [(3, .int ((v.1 - z93))), (0, .ref (base + 186)), (2, .int (x72)), (4, .int (z93)), (5, .int (v.2.2))]) dX9_coins_417 rfl (by decide) rfl ?_
    refine g_iinc (j := 4) (x := v.2.2) (v := (v.2.2 + (1 : Int32))) (lvx := [(5, .int ((v.2.2 + (1 : Int32)))), (3, .int ((v.1 - z93))), (0, .ref (base + 186)), (2, .int (x72)), (4, .int (z93))]) dX9_coins_418 rfl rfl (by decide) rfl ?_
    refine g_goto 293 dX9_coins_421 (by decide) ?_
    refine g_sub (lvx := [(0, .ref (base + 186)), (2, .int (x72)), (3, .int ((v.1 - z93))), (4, .int (z93)), (5, .int ((v.2.2 + (1 : Int32))))]) [2, 3, 1, 4, 0] rfl ?_
    obtain rfl := Option.some.inj hS
    exact hin ((((v.1 - z93)), (z93), ((v.2.2 + (1 : Int32))))) rfl
def f_X9_coins (μ : Mem) (a1 : Int32) (a2 : Int32) : Option (Int32 × Mem) :=
  (f_X9_in μ (a1) ((0 : Int32)) ((99 : Int32))).bind fun y1 =>
  if y1 = (0 : Int32) then (
    some ((-1 : Int32), μ)
  ) else (
    (ldA μ 188 49 ((0 : Int32))).bind fun y2 =>
    (f_X9_in μ (a2) ((-2 : Int32)) ((y2 - (1 : Int32)))).bind fun y3 =>
    if y3 = (0 : Int32) then (
      some ((-1 : Int32), μ)
    ) else (
      (iter gFU (f_X9_coins_b31  (a1) (a2)) (((0 : Int32)), μ)).bind fun z10 =>
      (ldA z10 188 49 ((0 : Int32))).bind fun y11 =>
      (iter gFU (f_X9_coins_b85  (a1) (a2)) (((y11 - (1 : Int32))), z10)).bind fun z71 =>
      if (0 : Int32) ≤ a2 then (
        (iter gFU (f_X9_coins_b293 z71 (a2)) ((a1), ((0 : Int32)), ((0 : Int32)))).bind fun z94 =>
        some (z94, z71)
      ) else (
        if a2 = (-1 : Int32) then (
          (ldA z71 197 800 (a1)).bind fun y96 =>
          some (y96, z71)
        ) else (
          (ldA z71 198 800 (a1)).bind fun y95 =>
          some (y95, z71)
        )
      )
    )
  )
set_option maxRecDepth 100000 in
set_option maxHeartbeats 4000000 in
theorem k_X9_coins {l : Launch} {D : va_G} {cy : Nat → ClassId} {base : Nat} (μ : Mem) (a1 : Int32) (a2 : Int32)  {out : Int32 × Mem} (hS : f_X9_coins μ a1 a2 = some out) : gC l D cy base yX9_coins cX9_coins 12 (some .int) 1 [.ref (base + 186), .int (a1), .int (a2)] μ (some (.int out.1)) out.2 := by
  refine gC_of (own := RX9) (lv0 := [(0, .ref (base + 186)), (1, .int (a1)), (2, .int (a2))]) rfl (by decide) (Nat.le_of_ble_eq_true rfl) rfl ?_
  unfold f_X9_coins at hS
  refine g_iload_n (j := 1) (x := a1) dX9_coins_0 rfl rfl ?_
  refine g_iconst (v := 0) dX9_coins_1 (by decide) ?_
  refine g_bipush (v := 99) dX9_coins_2 (by decide) ?_
  obtain ⟨y1, ey1, hS⟩ := ob hS
  refine gs_callSi (As := [.int (a1), .int ((0 : Int32)), .int ((99 : Int32))]) (st := []) (k_X9_in μ (a1) ((0 : Int32)) ((99 : Int32))  ey1) cl_RX9_54 sv_X9_in ⟨by decide, by decide⟩ (Nat.le_of_ble_eq_true rfl) ⟨Nat.zero_le _, Nat.zero_le _⟩ rfl dX9_coins_4 rfl ?_
  refine g_if_eq 27 dX9_coins_7 (by decide) (fun hc => ?_) (fun hc => ?_)
  · replace hS := (if_pos hc).symm.trans hS
    refine g_iconst (v := -1) dX9_coins_27 (by decide) ?_
    obtain rfl := Option.some.inj hS
    exact g_iret rfl dX9_coins_28
  · replace hS := (if_neg hc).symm.trans hS
    refine g_iload_n (j := 2) (x := a2) dX9_coins_10 rfl rfl ?_
    refine g_bipush (v := -2) dX9_coins_11 (by decide) ?_
    refine g_aload_n (j := 0) (x := base + 186) dX9_coins_13 rfl rfl ?_
    refine gs_getR (r := 188) lk_RX9_13 (tk_186 _) rfl dX9_coins_14 ?_
    refine g_iconst (v := 0) dX9_coins_17 (by decide) ?_
    obtain ⟨y2, ey2, hS⟩ := ob hS
    refine gs_iald (tk_188 _) dX9_coins_18 ey2 ?_
    refine g_iconst (v := 1) dX9_coins_19 (by decide) ?_
    refine g_isub dX9_coins_20 ?_
    obtain ⟨y3, ey3, hS⟩ := ob hS
    refine gs_callSi (As := [.int (a2), .int ((-2 : Int32)), .int ((y2 - (1 : Int32)))]) (st := []) (k_X9_in μ (a2) ((-2 : Int32)) ((y2 - (1 : Int32)))  ey3) cl_RX9_54 sv_X9_in ⟨by decide, by decide⟩ (Nat.le_of_ble_eq_true rfl) ⟨Nat.zero_le _, Nat.zero_le _⟩ rfl dX9_coins_21 rfl ?_
    refine g_if_ne 29 dX9_coins_24 (by decide) (fun hc => ?_) (fun hc => ?_)
    · replace hS := (if_neg hc).symm.trans hS
      refine g_iconst (v := 0) dX9_coins_29 (by decide) ?_
      refine g_istore_n (lvx := [(3, .int ((0 : Int32))), (0, .ref (base + 186)), (1, .int (a1)), (2, .int (a2))]) dX9_coins_30 rfl (by decide) rfl ?_
      obtain ⟨z10, ez10, hS⟩ := ob hS
      refine g_sub (lvx := [(0, .ref (base + 186)), (1, .int (a1)), (2, .int (a2)), (3, .int ((0 : Int32)))]) [1, 2, 3, 0] rfl ?_
      refine iter_ind (fun vv => G l D cy base RX9 cX9_coins 12 (some .int) (gRm 1) (gXm yX9_coins) (gZm D cy base 0 0 (some (.int out.1)) gNN (gH cy base out.2)) 31 [(0, .ref (base + 186)), (1, .int (a1)), (2, .int (a2)), (3, .int (vv.1))] [] 0 0 gNN (gH cy base vv.2)) (fun xx => G l D cy base RX9 cX9_coins 12 (some .int) (gRm 1) (gXm yX9_coins) (gZm D cy base 0 0 (some (.int out.1)) gNN (gH cy base out.2)) 76 [(0, .ref (base + 186)), (1, .int (a1)), (2, .int (a2))] [] 0 0 gNN (gH cy base xx)) (fun vv rr hh hin hout => k_X9_coins_b31  (a1) (a2)  vv rr hh hin (fun xx ee => hout xx ee)) gFU (((0 : Int32)), μ) z10 ez10 ?_
      show G l D cy base RX9 cX9_coins 12 (some .int) (gRm 1) (gXm yX9_coins) (gZm D cy base 0 0 (some (.int out.1)) gNN (gH cy base out.2)) 76 [(0, .ref (base + 186)), (1, .int (a1)), (2, .int (a2))] [] 0 0 gNN (gH cy base z10)
      refine g_aload_n (j := 0) (x := base + 186) dX9_coins_76 rfl rfl ?_
      refine gs_getR (r := 188) lk_RX9_13 (tk_186 _) rfl dX9_coins_77 ?_
      refine g_iconst (v := 0) dX9_coins_80 (by decide) ?_
      obtain ⟨y11, ey11, hS⟩ := ob hS
      refine gs_iald (tk_188 _) dX9_coins_81 ey11 ?_
      refine g_iconst (v := 1) dX9_coins_82 (by decide) ?_
      refine g_isub dX9_coins_83 ?_
      refine g_istore_n (lvx := [(3, .int ((y11 - (1 : Int32)))), (0, .ref (base + 186)), (1, .int (a1)), (2, .int (a2))]) dX9_coins_84 rfl (by decide) rfl ?_
      obtain ⟨z71, ez71, hS⟩ := ob hS
      refine g_sub (lvx := [(0, .ref (base + 186)), (1, .int (a1)), (2, .int (a2)), (3, .int ((y11 - (1 : Int32))))]) [1, 2, 3, 0] rfl ?_
      refine iter_ind (fun vv => G l D cy base RX9 cX9_coins 12 (some .int) (gRm 1) (gXm yX9_coins) (gZm D cy base 0 0 (some (.int out.1)) gNN (gH cy base out.2)) 85 [(0, .ref (base + 186)), (1, .int (a1)), (2, .int (a2)), (3, .int (vv.1))] [] 0 0 gNN (gH cy base vv.2)) (fun xx => G l D cy base RX9 cX9_coins 12 (some .int) (gRm 1) (gXm yX9_coins) (gZm D cy base 0 0 (some (.int out.1)) gNN (gH cy base out.2)) 260 [(0, .ref (base + 186)), (1, .int (a1)), (2, .int (a2))] [] 0 0 gNN (gH cy base xx)) (fun vv rr hh hin hout => k_X9_coins_b85  (a1) (a2)  vv rr hh hin (fun xx ee => hout xx ee)) gFU (((y11 - (1 : Int32))), z10) z71 ez71 ?_
      show G l D cy base RX9 cX9_coins 12 (some .int) (gRm 1) (gXm yX9_coins) (gZm D cy base 0 0 (some (.int out.1)) gNN (gH cy base out.2)) 260 [(0, .ref (base + 186)), (1, .int (a1)), (2, .int (a2))] [] 0 0 gNN (gH cy base z71)
      refine g_iload_n (j := 2) (x := a2) dX9_coins_260 rfl rfl ?_
      refine g_if_ge 285 dX9_coins_261 (by decide) (fun hc => ?_) (fun hc => ?_)
      · replace hS := (if_pos hc).symm.trans hS
        refine g_iload_n (j := 1) (x := a1) dX9_coins_285 rfl rfl ?_
        refine g_istore_n (lvx := [(3, .int (a1)), (0, .ref (base + 186)), (1, .int (a1)), (2, .int (a2))]) dX9_coins_286 rfl (by decide) rfl ?_
        refine g_iconst (v := 0) dX9_coins_287 (by decide) ?_
        refine g_istore (lvx := [(4, .int ((0 : Int32))), (3, .int (a1)), (0, .ref (base + 186)), (1, .int (a1)), (2, .int (a2))]) dX9_coins_288 (by decide) rfl ?_
        refine g_iconst (v := 0) dX9_coins_290 (by decide) ?_
        refine g_istore (lvx := [(5, .int ((0 : Int32))), (4, .int ((0 : Int32))), (3, .int (a1)), (0, .ref (base + 186)), (1, .int (a1)), (2, .int (a2))]) dX9_coins_291 (by decide) rfl ?_
        obtain ⟨z94, ez94, hS⟩ := ob hS
        refine g_sub (lvx := [(0, .ref (base + 186)), (2, .int (a2)), (3, .int (a1)), (4, .int ((0 : Int32))), (5, .int ((0 : Int32)))]) [3, 5, 2, 1, 0] rfl ?_
        refine iter_ind (fun vv => G l D cy base RX9 cX9_coins 12 (some .int) (gRm 1) (gXm yX9_coins) (gZm D cy base 0 0 (some (.int out.1)) gNN (gH cy base out.2)) 293 [(0, .ref (base + 186)), (2, .int (a2)), (3, .int (vv.1)), (4, .int (vv.2.1)), (5, .int (vv.2.2))] [] 0 0 gNN (gH cy base z71)) (fun xx => G l D cy base RX9 cX9_coins 12 (some .int) (gRm 1) (gXm yX9_coins) (gZm D cy base 0 0 (some (.int out.1)) gNN (gH cy base out.2)) 424 [(4, .int (xx))] [] 0 0 gNN (gH cy base z71)) (fun vv rr hh hin hout => k_X9_coins_b293 z71 (a2)  vv rr hh hin (fun xx ee => hout xx ee)) gFU ((a1), ((0 : Int32)), ((0 : Int32))) z94 ez94 ?_
        show G l D cy base RX9 cX9_coins 12 (some .int) (gRm 1) (gXm yX9_coins) (gZm D cy base 0 0 (some (.int out.1)) gNN (gH cy base out.2)) 424 [(4, .int (z94))] [] 0 0 gNN (gH cy base z71)
        refine g_iload (j := 0) (x := z94) dX9_coins_424 rfl ?_
        obtain rfl := Option.some.inj hS
        exact g_iret rfl dX9_coins_426
      · replace hS := (if_neg hc).symm.trans hS
        refine g_iload_n (j := 2) (x := a2) dX9_coins_264 rfl rfl ?_
        refine g_iconst (v := -1) dX9_coins_265 (by decide) ?_
        refine g_icmp_ne 278 dX9_coins_266 (by decide) (fun hc => ?_) (fun hc => ?_)
        · replace hS := (if_neg hc).symm.trans hS
          refine g_aload_n (j := 0) (x := base + 186) dX9_coins_278 rfl rfl ?_
          refine gs_getR (r := 198) lk_RX9_44 (tk_186 _) rfl dX9_coins_279 ?_
          refine g_iload_n (j := 1) (x := a1) dX9_coins_282 rfl rfl ?_
          obtain ⟨y95, ey95, hS⟩ := ob hS
          refine gs_iald (tk_198 _) dX9_coins_283 ey95 ?_
          obtain rfl := Option.some.inj hS
          exact g_iret rfl dX9_coins_284
        · replace hS := (if_pos hc).symm.trans hS
          refine g_aload_n (j := 0) (x := base + 186) dX9_coins_269 rfl rfl ?_
          refine gs_getR (r := 197) lk_RX9_41 (tk_186 _) rfl dX9_coins_270 ?_
          refine g_iload_n (j := 1) (x := a1) dX9_coins_273 rfl rfl ?_
          obtain ⟨y96, ey96, hS⟩ := ob hS
          refine gs_iald (tk_197 _) dX9_coins_274 ey96 ?_
          refine g_goto 284 dX9_coins_275 (by decide) ?_
          obtain rfl := Option.some.inj hS
          exact g_iret rfl dX9_coins_284
    · replace hS := (if_pos hc).symm.trans hS
      refine g_iconst (v := -1) dX9_coins_27 (by decide) ?_
      obtain rfl := Option.some.inj hS
      exact g_iret rfl dX9_coins_28

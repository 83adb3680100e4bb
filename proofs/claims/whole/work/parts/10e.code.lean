def f_X8_free (μ : Mem) (a1 : Int32) (a2 : Int32) : Option (Int32) :=
  (rfG (gpl μ) isPl).bind fun q1 =>
  (f_X3_hasStair μ (q1) (a1)).bind fun y2 =>
  if y2 = (0 : Int32) then (
    some ((-1 : Int32))
  ) else (
    (f_X8_isAsked μ (a2)).bind fun y3 =>
    if y3 = (0 : Int32) then (
      some ((-1 : Int32))
    ) else (
      (ldA μ 5 7 (a1)).bind fun y4 =>
      (rfG (gpl μ) isPl).bind fun q5 =>
      (ldA μ (q5 + 4) 7 (a1)).bind fun y6 =>
      (f_X2_yearsTillFree μ (y4) (y6) (a2)).bind fun y7 =>
      some (y7)
    )
  )
set_option maxRecDepth 100000 in
set_option maxHeartbeats 4000000 in
theorem k_X8_free {l : Launch} {D : va_G} {cy : Nat → ClassId} {base : Nat} (μ : Mem) (a1 : Int32) (a2 : Int32)  {out : Int32} (hS : f_X8_free μ a1 a2 = some out) : gC l D cy base yX8_free cX8_free 3 (some .int) 2 [.ref (base + 0), .int (a1), .int (a2)] μ (some (.int out)) μ := by
  refine gC_of (own := RX8) (lv0 := [(0, .ref (base + 0)), (1, .int (a1)), (2, .int (a2))]) rfl (by decide) (Nat.le_of_ble_eq_true rfl) rfl ?_
  unfold f_X8_free at hS
  refine g_aload_n (j := 0) (x := base + 0) dX8_free_0 rfl rfl ?_
  obtain ⟨q1, eq1, hS⟩ := ob hS
  have hq1 := rfG_is eq1
  refine gs_getPl lk_RX8_62 dX8_free_1 eq1 ?_
  refine g_iload_n (j := 1) (x := a1) dX8_free_4 rfl rfl ?_
  obtain ⟨y2, ey2, hS⟩ := ob hS
  refine gs_callVi (As := [.int (a1)]) (st := []) (kr := q1) (k_X3_hasStair μ (q1) (a1) hq1 ey2) cl_RX8_88 sv_X3_hasStair ckk_X3_hasStair (tkPl_0 hq1 _) ⟨by decide, by decide⟩ (Nat.le_of_ble_eq_true rfl) ⟨Nat.zero_le _, Nat.zero_le _⟩ rfl dX8_free_5 rfl ?_
  refine g_if_eq 18 dX8_free_8 (by decide) (fun hc => ?_) (fun hc => ?_)
  · replace hS := (if_pos hc).symm.trans hS
    refine g_iconst (v := -1) dX8_free_18 (by decide) ?_
    obtain rfl := Option.some.inj hS
    exact g_iret rfl dX8_free_19
  · replace hS := (if_neg hc).symm.trans hS
    refine g_iload_n (j := 2) (x := a2) dX8_free_11 rfl rfl ?_
    obtain ⟨y3, ey3, hS⟩ := ob hS
    refine gs_callSi (As := [.int (a2)]) (st := []) (k_X8_isAsked μ (a2)  ey3) cl_RX8_220 sv_X8_isAsked ⟨by decide, by decide⟩ (Nat.le_of_ble_eq_true rfl) ⟨Nat.zero_le _, Nat.zero_le _⟩ rfl dX8_free_12 rfl ?_
    refine g_if_ne 20 dX8_free_15 (by decide) (fun hc => ?_) (fun hc => ?_)
    · replace hS := (if_neg hc).symm.trans hS
      refine g_aload_n (j := 0) (x := base + 0) dX8_free_20 rfl rfl ?_
      refine gs_getR (r := 3) lk_RX8_19 (tk_0 _) rfl dX8_free_21 ?_
      refine gs_getR (r := 4) lk_RX8_104 (tk_3 _) rfl dX8_free_24 ?_
      refine gs_getR (r := 5) lk_RX8_108 (tk_4 _) rfl dX8_free_27 ?_
      refine g_iload_n (j := 1) (x := a1) dX8_free_30 rfl rfl ?_
      obtain ⟨y4, ey4, hS⟩ := ob hS
      refine gs_iald (tk_5 _) dX8_free_31 ey4 ?_
      refine g_aload_n (j := 0) (x := base + 0) dX8_free_32 rfl rfl ?_
      obtain ⟨q5, eq5, hS⟩ := ob hS
      have hq5 := rfG_is eq5
      refine gs_getPl lk_RX8_62 dX8_free_33 eq5 ?_
      refine gs_getR (r := (q5 + 4)) lk_RX8_101 (tkPl_0 hq5 _) rfl dX8_free_36 ?_
      refine g_iload_n (j := 1) (x := a1) dX8_free_39 rfl rfl ?_
      obtain ⟨y6, ey6, hS⟩ := ob hS
      refine gs_iald (tkPl_4 hq5 _) dX8_free_40 ey6 ?_
      refine g_iload_n (j := 2) (x := a2) dX8_free_41 rfl rfl ?_
      obtain ⟨y7, ey7, hS⟩ := ob hS
      refine gs_callSi (As := [.int (y4), .int (y6), .int (a2)]) (st := []) (k_X2_yearsTillFree μ (y4) (y6) (a2)  ey7) cl_RX8_236 sv_X2_yearsTillFree ⟨by decide, by decide⟩ (Nat.le_of_ble_eq_true rfl) ⟨Nat.zero_le _, Nat.zero_le _⟩ rfl dX8_free_42 rfl ?_
      obtain rfl := Option.some.inj hS
      exact g_iret rfl dX8_free_45
    · replace hS := (if_pos hc).symm.trans hS
      refine g_iconst (v := -1) dX8_free_18 (by decide) ?_
      obtain rfl := Option.some.inj hS
      exact g_iret rfl dX8_free_19
def f_X8_odds_j36 (m6 : Mem) (q3 : Nat) (x4 : Int32) (x5 : Int32) : Option (Int32 × Mem) :=
  (f_X6_oddsOf m6 (q3) (x4) (x5)).bind fun z7 =>
  some (z7.1, z7.2)
set_option maxRecDepth 100000 in
set_option maxHeartbeats 4000000 in
theorem k_X8_odds_j36 {l : Launch} {D : va_G} {cy : Nat → ClassId} {base : Nat} {X : gX} (m6 : Mem) (q3 : Nat) (x4 : Int32) (x5 : Int32) (hq3 : isPl q3 = true) {out : Int32 × Mem} (hS : f_X8_odds_j36 m6 q3 x4 x5 = some out)  : G l D cy base RX8 cX8_odds 3 (some .int) (gRm 3) X (gZm D cy base 0 0 (some (.int out.1)) gNN (gH cy base out.2)) 36 [] [.int (x5), .int (x4), .ref (base + q3), .ref (base + 168)] 0 0 gNN (gH cy base m6) := by
  unfold f_X8_odds_j36 at hS
  obtain ⟨z7, ez7, hS⟩ := ob hS
  refine gs_callVi (As := [.ref (base + q3), .int (x4), .int (x5)]) (st := []) (kr := 168) (k_X6_oddsOf m6 (q3) (x4) (x5) hq3 ez7) cl_RX8_253 sv_X6_oddsOf ckk_X6_oddsOf (tk_168 _) ⟨by decide, by decide⟩ (Nat.le_of_ble_eq_true rfl) ⟨Nat.zero_le _, Nat.zero_le _⟩ rfl dX8_odds_36 rfl ?_
  obtain rfl := Option.some.inj hS
  exact g_iret rfl dX8_odds_39
def f_X8_odds (μ : Mem) (a1 : Int32) (a2 : Int32) : Option (Int32 × Mem) :=
  (f_X8_isAsked μ (a1)).bind fun y1 =>
  if y1 = (0 : Int32) then (
    some ((-1 : Int32), μ)
  ) else (
    if a2 < (0 : Int32) then (
      some ((-1 : Int32), μ)
    ) else (
      if a2 ≤ (1 : Int32) then (
        (rfG (gpl μ) isPl).bind fun q2 =>
        if a2 = (0 : Int32) then (
          f_X8_odds_j36 μ (q2) (a1) ((1 : Int32))
        ) else (
          f_X8_odds_j36 μ (q2) (a1) ((0 : Int32))
        )
      ) else (
        some ((-1 : Int32), μ)
      )
    )
  )
set_option maxRecDepth 100000 in
set_option maxHeartbeats 4000000 in
theorem k_X8_odds {l : Launch} {D : va_G} {cy : Nat → ClassId} {base : Nat} (μ : Mem) (a1 : Int32) (a2 : Int32)  {out : Int32 × Mem} (hS : f_X8_odds μ a1 a2 = some out) : gC l D cy base yX8_odds cX8_odds 3 (some .int) 3 [.ref (base + 0), .int (a1), .int (a2)] μ (some (.int out.1)) out.2 := by
  refine gC_of (own := RX8) (lv0 := [(0, .ref (base + 0)), (1, .int (a1)), (2, .int (a2))]) rfl (by decide) (Nat.le_of_ble_eq_true rfl) rfl ?_
  unfold f_X8_odds at hS
  refine g_iload_n (j := 1) (x := a1) dX8_odds_0 rfl rfl ?_
  obtain ⟨y1, ey1, hS⟩ := ob hS
  refine gs_callSi (As := [.int (a1)]) (st := []) (k_X8_isAsked μ (a1)  ey1) cl_RX8_220 sv_X8_isAsked ⟨by decide, by decide⟩ (Nat.le_of_ble_eq_true rfl) ⟨Nat.zero_le _, Nat.zero_le _⟩ rfl dX8_odds_1 rfl ?_
  refine g_if_eq 16 dX8_odds_4 (by decide) (fun hc => ?_) (fun hc => ?_)
  · replace hS := (if_pos hc).symm.trans hS
    refine g_iconst (v := -1) dX8_odds_16 (by decide) ?_
    obtain rfl := Option.some.inj hS
    exact g_iret rfl dX8_odds_17
  · replace hS := (if_neg hc).symm.trans hS
    refine g_iload_n (j := 2) (x := a2) dX8_odds_7 rfl rfl ?_
    refine g_if_lt 16 dX8_odds_8 (by decide) (fun hc => ?_) (fun hc => ?_)
    · replace hS := (if_pos hc).symm.trans hS
      refine g_iconst (v := -1) dX8_odds_16 (by decide) ?_
      obtain rfl := Option.some.inj hS
      exact g_iret rfl dX8_odds_17
    · replace hS := (if_neg hc).symm.trans hS
      refine g_iload_n (j := 2) (x := a2) dX8_odds_11 rfl rfl ?_
      refine g_iconst (v := 1) dX8_odds_12 (by decide) ?_
      refine g_icmp_le 18 dX8_odds_13 (by decide) (fun hc => ?_) (fun hc => ?_)
      · replace hS := (if_pos hc).symm.trans hS
        refine g_aload_n (j := 0) (x := base + 0) dX8_odds_18 rfl rfl ?_
        refine gs_getR (r := 168) lk_RX8_55 (tk_0 _) rfl dX8_odds_19 ?_
        refine g_aload_n (j := 0) (x := base + 0) dX8_odds_22 rfl rfl ?_
        obtain ⟨q2, eq2, hS⟩ := ob hS
        have hq2 := rfG_is eq2
        refine gs_getPl lk_RX8_62 dX8_odds_23 eq2 ?_
        refine g_iload_n (j := 1) (x := a1) dX8_odds_26 rfl rfl ?_
        refine g_iload_n (j := 2) (x := a2) dX8_odds_27 rfl rfl ?_
        refine g_if_ne 35 dX8_odds_28 (by decide) (fun hc => ?_) (fun hc => ?_)
        · replace hS := (if_neg hc).symm.trans hS
          refine g_iconst (v := 0) dX8_odds_35 (by decide) ?_
          refine g_sub (lvx := []) [] rfl ?_
          exact k_X8_odds_j36 (μ) (q2) (a1) ((0 : Int32)) hq2 hS
        · replace hS := (if_pos hc).symm.trans hS
          refine g_iconst (v := 1) dX8_odds_31 (by decide) ?_
          refine g_goto 36 dX8_odds_32 (by decide) ?_
          refine g_sub (lvx := []) [] rfl ?_
          exact k_X8_odds_j36 (μ) (q2) (a1) ((1 : Int32)) hq2 hS
      · replace hS := (if_neg hc).symm.trans hS
        refine g_iconst (v := -1) dX8_odds_16 (by decide) ?_
        obtain rfl := Option.some.inj hS
        exact g_iret rfl dX8_odds_17
def f_X8_asStair (μ : Mem) (a1 : Int32) : Option (Int32 × Mem) :=
  (stL μ 0 (((gl μ 0) + (1 : Int64)))).bind fun m1 =>
  (ldA m1 5 7 (a1)).bind fun y2 =>
  some (y2, m1)
set_option maxRecDepth 100000 in
set_option maxHeartbeats 4000000 in
theorem k_X8_asStair {l : Launch} {D : va_G} {cy : Nat → ClassId} {base : Nat} (μ : Mem) (a1 : Int32)  {out : Int32 × Mem} (hS : f_X8_asStair μ a1 = some out) : gC l D cy base yX8_asStair cX8_asStair 2 (some .int) 0 [.ref (base + 0), .int (a1)] μ (some (.int out.1)) out.2 := by
  refine gC_of (own := RX8) (lv0 := [(0, .ref (base + 0)), (1, .int (a1))]) rfl (by decide) (Nat.le_of_ble_eq_true rfl) rfl ?_
  unfold f_X8_asStair at hS
  refine g_aload_n (j := 0) (x := base + 0) dX8_asStair_0 rfl rfl ?_
  refine g_dup dX8_asStair_1 rfl ?_
  refine gs_getL lk_RX8_285 (tk_0 _) rfl dX8_asStair_2 ?_
  refine g_lconst (v := 1) dX8_asStair_5 (by decide) ?_
  refine g_ladd dX8_asStair_6 ?_
  obtain ⟨m1, em1, hS⟩ := ob hS
  refine gs_putL lw_RX8_285 (tk_0 _) rfl (uq0 _ _) rfl rfl dX8_asStair_7 em1 ?_
  refine g_aload_n (j := 0) (x := base + 0) dX8_asStair_10 rfl rfl ?_
  refine gs_getR (r := 3) lk_RX8_19 (tk_0 _) rfl dX8_asStair_11 ?_
  refine gs_getR (r := 4) lk_RX8_104 (tk_3 _) rfl dX8_asStair_14 ?_
  refine gs_getR (r := 5) lk_RX8_108 (tk_4 _) rfl dX8_asStair_17 ?_
  refine g_iload_n (j := 1) (x := a1) dX8_asStair_20 rfl rfl ?_
  obtain ⟨y2, ey2, hS⟩ := ob hS
  refine gs_iald (tk_5 _) dX8_asStair_21 ey2 ?_
  obtain rfl := Option.some.inj hS
  exact g_iret rfl dX8_asStair_22
def f_X8_asMarble (μ : Mem) (a1 : Int32) : Option (Int32 × Mem) :=
  (stL μ 0 (((gl μ 0) + (10 : Int64)))).bind fun m1 =>
  (f_X8_asStair m1 (a1)).bind fun z2 =>
  (rfG (gpl z2.2) isPl).bind fun q3 =>
  (ldA z2.2 (q3 + 3) 7 (a1)).bind fun y4 =>
  some ((z2.1 + y4), z2.2)
set_option maxRecDepth 100000 in
set_option maxHeartbeats 4000000 in
theorem k_X8_asMarble {l : Launch} {D : va_G} {cy : Nat → ClassId} {base : Nat} (μ : Mem) (a1 : Int32)  {out : Int32 × Mem} (hS : f_X8_asMarble μ a1 = some out) : gC l D cy base yX8_asMarble cX8_asMarble 2 (some .int) 1 [.ref (base + 0), .int (a1)] μ (some (.int out.1)) out.2 := by
  refine gC_of (own := RX8) (lv0 := [(0, .ref (base + 0)), (1, .int (a1))]) rfl (by decide) (Nat.le_of_ble_eq_true rfl) rfl ?_
  unfold f_X8_asMarble at hS
  refine g_aload_n (j := 0) (x := base + 0) dX8_asMarble_0 rfl rfl ?_
  refine g_dup dX8_asMarble_1 rfl ?_
  refine gs_getL lk_RX8_285 (tk_0 _) rfl dX8_asMarble_2 ?_
  refine g_ldc2 cs_RX8_294 dX8_asMarble_5 ?_
  refine g_ladd dX8_asMarble_8 ?_
  obtain ⟨m1, em1, hS⟩ := ob hS
  refine gs_putL lw_RX8_285 (tk_0 _) rfl (uq0 _ _) rfl rfl dX8_asMarble_9 em1 ?_
  refine g_aload_n (j := 0) (x := base + 0) dX8_asMarble_12 rfl rfl ?_
  refine g_iload_n (j := 1) (x := a1) dX8_asMarble_13 rfl rfl ?_
  obtain ⟨z2, ez2, hS⟩ := ob hS
  refine gs_callVi (As := [.int (a1)]) (st := []) (kr := 0) (k_X8_asStair m1 (a1)  ez2) cl_RX8_257 sv_X8_asStair ckk_X8_asStair (tk_0 _) ⟨by decide, by decide⟩ (Nat.le_of_ble_eq_true rfl) ⟨Nat.zero_le _, Nat.zero_le _⟩ rfl dX8_asMarble_14 rfl ?_
  refine g_aload_n (j := 0) (x := base + 0) dX8_asMarble_17 rfl rfl ?_
  obtain ⟨q3, eq3, hS⟩ := ob hS
  have hq3 := rfG_is eq3
  refine gs_getPl lk_RX8_62 dX8_asMarble_18 eq3 ?_
  refine gs_getR (r := (q3 + 3)) lk_RX8_98 (tkPl_0 hq3 _) rfl dX8_asMarble_21 ?_
  refine g_iload_n (j := 1) (x := a1) dX8_asMarble_24 rfl rfl ?_
  obtain ⟨y4, ey4, hS⟩ := ob hS
  refine gs_iald (tkPl_3 hq3 _) dX8_asMarble_25 ey4 ?_
  refine g_iadd dX8_asMarble_26 ?_
  obtain rfl := Option.some.inj hS
  exact g_iret rfl dX8_asMarble_27
def f_X8_asLadder (μ : Mem) (a1 : Int32) : Option (Int32 × Mem) :=
  (stL μ 0 (((gl μ 0) + (100 : Int64)))).bind fun m1 =>
  (f_X8_asStair m1 (a1)).bind fun z2 =>
  (ldA z2.2 6 7 (a1)).bind fun y3 =>
  some ((z2.1 - y3), z2.2)
set_option maxRecDepth 100000 in
set_option maxHeartbeats 4000000 in
theorem k_X8_asLadder {l : Launch} {D : va_G} {cy : Nat → ClassId} {base : Nat} (μ : Mem) (a1 : Int32)  {out : Int32 × Mem} (hS : f_X8_asLadder μ a1 = some out) : gC l D cy base yX8_asLadder cX8_asLadder 2 (some .int) 1 [.ref (base + 0), .int (a1)] μ (some (.int out.1)) out.2 := by
  refine gC_of (own := RX8) (lv0 := [(0, .ref (base + 0)), (1, .int (a1))]) rfl (by decide) (Nat.le_of_ble_eq_true rfl) rfl ?_
  unfold f_X8_asLadder at hS
  refine g_aload_n (j := 0) (x := base + 0) dX8_asLadder_0 rfl rfl ?_
  refine g_dup dX8_asLadder_1 rfl ?_
  refine gs_getL lk_RX8_285 (tk_0 _) rfl dX8_asLadder_2 ?_
  refine g_ldc2 cs_RX8_296 dX8_asLadder_5 ?_
  refine g_ladd dX8_asLadder_8 ?_
  obtain ⟨m1, em1, hS⟩ := ob hS
  refine gs_putL lw_RX8_285 (tk_0 _) rfl (uq0 _ _) rfl rfl dX8_asLadder_9 em1 ?_
  refine g_aload_n (j := 0) (x := base + 0) dX8_asLadder_12 rfl rfl ?_
  refine g_iload_n (j := 1) (x := a1) dX8_asLadder_13 rfl rfl ?_
  obtain ⟨z2, ez2, hS⟩ := ob hS
  refine gs_callVi (As := [.int (a1)]) (st := []) (kr := 0) (k_X8_asStair m1 (a1)  ez2) cl_RX8_257 sv_X8_asStair ckk_X8_asStair (tk_0 _) ⟨by decide, by decide⟩ (Nat.le_of_ble_eq_true rfl) ⟨Nat.zero_le _, Nat.zero_le _⟩ rfl dX8_asLadder_14 rfl ?_
  refine g_aload_n (j := 0) (x := base + 0) dX8_asLadder_17 rfl rfl ?_
  refine gs_getR (r := 3) lk_RX8_19 (tk_0 _) rfl dX8_asLadder_18 ?_
  refine gs_getR (r := 4) lk_RX8_104 (tk_3 _) rfl dX8_asLadder_21 ?_
  refine gs_getR (r := 6) lk_RX8_113 (tk_4 _) rfl dX8_asLadder_24 ?_
  refine g_iload_n (j := 1) (x := a1) dX8_asLadder_27 rfl rfl ?_
  obtain ⟨y3, ey3, hS⟩ := ob hS
  refine gs_iald (tk_6 _) dX8_asLadder_28 ey3 ?_
  refine g_isub dX8_asLadder_29 ?_
  obtain rfl := Option.some.inj hS
  exact g_iret rfl dX8_asLadder_30
def f_X8_asChurch (μ : Mem) (a1 : Int32) : Option (Int32 × Mem) :=
  (stL μ 0 (((gl μ 0) + (1000 : Int64)))).bind fun m1 =>
  (f_X8_asMarble m1 (a1)).bind fun z2 =>
  some ((z2.1 * (2 : Int32)), z2.2)
set_option maxRecDepth 100000 in
set_option maxHeartbeats 4000000 in
theorem k_X8_asChurch {l : Launch} {D : va_G} {cy : Nat → ClassId} {base : Nat} (μ : Mem) (a1 : Int32)  {out : Int32 × Mem} (hS : f_X8_asChurch μ a1 = some out) : gC l D cy base yX8_asChurch cX8_asChurch 2 (some .int) 2 [.ref (base + 0), .int (a1)] μ (some (.int out.1)) out.2 := by
  refine gC_of (own := RX8) (lv0 := [(0, .ref (base + 0)), (1, .int (a1))]) rfl (by decide) (Nat.le_of_ble_eq_true rfl) rfl ?_
  unfold f_X8_asChurch at hS
  refine g_aload_n (j := 0) (x := base + 0) dX8_asChurch_0 rfl rfl ?_
  refine g_dup dX8_asChurch_1 rfl ?_
  refine gs_getL lk_RX8_285 (tk_0 _) rfl dX8_asChurch_2 ?_
  refine g_ldc2 cs_RX8_298 dX8_asChurch_5 ?_
  refine g_ladd dX8_asChurch_8 ?_
  obtain ⟨m1, em1, hS⟩ := ob hS
  refine gs_putL lw_RX8_285 (tk_0 _) rfl (uq0 _ _) rfl rfl dX8_asChurch_9 em1 ?_
  refine g_aload_n (j := 0) (x := base + 0) dX8_asChurch_12 rfl rfl ?_
  refine g_iload_n (j := 1) (x := a1) dX8_asChurch_13 rfl rfl ?_
  obtain ⟨z2, ez2, hS⟩ := ob hS
  refine gs_callVi (As := [.int (a1)]) (st := []) (kr := 0) (k_X8_asMarble m1 (a1)  ez2) cl_RX8_260 sv_X8_asMarble ckk_X8_asMarble (tk_0 _) ⟨by decide, by decide⟩ (Nat.le_of_ble_eq_true rfl) ⟨Nat.zero_le _, Nat.zero_le _⟩ rfl dX8_asChurch_14 rfl ?_
  refine g_iconst (v := 2) dX8_asChurch_17 (by decide) ?_
  refine g_imul dX8_asChurch_18 ?_
  obtain rfl := Option.some.inj hS
  exact g_iret rfl dX8_asChurch_19
def f_X8_asLift (μ : Mem) (a1 : Int32) : Option (Int32 × Mem) :=
  (stL μ 0 (((gl μ 0) + (10000 : Int64)))).bind fun m1 =>
  (f_X8_asLadder m1 (a1)).bind fun z2 =>
  (rfG (gpl z2.2) isPl).bind fun q3 =>
  (ldA z2.2 (q3 + 4) 7 (a1)).bind fun y4 =>
  some ((z2.1 + y4), z2.2)
set_option maxRecDepth 100000 in
set_option maxHeartbeats 4000000 in
theorem k_X8_asLift {l : Launch} {D : va_G} {cy : Nat → ClassId} {base : Nat} (μ : Mem) (a1 : Int32)  {out : Int32 × Mem} (hS : f_X8_asLift μ a1 = some out) : gC l D cy base yX8_asLift cX8_asLift 2 (some .int) 2 [.ref (base + 0), .int (a1)] μ (some (.int out.1)) out.2 := by
  refine gC_of (own := RX8) (lv0 := [(0, .ref (base + 0)), (1, .int (a1))]) rfl (by decide) (Nat.le_of_ble_eq_true rfl) rfl ?_
  unfold f_X8_asLift at hS
  refine g_aload_n (j := 0) (x := base + 0) dX8_asLift_0 rfl rfl ?_
  refine g_dup dX8_asLift_1 rfl ?_
  refine gs_getL lk_RX8_285 (tk_0 _) rfl dX8_asLift_2 ?_
  refine g_ldc2 cs_RX8_300 dX8_asLift_5 ?_
  refine g_ladd dX8_asLift_8 ?_
  obtain ⟨m1, em1, hS⟩ := ob hS
  refine gs_putL lw_RX8_285 (tk_0 _) rfl (uq0 _ _) rfl rfl dX8_asLift_9 em1 ?_
  refine g_aload_n (j := 0) (x := base + 0) dX8_asLift_12 rfl rfl ?_
  refine g_iload_n (j := 1) (x := a1) dX8_asLift_13 rfl rfl ?_
  obtain ⟨z2, ez2, hS⟩ := ob hS
  refine gs_callVi (As := [.int (a1)]) (st := []) (kr := 0) (k_X8_asLadder m1 (a1)  ez2) cl_RX8_263 sv_X8_asLadder ckk_X8_asLadder (tk_0 _) ⟨by decide, by decide⟩ (Nat.le_of_ble_eq_true rfl) ⟨Nat.zero_le _, Nat.zero_le _⟩ rfl dX8_asLift_14 rfl ?_
  refine g_aload_n (j := 0) (x := base + 0) dX8_asLift_17 rfl rfl ?_
  obtain ⟨q3, eq3, hS⟩ := ob hS
  have hq3 := rfG_is eq3
  refine gs_getPl lk_RX8_62 dX8_asLift_18 eq3 ?_
  refine gs_getR (r := (q3 + 4)) lk_RX8_101 (tkPl_0 hq3 _) rfl dX8_asLift_21 ?_
  refine g_iload_n (j := 1) (x := a1) dX8_asLift_24 rfl rfl ?_
  obtain ⟨y4, ey4, hS⟩ := ob hS
  refine gs_iald (tkPl_4 hq3 _) dX8_asLift_25 ey4 ?_
  refine g_iadd dX8_asLift_26 ?_
  obtain rfl := Option.some.inj hS
  exact g_iret rfl dX8_asLift_27
def f_X8_asTower (μ : Mem) (a1 : Int32) : Option (Int32 × Mem) :=
  (stL μ 0 (((gl μ 0) + (100000 : Int64)))).bind fun m1 =>
  (f_X8_asStair m1 (a1)).bind fun z2 =>
  some ((z2.1 + (gi z2.2 4 4)), z2.2)
set_option maxRecDepth 100000 in
set_option maxHeartbeats 4000000 in
theorem k_X8_asTower {l : Launch} {D : va_G} {cy : Nat → ClassId} {base : Nat} (μ : Mem) (a1 : Int32)  {out : Int32 × Mem} (hS : f_X8_asTower μ a1 = some out) : gC l D cy base yX8_asTower cX8_asTower 2 (some .int) 1 [.ref (base + 0), .int (a1)] μ (some (.int out.1)) out.2 := by
  refine gC_of (own := RX8) (lv0 := [(0, .ref (base + 0)), (1, .int (a1))]) rfl (by decide) (Nat.le_of_ble_eq_true rfl) rfl ?_
  unfold f_X8_asTower at hS
  refine g_aload_n (j := 0) (x := base + 0) dX8_asTower_0 rfl rfl ?_
  refine g_dup dX8_asTower_1 rfl ?_
  refine gs_getL lk_RX8_285 (tk_0 _) rfl dX8_asTower_2 ?_
  refine g_ldc2 cs_RX8_302 dX8_asTower_5 ?_
  refine g_ladd dX8_asTower_8 ?_
  obtain ⟨m1, em1, hS⟩ := ob hS
  refine gs_putL lw_RX8_285 (tk_0 _) rfl (uq0 _ _) rfl rfl dX8_asTower_9 em1 ?_
  refine g_aload_n (j := 0) (x := base + 0) dX8_asTower_12 rfl rfl ?_
  refine g_iload_n (j := 1) (x := a1) dX8_asTower_13 rfl rfl ?_
  obtain ⟨z2, ez2, hS⟩ := ob hS
  refine gs_callVi (As := [.int (a1)]) (st := []) (kr := 0) (k_X8_asStair m1 (a1)  ez2) cl_RX8_257 sv_X8_asStair ckk_X8_asStair (tk_0 _) ⟨by decide, by decide⟩ (Nat.le_of_ble_eq_true rfl) ⟨Nat.zero_le _, Nat.zero_le _⟩ rfl dX8_asTower_14 rfl ?_
  refine g_aload_n (j := 0) (x := base + 0) dX8_asTower_17 rfl rfl ?_
  refine gs_getR (r := 3) lk_RX8_19 (tk_0 _) rfl dX8_asTower_18 ?_
  refine gs_getR (r := 4) lk_RX8_104 (tk_3 _) rfl dX8_asTower_21 ?_
  refine gs_getI lk_RX8_162 (tk_4 _) rfl dX8_asTower_24 ?_
  refine g_iadd dX8_asTower_27 ?_
  obtain rfl := Option.some.inj hS
  exact g_iret rfl dX8_asTower_28
def f_X8_mark (μ : Mem) (a1 : Int32) (a2 : Int32) : Option (Int32 × Mem) :=
  (rfG (gpl μ) isPl).bind fun q1 =>
  (f_X3_hasStair μ (q1) (a2)).bind fun y2 =>
  if y2 = (0 : Int32) then (
    some ((-1000000 : Int32), μ)
  ) else (
    if a1 = (0 : Int32) then (
      (f_X8_asStair μ (a2)).bind fun z4 =>
      some (z4.1, z4.2)
    ) else
    if a1 = (1 : Int32) then (
      (f_X8_asMarble μ (a2)).bind fun z6 =>
      some (z6.1, z6.2)
    ) else
    if a1 = (2 : Int32) then (
      (f_X8_asLadder μ (a2)).bind fun z8 =>
      some (z8.1, z8.2)
    ) else
    if a1 = (3 : Int32) then (
      (f_X8_asChurch μ (a2)).bind fun z10 =>
      some (z10.1, z10.2)
    ) else
    if a1 = (4 : Int32) then (
      (f_X8_asLift μ (a2)).bind fun z12 =>
      some (z12.1, z12.2)
    ) else
    if a1 = (5 : Int32) then (
      (f_X8_asTower μ (a2)).bind fun z14 =>
      some (z14.1, z14.2)
    ) else
    (
      some ((-1000000 : Int32), μ)
    )
  )
set_option maxRecDepth 100000 in
set_option maxHeartbeats 4000000 in
theorem k_X8_mark {l : Launch} {D : va_G} {cy : Nat → ClassId} {base : Nat} (μ : Mem) (a1 : Int32) (a2 : Int32)  {out : Int32 × Mem} (hS : f_X8_mark μ a1 a2 = some out) : gC l D cy base yX8_mark cX8_mark 3 (some .int) 3 [.ref (base + 0), .int (a1), .int (a2)] μ (some (.int out.1)) out.2 := by
  refine gC_of (own := RX8) (lv0 := [(0, .ref (base + 0)), (1, .int (a1)), (2, .int (a2))]) rfl (by decide) (Nat.le_of_ble_eq_true rfl) rfl ?_
  unfold f_X8_mark at hS
  refine g_aload_n (j := 0) (x := base + 0) dX8_mark_0 rfl rfl ?_
  obtain ⟨q1, eq1, hS⟩ := ob hS
  have hq1 := rfG_is eq1
  refine gs_getPl lk_RX8_62 dX8_mark_1 eq1 ?_
  refine g_iload_n (j := 2) (x := a2) dX8_mark_4 rfl rfl ?_
  obtain ⟨y2, ey2, hS⟩ := ob hS
  refine gs_callVi (As := [.int (a2)]) (st := []) (kr := q1) (k_X3_hasStair μ (q1) (a2) hq1 ey2) cl_RX8_88 sv_X3_hasStair ckk_X3_hasStair (tkPl_0 hq1 _) ⟨by decide, by decide⟩ (Nat.le_of_ble_eq_true rfl) ⟨Nat.zero_le _, Nat.zero_le _⟩ rfl dX8_mark_5 rfl ?_
  refine g_if_ne 15 dX8_mark_8 (by decide) (fun hc => ?_) (fun hc => ?_)
  · replace hS := (if_neg hc).symm.trans hS
    refine g_iload_n (j := 1) (x := a1) dX8_mark_15 rfl rfl ?_
    by_cases hs3 : a1 = (0 : Int32)
    · replace hS := (if_pos hs3).symm.trans hS
      refine gs_table hs3 56 dX8_mark_16 (by decide) (by decide) rfl (by decide) ?_
      refine g_aload_n (j := 0) (x := base + 0) dX8_mark_56 rfl rfl ?_
      refine g_iload_n (j := 2) (x := a2) dX8_mark_57 rfl rfl ?_
      obtain ⟨z4, ez4, hS⟩ := ob hS
      refine gs_callVi (As := [.int (a2)]) (st := []) (kr := 0) (k_X8_asStair μ (a2)  ez4) cl_RX8_257 sv_X8_asStair ckk_X8_asStair (tk_0 _) ⟨by decide, by decide⟩ (Nat.le_of_ble_eq_true rfl) ⟨Nat.zero_le _, Nat.zero_le _⟩ rfl dX8_mark_58 rfl ?_
      obtain rfl := Option.some.inj hS
      exact g_iret rfl dX8_mark_61
    replace hS := (if_neg hs3).symm.trans hS
    by_cases hs5 : a1 = (1 : Int32)
    · replace hS := (if_pos hs5).symm.trans hS
      refine gs_table hs5 62 dX8_mark_16 (by decide) (by decide) rfl (by decide) ?_
      refine g_aload_n (j := 0) (x := base + 0) dX8_mark_62 rfl rfl ?_
      refine g_iload_n (j := 2) (x := a2) dX8_mark_63 rfl rfl ?_
      obtain ⟨z6, ez6, hS⟩ := ob hS
      refine gs_callVi (As := [.int (a2)]) (st := []) (kr := 0) (k_X8_asMarble μ (a2)  ez6) cl_RX8_260 sv_X8_asMarble ckk_X8_asMarble (tk_0 _) ⟨by decide, by decide⟩ (Nat.le_of_ble_eq_true rfl) ⟨Nat.zero_le _, Nat.zero_le _⟩ rfl dX8_mark_64 rfl ?_
      obtain rfl := Option.some.inj hS
      exact g_iret rfl dX8_mark_67
    replace hS := (if_neg hs5).symm.trans hS
    by_cases hs7 : a1 = (2 : Int32)
    · replace hS := (if_pos hs7).symm.trans hS
      refine gs_table hs7 68 dX8_mark_16 (by decide) (by decide) rfl (by decide) ?_
      refine g_aload_n (j := 0) (x := base + 0) dX8_mark_68 rfl rfl ?_
      refine g_iload_n (j := 2) (x := a2) dX8_mark_69 rfl rfl ?_
      obtain ⟨z8, ez8, hS⟩ := ob hS
      refine gs_callVi (As := [.int (a2)]) (st := []) (kr := 0) (k_X8_asLadder μ (a2)  ez8) cl_RX8_263 sv_X8_asLadder ckk_X8_asLadder (tk_0 _) ⟨by decide, by decide⟩ (Nat.le_of_ble_eq_true rfl) ⟨Nat.zero_le _, Nat.zero_le _⟩ rfl dX8_mark_70 rfl ?_
      obtain rfl := Option.some.inj hS
      exact g_iret rfl dX8_mark_73
    replace hS := (if_neg hs7).symm.trans hS
    by_cases hs9 : a1 = (3 : Int32)
    · replace hS := (if_pos hs9).symm.trans hS
      refine gs_table hs9 74 dX8_mark_16 (by decide) (by decide) rfl (by decide) ?_
      refine g_aload_n (j := 0) (x := base + 0) dX8_mark_74 rfl rfl ?_
      refine g_iload_n (j := 2) (x := a2) dX8_mark_75 rfl rfl ?_
      obtain ⟨z10, ez10, hS⟩ := ob hS
      refine gs_callVi (As := [.int (a2)]) (st := []) (kr := 0) (k_X8_asChurch μ (a2)  ez10) cl_RX8_266 sv_X8_asChurch ckk_X8_asChurch (tk_0 _) ⟨by decide, by decide⟩ (Nat.le_of_ble_eq_true rfl) ⟨Nat.zero_le _, Nat.zero_le _⟩ rfl dX8_mark_76 rfl ?_
      obtain rfl := Option.some.inj hS
      exact g_iret rfl dX8_mark_79
    replace hS := (if_neg hs9).symm.trans hS
    by_cases hs11 : a1 = (4 : Int32)
    · replace hS := (if_pos hs11).symm.trans hS
      refine gs_table hs11 80 dX8_mark_16 (by decide) (by decide) rfl (by decide) ?_
      refine g_aload_n (j := 0) (x := base + 0) dX8_mark_80 rfl rfl ?_
      refine g_iload_n (j := 2) (x := a2) dX8_mark_81 rfl rfl ?_
      obtain ⟨z12, ez12, hS⟩ := ob hS
      refine gs_callVi (As := [.int (a2)]) (st := []) (kr := 0) (k_X8_asLift μ (a2)  ez12) cl_RX8_269 sv_X8_asLift ckk_X8_asLift (tk_0 _) ⟨by decide, by decide⟩ (Nat.le_of_ble_eq_true rfl) ⟨Nat.zero_le _, Nat.zero_le _⟩ rfl dX8_mark_82 rfl ?_
      obtain rfl := Option.some.inj hS
      exact g_iret rfl dX8_mark_85
    replace hS := (if_neg hs11).symm.trans hS
    by_cases hs13 : a1 = (5 : Int32)
    · replace hS := (if_pos hs13).symm.trans hS
      refine gs_table hs13 86 dX8_mark_16 (by decide) (by decide) rfl (by decide) ?_
      refine g_aload_n (j := 0) (x := base + 0) dX8_mark_86 rfl rfl ?_
      refine g_iload_n (j := 2) (x := a2) dX8_mark_87 rfl rfl ?_
      obtain ⟨z14, ez14, hS⟩ := ob hS
      refine gs_callVi (As := [.int (a2)]) (st := []) (kr := 0) (k_X8_asTower μ (a2)  ez14) cl_RX8_272 sv_X8_asTower ckk_X8_asTower (tk_0 _) ⟨by decide, by decide⟩ (Nat.le_of_ble_eq_true rfl) ⟨Nat.zero_le _, Nat.zero_le _⟩ rfl dX8_mark_88 rfl ?_
      obtain rfl := Option.some.inj hS
      exact g_iret rfl dX8_mark_91
    replace hS := (if_neg hs13).symm.trans hS
    refine gs_tableOut 6 92 dX8_mark_16 (by decide) (by decide) (fun j hj => by match j, hj with | 0, _ => exact hs3 | 1, _ => exact hs5 | 2, _ => exact hs7 | 3, _ => exact hs9 | 4, _ => exact hs11 | 5, _ => exact hs13 | j + 6, hj => exact absurd hj (by omega)) (by decide) ?_
    refine g_ldcw cs_RX8_256 dX8_mark_92 ?_
    obtain rfl := Option.some.inj hS
    exact g_iret rfl dX8_mark_95
  · replace hS := (if_pos hc).symm.trans hS
    refine g_ldcw cs_RX8_256 dX8_mark_11 ?_
    obtain rfl := Option.some.inj hS
    exact g_iret rfl dX8_mark_14
def f_X8_isImage (μ : Mem) (a0 : Int32) : Option (Int32) :=
  if a0 < (0 : Int32) then (
    some (0 : Int32)
  ) else (
    if (2 : Int32) ≤ a0 then (
      some (0 : Int32)
    ) else (
      some (1 : Int32)
    )
  )
set_option maxRecDepth 100000 in
set_option maxHeartbeats 4000000 in
theorem k_X8_isImage {l : Launch} {D : va_G} {cy : Nat → ClassId} {base : Nat} (μ : Mem) (a0 : Int32)  {out : Int32} (hS : f_X8_isImage μ a0 = some out) : gC l D cy base yX8_isImage cX8_isImage 1 (some .boolean) 0 [.int (a0)] μ (some (.int out)) μ := by
  refine gC_of (own := RX8) (lv0 := [(0, .int (a0))]) rfl (by decide) (Nat.le_of_ble_eq_true rfl) rfl ?_
  unfold f_X8_isImage at hS
  refine g_iload_n (j := 0) (x := a0) dX8_isImage_0 rfl rfl ?_
  refine g_if_lt 13 dX8_isImage_1 (by decide) (fun hc => ?_) (fun hc => ?_)
  · replace hS := (if_pos hc).symm.trans hS
    refine g_iconst (v := 0) dX8_isImage_13 (by decide) ?_
    obtain rfl := Option.some.inj hS
    exact g_zret (v := (0 : Int32)) rfl rfl dX8_isImage_14
  · replace hS := (if_neg hc).symm.trans hS
    refine g_iload_n (j := 0) (x := a0) dX8_isImage_4 rfl rfl ?_
    refine g_iconst (v := 2) dX8_isImage_5 (by decide) ?_
    refine g_icmp_ge 13 dX8_isImage_6 (by decide) (fun hc => ?_) (fun hc => ?_)
    · replace hS := (if_pos hc).symm.trans hS
      refine g_iconst (v := 0) dX8_isImage_13 (by decide) ?_
      obtain rfl := Option.some.inj hS
      exact g_zret (v := (0 : Int32)) rfl rfl dX8_isImage_14
    · replace hS := (if_neg hc).symm.trans hS
      refine g_iconst (v := 1) dX8_isImage_9 (by decide) ?_
      refine g_goto 14 dX8_isImage_10 (by decide) ?_
      obtain rfl := Option.some.inj hS
      exact g_zret (v := (1 : Int32)) rfl rfl dX8_isImage_14
def f_X8_keep (μ : Mem) (a1 : Int32) : Option (Int32 × Mem) :=
  (f_X8_isImage μ (a1)).bind fun y1 =>
  if y1 = (0 : Int32) then (
    some ((-1 : Int32), μ)
  ) else (
    (rfA 49 2 46 (a1) isLe).bind fun q2 =>
    (f_X0_copyFrom μ (q2) 3).bind fun m4 =>
    (stZ m4 142 2 (a1) ((1 : Int32))).bind fun m5 =>
    some ((gi m5 4 4), m5)
  )
set_option maxRecDepth 100000 in
set_option maxHeartbeats 4000000 in
theorem k_X8_keep {l : Launch} {D : va_G} {cy : Nat → ClassId} {base : Nat} (μ : Mem) (a1 : Int32)  {out : Int32 × Mem} (hS : f_X8_keep μ a1 = some out) : gC l D cy base yX8_keep cX8_keep 2 (some .int) 3 [.ref (base + 0), .int (a1)] μ (some (.int out.1)) out.2 := by
  refine gC_of (own := RX8) (lv0 := [(0, .ref (base + 0)), (1, .int (a1))]) rfl (by decide) (Nat.le_of_ble_eq_true rfl) rfl ?_
  unfold f_X8_keep at hS
  refine g_iload_n (j := 1) (x := a1) dX8_keep_0 rfl rfl ?_
  obtain ⟨y1, ey1, hS⟩ := ob hS
  refine gs_callSi (As := [.int (a1)]) (st := []) (k_X8_isImage μ (a1)  ey1) cl_RX8_275 sv_X8_isImage ⟨by decide, by decide⟩ (Nat.le_of_ble_eq_true rfl) ⟨Nat.zero_le _, Nat.zero_le _⟩ rfl dX8_keep_1 rfl ?_
  refine g_if_ne 9 dX8_keep_4 (by decide) (fun hc => ?_) (fun hc => ?_)
  · replace hS := (if_neg hc).symm.trans hS
    refine g_aload_n (j := 0) (x := base + 0) dX8_keep_9 rfl rfl ?_
    refine gs_getR (r := 49) lk_RX8_23 (tk_0 _) rfl dX8_keep_10 ?_
    refine g_iload_n (j := 1) (x := a1) dX8_keep_13 rfl rfl ?_
    obtain ⟨q2, eq2, hS⟩ := ob hS
    have hq2 := rfA_ok eq2
    refine gs_aald (t0 := 2) (sd := 45) (ty := .object "OwedFalls$Ledger") (tk_49 _) rfl rfl dX8_keep_14 eq2 ?_
    refine g_aload_n (j := 0) (x := base + 0) dX8_keep_15 rfl rfl ?_
    refine gs_getR (r := 3) lk_RX8_19 (tk_0 _) rfl dX8_keep_16 ?_
    obtain ⟨m4, em4, hS⟩ := ob hS
    refine gs_callVv (As := [.ref (base + 3)]) (st := []) (kr := q2) (k_X0_copyFrom μ (q2) 3 hq2 rfl em4) cl_RX8_278 sv_X0_copyFrom ckk_X0_copyFrom (tkLe_0 hq2 _) ⟨by decide, by decide⟩ (Nat.le_of_ble_eq_true rfl) ⟨Nat.zero_le _, Nat.zero_le _⟩ rfl dX8_keep_19 rfl ?_
    refine g_aload_n (j := 0) (x := base + 0) dX8_keep_22 rfl rfl ?_
    refine gs_getR (r := 142) lk_RX8_27 (tk_0 _) rfl dX8_keep_23 ?_
    refine g_iload_n (j := 1) (x := a1) dX8_keep_26 rfl rfl ?_
    refine g_iconst (v := 1) dX8_keep_27 (by decide) ?_
    obtain ⟨m5, em5, hS⟩ := ob hS
    refine gs_zast (tk_142 _) dX8_keep_28 em5 ?_
    refine g_aload_n (j := 0) (x := base + 0) dX8_keep_29 rfl rfl ?_
    refine gs_getR (r := 3) lk_RX8_19 (tk_0 _) rfl dX8_keep_30 ?_
    refine gs_getR (r := 4) lk_RX8_104 (tk_3 _) rfl dX8_keep_33 ?_
    refine gs_getI lk_RX8_162 (tk_4 _) rfl dX8_keep_36 ?_
    obtain rfl := Option.some.inj hS
    exact g_iret rfl dX8_keep_39
  · replace hS := (if_pos hc).symm.trans hS
    refine g_iconst (v := -1) dX8_keep_7 (by decide) ?_
    obtain rfl := Option.some.inj hS
    exact g_iret rfl dX8_keep_8
def f_X8_back (μ : Mem) (a1 : Int32) : Option (Int32 × Mem) :=
  (f_X8_isImage μ (a1)).bind fun y1 =>
  if y1 = (0 : Int32) then (
    some ((-1 : Int32), μ)
  ) else (
    (ldA μ 142 2 (a1)).bind fun y2 =>
    if y2 = (0 : Int32) then (
      some ((-2 : Int32), μ)
    ) else (
      (rfA 49 2 46 (a1) isLe).bind fun q3 =>
      (f_X0_copyFrom μ 3 (q3)).bind fun m5 =>
      some ((gi m5 4 4), m5)
    )
  )
set_option maxRecDepth 100000 in
set_option maxHeartbeats 4000000 in
theorem k_X8_back {l : Launch} {D : va_G} {cy : Nat → ClassId} {base : Nat} (μ : Mem) (a1 : Int32)  {out : Int32 × Mem} (hS : f_X8_back μ a1 = some out) : gC l D cy base yX8_back cX8_back 2 (some .int) 3 [.ref (base + 0), .int (a1)] μ (some (.int out.1)) out.2 := by
  refine gC_of (own := RX8) (lv0 := [(0, .ref (base + 0)), (1, .int (a1))]) rfl (by decide) (Nat.le_of_ble_eq_true rfl) rfl ?_
  unfold f_X8_back at hS
  refine g_iload_n (j := 1) (x := a1) dX8_back_0 rfl rfl ?_
  obtain ⟨y1, ey1, hS⟩ := ob hS
  refine gs_callSi (As := [.int (a1)]) (st := []) (k_X8_isImage μ (a1)  ey1) cl_RX8_275 sv_X8_isImage ⟨by decide, by decide⟩ (Nat.le_of_ble_eq_true rfl) ⟨Nat.zero_le _, Nat.zero_le _⟩ rfl dX8_back_1 rfl ?_
  refine g_if_ne 9 dX8_back_4 (by decide) (fun hc => ?_) (fun hc => ?_)
  · replace hS := (if_neg hc).symm.trans hS
    refine g_aload_n (j := 0) (x := base + 0) dX8_back_9 rfl rfl ?_
    refine gs_getR (r := 142) lk_RX8_27 (tk_0 _) rfl dX8_back_10 ?_
    refine g_iload_n (j := 1) (x := a1) dX8_back_13 rfl rfl ?_
    obtain ⟨y2, ey2, hS⟩ := ob hS
    refine gs_zald (tk_142 _) dX8_back_14 ey2 ?_
    refine g_if_ne 21 dX8_back_15 (by decide) (fun hc => ?_) (fun hc => ?_)
    · replace hS := (if_neg hc).symm.trans hS
      refine g_aload_n (j := 0) (x := base + 0) dX8_back_21 rfl rfl ?_
      refine gs_getR (r := 3) lk_RX8_19 (tk_0 _) rfl dX8_back_22 ?_
      refine g_aload_n (j := 0) (x := base + 0) dX8_back_25 rfl rfl ?_
      refine gs_getR (r := 49) lk_RX8_23 (tk_0 _) rfl dX8_back_26 ?_
      refine g_iload_n (j := 1) (x := a1) dX8_back_29 rfl rfl ?_
      obtain ⟨q3, eq3, hS⟩ := ob hS
      have hq3 := rfA_ok eq3
      refine gs_aald (t0 := 2) (sd := 45) (ty := .object "OwedFalls$Ledger") (tk_49 _) rfl rfl dX8_back_30 eq3 ?_
      obtain ⟨m5, em5, hS⟩ := ob hS
      refine gs_callVv (As := [.ref (base + q3)]) (st := []) (kr := 3) (k_X0_copyFrom μ 3 (q3) rfl hq3 em5) cl_RX8_278 sv_X0_copyFrom ckk_X0_copyFrom (tk_3 _) ⟨by decide, by decide⟩ (Nat.le_of_ble_eq_true rfl) ⟨Nat.zero_le _, Nat.zero_le _⟩ rfl dX8_back_31 rfl ?_
      refine g_aload_n (j := 0) (x := base + 0) dX8_back_34 rfl rfl ?_
      refine gs_getR (r := 3) lk_RX8_19 (tk_0 _) rfl dX8_back_35 ?_
      refine gs_getR (r := 4) lk_RX8_104 (tk_3 _) rfl dX8_back_38 ?_
      refine gs_getI lk_RX8_162 (tk_4 _) rfl dX8_back_41 ?_
      obtain rfl := Option.some.inj hS
      exact g_iret rfl dX8_back_44
    · replace hS := (if_pos hc).symm.trans hS
      refine g_bipush (v := -2) dX8_back_18 (by decide) ?_
      obtain rfl := Option.some.inj hS
      exact g_iret rfl dX8_back_20
  · replace hS := (if_pos hc).symm.trans hS
    refine g_iconst (v := -1) dX8_back_7 (by decide) ?_
    obtain rfl := Option.some.inj hS
    exact g_iret rfl dX8_back_8
def f_X8_count (μ : Mem) (a1 : Int32) : Option (Int32) :=
  if a1 = (0 : Int32) then (
    (rfG (gpl μ) isPl).bind fun q2 =>
    some ((gi μ q2 7))
  ) else
  if a1 = (1 : Int32) then (
    (rfG (gpl μ) isPl).bind fun q4 =>
    some ((gi μ q4 8))
  ) else
  if a1 = (2 : Int32) then (
    (rfG (gpl μ) isPl).bind fun q6 =>
    some ((gi μ q6 9))
  ) else
  if a1 = (3 : Int32) then (
    (rfG (gpl μ) isPl).bind fun q8 =>
    some ((gi μ q8 10))
  ) else
  if a1 = (4 : Int32) then (
    some ((gi μ 3 2))
  ) else
  if a1 = (5 : Int32) then (
    some ((gi μ 1 1))
  ) else
  (
    some ((-1 : Int32))
  )
set_option maxRecDepth 100000 in
set_option maxHeartbeats 4000000 in
theorem k_X8_count {l : Launch} {D : va_G} {cy : Nat → ClassId} {base : Nat} (μ : Mem) (a1 : Int32)  {out : Int32} (hS : f_X8_count μ a1 = some out) : gC l D cy base yX8_count cX8_count 2 (some .int) 0 [.ref (base + 0), .int (a1)] μ (some (.int out)) μ := by
  refine gC_of (own := RX8) (lv0 := [(0, .ref (base + 0)), (1, .int (a1))]) rfl (by decide) (Nat.le_of_ble_eq_true rfl) rfl ?_
  unfold f_X8_count at hS
  refine g_iload_n (j := 1) (x := a1) dX8_count_0 rfl rfl ?_
  by_cases hs1 : a1 = (0 : Int32)
  · replace hS := (if_pos hs1).symm.trans hS
    refine gs_table hs1 40 dX8_count_1 (by decide) (by decide) rfl (by decide) ?_
    refine g_aload_n (j := 0) (x := base + 0) dX8_count_40 rfl rfl ?_
    obtain ⟨q2, eq2, hS⟩ := ob hS
    have hq2 := rfG_is eq2
    refine gs_getPl lk_RX8_62 dX8_count_41 eq2 ?_
    refine gs_getI lk_RX8_168 (tkPl_0 hq2 _) rfl dX8_count_44 ?_
    obtain rfl := Option.some.inj hS
    exact g_iret rfl dX8_count_47
  replace hS := (if_neg hs1).symm.trans hS
  by_cases hs3 : a1 = (1 : Int32)
  · replace hS := (if_pos hs3).symm.trans hS
    refine gs_table hs3 48 dX8_count_1 (by decide) (by decide) rfl (by decide) ?_
    refine g_aload_n (j := 0) (x := base + 0) dX8_count_48 rfl rfl ?_
    obtain ⟨q4, eq4, hS⟩ := ob hS
    have hq4 := rfG_is eq4
    refine gs_getPl lk_RX8_62 dX8_count_49 eq4 ?_
    refine gs_getI lk_RX8_282 (tkPl_0 hq4 _) rfl dX8_count_52 ?_
    obtain rfl := Option.some.inj hS
    exact g_iret rfl dX8_count_55
  replace hS := (if_neg hs3).symm.trans hS
  by_cases hs5 : a1 = (2 : Int32)
  · replace hS := (if_pos hs5).symm.trans hS
    refine gs_table hs5 56 dX8_count_1 (by decide) (by decide) rfl (by decide) ?_
    refine g_aload_n (j := 0) (x := base + 0) dX8_count_56 rfl rfl ?_
    obtain ⟨q6, eq6, hS⟩ := ob hS
    have hq6 := rfG_is eq6
    refine gs_getPl lk_RX8_62 dX8_count_57 eq6 ?_
    refine gs_getI lk_RX8_159 (tkPl_0 hq6 _) rfl dX8_count_60 ?_
    obtain rfl := Option.some.inj hS
    exact g_iret rfl dX8_count_63
  replace hS := (if_neg hs5).symm.trans hS
  by_cases hs7 : a1 = (3 : Int32)
  · replace hS := (if_pos hs7).symm.trans hS
    refine gs_table hs7 64 dX8_count_1 (by decide) (by decide) rfl (by decide) ?_
    refine g_aload_n (j := 0) (x := base + 0) dX8_count_64 rfl rfl ?_
    obtain ⟨q8, eq8, hS⟩ := ob hS
    have hq8 := rfG_is eq8
    refine gs_getPl lk_RX8_62 dX8_count_65 eq8 ?_
    refine gs_getI lk_RX8_156 (tkPl_0 hq8 _) rfl dX8_count_68 ?_
    obtain rfl := Option.some.inj hS
    exact g_iret rfl dX8_count_71
  replace hS := (if_neg hs7).symm.trans hS
  by_cases hs9 : a1 = (4 : Int32)
  · replace hS := (if_pos hs9).symm.trans hS
    refine gs_table hs9 72 dX8_count_1 (by decide) (by decide) rfl (by decide) ?_
    refine g_aload_n (j := 0) (x := base + 0) dX8_count_72 rfl rfl ?_
    refine gs_getR (r := 3) lk_RX8_19 (tk_0 _) rfl dX8_count_73 ?_
    refine gs_getI lk_RX8_178 (tk_3 _) rfl dX8_count_76 ?_
    obtain rfl := Option.some.inj hS
    exact g_iret rfl dX8_count_79
  replace hS := (if_neg hs9).symm.trans hS
  by_cases hs10 : a1 = (5 : Int32)
  · replace hS := (if_pos hs10).symm.trans hS
    refine gs_table hs10 80 dX8_count_1 (by decide) (by decide) rfl (by decide) ?_
    refine g_aload_n (j := 0) (x := base + 0) dX8_count_80 rfl rfl ?_
    refine gs_getR (r := 1) lk_RX8_10 (tk_0 _) rfl dX8_count_81 ?_
    refine gs_getI lk_RX8_73 (tk_1 _) rfl dX8_count_84 ?_
    obtain rfl := Option.some.inj hS
    exact g_iret rfl dX8_count_87
  replace hS := (if_neg hs10).symm.trans hS
  refine gs_tableOut 6 88 dX8_count_1 (by decide) (by decide) (fun j hj => by match j, hj with | 0, _ => exact hs1 | 1, _ => exact hs3 | 2, _ => exact hs5 | 3, _ => exact hs7 | 4, _ => exact hs9 | 5, _ => exact hs10 | j + 6, hj => exact absurd hj (by omega)) (by decide) ?_
  refine g_iconst (v := -1) dX8_count_88 (by decide) ?_
  obtain rfl := Option.some.inj hS
  exact g_iret rfl dX8_count_89
def f_X8_trace (μ : Mem)  : Option (Int64) :=
  some ((gl μ 0))
set_option maxRecDepth 100000 in
set_option maxHeartbeats 4000000 in
theorem k_X8_trace {l : Launch} {D : va_G} {cy : Nat → ClassId} {base : Nat} (μ : Mem)   {out : Int64} (hS : f_X8_trace μ  = some out) : gC l D cy base yX8_trace cX8_trace 1 (some .long) 0 [.ref (base + 0)] μ (some (.long out)) μ := by
  refine gC_of (own := RX8) (lv0 := [(0, .ref (base + 0))]) rfl (by decide) (Nat.le_of_ble_eq_true rfl) rfl ?_
  unfold f_X8_trace at hS
  refine g_aload_n (j := 0) (x := base + 0) dX8_trace_0 rfl rfl ?_
  refine gs_getL lk_RX8_285 (tk_0 _) rfl dX8_trace_1 ?_
  obtain rfl := Option.some.inj hS
  exact g_lret rfl dX8_trace_4
def f_X9_in (μ : Mem) (a0 : Int32) (a1 : Int32) (a2 : Int32) : Option (Int32) :=
  if a0 < a1 then (
    some (0 : Int32)
  ) else (
    if a2 < a0 then (
      some (0 : Int32)
    ) else (
      some (1 : Int32)
    )
  )
set_option maxRecDepth 100000 in
set_option maxHeartbeats 4000000 in
theorem k_X9_in {l : Launch} {D : va_G} {cy : Nat → ClassId} {base : Nat} (μ : Mem) (a0 : Int32) (a1 : Int32) (a2 : Int32)  {out : Int32} (hS : f_X9_in μ a0 a1 a2 = some out) : gC l D cy base yX9_in cX9_in 3 (some .boolean) 0 [.int (a0), .int (a1), .int (a2)] μ (some (.int out)) μ := by
  refine gC_of (own := RX9) (lv0 := [(0, .int (a0)), (1, .int (a1)), (2, .int (a2))]) rfl (by decide) (Nat.le_of_ble_eq_true rfl) rfl ?_
  unfold f_X9_in at hS
  refine g_iload_n (j := 0) (x := a0) dX9_in_0 rfl rfl ?_
  refine g_iload_n (j := 1) (x := a1) dX9_in_1 rfl rfl ?_
  refine g_icmp_lt 14 dX9_in_2 (by decide) (fun hc => ?_) (fun hc => ?_)
  · replace hS := (if_pos hc).symm.trans hS
    refine g_iconst (v := 0) dX9_in_14 (by decide) ?_
    obtain rfl := Option.some.inj hS
    exact g_zret (v := (0 : Int32)) rfl rfl dX9_in_15
  · replace hS := (if_neg hc).symm.trans hS
    refine g_iload_n (j := 0) (x := a0) dX9_in_5 rfl rfl ?_
    refine g_iload_n (j := 2) (x := a2) dX9_in_6 rfl rfl ?_
    refine g_icmp_gt 14 dX9_in_7 (by decide) (fun hc => ?_) (fun hc => ?_)
    · replace hS := (if_pos hc).symm.trans hS
      refine g_iconst (v := 0) dX9_in_14 (by decide) ?_
      obtain rfl := Option.some.inj hS
      exact g_zret (v := (0 : Int32)) rfl rfl dX9_in_15
    · replace hS := (if_neg hc).symm.trans hS
      refine g_iconst (v := 1) dX9_in_10 (by decide) ?_
      refine g_goto 15 dX9_in_11 (by decide) ?_
      obtain rfl := Option.some.inj hS
      exact g_zret (v := (1 : Int32)) rfl rfl dX9_in_15
def f_X9_isStair (μ : Mem) (a1 : Int32) : Option (Int32) :=
  (ldA μ 188 49 ((0 : Int32))).bind fun y1 =>
  (f_X9_in μ (a1) ((0 : Int32)) ((y1 - (1 : Int32)))).bind fun y2 =>
  (bz (y2)).bind fun y3 =>
  some y3
set_option maxRecDepth 100000 in
set_option maxHeartbeats 4000000 in
theorem k_X9_isStair {l : Launch} {D : va_G} {cy : Nat → ClassId} {base : Nat} (μ : Mem) (a1 : Int32)  {out : Int32} (hS : f_X9_isStair μ a1 = some out) : gC l D cy base yX9_isStair cX9_isStair 2 (some .boolean) 1 [.ref (base + 186), .int (a1)] μ (some (.int out)) μ := by
  refine gC_of (own := RX9) (lv0 := [(0, .ref (base + 186)), (1, .int (a1))]) rfl (by decide) (Nat.le_of_ble_eq_true rfl) rfl ?_
  unfold f_X9_isStair at hS
  refine g_iload_n (j := 1) (x := a1) dX9_isStair_0 rfl rfl ?_
  refine g_iconst (v := 0) dX9_isStair_1 (by decide) ?_
  refine g_aload_n (j := 0) (x := base + 186) dX9_isStair_2 rfl rfl ?_
  refine gs_getR (r := 188) lk_RX9_13 (tk_186 _) rfl dX9_isStair_3 ?_
  refine g_iconst (v := 0) dX9_isStair_6 (by decide) ?_
  obtain ⟨y1, ey1, hS⟩ := ob hS
  refine gs_iald (tk_188 _) dX9_isStair_7 ey1 ?_
  refine g_iconst (v := 1) dX9_isStair_8 (by decide) ?_
  refine g_isub dX9_isStair_9 ?_
  obtain ⟨y2, ey2, hS⟩ := ob hS
  refine gs_callSi (As := [.int (a1), .int ((0 : Int32)), .int ((y1 - (1 : Int32)))]) (st := []) (k_X9_in μ (a1) ((0 : Int32)) ((y1 - (1 : Int32)))  ey2) cl_RX9_54 sv_X9_in ⟨by decide, by decide⟩ (Nat.le_of_ble_eq_true rfl) ⟨Nat.zero_le _, Nat.zero_le _⟩ rfl dX9_isStair_10 rfl ?_
  obtain ⟨y3, ey3, hS⟩ := ob hS
  obtain rfl := Option.some.inj hS
  exact gs_zret ey3 rfl dX9_isStair_13
def f_X9_isPerson (μ : Mem) (a1 : Int32) : Option (Int32) :=
  (ldA μ 188 49 ((1 : Int32))).bind fun y1 =>
  (f_X9_in μ (a1) ((0 : Int32)) ((y1 - (1 : Int32)))).bind fun y2 =>
  (bz (y2)).bind fun y3 =>
  some y3
set_option maxRecDepth 100000 in
set_option maxHeartbeats 4000000 in
theorem k_X9_isPerson {l : Launch} {D : va_G} {cy : Nat → ClassId} {base : Nat} (μ : Mem) (a1 : Int32)  {out : Int32} (hS : f_X9_isPerson μ a1 = some out) : gC l D cy base yX9_isPerson cX9_isPerson 2 (some .boolean) 1 [.ref (base + 186), .int (a1)] μ (some (.int out)) μ := by
  refine gC_of (own := RX9) (lv0 := [(0, .ref (base + 186)), (1, .int (a1))]) rfl (by decide) (Nat.le_of_ble_eq_true rfl) rfl ?_
  unfold f_X9_isPerson at hS
  refine g_iload_n (j := 1) (x := a1) dX9_isPerson_0 rfl rfl ?_
  refine g_iconst (v := 0) dX9_isPerson_1 (by decide) ?_
  refine g_aload_n (j := 0) (x := base + 186) dX9_isPerson_2 rfl rfl ?_
  refine gs_getR (r := 188) lk_RX9_13 (tk_186 _) rfl dX9_isPerson_3 ?_
  refine g_iconst (v := 1) dX9_isPerson_6 (by decide) ?_
  obtain ⟨y1, ey1, hS⟩ := ob hS
  refine gs_iald (tk_188 _) dX9_isPerson_7 ey1 ?_
  refine g_iconst (v := 1) dX9_isPerson_8 (by decide) ?_
  refine g_isub dX9_isPerson_9 ?_
  obtain ⟨y2, ey2, hS⟩ := ob hS
  refine gs_callSi (As := [.int (a1), .int ((0 : Int32)), .int ((y1 - (1 : Int32)))]) (st := []) (k_X9_in μ (a1) ((0 : Int32)) ((y1 - (1 : Int32)))  ey2) cl_RX9_54 sv_X9_in ⟨by decide, by decide⟩ (Nat.le_of_ble_eq_true rfl) ⟨Nat.zero_le _, Nat.zero_le _⟩ rfl dX9_isPerson_10 rfl ?_
  obtain ⟨y3, ey3, hS⟩ := ob hS
  obtain rfl := Option.some.inj hS
  exact gs_zret ey3 rfl dX9_isPerson_13
def f_X9_isFloor (μ : Mem) (a0 : Int32) : Option (Int32) :=
  (f_X9_in μ (a0) ((0 : Int32)) ((6 : Int32))).bind fun y1 =>
  (bz (y1)).bind fun y2 =>
  some y2
set_option maxRecDepth 100000 in
set_option maxHeartbeats 4000000 in
theorem k_X9_isFloor {l : Launch} {D : va_G} {cy : Nat → ClassId} {base : Nat} (μ : Mem) (a0 : Int32)  {out : Int32} (hS : f_X9_isFloor μ a0 = some out) : gC l D cy base yX9_isFloor cX9_isFloor 1 (some .boolean) 1 [.int (a0)] μ (some (.int out)) μ := by
  refine gC_of (own := RX9) (lv0 := [(0, .int (a0))]) rfl (by decide) (Nat.le_of_ble_eq_true rfl) rfl ?_
  unfold f_X9_isFloor at hS
  refine g_iload_n (j := 0) (x := a0) dX9_isFloor_0 rfl rfl ?_
  refine g_iconst (v := 0) dX9_isFloor_1 (by decide) ?_
  refine g_bipush (v := 6) dX9_isFloor_2 (by decide) ?_
  obtain ⟨y1, ey1, hS⟩ := ob hS
  refine gs_callSi (As := [.int (a0), .int ((0 : Int32)), .int ((6 : Int32))]) (st := []) (k_X9_in μ (a0) ((0 : Int32)) ((6 : Int32))  ey1) cl_RX9_54 sv_X9_in ⟨by decide, by decide⟩ (Nat.le_of_ble_eq_true rfl) ⟨Nat.zero_le _, Nat.zero_le _⟩ rfl dX9_isFloor_4 rfl ?_
  obtain ⟨y2, ey2, hS⟩ := ob hS
  obtain rfl := Option.some.inj hS
  exact gs_zret ey2 rfl dX9_isFloor_7
def f_X9_type (μ : Mem) (a1 : Int32) : Option (Int32 × Mem) :=
  (f_X9_in μ (a1) ((0 : Int32)) ((255 : Int32))).bind fun y1 =>
  if y1 = (0 : Int32) then (
    some ((-1 : Int32), μ)
  ) else (
    if (gi μ 186 2) = (200 : Int32) then (
      some ((-3 : Int32), μ)
    ) else (
      (stA μ 187 200 ((gi μ 186 2)) (a1)).bind fun m2 =>
      (stI m2 186 2 (((gi m2 186 2) + (1 : Int32)))).bind fun m3 =>
      some ((gi m3 186 2), m3)
    )
  )
set_option maxRecDepth 100000 in
set_option maxHeartbeats 4000000 in
theorem k_X9_type {l : Launch} {D : va_G} {cy : Nat → ClassId} {base : Nat} (μ : Mem) (a1 : Int32)  {out : Int32 × Mem} (hS : f_X9_type μ a1 = some out) : gC l D cy base yX9_type cX9_type 2 (some .int) 1 [.ref (base + 186), .int (a1)] μ (some (.int out.1)) out.2 := by
  refine gC_of (own := RX9) (lv0 := [(0, .ref (base + 186)), (1, .int (a1))]) rfl (by decide) (Nat.le_of_ble_eq_true rfl) rfl ?_
  unfold f_X9_type at hS
  refine g_iload_n (j := 1) (x := a1) dX9_type_0 rfl rfl ?_
  refine g_iconst (v := 0) dX9_type_1 (by decide) ?_
  refine g_sipush (v := 255) dX9_type_2 (by decide) ?_
  obtain ⟨y1, ey1, hS⟩ := ob hS
  refine gs_callSi (As := [.int (a1), .int ((0 : Int32)), .int ((255 : Int32))]) (st := []) (k_X9_in μ (a1) ((0 : Int32)) ((255 : Int32))  ey1) cl_RX9_54 sv_X9_in ⟨by decide, by decide⟩ (Nat.le_of_ble_eq_true rfl) ⟨Nat.zero_le _, Nat.zero_le _⟩ rfl dX9_type_5 rfl ?_
  refine g_if_ne 13 dX9_type_8 (by decide) (fun hc => ?_) (fun hc => ?_)
  · replace hS := (if_neg hc).symm.trans hS
    refine g_aload_n (j := 0) (x := base + 186) dX9_type_13 rfl rfl ?_
    refine gs_getI lk_RX9_58 (tk_186 _) rfl dX9_type_14 ?_
    refine g_sipush (v := 200) dX9_type_17 (by decide) ?_
    refine g_icmp_ne 26 dX9_type_20 (by decide) (fun hc => ?_) (fun hc => ?_)
    · replace hS := (if_neg hc).symm.trans hS
      refine g_aload_n (j := 0) (x := base + 186) dX9_type_26 rfl rfl ?_
      refine gs_getR (r := 187) lk_RX9_7 (tk_186 _) rfl dX9_type_27 ?_
      refine g_aload_n (j := 0) (x := base + 186) dX9_type_30 rfl rfl ?_
      refine gs_getI lk_RX9_58 (tk_186 _) rfl dX9_type_31 ?_
      refine g_iload_n (j := 1) (x := a1) dX9_type_34 rfl rfl ?_
      obtain ⟨m2, em2, hS⟩ := ob hS
      refine gs_iast (tk_187 _) dX9_type_35 em2 ?_
      refine g_aload_n (j := 0) (x := base + 186) dX9_type_36 rfl rfl ?_
      refine g_dup dX9_type_37 rfl ?_
      refine gs_getI lk_RX9_58 (tk_186 _) rfl dX9_type_38 ?_
      refine g_iconst (v := 1) dX9_type_41 (by decide) ?_
      refine g_iadd dX9_type_42 ?_
      obtain ⟨m3, em3, hS⟩ := ob hS
      refine gs_putI lw_RX9_58 (tk_186 _) rfl rfl rfl dX9_type_43 em3 ?_
      refine g_aload_n (j := 0) (x := base + 186) dX9_type_46 rfl rfl ?_
      refine gs_getI lk_RX9_58 (tk_186 _) rfl dX9_type_47 ?_
      obtain rfl := Option.some.inj hS
      exact g_iret rfl dX9_type_50
    · replace hS := (if_pos hc).symm.trans hS
      refine g_bipush (v := -3) dX9_type_23 (by decide) ?_
      obtain rfl := Option.some.inj hS
      exact g_iret rfl dX9_type_25
  · replace hS := (if_pos hc).symm.trans hS
    refine g_iconst (v := -1) dX9_type_11 (by decide) ?_
    obtain rfl := Option.some.inj hS
    exact g_iret rfl dX9_type_12
def f_X9_clear (μ : Mem)  : Option (Int32 × Mem) :=
  (stI μ 186 2 ((0 : Int32))).bind fun m1 =>
  some ((gi μ 186 2), m1)
set_option maxRecDepth 100000 in
set_option maxHeartbeats 4000000 in
theorem k_X9_clear {l : Launch} {D : va_G} {cy : Nat → ClassId} {base : Nat} (μ : Mem)   {out : Int32 × Mem} (hS : f_X9_clear μ  = some out) : gC l D cy base yX9_clear cX9_clear 2 (some .int) 0 [.ref (base + 186)] μ (some (.int out.1)) out.2 := by
  refine gC_of (own := RX9) (lv0 := [(0, .ref (base + 186))]) rfl (by decide) (Nat.le_of_ble_eq_true rfl) rfl ?_
  unfold f_X9_clear at hS
  refine g_aload_n (j := 0) (x := base + 186) dX9_clear_0 rfl rfl ?_
  refine gs_getI lk_RX9_58 (tk_186 _) rfl dX9_clear_1 ?_
  refine g_istore_n (lvx := [(1, .int ((gi μ 186 2))), (0, .ref (base + 186))]) dX9_clear_4 rfl (by decide) rfl ?_
  refine g_aload_n (j := 1) (x := base + 186) dX9_clear_5 rfl rfl ?_
  refine g_iconst (v := 0) dX9_clear_6 (by decide) ?_
  obtain ⟨m1, em1, hS⟩ := ob hS
  refine gs_putI lw_RX9_58 (tk_186 _) rfl rfl rfl dX9_clear_7 em1 ?_
  refine g_iload_n (j := 0) (x := (gi μ 186 2)) dX9_clear_10 rfl rfl ?_
  obtain rfl := Option.some.inj hS
  exact g_iret rfl dX9_clear_11
def f_X9_byteAt (μ : Mem) (a1 : Int32) : Option (Int32) :=
  if (gi μ 186 2) ≤ a1 then (
    some ((-1 : Int32))
  ) else (
    (ldA μ 187 200 (a1)).bind fun y1 =>
    some (y1)
  )
set_option maxRecDepth 100000 in
set_option maxHeartbeats 4000000 in
theorem k_X9_byteAt {l : Launch} {D : va_G} {cy : Nat → ClassId} {base : Nat} (μ : Mem) (a1 : Int32)  {out : Int32} (hS : f_X9_byteAt μ a1 = some out) : gC l D cy base yX9_byteAt cX9_byteAt 2 (some .int) 0 [.ref (base + 186), .int (a1)] μ (some (.int out)) μ := by
  refine gC_of (own := RX9) (lv0 := [(0, .ref (base + 186)), (1, .int (a1))]) rfl (by decide) (Nat.le_of_ble_eq_true rfl) rfl ?_
  unfold f_X9_byteAt at hS
  refine g_iload_n (j := 1) (x := a1) dX9_byteAt_0 rfl rfl ?_
  refine g_aload_n (j := 0) (x := base + 186) dX9_byteAt_1 rfl rfl ?_
  refine gs_getI lk_RX9_58 (tk_186 _) rfl dX9_byteAt_2 ?_
  refine g_icmp_ge 17 dX9_byteAt_5 (by decide) (fun hc => ?_) (fun hc => ?_)
  · replace hS := (if_pos hc).symm.trans hS
    refine g_iconst (v := -1) dX9_byteAt_17 (by decide) ?_
    obtain rfl := Option.some.inj hS
    exact g_iret rfl dX9_byteAt_18
  · replace hS := (if_neg hc).symm.trans hS
    refine g_aload_n (j := 0) (x := base + 186) dX9_byteAt_8 rfl rfl ?_
    refine gs_getR (r := 187) lk_RX9_7 (tk_186 _) rfl dX9_byteAt_9 ?_
    refine g_iload_n (j := 1) (x := a1) dX9_byteAt_12 rfl rfl ?_
    obtain ⟨y1, ey1, hS⟩ := ob hS
    refine gs_iald (tk_187 _) dX9_byteAt_13 ey1 ?_
    refine g_goto 18 dX9_byteAt_14 (by decide) ?_
    obtain rfl := Option.some.inj hS
    exact g_iret rfl dX9_byteAt_18
def f_X9_isLetter (μ : Mem) (a0 : Int32) : Option (Int32) :=
  (f_X9_in μ (a0) ((97 : Int32)) ((122 : Int32))).bind fun y1 =>
  (bz (y1)).bind fun y2 =>
  some y2
set_option maxRecDepth 100000 in
set_option maxHeartbeats 4000000 in
theorem k_X9_isLetter {l : Launch} {D : va_G} {cy : Nat → ClassId} {base : Nat} (μ : Mem) (a0 : Int32)  {out : Int32} (hS : f_X9_isLetter μ a0 = some out) : gC l D cy base yX9_isLetter cX9_isLetter 1 (some .boolean) 1 [.int (a0)] μ (some (.int out)) μ := by
  refine gC_of (own := RX9) (lv0 := [(0, .int (a0))]) rfl (by decide) (Nat.le_of_ble_eq_true rfl) rfl ?_
  unfold f_X9_isLetter at hS
  refine g_iload_n (j := 0) (x := a0) dX9_isLetter_0 rfl rfl ?_
  refine g_bipush (v := 97) dX9_isLetter_1 (by decide) ?_
  refine g_bipush (v := 122) dX9_isLetter_3 (by decide) ?_
  obtain ⟨y1, ey1, hS⟩ := ob hS
  refine gs_callSi (As := [.int (a0), .int ((97 : Int32)), .int ((122 : Int32))]) (st := []) (k_X9_in μ (a0) ((97 : Int32)) ((122 : Int32))  ey1) cl_RX9_54 sv_X9_in ⟨by decide, by decide⟩ (Nat.le_of_ble_eq_true rfl) ⟨Nat.zero_le _, Nat.zero_le _⟩ rfl dX9_isLetter_5 rfl ?_
  obtain ⟨y2, ey2, hS⟩ := ob hS
  obtain rfl := Option.some.inj hS
  exact gs_zret ey2 rfl dX9_isLetter_8
def f_X9_isDigit (μ : Mem) (a0 : Int32) : Option (Int32) :=
  (f_X9_in μ (a0) ((48 : Int32)) ((57 : Int32))).bind fun y1 =>
  (bz (y1)).bind fun y2 =>
  some y2
set_option maxRecDepth 100000 in
set_option maxHeartbeats 4000000 in
theorem k_X9_isDigit {l : Launch} {D : va_G} {cy : Nat → ClassId} {base : Nat} (μ : Mem) (a0 : Int32)  {out : Int32} (hS : f_X9_isDigit μ a0 = some out) : gC l D cy base yX9_isDigit cX9_isDigit 1 (some .boolean) 1 [.int (a0)] μ (some (.int out)) μ := by
  refine gC_of (own := RX9) (lv0 := [(0, .int (a0))]) rfl (by decide) (Nat.le_of_ble_eq_true rfl) rfl ?_
  unfold f_X9_isDigit at hS
  refine g_iload_n (j := 0) (x := a0) dX9_isDigit_0 rfl rfl ?_
  refine g_bipush (v := 48) dX9_isDigit_1 (by decide) ?_
  refine g_bipush (v := 57) dX9_isDigit_3 (by decide) ?_
  obtain ⟨y1, ey1, hS⟩ := ob hS
  refine gs_callSi (As := [.int (a0), .int ((48 : Int32)), .int ((57 : Int32))]) (st := []) (k_X9_in μ (a0) ((48 : Int32)) ((57 : Int32))  ey1) cl_RX9_54 sv_X9_in ⟨by decide, by decide⟩ (Nat.le_of_ble_eq_true rfl) ⟨Nat.zero_le _, Nat.zero_le _⟩ rfl dX9_isDigit_5 rfl ?_
  obtain ⟨y2, ey2, hS⟩ := ob hS
  obtain rfl := Option.some.inj hS
  exact gs_zret ey2 rfl dX9_isDigit_8
def f_X9_token_b0  (v : Mem) : Option ((Mem) ⊕ ((Mem))) :=
  (f_X9_byteAt v ((gi v 186 8))).bind fun y1 =>
  if y1 = (32 : Int32) then (
    (stI v 186 8 (((gi v 186 8) + (1 : Int32)))).bind fun m2 =>
    some (.inl (m2))
  ) else (
    some (.inr (v))
  )
set_option maxRecDepth 100000 in
set_option maxHeartbeats 4000000 in
theorem k_X9_token_b0 {l : Launch} {D : va_G} {cy : Nat → ClassId} {base : Nat} {X : gX} {Z : gZ}   (v : Mem) (r : (Mem) ⊕ ((Mem))) (hS : f_X9_token_b0  v = some r) (hin : ∀ v2, r = .inl v2 → G l D cy base RX9 cX9_token 2 none (gRm 2) X Z 0 [(0, .ref (base + 186))] [] 0 0 gNN (gH cy base v2)) (hout0 : ∀ x, r = .inr x → G l D cy base RX9 cX9_token 2 none (gRm 2) X Z 26 [(0, .ref (base + 186))] [] 0 0 gNN (gH cy base x)) : G l D cy base RX9 cX9_token 2 none (gRm 2) X Z 0 [(0, .ref (base + 186))] [] 0 0 gNN (gH cy base v) := by
  unfold f_X9_token_b0 at hS
  refine g_aload_n (j := 0) (x := base + 186) dX9_token_0 rfl rfl ?_
  refine g_aload_n (j := 0) (x := base + 186) dX9_token_1 rfl rfl ?_
  refine gs_getI lk_RX9_62 (tk_186 _) rfl dX9_token_2 ?_
  obtain ⟨y1, ey1, hS⟩ := ob hS
  refine gs_callVi (As := [.int ((gi v 186 8))]) (st := []) (kr := 186) (k_X9_byteAt v ((gi v 186 8))  ey1) cl_RX9_65 sv_X9_byteAt ckk_X9_byteAt (tk_186 _) ⟨by decide, by decide⟩ (Nat.le_of_ble_eq_true rfl) ⟨Nat.zero_le _, Nat.zero_le _⟩ rfl dX9_token_5 rfl ?_
  refine g_bipush (v := 32) dX9_token_8 (by decide) ?_
  refine g_icmp_ne 26 dX9_token_10 (by decide) (fun hc => ?_) (fun hc => ?_)
  · replace hS := (if_neg hc).symm.trans hS
    obtain rfl := Option.some.inj hS
    exact hout0 ((v)) rfl
  · replace hS := (if_pos hc).symm.trans hS
    refine g_aload_n (j := 0) (x := base + 186) dX9_token_13 rfl rfl ?_
    refine g_dup dX9_token_14 rfl ?_
    refine gs_getI lk_RX9_62 (tk_186 _) rfl dX9_token_15 ?_
    refine g_iconst (v := 1) dX9_token_18 (by decide) ?_
    refine g_iadd dX9_token_19 ?_
    obtain ⟨m2, em2, hS⟩ := ob hS
    refine gs_putI lw_RX9_62 (tk_186 _) rfl rfl rfl dX9_token_20 em2 ?_
    refine g_goto 0 dX9_token_23 (by decide) ?_
    obtain rfl := Option.some.inj hS
    exact hin ((m2)) rfl
def f_X9_token_b110 (x15 : Int32) (v : Mem) : Option ((Mem) ⊕ ((Mem))) :=
  if (gi v 186 9) = (1 : Int32) then (
    (f_X9_byteAt v ((gi v 186 8))).bind fun y16 =>
    (f_X9_isLetter v (y16)).bind fun y17 =>
    if y17 = (0 : Int32) then (
      some (.inr (v))
    ) else (
      (stI v 186 11 ((0 : Int32))).bind fun m18 =>
      (stI m18 186 8 (((gi m18 186 8) + (1 : Int32)))).bind fun m19 =>
      some (.inl (m19))
    )
  ) else (
    some (.inr (v))
  )
set_option maxRecDepth 100000 in
set_option maxHeartbeats 4000000 in
theorem k_X9_token_b110 {l : Launch} {D : va_G} {cy : Nat → ClassId} {base : Nat} {X : gX} {Z : gZ} (x15 : Int32)  (v : Mem) (r : (Mem) ⊕ ((Mem))) (hS : f_X9_token_b110 x15 v = some r) (hin : ∀ v2, r = .inl v2 → G l D cy base RX9 cX9_token 2 none (gRm 2) X Z 110 [(0, .ref (base + 186)), (1, .int (x15))] [] 0 0 gNN (gH cy base v2)) (hout0 : ∀ x, r = .inr x → G l D cy base RX9 cX9_token 2 none (gRm 2) X Z 150 [(0, .ref (base + 186)), (1, .int (x15))] [] 0 0 gNN (gH cy base x)) : G l D cy base RX9 cX9_token 2 none (gRm 2) X Z 110 [(0, .ref (base + 186)), (1, .int (x15))] [] 0 0 gNN (gH cy base v) := by
  unfold f_X9_token_b110 at hS
  refine g_aload_n (j := 0) (x := base + 186) dX9_token_110 rfl rfl ?_
  refine gs_getI lk_RX9_79 (tk_186 _) rfl dX9_token_111 ?_
  refine g_iconst (v := 1) dX9_token_114 (by decide) ?_
  refine g_icmp_ne 150 dX9_token_115 (by decide) (fun hc => ?_) (fun hc => ?_)
  · replace hS := (if_neg hc).symm.trans hS
    obtain rfl := Option.some.inj hS
    exact hout0 ((v)) rfl
  · replace hS := (if_pos hc).symm.trans hS
    refine g_aload_n (j := 0) (x := base + 186) dX9_token_118 rfl rfl ?_
    refine g_aload_n (j := 0) (x := base + 186) dX9_token_119 rfl rfl ?_
    refine gs_getI lk_RX9_62 (tk_186 _) rfl dX9_token_120 ?_
    obtain ⟨y16, ey16, hS⟩ := ob hS
    refine gs_callVi (As := [.int ((gi v 186 8))]) (st := []) (kr := 186) (k_X9_byteAt v ((gi v 186 8))  ey16) cl_RX9_65 sv_X9_byteAt ckk_X9_byteAt (tk_186 _) ⟨by decide, by decide⟩ (Nat.le_of_ble_eq_true rfl) ⟨Nat.zero_le _, Nat.zero_le _⟩ rfl dX9_token_123 rfl ?_
    obtain ⟨y17, ey17, hS⟩ := ob hS
    refine gs_callSi (As := [.int (y16)]) (st := []) (k_X9_isLetter v (y16)  ey17) cl_RX9_72 sv_X9_isLetter ⟨by decide, by decide⟩ (Nat.le_of_ble_eq_true rfl) ⟨Nat.zero_le _, Nat.zero_le _⟩ rfl dX9_token_126 rfl ?_
    refine g_if_eq 150 dX9_token_129 (by decide) (fun hc => ?_) (fun hc => ?_)
    · replace hS := (if_pos hc).symm.trans hS
      obtain rfl := Option.some.inj hS
      exact hout0 ((v)) rfl
    · replace hS := (if_neg hc).symm.trans hS
      refine g_aload_n (j := 0) (x := base + 186) dX9_token_132 rfl rfl ?_
      refine g_iconst (v := 0) dX9_token_133 (by decide) ?_
      obtain ⟨m18, em18, hS⟩ := ob hS
      refine gs_putI lw_RX9_82 (tk_186 _) rfl rfl rfl dX9_token_134 em18 ?_
      refine g_aload_n (j := 0) (x := base + 186) dX9_token_137 rfl rfl ?_
      refine g_dup dX9_token_138 rfl ?_
      refine gs_getI lk_RX9_62 (tk_186 _) rfl dX9_token_139 ?_
      refine g_iconst (v := 1) dX9_token_142 (by decide) ?_
      refine g_iadd dX9_token_143 ?_
      obtain ⟨m19, em19, hS⟩ := ob hS
      refine gs_putI lw_RX9_62 (tk_186 _) rfl rfl rfl dX9_token_144 em19 ?_
      refine g_goto 110 dX9_token_147 (by decide) ?_
      obtain rfl := Option.some.inj hS
      exact hin ((m19)) rfl
def f_X9_token_b166 (x24 : Int32) (v : Mem) : Option ((Mem) ⊕ ((Mem))) :=
  (f_X9_byteAt v ((gi v 186 8))).bind fun y25 =>
  (f_X9_isDigit v (y25)).bind fun y26 =>
  if y26 = (0 : Int32) then (
    some (.inr (v))
  ) else (
    if x24 = (48 : Int32) then (
      (stI v 186 11 ((1000 : Int32))).bind fun m27 =>
      (stI m27 186 8 (((gi m27 186 8) + (1 : Int32)))).bind fun m28 =>
      some (.inl (m28))
    ) else (
      if (gi v 186 11) ≤ (99 : Int32) then (
        (ldA v 187 200 ((gi v 186 8))).bind fun y29 =>
        (stI v 186 11 (((((10 : Int32) * (gi v 186 11)) + y29) - (48 : Int32)))).bind fun m30 =>
        (stI m30 186 8 (((gi m30 186 8) + (1 : Int32)))).bind fun m31 =>
        some (.inl (m31))
      ) else (
        (stI v 186 11 ((1000 : Int32))).bind fun m32 =>
        (stI m32 186 8 (((gi m32 186 8) + (1 : Int32)))).bind fun m33 =>
        some (.inl (m33))
      )
    )
  )
set_option maxRecDepth 100000 in
set_option maxHeartbeats 4000000 in
theorem k_X9_token_b166 {l : Launch} {D : va_G} {cy : Nat → ClassId} {base : Nat} {X : gX} {Z : gZ} (x24 : Int32)  (v : Mem) (r : (Mem) ⊕ ((Mem))) (hS : f_X9_token_b166 x24 v = some r) (hin : ∀ v2, r = .inl v2 → G l D cy base RX9 cX9_token 2 none (gRm 2) X Z 166 [(0, .ref (base + 186)), (1, .int (x24))] [] 0 0 gNN (gH cy base v2)) (hout0 : ∀ x, r = .inr x → G l D cy base RX9 cX9_token 2 none (gRm 2) X Z 238 [] [] 0 0 gNN (gH cy base x)) : G l D cy base RX9 cX9_token 2 none (gRm 2) X Z 166 [(0, .ref (base + 186)), (1, .int (x24))] [] 0 0 gNN (gH cy base v) := by
  unfold f_X9_token_b166 at hS
  refine g_aload_n (j := 0) (x := base + 186) dX9_token_166 rfl rfl ?_
  refine g_aload_n (j := 0) (x := base + 186) dX9_token_167 rfl rfl ?_
  refine gs_getI lk_RX9_62 (tk_186 _) rfl dX9_token_168 ?_
  obtain ⟨y25, ey25, hS⟩ := ob hS
  refine gs_callVi (As := [.int ((gi v 186 8))]) (st := []) (kr := 186) (k_X9_byteAt v ((gi v 186 8))  ey25) cl_RX9_65 sv_X9_byteAt ckk_X9_byteAt (tk_186 _) ⟨by decide, by decide⟩ (Nat.le_of_ble_eq_true rfl) ⟨Nat.zero_le _, Nat.zero_le _⟩ rfl dX9_token_171 rfl ?_
  obtain ⟨y26, ey26, hS⟩ := ob hS
  refine gs_callSi (As := [.int (y25)]) (st := []) (k_X9_isDigit v (y25)  ey26) cl_RX9_76 sv_X9_isDigit ⟨by decide, by decide⟩ (Nat.le_of_ble_eq_true rfl) ⟨Nat.zero_le _, Nat.zero_le _⟩ rfl dX9_token_174 rfl ?_
  refine g_if_eq 238 dX9_token_177 (by decide) (fun hc => ?_) (fun hc => ?_)
  · replace hS := (if_pos hc).symm.trans hS
    refine g_sub (lvx := []) [] rfl ?_
    obtain rfl := Option.some.inj hS
    exact hout0 ((v)) rfl
  · replace hS := (if_neg hc).symm.trans hS
    refine g_aload_n (j := 0) (x := base + 186) dX9_token_180 rfl rfl ?_
    refine g_iload_n (j := 1) (x := x24) dX9_token_181 rfl rfl ?_
    refine g_bipush (v := 48) dX9_token_182 (by decide) ?_
    refine g_icmp_eq 196 dX9_token_184 (by decide) (fun hc => ?_) (fun hc => ?_)
    · replace hS := (if_pos hc).symm.trans hS
      refine g_sipush (v := 1000) dX9_token_196 (by decide) ?_
      refine g_goto 222 dX9_token_199 (by decide) ?_
      obtain ⟨m27, em27, hS⟩ := ob hS
      refine gs_putI lw_RX9_82 (tk_186 _) rfl rfl rfl dX9_token_222 em27 ?_
      refine g_aload_n (j := 0) (x := base + 186) dX9_token_225 rfl rfl ?_
      refine g_dup dX9_token_226 rfl ?_
      refine gs_getI lk_RX9_62 (tk_186 _) rfl dX9_token_227 ?_
      refine g_iconst (v := 1) dX9_token_230 (by decide) ?_
      refine g_iadd dX9_token_231 ?_
      obtain ⟨m28, em28, hS⟩ := ob hS
      refine gs_putI lw_RX9_62 (tk_186 _) rfl rfl rfl dX9_token_232 em28 ?_
      refine g_goto 166 dX9_token_235 (by decide) ?_
      obtain rfl := Option.some.inj hS
      exact hin ((m28)) rfl
    · replace hS := (if_neg hc).symm.trans hS
      refine g_aload_n (j := 0) (x := base + 186) dX9_token_187 rfl rfl ?_
      refine gs_getI lk_RX9_82 (tk_186 _) rfl dX9_token_188 ?_
      refine g_bipush (v := 99) dX9_token_191 (by decide) ?_
      refine g_icmp_le 202 dX9_token_193 (by decide) (fun hc => ?_) (fun hc => ?_)
      · replace hS := (if_pos hc).symm.trans hS
        refine g_bipush (v := 10) dX9_token_202 (by decide) ?_
        refine g_aload_n (j := 0) (x := base + 186) dX9_token_204 rfl rfl ?_
        refine gs_getI lk_RX9_82 (tk_186 _) rfl dX9_token_205 ?_
        refine g_imul dX9_token_208 ?_
        refine g_aload_n (j := 0) (x := base + 186) dX9_token_209 rfl rfl ?_
        refine gs_getR (r := 187) lk_RX9_7 (tk_186 _) rfl dX9_token_210 ?_
        refine g_aload_n (j := 0) (x := base + 186) dX9_token_213 rfl rfl ?_
        refine gs_getI lk_RX9_62 (tk_186 _) rfl dX9_token_214 ?_
        obtain ⟨y29, ey29, hS⟩ := ob hS
        refine gs_iald (tk_187 _) dX9_token_217 ey29 ?_
        refine g_iadd dX9_token_218 ?_
        refine g_bipush (v := 48) dX9_token_219 (by decide) ?_
        refine g_isub dX9_token_221 ?_
        obtain ⟨m30, em30, hS⟩ := ob hS
        refine gs_putI lw_RX9_82 (tk_186 _) rfl rfl rfl dX9_token_222 em30 ?_
        refine g_aload_n (j := 0) (x := base + 186) dX9_token_225 rfl rfl ?_
        refine g_dup dX9_token_226 rfl ?_
        refine gs_getI lk_RX9_62 (tk_186 _) rfl dX9_token_227 ?_
        refine g_iconst (v := 1) dX9_token_230 (by decide) ?_
        refine g_iadd dX9_token_231 ?_
        obtain ⟨m31, em31, hS⟩ := ob hS
        refine gs_putI lw_RX9_62 (tk_186 _) rfl rfl rfl dX9_token_232 em31 ?_
        refine g_goto 166 dX9_token_235 (by decide) ?_
        obtain rfl := Option.some.inj hS
        exact hin ((m31)) rfl
      · replace hS := (if_neg hc).symm.trans hS
        refine g_sipush (v := 1000) dX9_token_196 (by decide) ?_
        refine g_goto 222 dX9_token_199 (by decide) ?_
        obtain ⟨m32, em32, hS⟩ := ob hS
        refine gs_putI lw_RX9_82 (tk_186 _) rfl rfl rfl dX9_token_222 em32 ?_
        refine g_aload_n (j := 0) (x := base + 186) dX9_token_225 rfl rfl ?_
        refine g_dup dX9_token_226 rfl ?_
        refine gs_getI lk_RX9_62 (tk_186 _) rfl dX9_token_227 ?_
        refine g_iconst (v := 1) dX9_token_230 (by decide) ?_
        refine g_iadd dX9_token_231 ?_
        obtain ⟨m33, em33, hS⟩ := ob hS
        refine gs_putI lw_RX9_62 (tk_186 _) rfl rfl rfl dX9_token_232 em33 ?_
        refine g_goto 166 dX9_token_235 (by decide) ?_
        obtain rfl := Option.some.inj hS
        exact hin ((m33)) rfl
def f_X9_token_j150 (m22 : Mem) (x21 : Int32) : Option (Mem) :=
  if (gi m22 186 9) = (2 : Int32) then (
    (stI m22 186 11 ((x21 - (48 : Int32)))).bind fun m23 =>
    (iter gFU (f_X9_token_b166  (x21)) m23).bind fun z34 =>
    some z34
  ) else (
    some m22
  )
set_option maxRecDepth 100000 in
set_option maxHeartbeats 4000000 in
theorem k_X9_token_j150 {l : Launch} {D : va_G} {cy : Nat → ClassId} {base : Nat} {X : gX} (m22 : Mem) (x21 : Int32)  {out : Mem} (hS : f_X9_token_j150 m22 x21 = some out)  : G l D cy base RX9 cX9_token 2 none (gRm 2) X (gZm D cy base 0 0 none gNN (gH cy base out)) 150 [(0, .ref (base + 186)), (1, .int (x21))] [] 0 0 gNN (gH cy base m22) := by
  unfold f_X9_token_j150 at hS
  refine g_aload_n (j := 0) (x := base + 186) dX9_token_150 rfl rfl ?_
  refine gs_getI lk_RX9_79 (tk_186 _) rfl dX9_token_151 ?_
  refine g_iconst (v := 2) dX9_token_154 (by decide) ?_
  refine g_icmp_ne 238 dX9_token_155 (by decide) (fun hc => ?_) (fun hc => ?_)
  · replace hS := (if_neg hc).symm.trans hS
    obtain rfl := Option.some.inj hS
    exact g_vret rfl dX9_token_238
  · replace hS := (if_pos hc).symm.trans hS
    refine g_aload_n (j := 0) (x := base + 186) dX9_token_158 rfl rfl ?_
    refine g_iload_n (j := 1) (x := x21) dX9_token_159 rfl rfl ?_
    refine g_bipush (v := 48) dX9_token_160 (by decide) ?_
    refine g_isub dX9_token_162 ?_
    obtain ⟨m23, em23, hS⟩ := ob hS
    refine gs_putI lw_RX9_82 (tk_186 _) rfl rfl rfl dX9_token_163 em23 ?_
    obtain ⟨z34, ez34, hS⟩ := ob hS
    refine iter_ind (fun vv => G l D cy base RX9 cX9_token 2 none (gRm 2) X (gZm D cy base 0 0 none gNN (gH cy base out)) 166 [(0, .ref (base + 186)), (1, .int (x21))] [] 0 0 gNN (gH cy base vv)) (fun xx => G l D cy base RX9 cX9_token 2 none (gRm 2) X (gZm D cy base 0 0 none gNN (gH cy base out)) 238 [] [] 0 0 gNN (gH cy base xx)) (fun vv rr hh hin hout => k_X9_token_b166  (x21)  vv rr hh hin (fun xx ee => hout xx ee)) gFU m23 z34 ez34 ?_
    show G l D cy base RX9 cX9_token 2 none (gRm 2) X (gZm D cy base 0 0 none gNN (gH cy base out)) 238 [] [] 0 0 gNN (gH cy base z34)
    obtain rfl := Option.some.inj hS
    exact g_vret rfl dX9_token_238
def f_X9_token_j110 (m14 : Mem) (x13 : Int32) : Option (Mem) :=
  (iter gFU (f_X9_token_b110  (x13)) m14).bind fun z20 =>
  f_X9_token_j150 z20 (x13)
set_option maxRecDepth 100000 in
set_option maxHeartbeats 4000000 in
theorem k_X9_token_j110 {l : Launch} {D : va_G} {cy : Nat → ClassId} {base : Nat} {X : gX} (m14 : Mem) (x13 : Int32)  {out : Mem} (hS : f_X9_token_j110 m14 x13 = some out)  : G l D cy base RX9 cX9_token 2 none (gRm 2) X (gZm D cy base 0 0 none gNN (gH cy base out)) 110 [(0, .ref (base + 186)), (1, .int (x13))] [] 0 0 gNN (gH cy base m14) := by
  unfold f_X9_token_j110 at hS
  obtain ⟨z20, ez20, hS⟩ := ob hS
  refine iter_ind (fun vv => G l D cy base RX9 cX9_token 2 none (gRm 2) X (gZm D cy base 0 0 none gNN (gH cy base out)) 110 [(0, .ref (base + 186)), (1, .int (x13))] [] 0 0 gNN (gH cy base vv)) (fun xx => G l D cy base RX9 cX9_token 2 none (gRm 2) X (gZm D cy base 0 0 none gNN (gH cy base out)) 150 [(0, .ref (base + 186)), (1, .int (x13))] [] 0 0 gNN (gH cy base xx)) (fun vv rr hh hin hout => k_X9_token_b110  (x13)  vv rr hh hin (fun xx ee => hout xx ee)) gFU m14 z20 ez20 ?_
  show G l D cy base RX9 cX9_token 2 none (gRm 2) X (gZm D cy base 0 0 none gNN (gH cy base out)) 150 [(0, .ref (base + 186)), (1, .int (x13))] [] 0 0 gNN (gH cy base z20)
  exact k_X9_token_j150 (z20) (x13)  hS
def f_X9_token_j85 (m10 : Mem) (x8 : Int32) (x9 : Int32) : Option (Mem) :=
  (stI m10 186 9 (x9)).bind fun m11 =>
  (stI m11 186 11 (x8)).bind fun m12 =>
  if (gi m12 186 9) = (0 : Int32) then (
    f_X9_token_j110 m12 (x8)
  ) else (
    (stI m12 186 8 (((gi m12 186 8) + (1 : Int32)))).bind fun m35 =>
    f_X9_token_j110 m35 (x8)
  )
set_option maxRecDepth 100000 in
set_option maxHeartbeats 4000000 in
theorem k_X9_token_j85 {l : Launch} {D : va_G} {cy : Nat → ClassId} {base : Nat} {X : gX} (m10 : Mem) (x8 : Int32) (x9 : Int32)  {out : Mem} (hS : f_X9_token_j85 m10 x8 x9 = some out)  : G l D cy base RX9 cX9_token 2 none (gRm 2) X (gZm D cy base 0 0 none gNN (gH cy base out)) 85 [(0, .ref (base + 186)), (1, .int (x8))] [.int (x9), .ref (base + 186)] 0 0 gNN (gH cy base m10) := by
  unfold f_X9_token_j85 at hS
  obtain ⟨m11, em11, hS⟩ := ob hS
  refine gs_putI lw_RX9_79 (tk_186 _) rfl rfl rfl dX9_token_85 em11 ?_
  refine g_aload_n (j := 0) (x := base + 186) dX9_token_88 rfl rfl ?_
  refine g_iload_n (j := 1) (x := x8) dX9_token_89 rfl rfl ?_
  obtain ⟨m12, em12, hS⟩ := ob hS
  refine gs_putI lw_RX9_82 (tk_186 _) rfl rfl rfl dX9_token_90 em12 ?_
  refine g_aload_n (j := 0) (x := base + 186) dX9_token_93 rfl rfl ?_
  refine gs_getI lk_RX9_79 (tk_186 _) rfl dX9_token_94 ?_
  refine g_if_eq 110 dX9_token_97 (by decide) (fun hc => ?_) (fun hc => ?_)
  · replace hS := (if_pos hc).symm.trans hS
    exact k_X9_token_j110 (m12) (x8)  hS
  · replace hS := (if_neg hc).symm.trans hS
    refine g_aload_n (j := 0) (x := base + 186) dX9_token_100 rfl rfl ?_
    refine g_dup dX9_token_101 rfl ?_
    refine gs_getI lk_RX9_62 (tk_186 _) rfl dX9_token_102 ?_
    refine g_iconst (v := 1) dX9_token_105 (by decide) ?_
    refine g_iadd dX9_token_106 ?_
    obtain ⟨m35, em35, hS⟩ := ob hS
    refine gs_putI lw_RX9_62 (tk_186 _) rfl rfl rfl dX9_token_107 em35 ?_
    exact k_X9_token_j110 (m35) (x8)  hS
def f_X9_token (μ : Mem)  : Option (Mem) :=
  (iter gFU (f_X9_token_b0  ) μ).bind fun z3 =>
  (stI z3 186 10 ((gi z3 186 8))).bind fun m4 =>
  (f_X9_byteAt m4 ((gi m4 186 8))).bind fun y5 =>
  if (0 : Int32) ≤ y5 then (
    (f_X9_isLetter m4 (y5)).bind fun y6 =>
    if y6 = (0 : Int32) then (
      (f_X9_isDigit m4 (y5)).bind fun y7 =>
      if y7 = (0 : Int32) then (
        if y5 = (59 : Int32) then (
          f_X9_token_j85 m4 (y5) ((3 : Int32))
        ) else (
          f_X9_token_j85 m4 (y5) ((4 : Int32))
        )
      ) else (
        f_X9_token_j85 m4 (y5) ((2 : Int32))
      )
    ) else (
      f_X9_token_j85 m4 (y5) ((1 : Int32))
    )
  ) else (
    f_X9_token_j85 m4 (y5) ((0 : Int32))
  )
set_option maxRecDepth 100000 in
set_option maxHeartbeats 4000000 in
theorem k_X9_token {l : Launch} {D : va_G} {cy : Nat → ClassId} {base : Nat} (μ : Mem)   {out : Mem} (hS : f_X9_token μ  = some out) : gC l D cy base yX9_token cX9_token 2 none 2 [.ref (base + 186)] μ none out := by
  refine gC_of (own := RX9) (lv0 := [(0, .ref (base + 186))]) rfl (by decide) (Nat.le_of_ble_eq_true rfl) rfl ?_
  unfold f_X9_token at hS
  obtain ⟨z3, ez3, hS⟩ := ob hS
  refine iter_ind (fun vv => G l D cy base RX9 cX9_token 2 none (gRm 2) (gXm yX9_token) (gZm D cy base 0 0 none gNN (gH cy base out)) 0 [(0, .ref (base + 186))] [] 0 0 gNN (gH cy base vv)) (fun xx => G l D cy base RX9 cX9_token 2 none (gRm 2) (gXm yX9_token) (gZm D cy base 0 0 none gNN (gH cy base out)) 26 [(0, .ref (base + 186))] [] 0 0 gNN (gH cy base xx)) (fun vv rr hh hin hout => k_X9_token_b0    vv rr hh hin (fun xx ee => hout xx ee)) gFU μ z3 ez3 ?_
  show G l D cy base RX9 cX9_token 2 none (gRm 2) (gXm yX9_token) (gZm D cy base 0 0 none gNN (gH cy base out)) 26 [(0, .ref (base + 186))] [] 0 0 gNN (gH cy base z3)
  refine g_aload_n (j := 0) (x := base + 186) dX9_token_26 rfl rfl ?_
  refine g_aload_n (j := 0) (x := base + 186) dX9_token_27 rfl rfl ?_
  refine gs_getI lk_RX9_62 (tk_186 _) rfl dX9_token_28 ?_
  obtain ⟨m4, em4, hS⟩ := ob hS
  refine gs_putI lw_RX9_69 (tk_186 _) rfl rfl rfl dX9_token_31 em4 ?_
  refine g_aload_n (j := 0) (x := base + 186) dX9_token_34 rfl rfl ?_
  refine g_aload_n (j := 0) (x := base + 186) dX9_token_35 rfl rfl ?_
  refine gs_getI lk_RX9_62 (tk_186 _) rfl dX9_token_36 ?_
  obtain ⟨y5, ey5, hS⟩ := ob hS
  refine gs_callVi (As := [.int ((gi m4 186 8))]) (st := []) (kr := 186) (k_X9_byteAt m4 ((gi m4 186 8))  ey5) cl_RX9_65 sv_X9_byteAt ckk_X9_byteAt (tk_186 _) ⟨by decide, by decide⟩ (Nat.le_of_ble_eq_true rfl) ⟨Nat.zero_le _, Nat.zero_le _⟩ rfl dX9_token_39 rfl ?_
  refine g_istore_n (lvx := [(1, .int (y5)), (0, .ref (base + 186))]) dX9_token_42 rfl (by decide) rfl ?_
  refine g_aload_n (j := 1) (x := base + 186) dX9_token_43 rfl rfl ?_
  refine g_iload_n (j := 0) (x := y5) dX9_token_44 rfl rfl ?_
  refine g_if_ge 52 dX9_token_45 (by decide) (fun hc => ?_) (fun hc => ?_)
  · replace hS := (if_pos hc).symm.trans hS
    refine g_iload_n (j := 0) (x := y5) dX9_token_52 rfl rfl ?_
    obtain ⟨y6, ey6, hS⟩ := ob hS
    refine gs_callSi (As := [.int (y5)]) (st := [.ref (base + 186)]) (k_X9_isLetter m4 (y5)  ey6) cl_RX9_72 sv_X9_isLetter ⟨by decide, by decide⟩ (Nat.le_of_ble_eq_true rfl) ⟨Nat.zero_le _, Nat.zero_le _⟩ rfl dX9_token_53 rfl ?_
    refine g_if_eq 63 dX9_token_56 (by decide) (fun hc => ?_) (fun hc => ?_)
    · replace hS := (if_pos hc).symm.trans hS
      refine g_iload_n (j := 0) (x := y5) dX9_token_63 rfl rfl ?_
      obtain ⟨y7, ey7, hS⟩ := ob hS
      refine gs_callSi (As := [.int (y5)]) (st := [.ref (base + 186)]) (k_X9_isDigit m4 (y5)  ey7) cl_RX9_76 sv_X9_isDigit ⟨by decide, by decide⟩ (Nat.le_of_ble_eq_true rfl) ⟨Nat.zero_le _, Nat.zero_le _⟩ rfl dX9_token_64 rfl ?_
      refine g_if_eq 74 dX9_token_67 (by decide) (fun hc => ?_) (fun hc => ?_)
      · replace hS := (if_pos hc).symm.trans hS
        refine g_iload_n (j := 0) (x := y5) dX9_token_74 rfl rfl ?_
        refine g_bipush (v := 59) dX9_token_75 (by decide) ?_
        refine g_icmp_ne 84 dX9_token_77 (by decide) (fun hc => ?_) (fun hc => ?_)
        · replace hS := (if_neg hc).symm.trans hS
          refine g_iconst (v := 4) dX9_token_84 (by decide) ?_
          refine g_sub (lvx := [(0, .ref (base + 186)), (1, .int (y5))]) [1, 0] rfl ?_
          exact k_X9_token_j85 (m4) (y5) ((4 : Int32))  hS
        · replace hS := (if_pos hc).symm.trans hS
          refine g_iconst (v := 3) dX9_token_80 (by decide) ?_
          refine g_goto 85 dX9_token_81 (by decide) ?_
          refine g_sub (lvx := [(0, .ref (base + 186)), (1, .int (y5))]) [1, 0] rfl ?_
          exact k_X9_token_j85 (m4) (y5) ((3 : Int32))  hS
      · replace hS := (if_neg hc).symm.trans hS
        refine g_iconst (v := 2) dX9_token_70 (by decide) ?_
        refine g_goto 85 dX9_token_71 (by decide) ?_
        refine g_sub (lvx := [(0, .ref (base + 186)), (1, .int (y5))]) [1, 0] rfl ?_
        exact k_X9_token_j85 (m4) (y5) ((2 : Int32))  hS
    · replace hS := (if_neg hc).symm.trans hS
      refine g_iconst (v := 1) dX9_token_59 (by decide) ?_
      refine g_goto 85 dX9_token_60 (by decide) ?_
      refine g_sub (lvx := [(0, .ref (base + 186)), (1, .int (y5))]) [1, 0] rfl ?_
      exact k_X9_token_j85 (m4) (y5) ((1 : Int32))  hS
  · replace hS := (if_neg hc).symm.trans hS
    refine g_iconst (v := 0) dX9_token_48 (by decide) ?_
    refine g_goto 85 dX9_token_49 (by decide) ?_
    refine g_sub (lvx := [(0, .ref (base + 186)), (1, .int (y5))]) [1, 0] rfl ?_
    exact k_X9_token_j85 (m4) (y5) ((0 : Int32))  hS
def f_X9_number (μ : Mem) (a1 : Int32) (a2 : Int32) (a3 : Int32) : Option (Int32 × Mem) :=
  (f_X9_token μ ).bind fun m2 =>
  (stA m2 189 49 (a1) ((gi m2 186 11))).bind fun m3 =>
  if (gi m3 186 9) = (2 : Int32) then (
    (f_X9_in m3 ((gi m3 186 11)) (a2) (a3)).bind fun y4 =>
    if y4 = (0 : Int32) then (
      some ((0 : Int32), m3)
    ) else (
      some ((1 : Int32), m3)
    )
  ) else (
    some ((0 : Int32), m3)
  )
set_option maxRecDepth 100000 in
set_option maxHeartbeats 4000000 in
theorem k_X9_number {l : Launch} {D : va_G} {cy : Nat → ClassId} {base : Nat} (μ : Mem) (a1 : Int32) (a2 : Int32) (a3 : Int32)  {out : Int32 × Mem} (hS : f_X9_number μ a1 a2 a3 = some out) : gC l D cy base yX9_number cX9_number 4 (some .boolean) 3 [.ref (base + 186), .int (a1), .int (a2), .int (a3)] μ (some (.int out.1)) out.2 := by
  refine gC_of (own := RX9) (lv0 := [(0, .ref (base + 186)), (1, .int (a1)), (2, .int (a2)), (3, .int (a3))]) rfl (by decide) (Nat.le_of_ble_eq_true rfl) rfl ?_
  unfold f_X9_number at hS
  refine g_aload_n (j := 0) (x := base + 186) dX9_number_0 rfl rfl ?_
  obtain ⟨m2, em2, hS⟩ := ob hS
  refine gs_callVv (As := []) (st := []) (kr := 186) (k_X9_token μ   em2) cl_RX9_85 sv_X9_token ckk_X9_token (tk_186 _) ⟨by decide, by decide⟩ (Nat.le_of_ble_eq_true rfl) ⟨Nat.zero_le _, Nat.zero_le _⟩ rfl dX9_number_1 rfl ?_
  refine g_aload_n (j := 0) (x := base + 186) dX9_number_4 rfl rfl ?_
  refine gs_getR (r := 189) lk_RX9_16 (tk_186 _) rfl dX9_number_5 ?_
  refine g_iload_n (j := 1) (x := a1) dX9_number_8 rfl rfl ?_
  refine g_aload_n (j := 0) (x := base + 186) dX9_number_9 rfl rfl ?_
  refine gs_getI lk_RX9_82 (tk_186 _) rfl dX9_number_10 ?_
  obtain ⟨m3, em3, hS⟩ := ob hS
  refine gs_iast (tk_189 _) dX9_number_13 em3 ?_
  refine g_aload_n (j := 0) (x := base + 186) dX9_number_14 rfl rfl ?_
  refine gs_getI lk_RX9_79 (tk_186 _) rfl dX9_number_15 ?_
  refine g_iconst (v := 2) dX9_number_18 (by decide) ?_
  refine g_icmp_ne 38 dX9_number_19 (by decide) (fun hc => ?_) (fun hc => ?_)
  · replace hS := (if_neg hc).symm.trans hS
    refine g_iconst (v := 0) dX9_number_38 (by decide) ?_
    obtain rfl := Option.some.inj hS
    exact g_zret (v := (0 : Int32)) rfl rfl dX9_number_39
  · replace hS := (if_pos hc).symm.trans hS
    refine g_aload_n (j := 0) (x := base + 186) dX9_number_22 rfl rfl ?_
    refine gs_getI lk_RX9_82 (tk_186 _) rfl dX9_number_23 ?_
    refine g_iload_n (j := 2) (x := a2) dX9_number_26 rfl rfl ?_
    refine g_iload_n (j := 3) (x := a3) dX9_number_27 rfl rfl ?_
    obtain ⟨y4, ey4, hS⟩ := ob hS
    refine gs_callSi (As := [.int ((gi m3 186 11)), .int (a2), .int (a3)]) (st := []) (k_X9_in m3 ((gi m3 186 11)) (a2) (a3)  ey4) cl_RX9_54 sv_X9_in ⟨by decide, by decide⟩ (Nat.le_of_ble_eq_true rfl) ⟨Nat.zero_le _, Nat.zero_le _⟩ rfl dX9_number_28 rfl ?_
    refine g_if_eq 38 dX9_number_31 (by decide) (fun hc => ?_) (fun hc => ?_)
    · replace hS := (if_pos hc).symm.trans hS
      refine g_iconst (v := 0) dX9_number_38 (by decide) ?_
      obtain rfl := Option.some.inj hS
      exact g_zret (v := (0 : Int32)) rfl rfl dX9_number_39
    · replace hS := (if_neg hc).symm.trans hS
      refine g_iconst (v := 1) dX9_number_34 (by decide) ?_
      refine g_goto 39 dX9_number_35 (by decide) ?_
      obtain rfl := Option.some.inj hS
      exact g_zret (v := (1 : Int32)) rfl rfl dX9_number_39
def f_X9_readsStair (μ : Mem)  : Option (Int32 × Mem) :=
  (ldA μ 189 49 ((0 : Int32))).bind fun y1 =>
  if y1 = (7 : Int32) then (
    some ((0 : Int32), μ)
  ) else (
    (f_X9_number μ (((6 : Int32) + y1)) ((0 : Int32)) ((6 : Int32))).bind fun z2 =>
    if z2.1 = (0 : Int32) then (
      some ((0 : Int32), z2.2)
    ) else (
      (f_X9_number z2.2 (((13 : Int32) + y1)) ((0 : Int32)) ((6 : Int32))).bind fun z3 =>
      if z3.1 = (0 : Int32) then (
        some ((0 : Int32), z3.2)
      ) else (
        (ldA z3.2 189 49 (((13 : Int32) + y1))).bind fun y4 =>
        (ldA z3.2 189 49 (((6 : Int32) + y1))).bind fun y5 =>
        if y4 = y5 then (
          some ((0 : Int32), z3.2)
        ) else (
          (f_X9_number z3.2 (((20 : Int32) + y1)) ((1 : Int32)) ((99 : Int32))).bind fun z6 =>
          if z6.1 = (0 : Int32) then (
            some ((0 : Int32), z6.2)
          ) else (
            (f_X9_number z6.2 (((27 : Int32) + y1)) ((0 : Int32)) ((40 : Int32))).bind fun z7 =>
            if z7.1 = (0 : Int32) then (
              some ((0 : Int32), z7.2)
            ) else (
              (ldA z7.2 189 49 ((0 : Int32))).bind fun y8 =>
              (stA z7.2 189 49 ((0 : Int32)) ((y8 + (1 : Int32)))).bind fun m9 =>
              some ((1 : Int32), m9)
            )
          )
        )
      )
    )
  )
set_option maxRecDepth 100000 in
set_option maxHeartbeats 4000000 in
theorem k_X9_readsStair {l : Launch} {D : va_G} {cy : Nat → ClassId} {base : Nat} (μ : Mem)   {out : Int32 × Mem} (hS : f_X9_readsStair μ  = some out) : gC l D cy base yX9_readsStair cX9_readsStair 2 (some .boolean) 4 [.ref (base + 186)] μ (some (.int out.1)) out.2 := by
  refine gC_of (own := RX9) (lv0 := [(0, .ref (base + 186))]) rfl (by decide) (Nat.le_of_ble_eq_true rfl) rfl ?_
  unfold f_X9_readsStair at hS
  refine g_aload_n (j := 0) (x := base + 186) dX9_readsStair_0 rfl rfl ?_
  refine gs_getR (r := 189) lk_RX9_16 (tk_186 _) rfl dX9_readsStair_1 ?_
  refine g_iconst (v := 0) dX9_readsStair_4 (by decide) ?_
  obtain ⟨y1, ey1, hS⟩ := ob hS
  refine gs_iald (tk_189 _) dX9_readsStair_5 ey1 ?_
  refine g_istore_n (lvx := [(1, .int (y1)), (0, .ref (base + 186))]) dX9_readsStair_6 rfl (by decide) rfl ?_
  refine g_iload_n (j := 0) (x := y1) dX9_readsStair_7 rfl rfl ?_
  refine g_bipush (v := 7) dX9_readsStair_8 (by decide) ?_
  refine g_icmp_eq 90 dX9_readsStair_10 (by decide) (fun hc => ?_) (fun hc => ?_)
  · replace hS := (if_pos hc).symm.trans hS
    refine g_iconst (v := 0) dX9_readsStair_90 (by decide) ?_
    obtain rfl := Option.some.inj hS
    exact g_zret (v := (0 : Int32)) rfl rfl dX9_readsStair_91
  · replace hS := (if_neg hc).symm.trans hS
    refine g_aload_n (j := 1) (x := base + 186) dX9_readsStair_13 rfl rfl ?_
    refine g_bipush (v := 6) dX9_readsStair_14 (by decide) ?_
    refine g_iload_n (j := 0) (x := y1) dX9_readsStair_16 rfl rfl ?_
    refine g_iadd dX9_readsStair_17 ?_
    refine g_iconst (v := 0) dX9_readsStair_18 (by decide) ?_
    refine g_bipush (v := 6) dX9_readsStair_19 (by decide) ?_
    obtain ⟨z2, ez2, hS⟩ := ob hS
    refine gs_callVi (As := [.int (((6 : Int32) + y1)), .int ((0 : Int32)), .int ((6 : Int32))]) (st := []) (kr := 186) (k_X9_number μ (((6 : Int32) + y1)) ((0 : Int32)) ((6 : Int32))  ez2) cl_RX9_88 sv_X9_number ckk_X9_number (tk_186 _) ⟨by decide, by decide⟩ (Nat.le_of_ble_eq_true rfl) ⟨Nat.zero_le _, Nat.zero_le _⟩ rfl dX9_readsStair_21 rfl ?_
    refine g_if_eq 90 dX9_readsStair_24 (by decide) (fun hc => ?_) (fun hc => ?_)
    · replace hS := (if_pos hc).symm.trans hS
      refine g_iconst (v := 0) dX9_readsStair_90 (by decide) ?_
      obtain rfl := Option.some.inj hS
      exact g_zret (v := (0 : Int32)) rfl rfl dX9_readsStair_91
    · replace hS := (if_neg hc).symm.trans hS
      refine g_aload_n (j := 1) (x := base + 186) dX9_readsStair_27 rfl rfl ?_
      refine g_bipush (v := 13) dX9_readsStair_28 (by decide) ?_
      refine g_iload_n (j := 0) (x := y1) dX9_readsStair_30 rfl rfl ?_
      refine g_iadd dX9_readsStair_31 ?_
      refine g_iconst (v := 0) dX9_readsStair_32 (by decide) ?_
      refine g_bipush (v := 6) dX9_readsStair_33 (by decide) ?_
      obtain ⟨z3, ez3, hS⟩ := ob hS
      refine gs_callVi (As := [.int (((13 : Int32) + y1)), .int ((0 : Int32)), .int ((6 : Int32))]) (st := []) (kr := 186) (k_X9_number z2.2 (((13 : Int32) + y1)) ((0 : Int32)) ((6 : Int32))  ez3) cl_RX9_88 sv_X9_number ckk_X9_number (tk_186 _) ⟨by decide, by decide⟩ (Nat.le_of_ble_eq_true rfl) ⟨Nat.zero_le _, Nat.zero_le _⟩ rfl dX9_readsStair_35 rfl ?_
      refine g_if_eq 90 dX9_readsStair_38 (by decide) (fun hc => ?_) (fun hc => ?_)
      · replace hS := (if_pos hc).symm.trans hS
        refine g_iconst (v := 0) dX9_readsStair_90 (by decide) ?_
        obtain rfl := Option.some.inj hS
        exact g_zret (v := (0 : Int32)) rfl rfl dX9_readsStair_91
      · replace hS := (if_neg hc).symm.trans hS
        refine g_aload_n (j := 1) (x := base + 186) dX9_readsStair_41 rfl rfl ?_
        refine gs_getR (r := 189) lk_RX9_16 (tk_186 _) rfl dX9_readsStair_42 ?_
        refine g_bipush (v := 13) dX9_readsStair_45 (by decide) ?_
        refine g_iload_n (j := 0) (x := y1) dX9_readsStair_47 rfl rfl ?_
        refine g_iadd dX9_readsStair_48 ?_
        obtain ⟨y4, ey4, hS⟩ := ob hS
        refine gs_iald (tk_189 _) dX9_readsStair_49 ey4 ?_
        refine g_aload_n (j := 1) (x := base + 186) dX9_readsStair_50 rfl rfl ?_
        refine gs_getR (r := 189) lk_RX9_16 (tk_186 _) rfl dX9_readsStair_51 ?_
        refine g_bipush (v := 6) dX9_readsStair_54 (by decide) ?_
        refine g_iload_n (j := 0) (x := y1) dX9_readsStair_56 rfl rfl ?_
        refine g_iadd dX9_readsStair_57 ?_
        obtain ⟨y5, ey5, hS⟩ := ob hS
        refine gs_iald (tk_189 _) dX9_readsStair_58 ey5 ?_
        refine g_icmp_eq 90 dX9_readsStair_59 (by decide) (fun hc => ?_) (fun hc => ?_)
        · replace hS := (if_pos hc).symm.trans hS
          refine g_iconst (v := 0) dX9_readsStair_90 (by decide) ?_
          obtain rfl := Option.some.inj hS
          exact g_zret (v := (0 : Int32)) rfl rfl dX9_readsStair_91
        · replace hS := (if_neg hc).symm.trans hS
          refine g_aload_n (j := 1) (x := base + 186) dX9_readsStair_62 rfl rfl ?_
          refine g_bipush (v := 20) dX9_readsStair_63 (by decide) ?_
          refine g_iload_n (j := 0) (x := y1) dX9_readsStair_65 rfl rfl ?_
          refine g_iadd dX9_readsStair_66 ?_
          refine g_iconst (v := 1) dX9_readsStair_67 (by decide) ?_
          refine g_bipush (v := 99) dX9_readsStair_68 (by decide) ?_
          obtain ⟨z6, ez6, hS⟩ := ob hS
          refine gs_callVi (As := [.int (((20 : Int32) + y1)), .int ((1 : Int32)), .int ((99 : Int32))]) (st := []) (kr := 186) (k_X9_number z3.2 (((20 : Int32) + y1)) ((1 : Int32)) ((99 : Int32))  ez6) cl_RX9_88 sv_X9_number ckk_X9_number (tk_186 _) ⟨by decide, by decide⟩ (Nat.le_of_ble_eq_true rfl) ⟨Nat.zero_le _, Nat.zero_le _⟩ rfl dX9_readsStair_70 rfl ?_
          refine g_if_eq 90 dX9_readsStair_73 (by decide) (fun hc => ?_) (fun hc => ?_)
          · replace hS := (if_pos hc).symm.trans hS
            refine g_iconst (v := 0) dX9_readsStair_90 (by decide) ?_
            obtain rfl := Option.some.inj hS
            exact g_zret (v := (0 : Int32)) rfl rfl dX9_readsStair_91
          · replace hS := (if_neg hc).symm.trans hS
            refine g_aload_n (j := 1) (x := base + 186) dX9_readsStair_76 rfl rfl ?_
            refine g_bipush (v := 27) dX9_readsStair_77 (by decide) ?_
            refine g_iload_n (j := 0) (x := y1) dX9_readsStair_79 rfl rfl ?_
            refine g_iadd dX9_readsStair_80 ?_
            refine g_iconst (v := 0) dX9_readsStair_81 (by decide) ?_
            refine g_bipush (v := 40) dX9_readsStair_82 (by decide) ?_
            obtain ⟨z7, ez7, hS⟩ := ob hS
            refine gs_callVi (As := [.int (((27 : Int32) + y1)), .int ((0 : Int32)), .int ((40 : Int32))]) (st := []) (kr := 186) (k_X9_number z6.2 (((27 : Int32) + y1)) ((0 : Int32)) ((40 : Int32))  ez7) cl_RX9_88 sv_X9_number ckk_X9_number (tk_186 _) ⟨by decide, by decide⟩ (Nat.le_of_ble_eq_true rfl) ⟨Nat.zero_le _, Nat.zero_le _⟩ rfl dX9_readsStair_84 rfl ?_
            refine g_if_ne 92 dX9_readsStair_87 (by decide) (fun hc => ?_) (fun hc => ?_)
            · replace hS := (if_neg hc).symm.trans hS
              refine g_aload_n (j := 1) (x := base + 186) dX9_readsStair_92 rfl rfl ?_
              refine gs_getR (r := 189) lk_RX9_16 (tk_186 _) rfl dX9_readsStair_93 ?_
              refine g_iconst (v := 0) dX9_readsStair_96 (by decide) ?_
              refine g_dup2 dX9_readsStair_97 rfl rfl ?_
              obtain ⟨y8, ey8, hS⟩ := ob hS
              refine gs_iald (tk_189 _) dX9_readsStair_98 ey8 ?_
              refine g_iconst (v := 1) dX9_readsStair_99 (by decide) ?_
              refine g_iadd dX9_readsStair_100 ?_
              obtain ⟨m9, em9, hS⟩ := ob hS
              refine gs_iast (tk_189 _) dX9_readsStair_101 em9 ?_
              refine g_iconst (v := 1) dX9_readsStair_102 (by decide) ?_
              obtain rfl := Option.some.inj hS
              exact g_zret (v := (1 : Int32)) rfl rfl dX9_readsStair_103
            · replace hS := (if_pos hc).symm.trans hS
              refine g_iconst (v := 0) dX9_readsStair_90 (by decide) ?_
              obtain rfl := Option.some.inj hS
              exact g_zret (v := (0 : Int32)) rfl rfl dX9_readsStair_91
def f_X9_readsPerson (μ : Mem)  : Option (Int32 × Mem) :=
  (ldA μ 189 49 ((1 : Int32))).bind fun y1 =>
  if y1 = (5 : Int32) then (
    some ((0 : Int32), μ)
  ) else (
    (f_X9_number μ (((34 : Int32) + y1)) ((0 : Int32)) ((1 : Int32))).bind fun z2 =>
    if z2.1 = (0 : Int32) then (
      some ((0 : Int32), z2.2)
    ) else (
      (f_X9_number z2.2 (((39 : Int32) + y1)) ((0 : Int32)) ((10 : Int32))).bind fun z3 =>
      if z3.1 = (0 : Int32) then (
        some ((0 : Int32), z3.2)
      ) else (
        (f_X9_number z3.2 (((44 : Int32) + y1)) ((0 : Int32)) ((9 : Int32))).bind fun z4 =>
        if z4.1 = (0 : Int32) then (
          some ((0 : Int32), z4.2)
        ) else (
          (ldA z4.2 189 49 ((1 : Int32))).bind fun y5 =>
          (stA z4.2 189 49 ((1 : Int32)) ((y5 + (1 : Int32)))).bind fun m6 =>
          some ((1 : Int32), m6)
        )
      )
    )
  )
set_option maxRecDepth 100000 in
set_option maxHeartbeats 4000000 in
theorem k_X9_readsPerson {l : Launch} {D : va_G} {cy : Nat → ClassId} {base : Nat} (μ : Mem)   {out : Int32 × Mem} (hS : f_X9_readsPerson μ  = some out) : gC l D cy base yX9_readsPerson cX9_readsPerson 2 (some .boolean) 4 [.ref (base + 186)] μ (some (.int out.1)) out.2 := by
  refine gC_of (own := RX9) (lv0 := [(0, .ref (base + 186))]) rfl (by decide) (Nat.le_of_ble_eq_true rfl) rfl ?_
  unfold f_X9_readsPerson at hS
  refine g_aload_n (j := 0) (x := base + 186) dX9_readsPerson_0 rfl rfl ?_
  refine gs_getR (r := 189) lk_RX9_16 (tk_186 _) rfl dX9_readsPerson_1 ?_
  refine g_iconst (v := 1) dX9_readsPerson_4 (by decide) ?_
  obtain ⟨y1, ey1, hS⟩ := ob hS
  refine gs_iald (tk_189 _) dX9_readsPerson_5 ey1 ?_
  refine g_istore_n (lvx := [(1, .int (y1)), (0, .ref (base + 186))]) dX9_readsPerson_6 rfl (by decide) rfl ?_
  refine g_iload_n (j := 0) (x := y1) dX9_readsPerson_7 rfl rfl ?_
  refine g_iconst (v := 5) dX9_readsPerson_8 (by decide) ?_
  refine g_icmp_eq 53 dX9_readsPerson_9 (by decide) (fun hc => ?_) (fun hc => ?_)
  · replace hS := (if_pos hc).symm.trans hS
    refine g_iconst (v := 0) dX9_readsPerson_53 (by decide) ?_
    obtain rfl := Option.some.inj hS
    exact g_zret (v := (0 : Int32)) rfl rfl dX9_readsPerson_54
  · replace hS := (if_neg hc).symm.trans hS
    refine g_aload_n (j := 1) (x := base + 186) dX9_readsPerson_12 rfl rfl ?_
    refine g_bipush (v := 34) dX9_readsPerson_13 (by decide) ?_
    refine g_iload_n (j := 0) (x := y1) dX9_readsPerson_15 rfl rfl ?_
    refine g_iadd dX9_readsPerson_16 ?_
    refine g_iconst (v := 0) dX9_readsPerson_17 (by decide) ?_
    refine g_iconst (v := 1) dX9_readsPerson_18 (by decide) ?_
    obtain ⟨z2, ez2, hS⟩ := ob hS
    refine gs_callVi (As := [.int (((34 : Int32) + y1)), .int ((0 : Int32)), .int ((1 : Int32))]) (st := []) (kr := 186) (k_X9_number μ (((34 : Int32) + y1)) ((0 : Int32)) ((1 : Int32))  ez2) cl_RX9_88 sv_X9_number ckk_X9_number (tk_186 _) ⟨by decide, by decide⟩ (Nat.le_of_ble_eq_true rfl) ⟨Nat.zero_le _, Nat.zero_le _⟩ rfl dX9_readsPerson_19 rfl ?_
    refine g_if_eq 53 dX9_readsPerson_22 (by decide) (fun hc => ?_) (fun hc => ?_)
    · replace hS := (if_pos hc).symm.trans hS
      refine g_iconst (v := 0) dX9_readsPerson_53 (by decide) ?_
      obtain rfl := Option.some.inj hS
      exact g_zret (v := (0 : Int32)) rfl rfl dX9_readsPerson_54
    · replace hS := (if_neg hc).symm.trans hS
      refine g_aload_n (j := 1) (x := base + 186) dX9_readsPerson_25 rfl rfl ?_
      refine g_bipush (v := 39) dX9_readsPerson_26 (by decide) ?_
      refine g_iload_n (j := 0) (x := y1) dX9_readsPerson_28 rfl rfl ?_
      refine g_iadd dX9_readsPerson_29 ?_
      refine g_iconst (v := 0) dX9_readsPerson_30 (by decide) ?_
      refine g_bipush (v := 10) dX9_readsPerson_31 (by decide) ?_
      obtain ⟨z3, ez3, hS⟩ := ob hS
      refine gs_callVi (As := [.int (((39 : Int32) + y1)), .int ((0 : Int32)), .int ((10 : Int32))]) (st := []) (kr := 186) (k_X9_number z2.2 (((39 : Int32) + y1)) ((0 : Int32)) ((10 : Int32))  ez3) cl_RX9_88 sv_X9_number ckk_X9_number (tk_186 _) ⟨by decide, by decide⟩ (Nat.le_of_ble_eq_true rfl) ⟨Nat.zero_le _, Nat.zero_le _⟩ rfl dX9_readsPerson_33 rfl ?_
      refine g_if_eq 53 dX9_readsPerson_36 (by decide) (fun hc => ?_) (fun hc => ?_)
      · replace hS := (if_pos hc).symm.trans hS
        refine g_iconst (v := 0) dX9_readsPerson_53 (by decide) ?_
        obtain rfl := Option.some.inj hS
        exact g_zret (v := (0 : Int32)) rfl rfl dX9_readsPerson_54
      · replace hS := (if_neg hc).symm.trans hS
        refine g_aload_n (j := 1) (x := base + 186) dX9_readsPerson_39 rfl rfl ?_
        refine g_bipush (v := 44) dX9_readsPerson_40 (by decide) ?_
        refine g_iload_n (j := 0) (x := y1) dX9_readsPerson_42 rfl rfl ?_
        refine g_iadd dX9_readsPerson_43 ?_
        refine g_iconst (v := 0) dX9_readsPerson_44 (by decide) ?_
        refine g_bipush (v := 9) dX9_readsPerson_45 (by decide) ?_
        obtain ⟨z4, ez4, hS⟩ := ob hS
        refine gs_callVi (As := [.int (((44 : Int32) + y1)), .int ((0 : Int32)), .int ((9 : Int32))]) (st := []) (kr := 186) (k_X9_number z3.2 (((44 : Int32) + y1)) ((0 : Int32)) ((9 : Int32))  ez4) cl_RX9_88 sv_X9_number ckk_X9_number (tk_186 _) ⟨by decide, by decide⟩ (Nat.le_of_ble_eq_true rfl) ⟨Nat.zero_le _, Nat.zero_le _⟩ rfl dX9_readsPerson_47 rfl ?_
        refine g_if_ne 55 dX9_readsPerson_50 (by decide) (fun hc => ?_) (fun hc => ?_)
        · replace hS := (if_neg hc).symm.trans hS
          refine g_aload_n (j := 1) (x := base + 186) dX9_readsPerson_55 rfl rfl ?_
          refine gs_getR (r := 189) lk_RX9_16 (tk_186 _) rfl dX9_readsPerson_56 ?_
          refine g_iconst (v := 1) dX9_readsPerson_59 (by decide) ?_
          refine g_dup2 dX9_readsPerson_60 rfl rfl ?_
          obtain ⟨y5, ey5, hS⟩ := ob hS
          refine gs_iald (tk_189 _) dX9_readsPerson_61 ey5 ?_
          refine g_iconst (v := 1) dX9_readsPerson_62 (by decide) ?_
          refine g_iadd dX9_readsPerson_63 ?_
          obtain ⟨m6, em6, hS⟩ := ob hS
          refine gs_iast (tk_189 _) dX9_readsPerson_64 em6 ?_
          refine g_iconst (v := 1) dX9_readsPerson_65 (by decide) ?_
          obtain rfl := Option.some.inj hS
          exact g_zret (v := (1 : Int32)) rfl rfl dX9_readsPerson_66
        · replace hS := (if_pos hc).symm.trans hS
          refine g_iconst (v := 0) dX9_readsPerson_53 (by decide) ?_
          obtain rfl := Option.some.inj hS
          exact g_zret (v := (0 : Int32)) rfl rfl dX9_readsPerson_54
def f_X9_once (μ : Mem) (a1 : Int32) (a2 : Int32) : Option (Int32 × Mem) :=
  (ldA μ 189 49 ((5 : Int32))).bind fun y1 =>
  if (y1 &&& a1) = (0 : Int32) then (
    (ldA μ 189 49 ((5 : Int32))).bind fun y2 =>
    (stA μ 189 49 ((5 : Int32)) ((y2 ||| a1))).bind fun m3 =>
    (f_X9_number m3 (a2) ((0 : Int32)) ((9 : Int32))).bind fun z4 =>
    (bz (z4.1)).bind fun y5 =>
    some (y5, z4.2)
  ) else (
    some ((0 : Int32), μ)
  )
set_option maxRecDepth 100000 in
set_option maxHeartbeats 4000000 in
theorem k_X9_once {l : Launch} {D : va_G} {cy : Nat → ClassId} {base : Nat} (μ : Mem) (a1 : Int32) (a2 : Int32)  {out : Int32 × Mem} (hS : f_X9_once μ a1 a2 = some out) : gC l D cy base yX9_once cX9_once 3 (some .boolean) 4 [.ref (base + 186), .int (a1), .int (a2)] μ (some (.int out.1)) out.2 := by
  refine gC_of (own := RX9) (lv0 := [(0, .ref (base + 186)), (1, .int (a1)), (2, .int (a2))]) rfl (by decide) (Nat.le_of_ble_eq_true rfl) rfl ?_
  unfold f_X9_once at hS
  refine g_aload_n (j := 0) (x := base + 186) dX9_once_0 rfl rfl ?_
  refine gs_getR (r := 189) lk_RX9_16 (tk_186 _) rfl dX9_once_1 ?_
  refine g_iconst (v := 5) dX9_once_4 (by decide) ?_
  obtain ⟨y1, ey1, hS⟩ := ob hS
  refine gs_iald (tk_189 _) dX9_once_5 ey1 ?_
  refine g_iload_n (j := 1) (x := a1) dX9_once_6 rfl rfl ?_
  refine g_iand dX9_once_7 ?_
  refine g_if_eq 13 dX9_once_8 (by decide) (fun hc => ?_) (fun hc => ?_)
  · replace hS := (if_pos hc).symm.trans hS
    refine g_aload_n (j := 0) (x := base + 186) dX9_once_13 rfl rfl ?_
    refine gs_getR (r := 189) lk_RX9_16 (tk_186 _) rfl dX9_once_14 ?_
    refine g_iconst (v := 5) dX9_once_17 (by decide) ?_
    refine g_dup2 dX9_once_18 rfl rfl ?_
    obtain ⟨y2, ey2, hS⟩ := ob hS
    refine gs_iald (tk_189 _) dX9_once_19 ey2 ?_
    refine g_iload_n (j := 1) (x := a1) dX9_once_20 rfl rfl ?_
    refine g_ior dX9_once_21 ?_
    obtain ⟨m3, em3, hS⟩ := ob hS
    refine gs_iast (tk_189 _) dX9_once_22 em3 ?_
    refine g_aload_n (j := 0) (x := base + 186) dX9_once_23 rfl rfl ?_
    refine g_iload_n (j := 2) (x := a2) dX9_once_24 rfl rfl ?_
    refine g_iconst (v := 0) dX9_once_25 (by decide) ?_
    refine g_bipush (v := 9) dX9_once_26 (by decide) ?_
    obtain ⟨z4, ez4, hS⟩ := ob hS
    refine gs_callVi (As := [.int (a2), .int ((0 : Int32)), .int ((9 : Int32))]) (st := []) (kr := 186) (k_X9_number m3 (a2) ((0 : Int32)) ((9 : Int32))  ez4) cl_RX9_88 sv_X9_number ckk_X9_number (tk_186 _) ⟨by decide, by decide⟩ (Nat.le_of_ble_eq_true rfl) ⟨Nat.zero_le _, Nat.zero_le _⟩ rfl dX9_once_28 rfl ?_
    obtain ⟨y5, ey5, hS⟩ := ob hS
    obtain rfl := Option.some.inj hS
    exact gs_zret ey5 rfl dX9_once_31
  · replace hS := (if_neg hc).symm.trans hS
    refine g_iconst (v := 0) dX9_once_11 (by decide) ?_
    obtain rfl := Option.some.inj hS
    exact g_zret (v := (0 : Int32)) rfl rfl dX9_once_12
def f_X9_readsItem_j16 (m2 : Mem) (x1 : Int32) : Option (Int32 × Mem) :=
  if x1 = (100 : Int32) then (
    (f_X9_once m2 ((1 : Int32)) ((2 : Int32))).bind fun z4 =>
    (bz (z4.1)).bind fun y5 =>
    some (y5, z4.2)
  ) else
  if x1 = (112 : Int32) then (
    (f_X9_readsPerson m2 ).bind fun z7 =>
    (bz (z7.1)).bind fun y8 =>
    some (y8, z7.2)
  ) else
  if x1 = (115 : Int32) then (
    (f_X9_readsStair m2 ).bind fun z10 =>
    (bz (z10.1)).bind fun y11 =>
    some (y11, z10.2)
  ) else
  if x1 = (116 : Int32) then (
    (f_X9_once m2 ((2 : Int32)) ((3 : Int32))).bind fun z13 =>
    (bz (z13.1)).bind fun y14 =>
    some (y14, z13.2)
  ) else
  (
    some ((0 : Int32), m2)
  )
set_option maxRecDepth 100000 in
set_option maxHeartbeats 4000000 in
theorem k_X9_readsItem_j16 {l : Launch} {D : va_G} {cy : Nat → ClassId} {base : Nat} {X : gX} (m2 : Mem) (x1 : Int32)  {out : Int32 × Mem} (hS : f_X9_readsItem_j16 m2 x1 = some out)  : G l D cy base RX9 cX9_readsItem 2 (some .boolean) (gRm 5) X (gZm D cy base 0 0 (some (.int out.1)) gNN (gH cy base out.2)) 16 [(0, .ref (base + 186))] [.int (x1)] 0 0 gNN (gH cy base m2) := by
  unfold f_X9_readsItem_j16 at hS
  refine g_istore_n (lvx := [(1, .int (x1)), (0, .ref (base + 186))]) dX9_readsItem_16 rfl (by decide) rfl ?_
  refine g_iload_n (j := 0) (x := x1) dX9_readsItem_17 rfl rfl ?_
  by_cases hs3 : x1 = (100 : Int32)
  · replace hS := (if_pos hs3).symm.trans hS
    refine gs_lookup hs3 70 dX9_readsItem_18 (by decide) rfl (by decide) ?_
    refine g_aload_n (j := 1) (x := base + 186) dX9_readsItem_70 rfl rfl ?_
    refine g_iconst (v := 1) dX9_readsItem_71 (by decide) ?_
    refine g_iconst (v := 2) dX9_readsItem_72 (by decide) ?_
    obtain ⟨z4, ez4, hS⟩ := ob hS
    refine gs_callVi (As := [.int ((1 : Int32)), .int ((2 : Int32))]) (st := []) (kr := 186) (k_X9_once m2 ((1 : Int32)) ((2 : Int32))  ez4) cl_RX9_97 sv_X9_once ckk_X9_once (tk_186 _) ⟨by decide, by decide⟩ (Nat.le_of_ble_eq_true rfl) ⟨Nat.zero_le _, Nat.zero_le _⟩ rfl dX9_readsItem_73 rfl ?_
    obtain ⟨y5, ey5, hS⟩ := ob hS
    obtain rfl := Option.some.inj hS
    exact gs_zret ey5 rfl dX9_readsItem_76
  replace hS := (if_neg hs3).symm.trans hS
  by_cases hs6 : x1 = (112 : Int32)
  · replace hS := (if_pos hs6).symm.trans hS
    refine gs_lookup hs6 65 dX9_readsItem_18 (by decide) rfl (by decide) ?_
    refine g_aload_n (j := 1) (x := base + 186) dX9_readsItem_65 rfl rfl ?_
    obtain ⟨z7, ez7, hS⟩ := ob hS
    refine gs_callVi (As := []) (st := []) (kr := 186) (k_X9_readsPerson m2   ez7) cl_RX9_94 sv_X9_readsPerson ckk_X9_readsPerson (tk_186 _) ⟨by decide, by decide⟩ (Nat.le_of_ble_eq_true rfl) ⟨Nat.zero_le _, Nat.zero_le _⟩ rfl dX9_readsItem_66 rfl ?_
    obtain ⟨y8, ey8, hS⟩ := ob hS
    obtain rfl := Option.some.inj hS
    exact gs_zret ey8 rfl dX9_readsItem_69
  replace hS := (if_neg hs6).symm.trans hS
  by_cases hs9 : x1 = (115 : Int32)
  · replace hS := (if_pos hs9).symm.trans hS
    refine gs_lookup hs9 60 dX9_readsItem_18 (by decide) rfl (by decide) ?_
    refine g_aload_n (j := 1) (x := base + 186) dX9_readsItem_60 rfl rfl ?_
    obtain ⟨z10, ez10, hS⟩ := ob hS
    refine gs_callVi (As := []) (st := []) (kr := 186) (k_X9_readsStair m2   ez10) cl_RX9_91 sv_X9_readsStair ckk_X9_readsStair (tk_186 _) ⟨by decide, by decide⟩ (Nat.le_of_ble_eq_true rfl) ⟨Nat.zero_le _, Nat.zero_le _⟩ rfl dX9_readsItem_61 rfl ?_
    obtain ⟨y11, ey11, hS⟩ := ob hS
    obtain rfl := Option.some.inj hS
    exact gs_zret ey11 rfl dX9_readsItem_64
  replace hS := (if_neg hs9).symm.trans hS
  by_cases hs12 : x1 = (116 : Int32)
  · replace hS := (if_pos hs12).symm.trans hS
    refine gs_lookup hs12 77 dX9_readsItem_18 (by decide) rfl (by decide) ?_
    refine g_aload_n (j := 1) (x := base + 186) dX9_readsItem_77 rfl rfl ?_
    refine g_iconst (v := 2) dX9_readsItem_78 (by decide) ?_
    refine g_iconst (v := 3) dX9_readsItem_79 (by decide) ?_
    obtain ⟨z13, ez13, hS⟩ := ob hS
    refine gs_callVi (As := [.int ((2 : Int32)), .int ((3 : Int32))]) (st := []) (kr := 186) (k_X9_once m2 ((2 : Int32)) ((3 : Int32))  ez13) cl_RX9_97 sv_X9_once ckk_X9_once (tk_186 _) ⟨by decide, by decide⟩ (Nat.le_of_ble_eq_true rfl) ⟨Nat.zero_le _, Nat.zero_le _⟩ rfl dX9_readsItem_80 rfl ?_
    obtain ⟨y14, ey14, hS⟩ := ob hS
    obtain rfl := Option.some.inj hS
    exact gs_zret ey14 rfl dX9_readsItem_83
  replace hS := (if_neg hs12).symm.trans hS
  refine gs_lookupOut 84 dX9_readsItem_18 (by decide) (fun q hq => by simp only [List.mem_cons, List.not_mem_nil, or_false] at hq; rcases hq with rfl | rfl | rfl | rfl <;> assumption) (by decide) ?_
  refine g_iconst (v := 0) dX9_readsItem_84 (by decide) ?_
  obtain rfl := Option.some.inj hS
  exact g_zret (v := (0 : Int32)) rfl rfl dX9_readsItem_85
def f_X9_readsItem (μ : Mem)  : Option (Int32 × Mem) :=
  if (gi μ 186 9) = (1 : Int32) then (
    f_X9_readsItem_j16 μ ((gi μ 186 11))
  ) else (
    f_X9_readsItem_j16 μ ((0 : Int32))
  )
set_option maxRecDepth 100000 in
set_option maxHeartbeats 4000000 in
theorem k_X9_readsItem {l : Launch} {D : va_G} {cy : Nat → ClassId} {base : Nat} (μ : Mem)   {out : Int32 × Mem} (hS : f_X9_readsItem μ  = some out) : gC l D cy base yX9_readsItem cX9_readsItem 2 (some .boolean) 5 [.ref (base + 186)] μ (some (.int out.1)) out.2 := by
  refine gC_of (own := RX9) (lv0 := [(0, .ref (base + 186))]) rfl (by decide) (Nat.le_of_ble_eq_true rfl) rfl ?_
  unfold f_X9_readsItem at hS
  refine g_aload_n (j := 0) (x := base + 186) dX9_readsItem_0 rfl rfl ?_
  refine gs_getI lk_RX9_79 (tk_186 _) rfl dX9_readsItem_1 ?_
  refine g_iconst (v := 1) dX9_readsItem_4 (by decide) ?_
  refine g_icmp_ne 15 dX9_readsItem_5 (by decide) (fun hc => ?_) (fun hc => ?_)
  · replace hS := (if_neg hc).symm.trans hS
    refine g_iconst (v := 0) dX9_readsItem_15 (by decide) ?_
    exact k_X9_readsItem_j16 (μ) ((0 : Int32))  hS
  · replace hS := (if_pos hc).symm.trans hS
    refine g_aload_n (j := 0) (x := base + 186) dX9_readsItem_8 rfl rfl ?_
    refine gs_getI lk_RX9_82 (tk_186 _) rfl dX9_readsItem_9 ?_
    refine g_goto 16 dX9_readsItem_12 (by decide) ?_
    exact k_X9_readsItem_j16 (μ) ((gi μ 186 11))  hS

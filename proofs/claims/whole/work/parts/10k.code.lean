def f_X5_goOn_j55 (rec : Mem → Int32 → Int32 → Option (Mem)) (m8 : Mem) (x3 : Int32) (x4 : Int32) (x5 : Int32) (x6 : Int32) (x7 : Int32) : Option ((Int32 × Mem) ⊕ ((Mem))) :=
  if x7 = (0 : Int32) then (
    some (.inl (((x6 + (1 : Int32))), (m8)))
  ) else (
    (f_X8_bondAt m8 (x5) (x6)).bind fun y9 =>
    (ldA m8 166 49 (y9)).bind fun y10 =>
    if y10 ≤ (0 : Int32) then (
      some (.inl (((x6 + (1 : Int32))), (m8)))
    ) else (
      (stA m8 167 7 (x3) (x6)).bind fun m11 =>
      (rec m11 ((x3 + (1 : Int32))) ((x4 ||| ((1 : Int32) <<< (x6 &&& 31))))).bind fun m13 =>
      some (.inl (((x6 + (1 : Int32))), (m13)))
    )
  )
set_option maxRecDepth 100000 in
set_option maxHeartbeats 4000000 in
theorem k_X5_goOn_j55 {l : Launch} {D : va_G} {cy : Nat → ClassId} {base : Nat} {X : gX} {Z : gZ} {d0 : Nat} (hd0 : 3 ≤ d0) (rec : Mem → Int32 → Int32 → Option (Mem)) (hrec : ∀ (μ : Mem) (b1 : Int32) (b2 : Int32) (out : Mem), rec μ b1 b2 = some out → gC l D cy base yX5_goOn cX5_goOn 6 none d0 [.ref (base + 165), .int b1, .int b2] μ none out) (m8 : Mem) (x3 : Int32) (x4 : Int32) (x5 : Int32) (x6 : Int32) (x7 : Int32)  {r : (Int32 × Mem) ⊕ ((Mem))} (hS : f_X5_goOn_j55 rec m8 x3 x4 x5 x6 x7 = some r) (hin : ∀ v2, r = .inl v2 → G l D cy base RX5 cX5_goOn 6 none (gRm (d0 + 1)) X Z 32 [(0, .ref (base + 165)), (1, .int (x3)), (2, .int (x4)), (3, .int (x5)), (4, .int (v2.1))] [] 0 0 gNN (gH cy base v2.2)) (hout0 : ∀ x, r = .inr x → G l D cy base RX5 cX5_goOn 6 none (gRm (d0 + 1)) X Z 103 [] [] 0 0 gNN (gH cy base x)) : G l D cy base RX5 cX5_goOn 6 none (gRm (d0 + 1)) X Z 55 [(0, .ref (base + 165)), (1, .int (x3)), (2, .int (x4)), (3, .int (x5)), (4, .int (x6))] [.int (x7)] 0 0 gNN (gH cy base m8) := by
  unfold f_X5_goOn_j55 at hS
  refine g_istore (lvx := [(5, .int (x7)), (0, .ref (base + 165)), (1, .int (x3)), (2, .int (x4)), (3, .int (x5)), (4, .int (x6))]) dX5_goOn_55 (by decide) rfl ?_
  refine g_iload (j := 0) (x := x7) dX5_goOn_57 rfl ?_
  refine g_if_eq 97 dX5_goOn_59 (by decide) (fun hc => ?_) (fun hc => ?_)
  · replace hS := (if_pos hc).symm.trans hS
    refine g_iinc (j := 5) (x := x6) (v := (x6 + (1 : Int32))) (lvx := [(4, .int ((x6 + (1 : Int32)))), (5, .int (x7)), (0, .ref (base + 165)), (1, .int (x3)), (2, .int (x4)), (3, .int (x5))]) dX5_goOn_97 rfl rfl (by decide) rfl ?_
    refine g_goto 32 dX5_goOn_100 (by decide) ?_
    refine g_sub (lvx := [(0, .ref (base + 165)), (1, .int (x3)), (2, .int (x4)), (3, .int (x5)), (4, .int ((x6 + (1 : Int32))))]) [2, 3, 4, 5, 0] rfl ?_
    obtain rfl := Option.some.inj hS
    exact hin ((((x6 + (1 : Int32))), (m8))) rfl
  · replace hS := (if_neg hc).symm.trans hS
    refine g_aload_n (j := 1) (x := base + 165) dX5_goOn_62 rfl rfl ?_
    refine gs_getR (r := 166) lk_RX5_9 (tk_165 _) rfl dX5_goOn_63 ?_
    refine g_iload_n (j := 4) (x := x5) dX5_goOn_66 rfl rfl ?_
    refine g_iload (j := 5) (x := x6) dX5_goOn_67 rfl ?_
    obtain ⟨y9, ey9, hS⟩ := ob hS
    refine gs_callSNi (As := [.int (x5), .int (x6)]) (st := [.ref (base + 166)]) (k_X8_bondAt m8 (x5) (x6)  ey9) cn_RX5_41 sv_X8_bondAt (gCr_le (by omega) (by decide)) (Nat.le_of_ble_eq_true rfl) ⟨Nat.zero_le _, Nat.zero_le _⟩ rfl dX5_goOn_69 rfl ?_
    obtain ⟨y10, ey10, hS⟩ := ob hS
    refine gs_iald (tk_166 _) dX5_goOn_72 ey10 ?_
    refine g_if_le 97 dX5_goOn_73 (by decide) (fun hc => ?_) (fun hc => ?_)
    · replace hS := (if_pos hc).symm.trans hS
      refine g_iinc (j := 5) (x := x6) (v := (x6 + (1 : Int32))) (lvx := [(4, .int ((x6 + (1 : Int32)))), (5, .int (x7)), (0, .ref (base + 165)), (1, .int (x3)), (2, .int (x4)), (3, .int (x5))]) dX5_goOn_97 rfl rfl (by decide) rfl ?_
      refine g_goto 32 dX5_goOn_100 (by decide) ?_
      refine g_sub (lvx := [(0, .ref (base + 165)), (1, .int (x3)), (2, .int (x4)), (3, .int (x5)), (4, .int ((x6 + (1 : Int32))))]) [2, 3, 4, 5, 0] rfl ?_
      obtain rfl := Option.some.inj hS
      exact hin ((((x6 + (1 : Int32))), (m8))) rfl
    · replace hS := (if_neg hc).symm.trans hS
      refine g_aload_n (j := 1) (x := base + 165) dX5_goOn_76 rfl rfl ?_
      refine gs_getR (r := 167) lk_RX5_15 (tk_165 _) rfl dX5_goOn_77 ?_
      refine g_iload_n (j := 2) (x := x3) dX5_goOn_80 rfl rfl ?_
      refine g_iload (j := 5) (x := x6) dX5_goOn_81 rfl ?_
      obtain ⟨m11, em11, hS⟩ := ob hS
      refine gs_iast (tk_167 _) dX5_goOn_83 em11 ?_
      refine g_aload_n (j := 1) (x := base + 165) dX5_goOn_84 rfl rfl ?_
      refine g_iload_n (j := 2) (x := x3) dX5_goOn_85 rfl rfl ?_
      refine g_iconst (v := 1) dX5_goOn_86 (by decide) ?_
      refine g_iadd dX5_goOn_87 ?_
      refine g_iload_n (j := 3) (x := x4) dX5_goOn_88 rfl rfl ?_
      refine g_iconst (v := 1) dX5_goOn_89 (by decide) ?_
      refine g_iload (j := 5) (x := x6) dX5_goOn_90 rfl ?_
      refine g_ishl dX5_goOn_92 ?_
      refine g_ior dX5_goOn_93 ?_
      obtain ⟨m13, em13, hS⟩ := ob hS
      refine gs_callSv (As := [.ref (base + 165), .int ((x3 + (1 : Int32))), .int ((x4 ||| ((1 : Int32) <<< (x6 &&& 31))))]) (st := []) (hrec m11 ((x3 + (1 : Int32))) ((x4 ||| ((1 : Int32) <<< (x6 &&& 31)))) _  em13) cl_RX5_34 sv_X5_goOn (gCr_le (Nat.le_refl _) (by decide)) (Nat.le_of_ble_eq_true rfl) ⟨Nat.zero_le _, Nat.zero_le _⟩ rfl dX5_goOn_94 rfl ?_
      refine g_iinc (j := 5) (x := x6) (v := (x6 + (1 : Int32))) (lvx := [(4, .int ((x6 + (1 : Int32)))), (5, .int (x7)), (0, .ref (base + 165)), (1, .int (x3)), (2, .int (x4)), (3, .int (x5))]) dX5_goOn_97 rfl rfl (by decide) rfl ?_
      refine g_goto 32 dX5_goOn_100 (by decide) ?_
      refine g_sub (lvx := [(0, .ref (base + 165)), (1, .int (x3)), (2, .int (x4)), (3, .int (x5)), (4, .int ((x6 + (1 : Int32))))]) [2, 3, 4, 5, 0] rfl ?_
      obtain rfl := Option.some.inj hS
      exact hin ((((x6 + (1 : Int32))), (m13))) rfl
def f_X5_goOn_b32 (rec : Mem → Int32 → Int32 → Option (Mem)) (x3 : Int32) (x4 : Int32) (x5 : Int32) (v : Int32 × Mem) : Option ((Int32 × Mem) ⊕ ((Mem))) :=
  if (gi v.2 165 3) ≤ v.1 then (
    some (.inr (v.2))
  ) else (
    if (x4 &&& ((1 : Int32) <<< (v.1 &&& 31))) = (0 : Int32) then (
      f_X5_goOn_j55 rec v.2 x3 x4 x5 (v.1) ((1 : Int32))
    ) else (
      f_X5_goOn_j55 rec v.2 x3 x4 x5 (v.1) ((0 : Int32))
    )
  )
set_option maxRecDepth 100000 in
set_option maxHeartbeats 4000000 in
theorem k_X5_goOn_b32 {l : Launch} {D : va_G} {cy : Nat → ClassId} {base : Nat} {X : gX} {Z : gZ} {d0 : Nat} (hd0 : 3 ≤ d0) (rec : Mem → Int32 → Int32 → Option (Mem)) (hrec : ∀ (μ : Mem) (b1 : Int32) (b2 : Int32) (out : Mem), rec μ b1 b2 = some out → gC l D cy base yX5_goOn cX5_goOn 6 none d0 [.ref (base + 165), .int b1, .int b2] μ none out) (x3 : Int32) (x4 : Int32) (x5 : Int32)  (v : Int32 × Mem) (r : (Int32 × Mem) ⊕ ((Mem))) (hS : f_X5_goOn_b32 rec x3 x4 x5 v = some r) (hin : ∀ v2, r = .inl v2 → G l D cy base RX5 cX5_goOn 6 none (gRm (d0 + 1)) X Z 32 [(0, .ref (base + 165)), (1, .int (x3)), (2, .int (x4)), (3, .int (x5)), (4, .int (v2.1))] [] 0 0 gNN (gH cy base v2.2)) (hout0 : ∀ x, r = .inr x → G l D cy base RX5 cX5_goOn 6 none (gRm (d0 + 1)) X Z 103 [] [] 0 0 gNN (gH cy base x)) : G l D cy base RX5 cX5_goOn 6 none (gRm (d0 + 1)) X Z 32 [(0, .ref (base + 165)), (1, .int (x3)), (2, .int (x4)), (3, .int (x5)), (4, .int (v.1))] [] 0 0 gNN (gH cy base v.2) := by
  unfold f_X5_goOn_b32 at hS
  refine g_iload (j := 4) (x := v.1) dX5_goOn_32 rfl ?_
  refine g_aload_n (j := 0) (x := base + 165) dX5_goOn_34 rfl rfl ?_
  refine gs_getI lk_RX5_22 (tk_165 _) rfl dX5_goOn_35 ?_
  refine g_icmp_ge 103 dX5_goOn_38 (by decide) (fun hc => ?_) (fun hc => ?_)
  · replace hS := (if_pos hc).symm.trans hS
    refine g_sub (lvx := []) [] rfl ?_
    obtain rfl := Option.some.inj hS
    exact hout0 ((v.2)) rfl
  · replace hS := (if_neg hc).symm.trans hS
    refine g_iload_n (j := 2) (x := x4) dX5_goOn_41 rfl rfl ?_
    refine g_iconst (v := 1) dX5_goOn_42 (by decide) ?_
    refine g_iload (j := 4) (x := v.1) dX5_goOn_43 rfl ?_
    refine g_ishl dX5_goOn_45 ?_
    refine g_iand dX5_goOn_46 ?_
    refine g_if_ne 54 dX5_goOn_47 (by decide) (fun hc => ?_) (fun hc => ?_)
    · replace hS := (if_neg hc).symm.trans hS
      refine g_iconst (v := 0) dX5_goOn_54 (by decide) ?_
      exact k_X5_goOn_j55 hd0 rec hrec (v.2) x3 x4 x5 (v.1) ((0 : Int32))  hS hin hout0
    · replace hS := (if_pos hc).symm.trans hS
      refine g_iconst (v := 1) dX5_goOn_50 (by decide) ?_
      refine g_goto 55 dX5_goOn_51 (by decide) ?_
      exact k_X5_goOn_j55 hd0 rec hrec (v.2) x3 x4 x5 (v.1) ((1 : Int32))  hS hin hout0
def f_X5_goOn_s (rec : Mem → Int32 → Int32 → Option (Mem)) (μ : Mem) (a1 : Int32) (a2 : Int32) : Option (Mem) :=
  if a1 < (gi μ 165 2) then (
    (ldA μ 167 7 ((a1 - (1 : Int32)))).bind fun y1 =>
    (ldA μ 167 7 ((0 : Int32))).bind fun y2 =>
    (iter gFU (f_X5_goOn_b32 rec  (a1) (a2) (y1)) (((y2 + (1 : Int32))), μ)).bind fun z16 =>
    some z16
  ) else (
    (f_X5_strikeRow μ ).bind fun m18 =>
    some m18
  )
set_option maxRecDepth 100000 in
set_option maxHeartbeats 4000000 in
theorem k_X5_goOn_s {l : Launch} {D : va_G} {cy : Nat → ClassId} {base : Nat} {d0 : Nat} (hd0 : 3 ≤ d0) (rec : Mem → Int32 → Int32 → Option (Mem)) (hrec : ∀ (μ : Mem) (b1 : Int32) (b2 : Int32) (out : Mem), rec μ b1 b2 = some out → gC l D cy base yX5_goOn cX5_goOn 6 none d0 [.ref (base + 165), .int b1, .int b2] μ none out) (μ : Mem) (a1 : Int32) (a2 : Int32)  {out : Mem} (hS : f_X5_goOn_s rec μ a1 a2 = some out) : gC l D cy base yX5_goOn cX5_goOn 6 none (d0 + 1) [.ref (base + 165), .int (a1), .int (a2)] μ none out := by
  refine gC_of (own := RX5) (lv0 := [(0, .ref (base + 165)), (1, .int (a1)), (2, .int (a2))]) rfl (by decide) (Nat.le_of_ble_eq_true rfl) rfl ?_
  unfold f_X5_goOn_s at hS
  refine g_iload_n (j := 1) (x := a1) dX5_goOn_0 rfl rfl ?_
  refine g_aload_n (j := 0) (x := base + 165) dX5_goOn_1 rfl rfl ?_
  refine gs_getI lk_RX5_18 (tk_165 _) rfl dX5_goOn_2 ?_
  refine g_icmp_lt 13 dX5_goOn_5 (by decide) (fun hc => ?_) (fun hc => ?_)
  · replace hS := (if_pos hc).symm.trans hS
    refine g_aload_n (j := 0) (x := base + 165) dX5_goOn_13 rfl rfl ?_
    refine gs_getR (r := 167) lk_RX5_15 (tk_165 _) rfl dX5_goOn_14 ?_
    refine g_iload_n (j := 1) (x := a1) dX5_goOn_17 rfl rfl ?_
    refine g_iconst (v := 1) dX5_goOn_18 (by decide) ?_
    refine g_isub dX5_goOn_19 ?_
    obtain ⟨y1, ey1, hS⟩ := ob hS
    refine gs_iald (tk_167 _) dX5_goOn_20 ey1 ?_
    refine g_istore_n (lvx := [(3, .int (y1)), (0, .ref (base + 165)), (1, .int (a1)), (2, .int (a2))]) dX5_goOn_21 rfl (by decide) rfl ?_
    refine g_aload_n (j := 1) (x := base + 165) dX5_goOn_22 rfl rfl ?_
    refine gs_getR (r := 167) lk_RX5_15 (tk_165 _) rfl dX5_goOn_23 ?_
    refine g_iconst (v := 0) dX5_goOn_26 (by decide) ?_
    obtain ⟨y2, ey2, hS⟩ := ob hS
    refine gs_iald (tk_167 _) dX5_goOn_27 ey2 ?_
    refine g_iconst (v := 1) dX5_goOn_28 (by decide) ?_
    refine g_iadd dX5_goOn_29 ?_
    refine g_istore (lvx := [(4, .int ((y2 + (1 : Int32)))), (3, .int (y1)), (0, .ref (base + 165)), (1, .int (a1)), (2, .int (a2))]) dX5_goOn_30 (by decide) rfl ?_
    obtain ⟨z16, ez16, hS⟩ := ob hS
    refine g_sub (lvx := [(0, .ref (base + 165)), (1, .int (a1)), (2, .int (a2)), (3, .int (y1)), (4, .int ((y2 + (1 : Int32))))]) [2, 3, 4, 1, 0] rfl ?_
    refine iter_ind (fun vv => G l D cy base RX5 cX5_goOn 6 none (gRm (d0 + 1)) (gXm yX5_goOn) (gZm D cy base 0 0 none gNN (gH cy base out)) 32 [(0, .ref (base + 165)), (1, .int (a1)), (2, .int (a2)), (3, .int (y1)), (4, .int (vv.1))] [] 0 0 gNN (gH cy base vv.2)) (fun xx => G l D cy base RX5 cX5_goOn 6 none (gRm (d0 + 1)) (gXm yX5_goOn) (gZm D cy base 0 0 none gNN (gH cy base out)) 103 [] [] 0 0 gNN (gH cy base xx)) (fun vv rr hh hin hout => k_X5_goOn_b32 hd0 rec hrec  (a1) (a2) (y1)  vv rr hh hin (fun xx ee => hout xx ee)) gFU (((y2 + (1 : Int32))), μ) z16 ez16 ?_
    show G l D cy base RX5 cX5_goOn 6 none (gRm (d0 + 1)) (gXm yX5_goOn) (gZm D cy base 0 0 none gNN (gH cy base out)) 103 [] [] 0 0 gNN (gH cy base z16)
    obtain rfl := Option.some.inj hS
    exact g_vret rfl dX5_goOn_103
  · replace hS := (if_neg hc).symm.trans hS
    refine g_aload_n (j := 0) (x := base + 165) dX5_goOn_8 rfl rfl ?_
    obtain ⟨m18, em18, hS⟩ := ob hS
    refine gs_callVv (As := []) (st := []) (kr := 165) (k_X5_strikeRow μ   em18) cl_RX5_38 sv_X5_strikeRow ckk_X5_strikeRow (tk_165 _) (gCr_le (by omega) (by decide)) (Nat.le_of_ble_eq_true rfl) ⟨Nat.zero_le _, Nat.zero_le _⟩ rfl dX5_goOn_9 rfl ?_
    obtain rfl := Option.some.inj hS
    exact g_vret rfl dX5_goOn_12
def f_X5_goOn : Nat → Mem → Int32 → Int32 → Option (Mem)
  | 0 => fun _ _ _ => none
  | n + 1 => f_X5_goOn_s (f_X5_goOn n)
theorem k_X5_goOn {l : Launch} {D : va_G} {cy : Nat → ClassId} {base : Nat} : ∀ (n : Nat) (μ : Mem) (a1 : Int32) (a2 : Int32)  {out : Mem} (_ : f_X5_goOn n μ a1 a2 = some out), gC l D cy base yX5_goOn cX5_goOn 6 none (3 + n) [.ref (base + 165), .int (a1), .int (a2)] μ none out
  | 0, μ, a1, a2, out, hS => by cases hS
  | n + 1, μ, a1, a2, out, hS => k_X5_goOn_s (d0 := 3 + n) (Nat.le_add_right _ _) (f_X5_goOn n) (fun μ b0 b1 out  e => k_X5_goOn n μ b0 b1  e) μ a1 a2 hS
def f_X5_strikeAll_b40 (x6 : Int32) (x7 : Int32) (v : Int32 × Mem) : Option ((Int32 × Mem) ⊕ ((Mem))) :=
  if x6 ≤ v.1 then (
    some (.inr (v.2))
  ) else (
    (stA v.2 167 7 ((0 : Int32)) (v.1)).bind fun m8 =>
    (f_X5_goOn 9 m8 ((1 : Int32)) (((1 : Int32) <<< (v.1 &&& 31)))).bind fun m10 =>
    some (.inl (((v.1 + (1 : Int32))), (m10)))
  )
set_option maxRecDepth 100000 in
set_option maxHeartbeats 4000000 in
theorem k_X5_strikeAll_b40 {l : Launch} {D : va_G} {cy : Nat → ClassId} {base : Nat} {X : gX} {Z : gZ} (x6 : Int32) (x7 : Int32)  (v : Int32 × Mem) (r : (Int32 × Mem) ⊕ ((Mem))) (hS : f_X5_strikeAll_b40 x6 x7 v = some r) (hin : ∀ v2, r = .inl v2 → G l D cy base RX5 cX5_strikeAll 5 (some .int) (gRm 13) X Z 40 [(0, .ref (base + 165)), (2, .int (x6)), (3, .int (x7)), (4, .int (v2.1))] [] 0 0 gNN (gH cy base v2.2)) (hout0 : ∀ x, r = .inr x → G l D cy base RX5 cX5_strikeAll 5 (some .int) (gRm 13) X Z 69 [(0, .ref (base + 165)), (2, .int (x6)), (3, .int (x7))] [] 0 0 gNN (gH cy base x)) : G l D cy base RX5 cX5_strikeAll 5 (some .int) (gRm 13) X Z 40 [(0, .ref (base + 165)), (2, .int (x6)), (3, .int (x7)), (4, .int (v.1))] [] 0 0 gNN (gH cy base v.2) := by
  unfold f_X5_strikeAll_b40 at hS
  refine g_iload (j := 3) (x := v.1) dX5_strikeAll_40 rfl ?_
  refine g_iload_n (j := 1) (x := x6) dX5_strikeAll_42 rfl rfl ?_
  refine g_icmp_ge 69 dX5_strikeAll_43 (by decide) (fun hc => ?_) (fun hc => ?_)
  · replace hS := (if_pos hc).symm.trans hS
    refine g_sub (lvx := [(0, .ref (base + 165)), (2, .int (x6)), (3, .int (x7))]) [0, 1, 2] rfl ?_
    obtain rfl := Option.some.inj hS
    exact hout0 ((v.2)) rfl
  · replace hS := (if_neg hc).symm.trans hS
    refine g_aload_n (j := 0) (x := base + 165) dX5_strikeAll_46 rfl rfl ?_
    refine gs_getR (r := 167) lk_RX5_15 (tk_165 _) rfl dX5_strikeAll_47 ?_
    refine g_iconst (v := 0) dX5_strikeAll_50 (by decide) ?_
    refine g_iload (j := 3) (x := v.1) dX5_strikeAll_51 rfl ?_
    obtain ⟨m8, em8, hS⟩ := ob hS
    refine gs_iast (tk_167 _) dX5_strikeAll_53 em8 ?_
    refine g_aload_n (j := 0) (x := base + 165) dX5_strikeAll_54 rfl rfl ?_
    refine g_iconst (v := 1) dX5_strikeAll_55 (by decide) ?_
    refine g_iconst (v := 1) dX5_strikeAll_56 (by decide) ?_
    refine g_iload (j := 3) (x := v.1) dX5_strikeAll_57 rfl ?_
    refine g_ishl dX5_strikeAll_59 ?_
    obtain ⟨m10, em10, hS⟩ := ob hS
    refine gs_callSv (As := [.ref (base + 165), .int ((1 : Int32)), .int (((1 : Int32) <<< (v.1 &&& 31)))]) (st := []) (k_X5_goOn 9 m8 ((1 : Int32)) (((1 : Int32) <<< (v.1 &&& 31)))  em10) cl_RX5_34 sv_X5_goOn ⟨by decide, by decide⟩ (Nat.le_of_ble_eq_true rfl) ⟨Nat.zero_le _, Nat.zero_le _⟩ rfl dX5_strikeAll_60 rfl ?_
    refine g_iinc (j := 3) (x := v.1) (v := (v.1 + (1 : Int32))) (lvx := [(4, .int ((v.1 + (1 : Int32)))), (0, .ref (base + 165)), (2, .int (x6)), (3, .int (x7))]) dX5_strikeAll_63 rfl rfl (by decide) rfl ?_
    refine g_goto 40 dX5_strikeAll_66 (by decide) ?_
    refine g_sub (lvx := [(0, .ref (base + 165)), (2, .int (x6)), (3, .int (x7)), (4, .int ((v.1 + (1 : Int32))))]) [1, 2, 3, 0] rfl ?_
    obtain rfl := Option.some.inj hS
    exact hin ((((v.1 + (1 : Int32))), (m10))) rfl
def f_X5_strikeAll_b27 (x4 : Int32) (v : Int32 × Mem) : Option ((Int32 × Mem) ⊕ ((Mem))) :=
  if x4 < v.1 then (
    some (.inr (v.2))
  ) else (
    (stI v.2 165 2 (v.1)).bind fun m5 =>
    (iter gFU (f_X5_strikeAll_b40  (x4) (v.1)) (((0 : Int32)), m5)).bind fun z11 =>
    some (.inl (((v.1 + (1 : Int32))), (z11)))
  )
set_option maxRecDepth 100000 in
set_option maxHeartbeats 4000000 in
theorem k_X5_strikeAll_b27 {l : Launch} {D : va_G} {cy : Nat → ClassId} {base : Nat} {X : gX} {Z : gZ} (x4 : Int32)  (v : Int32 × Mem) (r : (Int32 × Mem) ⊕ ((Mem))) (hS : f_X5_strikeAll_b27 x4 v = some r) (hin : ∀ v2, r = .inl v2 → G l D cy base RX5 cX5_strikeAll 5 (some .int) (gRm 13) X Z 27 [(0, .ref (base + 165)), (2, .int (x4)), (3, .int (v2.1))] [] 0 0 gNN (gH cy base v2.2)) (hout0 : ∀ x, r = .inr x → G l D cy base RX5 cX5_strikeAll 5 (some .int) (gRm 13) X Z 75 [(0, .ref (base + 165))] [] 0 0 gNN (gH cy base x)) : G l D cy base RX5 cX5_strikeAll 5 (some .int) (gRm 13) X Z 27 [(0, .ref (base + 165)), (2, .int (x4)), (3, .int (v.1))] [] 0 0 gNN (gH cy base v.2) := by
  unfold f_X5_strikeAll_b27 at hS
  refine g_iload_n (j := 2) (x := v.1) dX5_strikeAll_27 rfl rfl ?_
  refine g_iload_n (j := 1) (x := x4) dX5_strikeAll_28 rfl rfl ?_
  refine g_icmp_gt 75 dX5_strikeAll_29 (by decide) (fun hc => ?_) (fun hc => ?_)
  · replace hS := (if_pos hc).symm.trans hS
    refine g_sub (lvx := [(0, .ref (base + 165))]) [0] rfl ?_
    obtain rfl := Option.some.inj hS
    exact hout0 ((v.2)) rfl
  · replace hS := (if_neg hc).symm.trans hS
    refine g_aload_n (j := 0) (x := base + 165) dX5_strikeAll_32 rfl rfl ?_
    refine g_iload_n (j := 2) (x := v.1) dX5_strikeAll_33 rfl rfl ?_
    obtain ⟨m5, em5, hS⟩ := ob hS
    refine gs_putI lw_RX5_18 (tk_165 _) rfl rfl rfl dX5_strikeAll_34 em5 ?_
    refine g_iconst (v := 0) dX5_strikeAll_37 (by decide) ?_
    refine g_istore (lvx := [(4, .int ((0 : Int32))), (0, .ref (base + 165)), (2, .int (x4)), (3, .int (v.1))]) dX5_strikeAll_38 (by decide) rfl ?_
    obtain ⟨z11, ez11, hS⟩ := ob hS
    refine g_sub (lvx := [(0, .ref (base + 165)), (2, .int (x4)), (3, .int (v.1)), (4, .int ((0 : Int32)))]) [1, 2, 3, 0] rfl ?_
    refine iter_ind (fun vv => G l D cy base RX5 cX5_strikeAll 5 (some .int) (gRm 13) X Z 40 [(0, .ref (base + 165)), (2, .int (x4)), (3, .int (v.1)), (4, .int (vv.1))] [] 0 0 gNN (gH cy base vv.2)) (fun xx => G l D cy base RX5 cX5_strikeAll 5 (some .int) (gRm 13) X Z 69 [(0, .ref (base + 165)), (2, .int (x4)), (3, .int (v.1))] [] 0 0 gNN (gH cy base xx)) (fun vv rr hh hin hout => k_X5_strikeAll_b40  (x4) (v.1)  vv rr hh hin (fun xx ee => hout xx ee)) gFU (((0 : Int32)), m5) z11 ez11 ?_
    show G l D cy base RX5 cX5_strikeAll 5 (some .int) (gRm 13) X Z 69 [(0, .ref (base + 165)), (2, .int (x4)), (3, .int (v.1))] [] 0 0 gNN (gH cy base z11)
    refine g_iinc (j := 2) (x := v.1) (v := (v.1 + (1 : Int32))) (lvx := [(3, .int ((v.1 + (1 : Int32)))), (0, .ref (base + 165)), (2, .int (x4))]) dX5_strikeAll_69 rfl rfl (by decide) rfl ?_
    refine g_goto 27 dX5_strikeAll_72 (by decide) ?_
    refine g_sub (lvx := [(0, .ref (base + 165)), (2, .int (x4)), (3, .int ((v.1 + (1 : Int32))))]) [1, 2, 0] rfl ?_
    obtain rfl := Option.some.inj hS
    exact hin ((((v.1 + (1 : Int32))), (z11))) rfl
def f_X5_strikeAll (μ : Mem) (q1a n1a : Nat) (a2 : Int32) : Option (Int32 × Mem) :=
  (cpA μ q1a n1a ((0 : Int32)) 166 49 ((0 : Int32)) ((Int32.ofNat 49))).bind fun m1 =>
  (stI m1 165 3 (a2)).bind fun m2 =>
  (stI m2 165 4 ((0 : Int32))).bind fun m3 =>
  (iter gFU (f_X5_strikeAll_b27  (a2)) (((2 : Int32)), m3)).bind fun z12 =>
  some ((gi z12 165 4), z12)
set_option maxRecDepth 100000 in
set_option maxHeartbeats 4000000 in
theorem k_X5_strikeAll {l : Launch} {D : va_G} {cy : Nat → ClassId} {base : Nat} (μ : Mem) (q1a n1a : Nat) (a2 : Int32) (hq1a : ∀ μ, gTk μ q1a (.inr (0, n1a, 0))) {out : Int32 × Mem} (hS : f_X5_strikeAll μ q1a n1a a2 = some out) : gC l D cy base yX5_strikeAll cX5_strikeAll 5 (some .int) 13 [.ref (base + 165), .ref (base + q1a), .int (a2)] μ (some (.int out.1)) out.2 := by
  refine gC_of (own := RX5) (lv0 := [(0, .ref (base + 165)), (1, .ref (base + q1a)), (2, .int (a2))]) rfl (by decide) (Nat.le_of_ble_eq_true rfl) rfl ?_
  unfold f_X5_strikeAll at hS
  refine g_aload_n (j := 1) (x := base + q1a) dX5_strikeAll_0 rfl rfl ?_
  refine g_iconst (v := 0) dX5_strikeAll_1 (by decide) ?_
  refine g_aload_n (j := 0) (x := base + 165) dX5_strikeAll_2 rfl rfl ?_
  refine gs_getR (r := 166) lk_RX5_9 (tk_165 _) rfl dX5_strikeAll_3 ?_
  refine g_iconst (v := 0) dX5_strikeAll_6 (by decide) ?_
  refine g_aload_n (j := 0) (x := base + 165) dX5_strikeAll_7 rfl rfl ?_
  refine gs_getR (r := 166) lk_RX5_9 (tk_165 _) rfl dX5_strikeAll_8 ?_
  refine gs_alen (tk_166 _) rfl dX5_strikeAll_11 ?_
  obtain ⟨m1, em1, hS⟩ := ob hS
  refine gs_copy cp_RX5_28 (hq1a _) (tk_166 _) (by decide) (Nat.le_of_ble_eq_true rfl) dX5_strikeAll_12 em1 ?_
  refine g_aload_n (j := 0) (x := base + 165) dX5_strikeAll_15 rfl rfl ?_
  refine g_iload_n (j := 2) (x := a2) dX5_strikeAll_16 rfl rfl ?_
  obtain ⟨m2, em2, hS⟩ := ob hS
  refine gs_putI lw_RX5_22 (tk_165 _) rfl rfl rfl dX5_strikeAll_17 em2 ?_
  refine g_aload_n (j := 0) (x := base + 165) dX5_strikeAll_20 rfl rfl ?_
  refine g_iconst (v := 0) dX5_strikeAll_21 (by decide) ?_
  obtain ⟨m3, em3, hS⟩ := ob hS
  refine gs_putI lw_RX5_25 (tk_165 _) rfl rfl rfl dX5_strikeAll_22 em3 ?_
  refine g_iconst (v := 2) dX5_strikeAll_25 (by decide) ?_
  refine g_istore_n (lvx := [(3, .int ((2 : Int32))), (0, .ref (base + 165)), (1, .ref (base + q1a)), (2, .int (a2))]) dX5_strikeAll_26 rfl (by decide) rfl ?_
  obtain ⟨z12, ez12, hS⟩ := ob hS
  refine g_sub (lvx := [(0, .ref (base + 165)), (2, .int (a2)), (3, .int ((2 : Int32)))]) [1, 3, 0] rfl ?_
  refine iter_ind (fun vv => G l D cy base RX5 cX5_strikeAll 5 (some .int) (gRm 13) (gXm yX5_strikeAll) (gZm D cy base 0 0 (some (.int out.1)) gNN (gH cy base out.2)) 27 [(0, .ref (base + 165)), (2, .int (a2)), (3, .int (vv.1))] [] 0 0 gNN (gH cy base vv.2)) (fun xx => G l D cy base RX5 cX5_strikeAll 5 (some .int) (gRm 13) (gXm yX5_strikeAll) (gZm D cy base 0 0 (some (.int out.1)) gNN (gH cy base out.2)) 75 [(0, .ref (base + 165))] [] 0 0 gNN (gH cy base xx)) (fun vv rr hh hin hout => k_X5_strikeAll_b27  (a2)  vv rr hh hin (fun xx ee => hout xx ee)) gFU (((2 : Int32)), m3) z12 ez12 ?_
  show G l D cy base RX5 cX5_strikeAll 5 (some .int) (gRm 13) (gXm yX5_strikeAll) (gZm D cy base 0 0 (some (.int out.1)) gNN (gH cy base out.2)) 75 [(0, .ref (base + 165))] [] 0 0 gNN (gH cy base z12)
  refine g_aload_n (j := 0) (x := base + 165) dX5_strikeAll_75 rfl rfl ?_
  refine gs_getI lk_RX5_25 (tk_165 _) rfl dX5_strikeAll_76 ?_
  obtain rfl := Option.some.inj hS
  exact g_iret rfl dX5_strikeAll_79
def f_X6_accuse_j81 (rec : Mem → Nat → Int32 → Int32 → Int32 → Int32 → Int32 → Option (Mem)) (m13 : Mem) (q1 : Nat) (x2 : Int32) (x3 : Int32) (x4 : Int32) (x5 : Int32) (x6 : Int32) (x9 : Int32) (x10 : Int32) (x11 : Int32) (x12 : Int32) : Option ((Int32 × Mem) ⊕ ((Mem))) :=
  (rec m13 (q1) ((x2 + (1 : Int32))) ((x3 - x9)) (x10) (x11) (x12)).bind fun m15 =>
  some (.inl (((x9 + (1 : Int32))), (m15)))
set_option maxRecDepth 100000 in
set_option maxHeartbeats 4000000 in
theorem k_X6_accuse_j81 {l : Launch} {D : va_G} {cy : Nat → ClassId} {base : Nat} {X : gX} {Z : gZ} {d0 : Nat} (hd0 : 1 ≤ d0) (rec : Mem → Nat → Int32 → Int32 → Int32 → Int32 → Int32 → Option (Mem)) (hrec : ∀ (μ : Mem) (b1 : Nat) (b2 : Int32) (b3 : Int32) (b4 : Int32) (b5 : Int32) (b6 : Int32) (out : Mem), isPl b1 = true → rec μ b1 b2 b3 b4 b5 b6 = some out → gC l D cy base yX6_accuse cX6_accuse 11 none d0 [.ref (base + 168), .ref (base + b1), .int b2, .int b3, .int b4, .int b5, .int b6] μ none out) (m13 : Mem) (q1 : Nat) (x2 : Int32) (x3 : Int32) (x4 : Int32) (x5 : Int32) (x6 : Int32) (x9 : Int32) (x10 : Int32) (x11 : Int32) (x12 : Int32) (hq1 : isPl q1 = true) {r : (Int32 × Mem) ⊕ ((Mem))} (hS : f_X6_accuse_j81 rec m13 q1 x2 x3 x4 x5 x6 x9 x10 x11 x12 = some r) (hin : ∀ v2, r = .inl v2 → G l D cy base RX6 cX6_accuse 11 none (gRm (d0 + 1)) X Z 32 [(0, .ref (base + 168)), (1, .ref (base + q1)), (2, .int (x2)), (3, .int (x3)), (4, .int (x4)), (5, .int (x5)), (6, .int (x6)), (7, .int (v2.1))] [] 0 0 gNN (gH cy base v2.2)) (hout0 : ∀ x, r = .inr x → G l D cy base RX6 cX6_accuse 11 none (gRm (d0 + 1)) X Z 107 [] [] 0 0 gNN (gH cy base x)) : G l D cy base RX6 cX6_accuse 11 none (gRm (d0 + 1)) X Z 81 [(0, .ref (base + 168)), (1, .ref (base + q1)), (2, .int (x2)), (3, .int (x3)), (4, .int (x4)), (5, .int (x5)), (6, .int (x6)), (7, .int (x9)), (8, .int (x10)), (9, .int (x11))] [.int (x12)] 0 0 gNN (gH cy base m13) := by
  unfold f_X6_accuse_j81 at hS
  refine g_istore (lvx := [(10, .int (x12)), (0, .ref (base + 168)), (1, .ref (base + q1)), (2, .int (x2)), (3, .int (x3)), (4, .int (x4)), (5, .int (x5)), (6, .int (x6)), (7, .int (x9)), (8, .int (x10)), (9, .int (x11))]) dX6_accuse_81 (by decide) rfl ?_
  refine g_aload_n (j := 1) (x := base + 168) dX6_accuse_83 rfl rfl ?_
  refine g_aload_n (j := 2) (x := base + q1) dX6_accuse_84 rfl rfl ?_
  refine g_iload_n (j := 3) (x := x2) dX6_accuse_85 rfl rfl ?_
  refine g_iconst (v := 1) dX6_accuse_86 (by decide) ?_
  refine g_iadd dX6_accuse_87 ?_
  refine g_iload_n (j := 4) (x := x3) dX6_accuse_88 rfl rfl ?_
  refine g_iload (j := 8) (x := x9) dX6_accuse_89 rfl ?_
  refine g_isub dX6_accuse_91 ?_
  refine g_iload (j := 9) (x := x10) dX6_accuse_92 rfl ?_
  refine g_iload (j := 10) (x := x11) dX6_accuse_94 rfl ?_
  refine g_iload (j := 0) (x := x12) dX6_accuse_96 rfl ?_
  obtain ⟨m15, em15, hS⟩ := ob hS
  refine gs_callSv (As := [.ref (base + 168), .ref (base + q1), .int ((x2 + (1 : Int32))), .int ((x3 - x9)), .int (x10), .int (x11), .int (x12)]) (st := []) (hrec m13 (q1) ((x2 + (1 : Int32))) ((x3 - x9)) (x10) (x11) (x12) _ hq1 em15) cl_RX6_25 sv_X6_accuse (gCr_le (Nat.le_refl _) (by decide)) (Nat.le_of_ble_eq_true rfl) ⟨Nat.zero_le _, Nat.zero_le _⟩ rfl dX6_accuse_98 rfl ?_
  refine g_iinc (j := 8) (x := x9) (v := (x9 + (1 : Int32))) (lvx := [(7, .int ((x9 + (1 : Int32)))), (10, .int (x12)), (0, .ref (base + 168)), (1, .ref (base + q1)), (2, .int (x2)), (3, .int (x3)), (4, .int (x4)), (5, .int (x5)), (6, .int (x6)), (8, .int (x10)), (9, .int (x11))]) dX6_accuse_101 rfl rfl (by decide) rfl ?_
  refine g_goto 32 dX6_accuse_104 (by decide) ?_
  refine g_sub (lvx := [(0, .ref (base + 168)), (1, .ref (base + q1)), (2, .int (x2)), (3, .int (x3)), (4, .int (x4)), (5, .int (x5)), (6, .int (x6)), (7, .int ((x9 + (1 : Int32))))]) [2, 3, 4, 5, 6, 7, 8, 0] rfl ?_
  obtain rfl := Option.some.inj hS
  exact hin ((((x9 + (1 : Int32))), (m15))) rfl
def f_X6_accuse_b32 (rec : Mem → Nat → Int32 → Int32 → Int32 → Int32 → Int32 → Option (Mem)) (q1 : Nat) (x2 : Int32) (x3 : Int32) (x4 : Int32) (x5 : Int32) (x6 : Int32) (v : Int32 × Mem) : Option ((Int32 × Mem) ⊕ ((Mem))) :=
  if x3 < v.1 then (
    some (.inr (v.2))
  ) else (
    (f_X3_halvesOf v.2 (q1) (x2)).bind fun y7 =>
    (ldA v.2 (q1 + 7) 5 (x2)).bind fun y8 =>
    if v.1 = (0 : Int32) then (
      f_X6_accuse_j81 rec v.2 q1 x2 x3 x4 x5 x6 (v.1) ((x4 - (v.1 * y7))) ((x5 - (v.1 * y8))) (x6)
    ) else (
      f_X6_accuse_j81 rec v.2 q1 x2 x3 x4 x5 x6 (v.1) ((x4 - (v.1 * y7))) ((x5 - (v.1 * y8))) ((x6 ||| ((1 : Int32) <<< (x2 &&& 31))))
    )
  )
set_option maxRecDepth 100000 in
set_option maxHeartbeats 4000000 in
theorem k_X6_accuse_b32 {l : Launch} {D : va_G} {cy : Nat → ClassId} {base : Nat} {X : gX} {Z : gZ} {d0 : Nat} (hd0 : 1 ≤ d0) (rec : Mem → Nat → Int32 → Int32 → Int32 → Int32 → Int32 → Option (Mem)) (hrec : ∀ (μ : Mem) (b1 : Nat) (b2 : Int32) (b3 : Int32) (b4 : Int32) (b5 : Int32) (b6 : Int32) (out : Mem), isPl b1 = true → rec μ b1 b2 b3 b4 b5 b6 = some out → gC l D cy base yX6_accuse cX6_accuse 11 none d0 [.ref (base + 168), .ref (base + b1), .int b2, .int b3, .int b4, .int b5, .int b6] μ none out) (q1 : Nat) (x2 : Int32) (x3 : Int32) (x4 : Int32) (x5 : Int32) (x6 : Int32) (hq1 : isPl q1 = true) (v : Int32 × Mem) (r : (Int32 × Mem) ⊕ ((Mem))) (hS : f_X6_accuse_b32 rec q1 x2 x3 x4 x5 x6 v = some r) (hin : ∀ v2, r = .inl v2 → G l D cy base RX6 cX6_accuse 11 none (gRm (d0 + 1)) X Z 32 [(0, .ref (base + 168)), (1, .ref (base + q1)), (2, .int (x2)), (3, .int (x3)), (4, .int (x4)), (5, .int (x5)), (6, .int (x6)), (7, .int (v2.1))] [] 0 0 gNN (gH cy base v2.2)) (hout0 : ∀ x, r = .inr x → G l D cy base RX6 cX6_accuse 11 none (gRm (d0 + 1)) X Z 107 [] [] 0 0 gNN (gH cy base x)) : G l D cy base RX6 cX6_accuse 11 none (gRm (d0 + 1)) X Z 32 [(0, .ref (base + 168)), (1, .ref (base + q1)), (2, .int (x2)), (3, .int (x3)), (4, .int (x4)), (5, .int (x5)), (6, .int (x6)), (7, .int (v.1))] [] 0 0 gNN (gH cy base v.2) := by
  unfold f_X6_accuse_b32 at hS
  refine g_iload (j := 7) (x := v.1) dX6_accuse_32 rfl ?_
  refine g_iload_n (j := 3) (x := x3) dX6_accuse_34 rfl rfl ?_
  refine g_icmp_gt 107 dX6_accuse_35 (by decide) (fun hc => ?_) (fun hc => ?_)
  · replace hS := (if_pos hc).symm.trans hS
    refine g_sub (lvx := []) [] rfl ?_
    obtain rfl := Option.some.inj hS
    exact hout0 ((v.2)) rfl
  · replace hS := (if_neg hc).symm.trans hS
    refine g_iload (j := 4) (x := x4) dX6_accuse_38 rfl ?_
    refine g_iload (j := 7) (x := v.1) dX6_accuse_40 rfl ?_
    refine g_aload_n (j := 1) (x := base + q1) dX6_accuse_42 rfl rfl ?_
    refine g_iload_n (j := 2) (x := x2) dX6_accuse_43 rfl rfl ?_
    obtain ⟨y7, ey7, hS⟩ := ob hS
    refine gs_callVi (As := [.int (x2)]) (st := [.int (v.1), .int (x4)]) (kr := q1) (k_X3_halvesOf v.2 (q1) (x2) hq1 ey7) cl_RX6_38 sv_X3_halvesOf ckk_X3_halvesOf (tkPl_0 hq1 _) (gCr_le (by omega) (by decide)) (Nat.le_of_ble_eq_true rfl) ⟨Nat.zero_le _, Nat.zero_le _⟩ rfl dX6_accuse_44 rfl ?_
    refine g_imul dX6_accuse_47 ?_
    refine g_isub dX6_accuse_48 ?_
    refine g_istore (lvx := [(8, .int ((x4 - (v.1 * y7)))), (0, .ref (base + 168)), (1, .ref (base + q1)), (2, .int (x2)), (3, .int (x3)), (4, .int (x4)), (5, .int (x5)), (6, .int (x6)), (7, .int (v.1))]) dX6_accuse_49 (by decide) rfl ?_
    refine g_iload (j := 6) (x := x5) dX6_accuse_51 rfl ?_
    refine g_iload (j := 8) (x := v.1) dX6_accuse_53 rfl ?_
    refine g_aload_n (j := 2) (x := base + q1) dX6_accuse_55 rfl rfl ?_
    refine gs_getR (r := (q1 + 7)) lk_RX6_42 (tkPl_0 hq1 _) rfl dX6_accuse_56 ?_
    refine g_iload_n (j := 3) (x := x2) dX6_accuse_59 rfl rfl ?_
    obtain ⟨y8, ey8, hS⟩ := ob hS
    refine gs_iald (tkPl_7 hq1 _) dX6_accuse_60 ey8 ?_
    refine g_imul dX6_accuse_61 ?_
    refine g_isub dX6_accuse_62 ?_
    refine g_istore (lvx := [(9, .int ((x5 - (v.1 * y8)))), (8, .int ((x4 - (v.1 * y7)))), (0, .ref (base + 168)), (1, .ref (base + q1)), (2, .int (x2)), (3, .int (x3)), (4, .int (x4)), (5, .int (x5)), (6, .int (x6)), (7, .int (v.1))]) dX6_accuse_63 (by decide) rfl ?_
    refine g_iload (j := 9) (x := v.1) dX6_accuse_65 rfl ?_
    refine g_if_ne 75 dX6_accuse_67 (by decide) (fun hc => ?_) (fun hc => ?_)
    · replace hS := (if_neg hc).symm.trans hS
      refine g_iload (j := 8) (x := x6) dX6_accuse_75 rfl ?_
      refine g_iconst (v := 1) dX6_accuse_77 (by decide) ?_
      refine g_iload_n (j := 4) (x := x2) dX6_accuse_78 rfl rfl ?_
      refine g_ishl dX6_accuse_79 ?_
      refine g_ior dX6_accuse_80 ?_
      refine g_sub (lvx := [(0, .ref (base + 168)), (1, .ref (base + q1)), (2, .int (x2)), (3, .int (x3)), (4, .int (x4)), (5, .int (x5)), (6, .int (x6)), (7, .int (v.1)), (8, .int ((x4 - (v.1 * y7)))), (9, .int ((x5 - (v.1 * y8))))]) [2, 3, 4, 5, 6, 7, 8, 9, 1, 0] rfl ?_
      exact k_X6_accuse_j81 hd0 rec hrec (v.2) q1 x2 x3 x4 x5 x6 (v.1) ((x4 - (v.1 * y7))) ((x5 - (v.1 * y8))) ((x6 ||| ((1 : Int32) <<< (x2 &&& 31)))) hq1 hS hin hout0
    · replace hS := (if_pos hc).symm.trans hS
      refine g_iload (j := 8) (x := x6) dX6_accuse_70 rfl ?_
      refine g_goto 81 dX6_accuse_72 (by decide) ?_
      refine g_sub (lvx := [(0, .ref (base + 168)), (1, .ref (base + q1)), (2, .int (x2)), (3, .int (x3)), (4, .int (x4)), (5, .int (x5)), (6, .int (x6)), (7, .int (v.1)), (8, .int ((x4 - (v.1 * y7)))), (9, .int ((x5 - (v.1 * y8))))]) [2, 3, 4, 5, 6, 7, 8, 9, 1, 0] rfl ?_
      exact k_X6_accuse_j81 hd0 rec hrec (v.2) q1 x2 x3 x4 x5 x6 (v.1) ((x4 - (v.1 * y7))) ((x5 - (v.1 * y8))) (x6) hq1 hS hin hout0
def f_X6_accuse_s (rec : Mem → Nat → Int32 → Int32 → Int32 → Int32 → Int32 → Option (Mem)) (μ : Mem) (q1a : Nat) (a2 : Int32) (a3 : Int32) (a4 : Int32) (a5 : Int32) (a6 : Int32) : Option (Mem) :=
  if a2 < (gi μ q1a 8) then (
    (iter gFU (f_X6_accuse_b32 rec  (q1a) (a2) (a3) (a4) (a5) (a6)) (((0 : Int32)), μ)).bind fun z20 =>
    some z20
  ) else (
    if a3 = (0 : Int32) then (
      if a4 = (0 : Int32) then (
        if a5 = (0 : Int32) then (
          (f_X6_note μ (a6)).bind fun m22 =>
          some m22
        ) else (
          some μ
        )
      ) else (
        some μ
      )
    ) else (
      some μ
    )
  )
set_option maxRecDepth 100000 in
set_option maxHeartbeats 4000000 in
theorem k_X6_accuse_s {l : Launch} {D : va_G} {cy : Nat → ClassId} {base : Nat} {d0 : Nat} (hd0 : 1 ≤ d0) (rec : Mem → Nat → Int32 → Int32 → Int32 → Int32 → Int32 → Option (Mem)) (hrec : ∀ (μ : Mem) (b1 : Nat) (b2 : Int32) (b3 : Int32) (b4 : Int32) (b5 : Int32) (b6 : Int32) (out : Mem), isPl b1 = true → rec μ b1 b2 b3 b4 b5 b6 = some out → gC l D cy base yX6_accuse cX6_accuse 11 none d0 [.ref (base + 168), .ref (base + b1), .int b2, .int b3, .int b4, .int b5, .int b6] μ none out) (μ : Mem) (q1a : Nat) (a2 : Int32) (a3 : Int32) (a4 : Int32) (a5 : Int32) (a6 : Int32) (hq1a : isPl q1a = true) {out : Mem} (hS : f_X6_accuse_s rec μ q1a a2 a3 a4 a5 a6 = some out) : gC l D cy base yX6_accuse cX6_accuse 11 none (d0 + 1) [.ref (base + 168), .ref (base + q1a), .int (a2), .int (a3), .int (a4), .int (a5), .int (a6)] μ none out := by
  refine gC_of (own := RX6) (lv0 := [(0, .ref (base + 168)), (1, .ref (base + q1a)), (2, .int (a2)), (3, .int (a3)), (4, .int (a4)), (5, .int (a5)), (6, .int (a6))]) rfl (by decide) (Nat.le_of_ble_eq_true rfl) rfl ?_
  unfold f_X6_accuse_s at hS
  refine g_iload_n (j := 2) (x := a2) dX6_accuse_0 rfl rfl ?_
  refine g_aload_n (j := 1) (x := base + q1a) dX6_accuse_1 rfl rfl ?_
  refine gs_getI lk_RX6_29 (tkPl_0 hq1a _) rfl dX6_accuse_2 ?_
  refine g_icmp_lt 29 dX6_accuse_5 (by decide) (fun hc => ?_) (fun hc => ?_)
  · replace hS := (if_pos hc).symm.trans hS
    refine g_iconst (v := 0) dX6_accuse_29 (by decide) ?_
    refine g_istore (lvx := [(7, .int ((0 : Int32))), (0, .ref (base + 168)), (1, .ref (base + q1a)), (2, .int (a2)), (3, .int (a3)), (4, .int (a4)), (5, .int (a5)), (6, .int (a6))]) dX6_accuse_30 (by decide) rfl ?_
    obtain ⟨z20, ez20, hS⟩ := ob hS
    refine g_sub (lvx := [(0, .ref (base + 168)), (1, .ref (base + q1a)), (2, .int (a2)), (3, .int (a3)), (4, .int (a4)), (5, .int (a5)), (6, .int (a6)), (7, .int ((0 : Int32)))]) [1, 2, 3, 4, 5, 6, 7, 0] rfl ?_
    refine iter_ind (fun vv => G l D cy base RX6 cX6_accuse 11 none (gRm (d0 + 1)) (gXm yX6_accuse) (gZm D cy base 0 0 none gNN (gH cy base out)) 32 [(0, .ref (base + 168)), (1, .ref (base + q1a)), (2, .int (a2)), (3, .int (a3)), (4, .int (a4)), (5, .int (a5)), (6, .int (a6)), (7, .int (vv.1))] [] 0 0 gNN (gH cy base vv.2)) (fun xx => G l D cy base RX6 cX6_accuse 11 none (gRm (d0 + 1)) (gXm yX6_accuse) (gZm D cy base 0 0 none gNN (gH cy base out)) 107 [] [] 0 0 gNN (gH cy base xx)) (fun vv rr hh hin hout => k_X6_accuse_b32 hd0 rec hrec  (q1a) (a2) (a3) (a4) (a5) (a6) hq1a vv rr hh hin (fun xx ee => hout xx ee)) gFU (((0 : Int32)), μ) z20 ez20 ?_
    show G l D cy base RX6 cX6_accuse 11 none (gRm (d0 + 1)) (gXm yX6_accuse) (gZm D cy base 0 0 none gNN (gH cy base out)) 107 [] [] 0 0 gNN (gH cy base z20)
    obtain rfl := Option.some.inj hS
    exact g_vret rfl dX6_accuse_107
  · replace hS := (if_neg hc).symm.trans hS
    refine g_iload_n (j := 3) (x := a3) dX6_accuse_8 rfl rfl ?_
    refine g_if_ne 28 dX6_accuse_9 (by decide) (fun hc => ?_) (fun hc => ?_)
    · replace hS := (if_neg hc).symm.trans hS
      obtain rfl := Option.some.inj hS
      exact g_vret rfl dX6_accuse_28
    · replace hS := (if_pos hc).symm.trans hS
      refine g_iload (j := 4) (x := a4) dX6_accuse_12 rfl ?_
      refine g_if_ne 28 dX6_accuse_14 (by decide) (fun hc => ?_) (fun hc => ?_)
      · replace hS := (if_neg hc).symm.trans hS
        obtain rfl := Option.some.inj hS
        exact g_vret rfl dX6_accuse_28
      · replace hS := (if_pos hc).symm.trans hS
        refine g_iload (j := 5) (x := a5) dX6_accuse_17 rfl ?_
        refine g_if_ne 28 dX6_accuse_19 (by decide) (fun hc => ?_) (fun hc => ?_)
        · replace hS := (if_neg hc).symm.trans hS
          obtain rfl := Option.some.inj hS
          exact g_vret rfl dX6_accuse_28
        · replace hS := (if_pos hc).symm.trans hS
          refine g_aload_n (j := 0) (x := base + 168) dX6_accuse_22 rfl rfl ?_
          refine g_iload (j := 6) (x := a6) dX6_accuse_23 rfl ?_
          obtain ⟨m22, em22, hS⟩ := ob hS
          refine gs_callVv (As := [.int (a6)]) (st := []) (kr := 168) (k_X6_note μ (a6)  em22) cl_RX6_34 sv_X6_note ckk_X6_note (tk_168 _) (gCr_le (by omega) (by decide)) (Nat.le_of_ble_eq_true rfl) ⟨Nat.zero_le _, Nat.zero_le _⟩ rfl dX6_accuse_25 rfl ?_
          obtain rfl := Option.some.inj hS
          exact g_vret rfl dX6_accuse_28
def f_X6_accuse : Nat → Mem → Nat → Int32 → Int32 → Int32 → Int32 → Int32 → Option (Mem)
  | 0 => fun _ _ _ _ _ _ _ => none
  | n + 1 => f_X6_accuse_s (f_X6_accuse n)
theorem k_X6_accuse {l : Launch} {D : va_G} {cy : Nat → ClassId} {base : Nat} : ∀ (n : Nat) (μ : Mem) (q1a : Nat) (a2 : Int32) (a3 : Int32) (a4 : Int32) (a5 : Int32) (a6 : Int32) (hq1a : isPl q1a = true) {out : Mem} (_ : f_X6_accuse n μ q1a a2 a3 a4 a5 a6 = some out), gC l D cy base yX6_accuse cX6_accuse 11 none (1 + n) [.ref (base + 168), .ref (base + q1a), .int (a2), .int (a3), .int (a4), .int (a5), .int (a6)] μ none out
  | 0, μ, q1a, a2, a3, a4, a5, a6, hq1a, out, hS => by cases hS
  | n + 1, μ, q1a, a2, a3, a4, a5, a6, hq1a, out, hS => k_X6_accuse_s (d0 := 1 + n) (Nat.le_add_right _ _) (f_X6_accuse n) (fun μ b0 b1 b2 b3 b4 b5 out h0 e => k_X6_accuse n μ b0 b1 b2 b3 b4 b5 h0 e) μ q1a a2 a3 a4 a5 a6 hq1a hS
def f_X6_search (μ : Mem) (q1a : Nat) (a2 : Int32) (a3 : Int32) (a4 : Int32) : Option (Mem) :=
  (stI μ 168 1 ((0 : Int32))).bind fun m1 =>
  (stI m1 168 2 ((31 : Int32))).bind fun m2 =>
  (stI m2 168 3 ((0 : Int32))).bind fun m3 =>
  (f_X6_accuse 8 m3 (q1a) ((0 : Int32)) (a2) (a3) (a4) ((0 : Int32))).bind fun m5 =>
  some m5
set_option maxRecDepth 100000 in
set_option maxHeartbeats 4000000 in
theorem k_X6_search {l : Launch} {D : va_G} {cy : Nat → ClassId} {base : Nat} (μ : Mem) (q1a : Nat) (a2 : Int32) (a3 : Int32) (a4 : Int32) (hq1a : isPl q1a = true) {out : Mem} (hS : f_X6_search μ q1a a2 a3 a4 = some out) : gC l D cy base yX6_search cX6_search 5 none 10 [.ref (base + 168), .ref (base + q1a), .int (a2), .int (a3), .int (a4)] μ none out := by
  refine gC_of (own := RX6) (lv0 := [(0, .ref (base + 168)), (1, .ref (base + q1a)), (2, .int (a2)), (3, .int (a3)), (4, .int (a4))]) rfl (by decide) (Nat.le_of_ble_eq_true rfl) rfl ?_
  unfold f_X6_search at hS
  refine g_aload_n (j := 0) (x := base + 168) dX6_search_0 rfl rfl ?_
  refine g_iconst (v := 0) dX6_search_1 (by decide) ?_
  obtain ⟨m1, em1, hS⟩ := ob hS
  refine gs_putI lw_RX6_15 (tk_168 _) rfl rfl rfl dX6_search_2 em1 ?_
  refine g_aload_n (j := 0) (x := base + 168) dX6_search_5 rfl rfl ?_
  refine g_bipush (v := 31) dX6_search_6 (by decide) ?_
  obtain ⟨m2, em2, hS⟩ := ob hS
  refine gs_putI lw_RX6_19 (tk_168 _) rfl rfl rfl dX6_search_8 em2 ?_
  refine g_aload_n (j := 0) (x := base + 168) dX6_search_11 rfl rfl ?_
  refine g_iconst (v := 0) dX6_search_12 (by decide) ?_
  obtain ⟨m3, em3, hS⟩ := ob hS
  refine gs_putI lw_RX6_22 (tk_168 _) rfl rfl rfl dX6_search_13 em3 ?_
  refine g_aload_n (j := 0) (x := base + 168) dX6_search_16 rfl rfl ?_
  refine g_aload_n (j := 1) (x := base + q1a) dX6_search_17 rfl rfl ?_
  refine g_iconst (v := 0) dX6_search_18 (by decide) ?_
  refine g_iload_n (j := 2) (x := a2) dX6_search_19 rfl rfl ?_
  refine g_iload_n (j := 3) (x := a3) dX6_search_20 rfl rfl ?_
  refine g_iload (j := 4) (x := a4) dX6_search_21 rfl ?_
  refine g_iconst (v := 0) dX6_search_23 (by decide) ?_
  obtain ⟨m5, em5, hS⟩ := ob hS
  refine gs_callSv (As := [.ref (base + 168), .ref (base + q1a), .int ((0 : Int32)), .int (a2), .int (a3), .int (a4), .int ((0 : Int32))]) (st := []) (k_X6_accuse 8 m3 (q1a) ((0 : Int32)) (a2) (a3) (a4) ((0 : Int32)) hq1a em5) cl_RX6_25 sv_X6_accuse ⟨by decide, by decide⟩ (Nat.le_of_ble_eq_true rfl) ⟨Nat.zero_le _, Nat.zero_le _⟩ rfl dX6_search_24 rfl ?_
  obtain rfl := Option.some.inj hS
  exact g_vret rfl dX6_search_27
def f_X8_now (μ : Mem) (a1 : Int32) : Option (Int32 × Mem) :=
  if a1 = (0 : Int32) then (
    some ((gi μ 4 4), μ)
  ) else
  if a1 = (1 : Int32) then (
    (rfG (gpl μ) isPl).bind fun q3 =>
    (f_X1_dueOfAll μ 4 ((gi μ q3 7))).bind fun y4 =>
    some (y4, μ)
  ) else
  if a1 = (2 : Int32) then (
    (f_X8_stairsPaidOff μ ).bind fun y6 =>
    some (y6, μ)
  ) else
  if a1 = (3 : Int32) then (
    some ((gi μ 4 3), μ)
  ) else
  if a1 = (4 : Int32) then (
    (f_X8_dearest μ ).bind fun y9 =>
    some (y9, μ)
  ) else
  if a1 = (5 : Int32) then (
    (rfG (gpl μ) isPl).bind fun q11 =>
    (f_X5_strikeAll μ (7) 49 ((gi μ q11 7))).bind fun z12 =>
    some (z12.1, z12.2)
  ) else
  (
    some ((-1 : Int32), μ)
  )
set_option maxRecDepth 100000 in
set_option maxHeartbeats 4000000 in
theorem k_X8_now {l : Launch} {D : va_G} {cy : Nat → ClassId} {base : Nat} (μ : Mem) (a1 : Int32)  {out : Int32 × Mem} (hS : f_X8_now μ a1 = some out) : gC l D cy base yX8_now cX8_now 2 (some .int) 14 [.ref (base + 0), .int (a1)] μ (some (.int out.1)) out.2 := by
  refine gC_of (own := RX8) (lv0 := [(0, .ref (base + 0)), (1, .int (a1))]) rfl (by decide) (Nat.le_of_ble_eq_true rfl) rfl ?_
  unfold f_X8_now at hS
  refine g_iload_n (j := 1) (x := a1) dX8_now_0 rfl rfl ?_
  by_cases hs1 : a1 = (0 : Int32)
  · replace hS := (if_pos hs1).symm.trans hS
    refine gs_table hs1 40 dX8_now_1 (by decide) (by decide) rfl (by decide) ?_
    refine g_aload_n (j := 0) (x := base + 0) dX8_now_40 rfl rfl ?_
    refine gs_getR (r := 3) lk_RX8_19 (tk_0 _) rfl dX8_now_41 ?_
    refine gs_getR (r := 4) lk_RX8_104 (tk_3 _) rfl dX8_now_44 ?_
    refine gs_getI lk_RX8_162 (tk_4 _) rfl dX8_now_47 ?_
    obtain rfl := Option.some.inj hS
    exact g_iret rfl dX8_now_50
  replace hS := (if_neg hs1).symm.trans hS
  by_cases hs2 : a1 = (1 : Int32)
  · replace hS := (if_pos hs2).symm.trans hS
    refine gs_table hs2 51 dX8_now_1 (by decide) (by decide) rfl (by decide) ?_
    refine g_aload_n (j := 0) (x := base + 0) dX8_now_51 rfl rfl ?_
    refine gs_getR (r := 3) lk_RX8_19 (tk_0 _) rfl dX8_now_52 ?_
    refine gs_getR (r := 4) lk_RX8_104 (tk_3 _) rfl dX8_now_55 ?_
    refine g_aload_n (j := 0) (x := base + 0) dX8_now_58 rfl rfl ?_
    obtain ⟨q3, eq3, hS⟩ := ob hS
    have hq3 := rfG_is eq3
    refine gs_getPl lk_RX8_62 dX8_now_59 eq3 ?_
    refine gs_getI lk_RX8_168 (tkPl_0 hq3 _) rfl dX8_now_62 ?_
    obtain ⟨y4, ey4, hS⟩ := ob hS
    refine gs_callVi (As := [.int ((gi μ q3 7))]) (st := []) (kr := 4) (k_X1_dueOfAll μ 4 ((gi μ q3 7)) rfl ey4) cl_RX8_171 sv_X1_dueOfAll ckk_X1_dueOfAll (tk_4 _) ⟨by decide, by decide⟩ (Nat.le_of_ble_eq_true rfl) ⟨Nat.zero_le _, Nat.zero_le _⟩ rfl dX8_now_65 rfl ?_
    obtain rfl := Option.some.inj hS
    exact g_iret rfl dX8_now_68
  replace hS := (if_neg hs2).symm.trans hS
  by_cases hs5 : a1 = (2 : Int32)
  · replace hS := (if_pos hs5).symm.trans hS
    refine gs_table hs5 69 dX8_now_1 (by decide) (by decide) rfl (by decide) ?_
    refine g_aload_n (j := 0) (x := base + 0) dX8_now_69 rfl rfl ?_
    obtain ⟨y6, ey6, hS⟩ := ob hS
    refine gs_callVi (As := []) (st := []) (kr := 0) (k_X8_stairsPaidOff μ   ey6) cl_RX8_181 sv_X8_stairsPaidOff ckk_X8_stairsPaidOff (tk_0 _) ⟨by decide, by decide⟩ (Nat.le_of_ble_eq_true rfl) ⟨Nat.zero_le _, Nat.zero_le _⟩ rfl dX8_now_70 rfl ?_
    obtain rfl := Option.some.inj hS
    exact g_iret rfl dX8_now_73
  replace hS := (if_neg hs5).symm.trans hS
  by_cases hs7 : a1 = (3 : Int32)
  · replace hS := (if_pos hs7).symm.trans hS
    refine gs_table hs7 74 dX8_now_1 (by decide) (by decide) rfl (by decide) ?_
    refine g_aload_n (j := 0) (x := base + 0) dX8_now_74 rfl rfl ?_
    refine gs_getR (r := 3) lk_RX8_19 (tk_0 _) rfl dX8_now_75 ?_
    refine gs_getR (r := 4) lk_RX8_104 (tk_3 _) rfl dX8_now_78 ?_
    refine gs_getI lk_RX8_185 (tk_4 _) rfl dX8_now_81 ?_
    obtain rfl := Option.some.inj hS
    exact g_iret rfl dX8_now_84
  replace hS := (if_neg hs7).symm.trans hS
  by_cases hs8 : a1 = (4 : Int32)
  · replace hS := (if_pos hs8).symm.trans hS
    refine gs_table hs8 85 dX8_now_1 (by decide) (by decide) rfl (by decide) ?_
    refine g_aload_n (j := 0) (x := base + 0) dX8_now_85 rfl rfl ?_
    obtain ⟨y9, ey9, hS⟩ := ob hS
    refine gs_callVi (As := []) (st := []) (kr := 0) (k_X8_dearest μ   ey9) cl_RX8_188 sv_X8_dearest ckk_X8_dearest (tk_0 _) ⟨by decide, by decide⟩ (Nat.le_of_ble_eq_true rfl) ⟨Nat.zero_le _, Nat.zero_le _⟩ rfl dX8_now_86 rfl ?_
    obtain rfl := Option.some.inj hS
    exact g_iret rfl dX8_now_89
  replace hS := (if_neg hs8).symm.trans hS
  by_cases hs10 : a1 = (5 : Int32)
  · replace hS := (if_pos hs10).symm.trans hS
    refine gs_table hs10 90 dX8_now_1 (by decide) (by decide) rfl (by decide) ?_
    refine g_aload_n (j := 0) (x := base + 0) dX8_now_90 rfl rfl ?_
    refine gs_getR (r := 165) lk_RX8_48 (tk_0 _) rfl dX8_now_91 ?_
    refine g_aload_n (j := 0) (x := base + 0) dX8_now_94 rfl rfl ?_
    refine gs_getR (r := 3) lk_RX8_19 (tk_0 _) rfl dX8_now_95 ?_
    refine gs_getR (r := 4) lk_RX8_104 (tk_3 _) rfl dX8_now_98 ?_
    refine gs_getR (r := 7) lk_RX8_136 (tk_4 _) rfl dX8_now_101 ?_
    refine g_aload_n (j := 0) (x := base + 0) dX8_now_104 rfl rfl ?_
    obtain ⟨q11, eq11, hS⟩ := ob hS
    have hq11 := rfG_is eq11
    refine gs_getPl lk_RX8_62 dX8_now_105 eq11 ?_
    refine gs_getI lk_RX8_168 (tkPl_0 hq11 _) rfl dX8_now_108 ?_
    obtain ⟨z12, ez12, hS⟩ := ob hS
    refine gs_callVi (As := [.ref (base + 7), .int ((gi μ q11 7))]) (st := []) (kr := 165) (k_X5_strikeAll μ (7) 49 ((gi μ q11 7)) tk_7 ez12) cl_RX8_191 sv_X5_strikeAll ckk_X5_strikeAll (tk_165 _) ⟨by decide, by decide⟩ (Nat.le_of_ble_eq_true rfl) ⟨Nat.zero_le _, Nat.zero_le _⟩ rfl dX8_now_111 rfl ?_
    obtain rfl := Option.some.inj hS
    exact g_iret rfl dX8_now_114
  replace hS := (if_neg hs10).symm.trans hS
  refine gs_tableOut 6 115 dX8_now_1 (by decide) (by decide) (fun j hj => by match j, hj with | 0, _ => exact hs1 | 1, _ => exact hs2 | 2, _ => exact hs5 | 3, _ => exact hs7 | 4, _ => exact hs8 | 5, _ => exact hs10 | j + 6, hj => exact absurd hj (by omega)) (by decide) ?_
  refine g_iconst (v := -1) dX8_now_115 (by decide) ?_
  obtain rfl := Option.some.inj hS
  exact g_iret rfl dX8_now_116
def f_X8_who (μ : Mem) (a1 : Int32) (a2 : Int32) (a3 : Int32) (a4 : Int32) : Option (Int32 × Mem) :=
  if a1 < (0 : Int32) then (
    some ((-1 : Int32), μ)
  ) else (
    if (6 : Int32) < a1 then (
      some ((-1 : Int32), μ)
    ) else (
      (f_X8_isAsked μ (a2)).bind fun y1 =>
      if y1 = (0 : Int32) then (
        some ((-1 : Int32), μ)
      ) else (
        (f_X8_isAsked μ (a3)).bind fun y2 =>
        if y2 = (0 : Int32) then (
          some ((-1 : Int32), μ)
        ) else (
          if a4 < (0 : Int32) then (
            some ((-1 : Int32), μ)
          ) else (
            if a4 ≤ (2 : Int32) then (
              (rfG (gpl μ) isPl).bind fun q3 =>
              (f_X6_search μ (q3) (a1) (a2) (a3)).bind fun m5 =>
              if a4 = (0 : Int32) then (
                some ((gi m5 168 1), m5)
              ) else
              if a4 = (1 : Int32) then (
                if (gi m5 168 1) = (0 : Int32) then (
                  some ((0 : Int32), m5)
                ) else (
                  some ((gi m5 168 2), m5)
                )
              ) else
              (
                some ((gi m5 168 3), m5)
              )
            ) else (
              some ((-1 : Int32), μ)
            )
          )
        )
      )
    )
  )
set_option maxRecDepth 100000 in
set_option maxHeartbeats 4000000 in
theorem k_X8_who {l : Launch} {D : va_G} {cy : Nat → ClassId} {base : Nat} (μ : Mem) (a1 : Int32) (a2 : Int32) (a3 : Int32) (a4 : Int32)  {out : Int32 × Mem} (hS : f_X8_who μ a1 a2 a3 a4 = some out) : gC l D cy base yX8_who cX8_who 5 (some .int) 11 [.ref (base + 0), .int (a1), .int (a2), .int (a3), .int (a4)] μ (some (.int out.1)) out.2 := by
  refine gC_of (own := RX8) (lv0 := [(0, .ref (base + 0)), (1, .int (a1)), (2, .int (a2)), (3, .int (a3)), (4, .int (a4))]) rfl (by decide) (Nat.le_of_ble_eq_true rfl) rfl ?_
  unfold f_X8_who at hS
  refine g_iload_n (j := 1) (x := a1) dX8_who_0 rfl rfl ?_
  refine g_if_lt 24 dX8_who_1 (by decide) (fun hc => ?_) (fun hc => ?_)
  · replace hS := (if_pos hc).symm.trans hS
    refine g_iconst (v := -1) dX8_who_24 (by decide) ?_
    obtain rfl := Option.some.inj hS
    exact g_iret rfl dX8_who_25
  · replace hS := (if_neg hc).symm.trans hS
    refine g_iload_n (j := 1) (x := a1) dX8_who_4 rfl rfl ?_
    refine g_bipush (v := 6) dX8_who_5 (by decide) ?_
    refine g_icmp_gt 24 dX8_who_7 (by decide) (fun hc => ?_) (fun hc => ?_)
    · replace hS := (if_pos hc).symm.trans hS
      refine g_iconst (v := -1) dX8_who_24 (by decide) ?_
      obtain rfl := Option.some.inj hS
      exact g_iret rfl dX8_who_25
    · replace hS := (if_neg hc).symm.trans hS
      refine g_iload_n (j := 2) (x := a2) dX8_who_10 rfl rfl ?_
      obtain ⟨y1, ey1, hS⟩ := ob hS
      refine gs_callSi (As := [.int (a2)]) (st := []) (k_X8_isAsked μ (a2)  ey1) cl_RX8_220 sv_X8_isAsked ⟨by decide, by decide⟩ (Nat.le_of_ble_eq_true rfl) ⟨Nat.zero_le _, Nat.zero_le _⟩ rfl dX8_who_11 rfl ?_
      refine g_if_eq 24 dX8_who_14 (by decide) (fun hc => ?_) (fun hc => ?_)
      · replace hS := (if_pos hc).symm.trans hS
        refine g_iconst (v := -1) dX8_who_24 (by decide) ?_
        obtain rfl := Option.some.inj hS
        exact g_iret rfl dX8_who_25
      · replace hS := (if_neg hc).symm.trans hS
        refine g_iload_n (j := 3) (x := a3) dX8_who_17 rfl rfl ?_
        obtain ⟨y2, ey2, hS⟩ := ob hS
        refine gs_callSi (As := [.int (a3)]) (st := []) (k_X8_isAsked μ (a3)  ey2) cl_RX8_220 sv_X8_isAsked ⟨by decide, by decide⟩ (Nat.le_of_ble_eq_true rfl) ⟨Nat.zero_le _, Nat.zero_le _⟩ rfl dX8_who_18 rfl ?_
        refine g_if_ne 26 dX8_who_21 (by decide) (fun hc => ?_) (fun hc => ?_)
        · replace hS := (if_neg hc).symm.trans hS
          refine g_iload (j := 4) (x := a4) dX8_who_26 rfl ?_
          refine g_if_lt 37 dX8_who_28 (by decide) (fun hc => ?_) (fun hc => ?_)
          · replace hS := (if_pos hc).symm.trans hS
            refine g_iconst (v := -1) dX8_who_37 (by decide) ?_
            obtain rfl := Option.some.inj hS
            exact g_iret rfl dX8_who_38
          · replace hS := (if_neg hc).symm.trans hS
            refine g_iload (j := 4) (x := a4) dX8_who_31 rfl ?_
            refine g_iconst (v := 2) dX8_who_33 (by decide) ?_
            refine g_icmp_le 39 dX8_who_34 (by decide) (fun hc => ?_) (fun hc => ?_)
            · replace hS := (if_pos hc).symm.trans hS
              refine g_aload_n (j := 0) (x := base + 0) dX8_who_39 rfl rfl ?_
              refine gs_getR (r := 168) lk_RX8_55 (tk_0 _) rfl dX8_who_40 ?_
              refine g_aload_n (j := 0) (x := base + 0) dX8_who_43 rfl rfl ?_
              obtain ⟨q3, eq3, hS⟩ := ob hS
              have hq3 := rfG_is eq3
              refine gs_getPl lk_RX8_62 dX8_who_44 eq3 ?_
              refine g_iload_n (j := 1) (x := a1) dX8_who_47 rfl rfl ?_
              refine g_iload_n (j := 2) (x := a2) dX8_who_48 rfl rfl ?_
              refine g_iload_n (j := 3) (x := a3) dX8_who_49 rfl rfl ?_
              obtain ⟨m5, em5, hS⟩ := ob hS
              refine gs_callVv (As := [.ref (base + q3), .int (a1), .int (a2), .int (a3)]) (st := []) (kr := 168) (k_X6_search μ (q3) (a1) (a2) (a3) hq3 em5) cl_RX8_240 sv_X6_search ckk_X6_search (tk_168 _) ⟨by decide, by decide⟩ (Nat.le_of_ble_eq_true rfl) ⟨Nat.zero_le _, Nat.zero_le _⟩ rfl dX8_who_50 rfl ?_
              refine g_iload (j := 4) (x := a4) dX8_who_53 rfl ?_
              by_cases hs6 : a4 = (0 : Int32)
              · replace hS := (if_pos hs6).symm.trans hS
                refine gs_lookup hs6 80 dX8_who_55 (by decide) rfl (by decide) ?_
                refine g_aload_n (j := 0) (x := base + 0) dX8_who_80 rfl rfl ?_
                refine gs_getR (r := 168) lk_RX8_55 (tk_0 _) rfl dX8_who_81 ?_
                refine gs_getI lk_RX8_244 (tk_168 _) rfl dX8_who_84 ?_
                obtain rfl := Option.some.inj hS
                exact g_iret rfl dX8_who_87
              replace hS := (if_neg hs6).symm.trans hS
              by_cases hs7 : a4 = (1 : Int32)
              · replace hS := (if_pos hs7).symm.trans hS
                refine gs_lookup hs7 88 dX8_who_55 (by decide) rfl (by decide) ?_
                refine g_aload_n (j := 0) (x := base + 0) dX8_who_88 rfl rfl ?_
                refine gs_getR (r := 168) lk_RX8_55 (tk_0 _) rfl dX8_who_89 ?_
                refine gs_getI lk_RX8_244 (tk_168 _) rfl dX8_who_92 ?_
                refine g_if_ne 102 dX8_who_95 (by decide) (fun hc => ?_) (fun hc => ?_)
                · replace hS := (if_neg hc).symm.trans hS
                  refine g_aload_n (j := 0) (x := base + 0) dX8_who_102 rfl rfl ?_
                  refine gs_getR (r := 168) lk_RX8_55 (tk_0 _) rfl dX8_who_103 ?_
                  refine gs_getI lk_RX8_247 (tk_168 _) rfl dX8_who_106 ?_
                  obtain rfl := Option.some.inj hS
                  exact g_iret rfl dX8_who_109
                · replace hS := (if_pos hc).symm.trans hS
                  refine g_iconst (v := 0) dX8_who_98 (by decide) ?_
                  refine g_goto 109 dX8_who_99 (by decide) ?_
                  obtain rfl := Option.some.inj hS
                  exact g_iret rfl dX8_who_109
              replace hS := (if_neg hs7).symm.trans hS
              refine gs_lookupOut 110 dX8_who_55 (by decide) (fun q hq => by simp only [List.mem_cons, List.not_mem_nil, or_false] at hq; rcases hq with rfl | rfl <;> assumption) (by decide) ?_
              refine g_aload_n (j := 0) (x := base + 0) dX8_who_110 rfl rfl ?_
              refine gs_getR (r := 168) lk_RX8_55 (tk_0 _) rfl dX8_who_111 ?_
              refine gs_getI lk_RX8_250 (tk_168 _) rfl dX8_who_114 ?_
              obtain rfl := Option.some.inj hS
              exact g_iret rfl dX8_who_117
            · replace hS := (if_neg hc).symm.trans hS
              refine g_iconst (v := -1) dX8_who_37 (by decide) ?_
              obtain rfl := Option.some.inj hS
              exact g_iret rfl dX8_who_38
        · replace hS := (if_pos hc).symm.trans hS
          refine g_iconst (v := -1) dX8_who_24 (by decide) ?_
          obtain rfl := Option.some.inj hS
          exact g_iret rfl dX8_who_25

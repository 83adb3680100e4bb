/-! the constructors -/
def gM0 : Mem := (fun k j => if (k = 170 ∨ k = 178) ∧ (j = 9 ∨ j = 10) then 3 else if k = 1 ∧ j = 5 then -1 else 0, fun _ _ => 0, fun _ => 0, 170, 178)
def gRn (d mc ms : Nat) : Room := { frames := d, cells := mc, slots := ms, locals := 40 * d }
def gZ7 (cy : Nat → ClassId) (n : Nat) : va_E := .inl (cy 0, n, .inl (fun _ => 0))
theorem dfX0 : ∀ j, j < 4 → defaultValue (tyX0 j) = vp_V [.null, .null, .int 0, .int 0] j := fun j hj => match j, hj with | 0, _ => rfl | 1, _ => rfl | 2, _ => rfl | 3, _ => rfl | j + 4, h => absurd h (by omega)
theorem dfX1 : ∀ j, j < 5 → defaultValue (tyX1 j) = vp_V [.null, .null, .null, .int 0, .int 0] j := fun j hj => match j, hj with | 0, _ => rfl | 1, _ => rfl | 2, _ => rfl | 3, _ => rfl | 4, _ => rfl | j + 5, h => absurd h (by omega)
theorem dfX2 : ∀ j, j < 4 → defaultValue (tyX2 j) = vp_V [.null, .null, .null, .null] j := fun j hj => match j, hj with | 0, _ => rfl | 1, _ => rfl | 2, _ => rfl | 3, _ => rfl | j + 4, h => absurd h (by omega)
theorem dfX3 : ∀ j, j < 13 → defaultValue (tyX3 j) = vp_V [.null, .null, .null, .null, .null, .null, .null, .int 0, .int 0, .int 0, .int 0, .int 0, .int 0] j := fun j hj => match j, hj with | 0, _ => rfl | 1, _ => rfl | 2, _ => rfl | 3, _ => rfl | 4, _ => rfl | 5, _ => rfl | 6, _ => rfl | 7, _ => rfl | 8, _ => rfl | 9, _ => rfl | 10, _ => rfl | 11, _ => rfl | 12, _ => rfl | j + 13, h => absurd h (by omega)
theorem dfX4 : ∀ j, j < 6 → defaultValue (tyX4 j) = vp_V [.null, .int 0, .int 0, .int 0, .int 0, .int 0] j := fun j hj => match j, hj with | 0, _ => rfl | 1, _ => rfl | 2, _ => rfl | 3, _ => rfl | 4, _ => rfl | 5, _ => rfl | j + 6, h => absurd h (by omega)
theorem dfX5 : ∀ j, j < 5 → defaultValue (tyX5 j) = vp_V [.null, .null, .int 0, .int 0, .int 0] j := fun j hj => match j, hj with | 0, _ => rfl | 1, _ => rfl | 2, _ => rfl | 3, _ => rfl | 4, _ => rfl | j + 5, h => absurd h (by omega)
theorem dfX6 : ∀ j, j < 4 → defaultValue (tyX6 j) = vp_V [.null, .int 0, .int 0, .int 0] j := fun j hj => match j, hj with | 0, _ => rfl | 1, _ => rfl | 2, _ => rfl | 3, _ => rfl | j + 4, h => absurd h (by omega)
theorem dfX7 : ∀ j, j < 1 → defaultValue (tyX7 j) = vp_V [.null] j := fun j hj => match j, hj with | 0, _ => rfl | j + 1, h => absurd h (by omega)
theorem dfX8 : ∀ j, j < 11 → defaultValue (tyX8 j) = vp_V [.null, .null, .null, .null, .null, .null, .null, .null, .null, .null, .long 0] j := fun j hj => match j, hj with | 0, _ => rfl | 1, _ => rfl | 2, _ => rfl | 3, _ => rfl | 4, _ => rfl | 5, _ => rfl | 6, _ => rfl | 7, _ => rfl | 8, _ => rfl | 9, _ => rfl | 10, _ => rfl | j + 11, h => absurd h (by omega)
theorem dfX9 : ∀ j, j < 18 → defaultValue (tyX9 j) = vp_V [.long 0, .null, .int 0, .null, .null, .null, .null, .null, .int 0, .int 0, .int 0, .int 0, .null, .null, .null, .null, .null, .null] j := fun j hj => match j, hj with | 0, _ => rfl | 1, _ => rfl | 2, _ => rfl | 3, _ => rfl | 4, _ => rfl | 5, _ => rfl | 6, _ => rfl | 7, _ => rfl | 8, _ => rfl | 9, _ => rfl | 10, _ => rfl | 11, _ => rfl | 12, _ => rfl | 13, _ => rfl | 14, _ => rfl | 15, _ => rfl | 16, _ => rfl | 17, _ => rfl | j + 18, h => absurd h (by omega)
theorem oi_ok : Cond.instanceMethod objectInit ∈ gTbl := gm 20 (by decide +kernel) (by decide +kernel)
theorem oc_ok : Cond.code objectInit ⟨#[0xb1]⟩ 1 none ∈ gTbl := gm 21 (by decide +kernel) (by decide +kernel)
theorem ac_int : Cond.arrayClass .int ∈ gTbl := gm 48 (by decide +kernel) (by decide +kernel)
theorem ac_boolean : Cond.arrayClass .boolean ∈ gTbl := gm 112 (by decide +kernel) (by decide +kernel)
theorem ol_RX0_3 : Cond.methodLink RX0 3 objectInit ∈ gTbl := gm 54 (by decide +kernel) (by decide +kernel)
theorem cw_RX0_9 : Cond.classLink RX0 9 "OwedFalls$Moment" ∈ gTbl := gm 55 (by decide +kernel) (by decide +kernel)
theorem lf_RX0_12 : gLf RX0 12 0 0 (.object "OwedFalls$Moment") := ⟨RX0, TX0, 4, tyX0, rfl, by decide, gm 86 (by decide +kernel) (by decide +kernel), jnX0, tyX0_ok, nmX0, rfl, by decide +kernel, rfl⟩
theorem lf_RX0_18 : gLf RX0 18 0 1 (.array (.object "OwedFalls$Moment")) := ⟨RX0, TX0, 4, tyX0, rfl, by decide, gm 88 (by decide +kernel) (by decide +kernel), jnX0, tyX0_ok, nmX0, rfl, by decide +kernel, rfl⟩
theorem ol_RX1_3 : Cond.methodLink RX1 3 objectInit ∈ gTbl := gm 60 (by decide +kernel) (by decide +kernel)
theorem lf_RX1_9 : gLf RX1 9 1 0 (.array .int) := ⟨RX1, TX1, 5, tyX1, rfl, by decide, gm 61 (by decide +kernel) (by decide +kernel), jnX1, tyX1_ok, nmX1, rfl, by decide +kernel, rfl⟩
theorem lf_RX1_15 : gLf RX1 15 1 1 (.array .int) := ⟨RX1, TX1, 5, tyX1, rfl, by decide, gm 65 (by decide +kernel) (by decide +kernel), jnX1, tyX1_ok, nmX1, rfl, by decide +kernel, rfl⟩
theorem lf_RX1_18 : gLf RX1 18 1 2 (.array .int) := ⟨RX1, TX1, 5, tyX1, rfl, by decide, gm 68 (by decide +kernel) (by decide +kernel), jnX1, tyX1_ok, nmX1, rfl, by decide +kernel, rfl⟩
theorem ol_RX2_3 : Cond.methodLink RX2 3 objectInit ∈ gTbl := gm 118 (by decide +kernel) (by decide +kernel)
theorem lf_RX2_11 : gLf RX2 11 2 0 (.array .int) := ⟨RX2, TX2, 4, tyX2, rfl, by decide, gm 121 (by decide +kernel) (by decide +kernel), jnX2, tyX2_ok, nmX2, rfl, by decide +kernel, rfl⟩
theorem lf_RX2_15 : gLf RX2 15 2 1 (.array .int) := ⟨RX2, TX2, 4, tyX2, rfl, by decide, gm 122 (by decide +kernel) (by decide +kernel), jnX2, tyX2_ok, nmX2, rfl, by decide +kernel, rfl⟩
theorem cw_RX2_18 : Cond.classLink RX2 18 "[[I" ∈ gTbl := gm 119 (by decide +kernel) (by decide +kernel)
theorem lf_RX2_20 : gLf RX2 20 2 2 (.array (.array .int)) := ⟨RX2, TX2, 4, tyX2, rfl, by decide, gm 123 (by decide +kernel) (by decide +kernel), jnX2, tyX2_ok, nmX2, rfl, by decide +kernel, rfl⟩
theorem lf_RX2_23 : gLf RX2 23 2 3 (.array (.array .int)) := ⟨RX2, TX2, 4, tyX2, rfl, by decide, gm 124 (by decide +kernel) (by decide +kernel), jnX2, tyX2_ok, nmX2, rfl, by decide +kernel, rfl⟩
theorem ol_RX3_3 : Cond.methodLink RX3 3 objectInit ∈ gTbl := gm 183 (by decide +kernel) (by decide +kernel)
theorem lf_RX3_9 : gLf RX3 9 3 0 (.array .int) := ⟨RX3, TX3, 13, tyX3, rfl, by decide, gm 184 (by decide +kernel) (by decide +kernel), jnX3, tyX3_ok, nmX3, rfl, by decide +kernel, rfl⟩
theorem lf_RX3_15 : gLf RX3 15 3 1 (.array .int) := ⟨RX3, TX3, 13, tyX3, rfl, by decide, gm 188 (by decide +kernel) (by decide +kernel), jnX3, tyX3_ok, nmX3, rfl, by decide +kernel, rfl⟩
theorem lf_RX3_18 : gLf RX3 18 3 2 (.array .int) := ⟨RX3, TX3, 13, tyX3, rfl, by decide, gm 192 (by decide +kernel) (by decide +kernel), jnX3, tyX3_ok, nmX3, rfl, by decide +kernel, rfl⟩
theorem lf_RX3_21 : gLf RX3 21 3 3 (.array .int) := ⟨RX3, TX3, 13, tyX3, rfl, by decide, gm 196 (by decide +kernel) (by decide +kernel), jnX3, tyX3_ok, nmX3, rfl, by decide +kernel, rfl⟩
theorem lf_RX3_24 : gLf RX3 24 3 4 (.array .int) := ⟨RX3, TX3, 13, tyX3, rfl, by decide, gm 200 (by decide +kernel) (by decide +kernel), jnX3, tyX3_ok, nmX3, rfl, by decide +kernel, rfl⟩
theorem lf_RX3_27 : gLf RX3 27 3 5 (.array .int) := ⟨RX3, TX3, 13, tyX3, rfl, by decide, gm 203 (by decide +kernel) (by decide +kernel), jnX3, tyX3_ok, nmX3, rfl, by decide +kernel, rfl⟩
theorem lf_RX3_30 : gLf RX3 30 3 6 (.array .int) := ⟨RX3, TX3, 13, tyX3, rfl, by decide, gm 207 (by decide +kernel) (by decide +kernel), jnX3, tyX3_ok, nmX3, rfl, by decide +kernel, rfl⟩
theorem ol_RX4_3 : Cond.methodLink RX4 3 objectInit ∈ gTbl := gm 27 (by decide +kernel) (by decide +kernel)
theorem lf_RX4_9 : gLf RX4 9 4 0 (.array .int) := ⟨RX4, TX4, 6, tyX4, rfl, by decide, gm 28 (by decide +kernel) (by decide +kernel), jnX4, tyX4_ok, nmX4, rfl, by decide +kernel, rfl⟩
theorem ol_RX5_3 : Cond.methodLink RX5 3 objectInit ∈ gTbl := gm 139 (by decide +kernel) (by decide +kernel)
theorem lf_RX5_9 : gLf RX5 9 5 0 (.array .int) := ⟨RX5, TX5, 5, tyX5, rfl, by decide, gm 140 (by decide +kernel) (by decide +kernel), jnX5, tyX5_ok, nmX5, rfl, by decide +kernel, rfl⟩
theorem lf_RX5_15 : gLf RX5 15 5 1 (.array .int) := ⟨RX5, TX5, 5, tyX5, rfl, by decide, gm 141 (by decide +kernel) (by decide +kernel), jnX5, tyX5_ok, nmX5, rfl, by decide +kernel, rfl⟩
theorem ol_RX6_3 : Cond.methodLink RX6 3 objectInit ∈ gTbl := gm 161 (by decide +kernel) (by decide +kernel)
theorem lf_RX6_11 : gLf RX6 11 6 0 (.array .int) := ⟨RX6, TX6, 4, tyX6, rfl, by decide, gm 162 (by decide +kernel) (by decide +kernel), jnX6, tyX6_ok, nmX6, rfl, by decide +kernel, rfl⟩
theorem ol_RX7_3 : Cond.methodLink RX7 3 objectInit ∈ gTbl := gm 107 (by decide +kernel) (by decide +kernel)
theorem lf_RX7_9 : gLf RX7 9 7 0 (.array .int) := ⟨RX7, TX7, 1, tyX7, rfl, by decide, gm 108 (by decide +kernel) (by decide +kernel), jnX7, tyX7_ok, nmX7, rfl, by decide +kernel, rfl⟩
theorem ol_RX8_1 : Cond.methodLink RX8 1 objectInit ∈ gTbl := gm 19 (by decide +kernel) (by decide +kernel)
theorem cw_RX8_7 : Cond.classLink RX8 7 "OwedFalls$Reader" ∈ gTbl := gm 22 (by decide +kernel) (by decide +kernel)
theorem lf_RX8_10 : gLf RX8 10 8 0 (.object "OwedFalls$Reader") := ⟨RX8, TX8, 11, tyX8, rfl, by decide, gm 262 (by decide +kernel) (by decide +kernel), jnX8, tyX8_ok, nmX8, rfl, by decide +kernel, rfl⟩
theorem cw_RX8_16 : Cond.classLink RX8 16 "OwedFalls$Ledger" ∈ gTbl := gm 49 (by decide +kernel) (by decide +kernel)
theorem lf_RX8_19 : gLf RX8 19 8 1 (.object "OwedFalls$Ledger") := ⟨RX8, TX8, 11, tyX8, rfl, by decide, gm 263 (by decide +kernel) (by decide +kernel), jnX8, tyX8_ok, nmX8, rfl, by decide +kernel, rfl⟩
theorem lf_RX8_23 : gLf RX8 23 8 2 (.array (.object "OwedFalls$Ledger")) := ⟨RX8, TX8, 11, tyX8, rfl, by decide, gm 264 (by decide +kernel) (by decide +kernel), jnX8, tyX8_ok, nmX8, rfl, by decide +kernel, rfl⟩
theorem lf_RX8_27 : gLf RX8 27 8 3 (.array .boolean) := ⟨RX8, TX8, 11, tyX8, rfl, by decide, gm 265 (by decide +kernel) (by decide +kernel), jnX8, tyX8_ok, nmX8, rfl, by decide +kernel, rfl⟩
theorem cw_RX8_31 : Cond.classLink RX8 31 "OwedFalls$Ways" ∈ gTbl := gm 102 (by decide +kernel) (by decide +kernel)
theorem lf_RX8_34 : gLf RX8 34 8 4 (.object "OwedFalls$Ways") := ⟨RX8, TX8, 11, tyX8, rfl, by decide, gm 266 (by decide +kernel) (by decide +kernel), jnX8, tyX8_ok, nmX8, rfl, by decide +kernel, rfl⟩
theorem cw_RX8_38 : Cond.classLink RX8 38 "OwedFalls$Payments" ∈ gTbl := gm 113 (by decide +kernel) (by decide +kernel)
theorem lf_RX8_41 : gLf RX8 41 8 5 (.object "OwedFalls$Payments") := ⟨RX8, TX8, 11, tyX8, rfl, by decide, gm 267 (by decide +kernel) (by decide +kernel), jnX8, tyX8_ok, nmX8, rfl, by decide +kernel, rfl⟩
theorem cw_RX8_45 : Cond.classLink RX8 45 "OwedFalls$Rings" ∈ gTbl := gm 134 (by decide +kernel) (by decide +kernel)
theorem lf_RX8_48 : gLf RX8 48 8 6 (.object "OwedFalls$Rings") := ⟨RX8, TX8, 11, tyX8, rfl, by decide, gm 268 (by decide +kernel) (by decide +kernel), jnX8, tyX8_ok, nmX8, rfl, by decide +kernel, rfl⟩
theorem cw_RX8_52 : Cond.classLink RX8 52 "OwedFalls$Suspects" ∈ gTbl := gm 156 (by decide +kernel) (by decide +kernel)
theorem lf_RX8_55 : gLf RX8 55 8 7 (.object "OwedFalls$Suspects") := ⟨RX8, TX8, 11, tyX8, rfl, by decide, gm 269 (by decide +kernel) (by decide +kernel), jnX8, tyX8_ok, nmX8, rfl, by decide +kernel, rfl⟩
theorem cw_RX8_59 : Cond.classLink RX8 59 "OwedFalls$Plan" ∈ gTbl := gm 178 (by decide +kernel) (by decide +kernel)
theorem ol_RX9_1 : Cond.methodLink RX9 1 objectInit ∈ gTbl := gm 722 (by decide +kernel) (by decide +kernel)
theorem lf_RX9_7 : gLf RX9 7 9 1 (.array .int) := ⟨RX9, TX9, 18, tyX9, rfl, by decide, gm 769 (by decide +kernel) (by decide +kernel), jnX9, tyX9_ok, nmX9, rfl, by decide +kernel, rfl⟩
theorem lf_RX9_13 : gLf RX9 13 9 3 (.array .int) := ⟨RX9, TX9, 18, tyX9, rfl, by decide, gm 771 (by decide +kernel) (by decide +kernel), jnX9, tyX9_ok, nmX9, rfl, by decide +kernel, rfl⟩
theorem lf_RX9_16 : gLf RX9 16 9 4 (.array .int) := ⟨RX9, TX9, 18, tyX9, rfl, by decide, gm 772 (by decide +kernel) (by decide +kernel), jnX9, tyX9_ok, nmX9, rfl, by decide +kernel, rfl⟩
theorem lf_RX9_19 : gLf RX9 19 9 5 (.array .int) := ⟨RX9, TX9, 18, tyX9, rfl, by decide, gm 773 (by decide +kernel) (by decide +kernel), jnX9, tyX9_ok, nmX9, rfl, by decide +kernel, rfl⟩
theorem lf_RX9_22 : gLf RX9 22 9 6 (.array .int) := ⟨RX9, TX9, 18, tyX9, rfl, by decide, gm 774 (by decide +kernel) (by decide +kernel), jnX9, tyX9_ok, nmX9, rfl, by decide +kernel, rfl⟩
theorem lf_RX9_25 : gLf RX9 25 9 7 (.array .boolean) := ⟨RX9, TX9, 18, tyX9, rfl, by decide, gm 775 (by decide +kernel) (by decide +kernel), jnX9, tyX9_ok, nmX9, rfl, by decide +kernel, rfl⟩
theorem lf_RX9_29 : gLf RX9 29 9 12 (.array .int) := ⟨RX9, TX9, 18, tyX9, rfl, by decide, gm 780 (by decide +kernel) (by decide +kernel), jnX9, tyX9_ok, nmX9, rfl, by decide +kernel, rfl⟩
theorem lf_RX9_32 : gLf RX9 32 9 13 (.array .int) := ⟨RX9, TX9, 18, tyX9, rfl, by decide, gm 781 (by decide +kernel) (by decide +kernel), jnX9, tyX9_ok, nmX9, rfl, by decide +kernel, rfl⟩
theorem lf_RX9_35 : gLf RX9 35 9 14 (.array .int) := ⟨RX9, TX9, 18, tyX9, rfl, by decide, gm 782 (by decide +kernel) (by decide +kernel), jnX9, tyX9_ok, nmX9, rfl, by decide +kernel, rfl⟩
theorem lf_RX9_38 : gLf RX9 38 9 15 (.array .int) := ⟨RX9, TX9, 18, tyX9, rfl, by decide, gm 783 (by decide +kernel) (by decide +kernel), jnX9, tyX9_ok, nmX9, rfl, by decide +kernel, rfl⟩
theorem lf_RX9_41 : gLf RX9 41 9 16 (.array .int) := ⟨RX9, TX9, 18, tyX9, rfl, by decide, gm 784 (by decide +kernel) (by decide +kernel), jnX9, tyX9_ok, nmX9, rfl, by decide +kernel, rfl⟩
theorem lf_RX9_44 : gLf RX9 44 9 17 (.array .int) := ⟨RX9, TX9, 18, tyX9, rfl, by decide, gm 785 (by decide +kernel) (by decide +kernel), jnX9, tyX9_ok, nmX9, rfl, by decide +kernel, rfl⟩
theorem cw_RL_7 : Cond.classLink RL 7 "OwedFalls" ∈ gTbl := gm 14 (by decide +kernel) (by decide +kernel)
theorem cw_RL_10 : Cond.classLink RL 10 "OwedFallsModel" ∈ gTbl := gm 717 (by decide +kernel) (by decide +kernel)
theorem iw_X0 : Cond.instantiable RX0 4 ∈ gTbl := gm 50 (by decide +kernel) (by decide +kernel)
theorem nw_X0 : Cond.initialized RX0 ∈ gTbl := gm 3 (by decide +kernel) (by decide +kernel)
theorem iw_X1 : Cond.instantiable RX1 5 ∈ gTbl := gm 56 (by decide +kernel) (by decide +kernel)
theorem nw_X1 : Cond.initialized RX1 ∈ gTbl := gm 4 (by decide +kernel) (by decide +kernel)
theorem iw_X2 : Cond.instantiable RX2 4 ∈ gTbl := gm 114 (by decide +kernel) (by decide +kernel)
theorem nw_X2 : Cond.initialized RX2 ∈ gTbl := gm 6 (by decide +kernel) (by decide +kernel)
theorem iw_X3 : Cond.instantiable RX3 13 ∈ gTbl := gm 179 (by decide +kernel) (by decide +kernel)
theorem nw_X3 : Cond.initialized RX3 ∈ gTbl := gm 9 (by decide +kernel) (by decide +kernel)
theorem iw_X4 : Cond.instantiable RX4 6 ∈ gTbl := gm 23 (by decide +kernel) (by decide +kernel)
theorem nw_X4 : Cond.initialized RX4 ∈ gTbl := gm 2 (by decide +kernel) (by decide +kernel)
theorem iw_X5 : Cond.instantiable RX5 5 ∈ gTbl := gm 135 (by decide +kernel) (by decide +kernel)
theorem nw_X5 : Cond.initialized RX5 ∈ gTbl := gm 7 (by decide +kernel) (by decide +kernel)
theorem iw_X6 : Cond.instantiable RX6 4 ∈ gTbl := gm 157 (by decide +kernel) (by decide +kernel)
theorem nw_X6 : Cond.initialized RX6 ∈ gTbl := gm 8 (by decide +kernel) (by decide +kernel)
theorem iw_X7 : Cond.instantiable RX7 1 ∈ gTbl := gm 103 (by decide +kernel) (by decide +kernel)
theorem nw_X7 : Cond.initialized RX7 ∈ gTbl := gm 5 (by decide +kernel) (by decide +kernel)
theorem iw_X8 : Cond.instantiable RX8 11 ∈ gTbl := gm 15 (by decide +kernel) (by decide +kernel)
theorem nw_X8 : Cond.initialized RX8 ∈ gTbl := gm 1 (by decide +kernel) (by decide +kernel)
theorem iw_X9 : Cond.instantiable RX9 18 ∈ gTbl := gm 718 (by decide +kernel) (by decide +kernel)
theorem nw_X9 : Cond.initialized RX9 ∈ gTbl := gm 10 (by decide +kernel) (by decide +kernel)
def bkX1 (cy : Nat → ClassId) (base k : Nat) (j : Nat) : va_E := match j with
  | 0 => .inr (1, [.ref (base + (k + 1)), .ref (base + (k + 2)), .ref (base + (k + 3)), .int 0, .int 0])
  | 1 => .inl (cy 0, 7, .inl (fun _ => 0))
  | 2 => .inl (cy 0, 7, .inl (fun _ => 0))
  | _ => .inl (cy 0, 49, .inl (fun _ => 0))
def bkX3 (cy : Nat → ClassId) (base k : Nat) (j : Nat) : va_E := match j with
  | 0 => .inr (3, [.ref (base + (k + 1)), .ref (base + (k + 2)), .ref (base + (k + 3)), .ref (base + (k + 4)), .ref (base + (k + 5)), .ref (base + (k + 6)), .ref (base + (k + 7)), .int 0, .int 0, .int 3, .int 3, .int 0, .int 0])
  | 1 => .inl (cy 0, 7, .inl (fun _ => 0))
  | 2 => .inl (cy 0, 7, .inl (fun _ => 0))
  | 3 => .inl (cy 0, 7, .inl (fun _ => 0))
  | 4 => .inl (cy 0, 7, .inl (fun _ => 0))
  | 5 => .inl (cy 0, 5, .inl (fun _ => 0))
  | 6 => .inl (cy 0, 5, .inl (fun _ => 0))
  | _ => .inl (cy 0, 5, .inl (fun _ => 0))
def bkX0 (cy : Nat → ClassId) (base k : Nat) (j : Nat) : va_E := match j with
  | 0 => .inr (0, [.ref (base + (k + 1)), .ref (base + (k + 5)), .int 0, .int 0])
  | 1 => .inr (1, [.ref (base + (k + 2)), .ref (base + (k + 3)), .ref (base + (k + 4)), .int 0, .int 0])
  | 2 => .inl (cy 0, 7, .inl (fun _ => 0))
  | 3 => .inl (cy 0, 7, .inl (fun _ => 0))
  | 4 => .inl (cy 0, 49, .inl (fun _ => 0))
  | 5 => .inl (cy 3, 10, .inr (.inr (.inr (.inr (fun i => some (base + (k + 5 + 1 + 4 * i)))))))
  | 6 => .inr (1, [.ref (base + (k + 7)), .ref (base + (k + 8)), .ref (base + (k + 9)), .int 0, .int 0])
  | 7 => .inl (cy 0, 7, .inl (fun _ => 0))
  | 8 => .inl (cy 0, 7, .inl (fun _ => 0))
  | 9 => .inl (cy 0, 49, .inl (fun _ => 0))
  | 10 => .inr (1, [.ref (base + (k + 11)), .ref (base + (k + 12)), .ref (base + (k + 13)), .int 0, .int 0])
  | 11 => .inl (cy 0, 7, .inl (fun _ => 0))
  | 12 => .inl (cy 0, 7, .inl (fun _ => 0))
  | 13 => .inl (cy 0, 49, .inl (fun _ => 0))
  | 14 => .inr (1, [.ref (base + (k + 15)), .ref (base + (k + 16)), .ref (base + (k + 17)), .int 0, .int 0])
  | 15 => .inl (cy 0, 7, .inl (fun _ => 0))
  | 16 => .inl (cy 0, 7, .inl (fun _ => 0))
  | 17 => .inl (cy 0, 49, .inl (fun _ => 0))
  | 18 => .inr (1, [.ref (base + (k + 19)), .ref (base + (k + 20)), .ref (base + (k + 21)), .int 0, .int 0])
  | 19 => .inl (cy 0, 7, .inl (fun _ => 0))
  | 20 => .inl (cy 0, 7, .inl (fun _ => 0))
  | 21 => .inl (cy 0, 49, .inl (fun _ => 0))
  | 22 => .inr (1, [.ref (base + (k + 23)), .ref (base + (k + 24)), .ref (base + (k + 25)), .int 0, .int 0])
  | 23 => .inl (cy 0, 7, .inl (fun _ => 0))
  | 24 => .inl (cy 0, 7, .inl (fun _ => 0))
  | 25 => .inl (cy 0, 49, .inl (fun _ => 0))
  | 26 => .inr (1, [.ref (base + (k + 27)), .ref (base + (k + 28)), .ref (base + (k + 29)), .int 0, .int 0])
  | 27 => .inl (cy 0, 7, .inl (fun _ => 0))
  | 28 => .inl (cy 0, 7, .inl (fun _ => 0))
  | 29 => .inl (cy 0, 49, .inl (fun _ => 0))
  | 30 => .inr (1, [.ref (base + (k + 31)), .ref (base + (k + 32)), .ref (base + (k + 33)), .int 0, .int 0])
  | 31 => .inl (cy 0, 7, .inl (fun _ => 0))
  | 32 => .inl (cy 0, 7, .inl (fun _ => 0))
  | 33 => .inl (cy 0, 49, .inl (fun _ => 0))
  | 34 => .inr (1, [.ref (base + (k + 35)), .ref (base + (k + 36)), .ref (base + (k + 37)), .int 0, .int 0])
  | 35 => .inl (cy 0, 7, .inl (fun _ => 0))
  | 36 => .inl (cy 0, 7, .inl (fun _ => 0))
  | 37 => .inl (cy 0, 49, .inl (fun _ => 0))
  | 38 => .inr (1, [.ref (base + (k + 39)), .ref (base + (k + 40)), .ref (base + (k + 41)), .int 0, .int 0])
  | 39 => .inl (cy 0, 7, .inl (fun _ => 0))
  | 40 => .inl (cy 0, 7, .inl (fun _ => 0))
  | 41 => .inl (cy 0, 49, .inl (fun _ => 0))
  | 42 => .inr (1, [.ref (base + (k + 43)), .ref (base + (k + 44)), .ref (base + (k + 45)), .int 0, .int 0])
  | 43 => .inl (cy 0, 7, .inl (fun _ => 0))
  | 44 => .inl (cy 0, 7, .inl (fun _ => 0))
  | _ => .inl (cy 0, 49, .inl (fun _ => 0))
theorem gC_of2 {l : Launch} {D : va_G} {cy : Nat → ClassId} {base : Nat} {own : String} {cc : ByteArray} {nL : Nat} {ret : Option FieldType} {y : MethodName} {rm : Room} {args : List Value} {mc ms n n1 : Nat} {h h1 : Nat → va_E} {rv : Option Value} {lv0 : List (Nat × Value)} (ho : y.cls = own) (hy : plainName y.cls = true) (hn : (lg_sl args).length ≤ nL) (hlv : lv_args 0 args = lv0)
    (hG : G l D cy base own cc nL ret rm (gXm y) (gZm D cy base mc ms rv n1 h1) 0 lv0 [] 0 0 n h) : gMet l D cy base y cc nL ret rm args n h mc ms rv n1 h1 := by
  subst ho
  exact gMet_of hy hn hlv hG
set_option maxRecDepth 100000 in
set_option maxHeartbeats 4000000 in
theorem k_X1_init {l : Launch} {D : va_G} {cy : Nat → ClassId} {base : Nat} {h : Nat → va_E} (k : Nat) (hk : k + 4 < 199) (hh : ∀ j, j < 4 → h (k + j) = bkX1 cy base k j) : gMet l D cy base yX1_init cX1_init 1 none (gRn 1 3 63) [.ref (base + k)] (k + 1) (va_up h k (.inr (1, [.null, .null, .null, .int 0, .int 0]))) 3 63 none (k + 4) h := by
  refine gC_of2 (own := RX1) (lv0 := [(0, .ref (base + k))]) rfl (by decide) (Nat.le_of_ble_eq_true rfl) rfl ?_
  refine g_aload_n (j := 0) (x := base + k) dX1_init_0 rfl rfl ?_
  refine g_objInit ol_RX1_3 oi_ok oc_ok (by decide) (Nat.le_of_ble_eq_true rfl) dX1_init_1 ?_
  refine g_aload_n (j := 0) (x := base + k) dX1_init_4 rfl rfl ?_
  refine g_bipush (v := 7) dX1_init_5 (by decide) ?_
  refine g_newA (at0 := .int) (kd := 0) (N0 := 7) (ty := .int) (by unfold gNN; omega) ac_int rfl rfl (fun _ _ h9 => h9) rfl (by decide) (by decide) (by decide) (by decide) (by decide) ((up_ne (by omega)).trans ((hh 1 (by decide)))) dX1_init_7 ?_
  refine g_putF (fs := [.null, .null, .null, .int 0, .int 0]) (fun _ _ _ h9 => h9) lf_RX1_9 (by omega) (up_at) rfl rfl (Nat.le_of_ble_eq_true rfl) dX1_init_9 ?_
  rw [up_up]
  refine g_aload_n (j := 0) (x := base + k) dX1_init_12 rfl rfl ?_
  refine g_bipush (v := 7) dX1_init_13 (by decide) ?_
  refine g_newA (at0 := .int) (kd := 0) (N0 := 7) (ty := .int) (by unfold gNN; omega) ac_int rfl rfl (fun _ _ h9 => h9) rfl (by decide) (by decide) (by decide) (by decide) (by decide) ((up_ne (by omega)).trans ((hh 2 (by decide)))) dX1_init_15 ?_
  refine g_putF (fs := [.ref (base + (k + 1)), .null, .null, .int 0, .int 0]) (fun _ _ _ h9 => h9) lf_RX1_15 (by omega) (up_at) rfl rfl (Nat.le_of_ble_eq_true rfl) dX1_init_17 ?_
  rw [up_up]
  refine g_aload_n (j := 0) (x := base + k) dX1_init_20 rfl rfl ?_
  refine g_bipush (v := 49) dX1_init_21 (by decide) ?_
  refine g_newA (at0 := .int) (kd := 0) (N0 := 49) (ty := .int) (by unfold gNN; omega) ac_int rfl rfl (fun _ _ h9 => h9) rfl (by decide) (by decide) (by decide) (by decide) (by decide) ((up_ne (by omega)).trans ((hh 3 (by decide)))) dX1_init_23 ?_
  refine g_putF (fs := [.ref (base + (k + 1)), .ref (base + (k + 2)), .null, .int 0, .int 0]) (fun _ _ _ h9 => h9) lf_RX1_18 (by omega) (up_at) rfl rfl (Nat.le_of_ble_eq_true rfl) dX1_init_25 ?_
  rw [up_up]
  refine g_aload_n (j := 0) (x := base + k) dX1_init_28 rfl rfl ?_
  refine g_iconst (v := 0) dX1_init_29 (by decide) ?_
  refine g_put (fs := [.ref (base + (k + 1)), .ref (base + (k + 2)), .ref (base + (k + 3)), .int 0, .int 0]) lw_RX1_21 (by omega) (up_at) rfl rfl (Nat.le_of_ble_eq_true rfl) dX1_init_30 ?_
  rw [up_up]
  refine g_aload_n (j := 0) (x := base + k) dX1_init_33 rfl rfl ?_
  refine g_iconst (v := 0) dX1_init_34 (by decide) ?_
  refine g_put (fs := [.ref (base + (k + 1)), .ref (base + (k + 2)), .ref (base + (k + 3)), .int (0), .int 0]) lw_RX1_25 (by omega) (up_at) rfl rfl (Nat.le_of_ble_eq_true rfl) dX1_init_35 ?_
  rw [up_up]
  refine g_drop ((hh 0 (by decide))) ?_
  exact g_vret rfl dX1_init_38
set_option maxRecDepth 100000 in
set_option maxHeartbeats 4000000 in
theorem k_X3_init {l : Launch} {D : va_G} {cy : Nat → ClassId} {base : Nat} {h : Nat → va_E} (k : Nat) (hk : k + 8 < 199) (hh : ∀ j, j < 8 → h (k + j) = bkX3 cy base k j) : gMet l D cy base yX3_init cX3_init 1 none (gRn 1 7 43) [.ref (base + k)] (k + 1) (va_up h k (.inr (3, [.null, .null, .null, .null, .null, .null, .null, .int 0, .int 0, .int 0, .int 0, .int 0, .int 0]))) 7 43 none (k + 8) h := by
  refine gC_of2 (own := RX3) (lv0 := [(0, .ref (base + k))]) rfl (by decide) (Nat.le_of_ble_eq_true rfl) rfl ?_
  refine g_aload_n (j := 0) (x := base + k) dX3_init_0 rfl rfl ?_
  refine g_objInit ol_RX3_3 oi_ok oc_ok (by decide) (Nat.le_of_ble_eq_true rfl) dX3_init_1 ?_
  refine g_aload_n (j := 0) (x := base + k) dX3_init_4 rfl rfl ?_
  refine g_bipush (v := 7) dX3_init_5 (by decide) ?_
  refine g_newA (at0 := .int) (kd := 0) (N0 := 7) (ty := .int) (by unfold gNN; omega) ac_int rfl rfl (fun _ _ h9 => h9) rfl (by decide) (by decide) (by decide) (by decide) (by decide) ((up_ne (by omega)).trans ((hh 1 (by decide)))) dX3_init_7 ?_
  refine g_putF (fs := [.null, .null, .null, .null, .null, .null, .null, .int 0, .int 0, .int 0, .int 0, .int 0, .int 0]) (fun _ _ _ h9 => h9) lf_RX3_9 (by omega) (up_at) rfl rfl (Nat.le_of_ble_eq_true rfl) dX3_init_9 ?_
  rw [up_up]
  refine g_aload_n (j := 0) (x := base + k) dX3_init_12 rfl rfl ?_
  refine g_bipush (v := 7) dX3_init_13 (by decide) ?_
  refine g_newA (at0 := .int) (kd := 0) (N0 := 7) (ty := .int) (by unfold gNN; omega) ac_int rfl rfl (fun _ _ h9 => h9) rfl (by decide) (by decide) (by decide) (by decide) (by decide) ((up_ne (by omega)).trans ((hh 2 (by decide)))) dX3_init_15 ?_
  refine g_putF (fs := [.ref (base + (k + 1)), .null, .null, .null, .null, .null, .null, .int 0, .int 0, .int 0, .int 0, .int 0, .int 0]) (fun _ _ _ h9 => h9) lf_RX3_15 (by omega) (up_at) rfl rfl (Nat.le_of_ble_eq_true rfl) dX3_init_17 ?_
  rw [up_up]
  refine g_aload_n (j := 0) (x := base + k) dX3_init_20 rfl rfl ?_
  refine g_bipush (v := 7) dX3_init_21 (by decide) ?_
  refine g_newA (at0 := .int) (kd := 0) (N0 := 7) (ty := .int) (by unfold gNN; omega) ac_int rfl rfl (fun _ _ h9 => h9) rfl (by decide) (by decide) (by decide) (by decide) (by decide) ((up_ne (by omega)).trans ((hh 3 (by decide)))) dX3_init_23 ?_
  refine g_putF (fs := [.ref (base + (k + 1)), .ref (base + (k + 2)), .null, .null, .null, .null, .null, .int 0, .int 0, .int 0, .int 0, .int 0, .int 0]) (fun _ _ _ h9 => h9) lf_RX3_18 (by omega) (up_at) rfl rfl (Nat.le_of_ble_eq_true rfl) dX3_init_25 ?_
  rw [up_up]
  refine g_aload_n (j := 0) (x := base + k) dX3_init_28 rfl rfl ?_
  refine g_bipush (v := 7) dX3_init_29 (by decide) ?_
  refine g_newA (at0 := .int) (kd := 0) (N0 := 7) (ty := .int) (by unfold gNN; omega) ac_int rfl rfl (fun _ _ h9 => h9) rfl (by decide) (by decide) (by decide) (by decide) (by decide) ((up_ne (by omega)).trans ((hh 4 (by decide)))) dX3_init_31 ?_
  refine g_putF (fs := [.ref (base + (k + 1)), .ref (base + (k + 2)), .ref (base + (k + 3)), .null, .null, .null, .null, .int 0, .int 0, .int 0, .int 0, .int 0, .int 0]) (fun _ _ _ h9 => h9) lf_RX3_21 (by omega) (up_at) rfl rfl (Nat.le_of_ble_eq_true rfl) dX3_init_33 ?_
  rw [up_up]
  refine g_aload_n (j := 0) (x := base + k) dX3_init_36 rfl rfl ?_
  refine g_iconst (v := 5) dX3_init_37 (by decide) ?_
  refine g_newA (at0 := .int) (kd := 0) (N0 := 5) (ty := .int) (by unfold gNN; omega) ac_int rfl rfl (fun _ _ h9 => h9) rfl (by decide) (by decide) (by decide) (by decide) (by decide) ((up_ne (by omega)).trans ((hh 5 (by decide)))) dX3_init_38 ?_
  refine g_putF (fs := [.ref (base + (k + 1)), .ref (base + (k + 2)), .ref (base + (k + 3)), .ref (base + (k + 4)), .null, .null, .null, .int 0, .int 0, .int 0, .int 0, .int 0, .int 0]) (fun _ _ _ h9 => h9) lf_RX3_24 (by omega) (up_at) rfl rfl (Nat.le_of_ble_eq_true rfl) dX3_init_40 ?_
  rw [up_up]
  refine g_aload_n (j := 0) (x := base + k) dX3_init_43 rfl rfl ?_
  refine g_iconst (v := 5) dX3_init_44 (by decide) ?_
  refine g_newA (at0 := .int) (kd := 0) (N0 := 5) (ty := .int) (by unfold gNN; omega) ac_int rfl rfl (fun _ _ h9 => h9) rfl (by decide) (by decide) (by decide) (by decide) (by decide) ((up_ne (by omega)).trans ((hh 6 (by decide)))) dX3_init_45 ?_
  refine g_putF (fs := [.ref (base + (k + 1)), .ref (base + (k + 2)), .ref (base + (k + 3)), .ref (base + (k + 4)), .ref (base + (k + 5)), .null, .null, .int 0, .int 0, .int 0, .int 0, .int 0, .int 0]) (fun _ _ _ h9 => h9) lf_RX3_27 (by omega) (up_at) rfl rfl (Nat.le_of_ble_eq_true rfl) dX3_init_47 ?_
  rw [up_up]
  refine g_aload_n (j := 0) (x := base + k) dX3_init_50 rfl rfl ?_
  refine g_iconst (v := 5) dX3_init_51 (by decide) ?_
  refine g_newA (at0 := .int) (kd := 0) (N0 := 5) (ty := .int) (by unfold gNN; omega) ac_int rfl rfl (fun _ _ h9 => h9) rfl (by decide) (by decide) (by decide) (by decide) (by decide) ((up_ne (by omega)).trans ((hh 7 (by decide)))) dX3_init_52 ?_
  refine g_putF (fs := [.ref (base + (k + 1)), .ref (base + (k + 2)), .ref (base + (k + 3)), .ref (base + (k + 4)), .ref (base + (k + 5)), .ref (base + (k + 6)), .null, .int 0, .int 0, .int 0, .int 0, .int 0, .int 0]) (fun _ _ _ h9 => h9) lf_RX3_30 (by omega) (up_at) rfl rfl (Nat.le_of_ble_eq_true rfl) dX3_init_54 ?_
  rw [up_up]
  refine g_aload_n (j := 0) (x := base + k) dX3_init_57 rfl rfl ?_
  refine g_iconst (v := 0) dX3_init_58 (by decide) ?_
  refine g_put (fs := [.ref (base + (k + 1)), .ref (base + (k + 2)), .ref (base + (k + 3)), .ref (base + (k + 4)), .ref (base + (k + 5)), .ref (base + (k + 6)), .ref (base + (k + 7)), .int 0, .int 0, .int 0, .int 0, .int 0, .int 0]) lw_RX3_33 (by omega) (up_at) rfl rfl (Nat.le_of_ble_eq_true rfl) dX3_init_59 ?_
  rw [up_up]
  refine g_aload_n (j := 0) (x := base + k) dX3_init_62 rfl rfl ?_
  refine g_iconst (v := 0) dX3_init_63 (by decide) ?_
  refine g_put (fs := [.ref (base + (k + 1)), .ref (base + (k + 2)), .ref (base + (k + 3)), .ref (base + (k + 4)), .ref (base + (k + 5)), .ref (base + (k + 6)), .ref (base + (k + 7)), .int (0), .int 0, .int 0, .int 0, .int 0, .int 0]) lw_RX3_37 (by omega) (up_at) rfl rfl (Nat.le_of_ble_eq_true rfl) dX3_init_64 ?_
  rw [up_up]
  refine g_aload_n (j := 0) (x := base + k) dX3_init_67 rfl rfl ?_
  refine g_iconst (v := 3) dX3_init_68 (by decide) ?_
  refine g_put (fs := [.ref (base + (k + 1)), .ref (base + (k + 2)), .ref (base + (k + 3)), .ref (base + (k + 4)), .ref (base + (k + 5)), .ref (base + (k + 6)), .ref (base + (k + 7)), .int (0), .int (0), .int 0, .int 0, .int 0, .int 0]) lw_RX3_40 (by omega) (up_at) rfl rfl (Nat.le_of_ble_eq_true rfl) dX3_init_69 ?_
  rw [up_up]
  refine g_aload_n (j := 0) (x := base + k) dX3_init_72 rfl rfl ?_
  refine g_iconst (v := 3) dX3_init_73 (by decide) ?_
  refine g_put (fs := [.ref (base + (k + 1)), .ref (base + (k + 2)), .ref (base + (k + 3)), .ref (base + (k + 4)), .ref (base + (k + 5)), .ref (base + (k + 6)), .ref (base + (k + 7)), .int (0), .int (0), .int (3), .int 0, .int 0, .int 0]) lw_RX3_43 (by omega) (up_at) rfl rfl (Nat.le_of_ble_eq_true rfl) dX3_init_74 ?_
  rw [up_up]
  refine g_aload_n (j := 0) (x := base + k) dX3_init_77 rfl rfl ?_
  refine g_iconst (v := 0) dX3_init_78 (by decide) ?_
  refine g_put (fs := [.ref (base + (k + 1)), .ref (base + (k + 2)), .ref (base + (k + 3)), .ref (base + (k + 4)), .ref (base + (k + 5)), .ref (base + (k + 6)), .ref (base + (k + 7)), .int (0), .int (0), .int (3), .int (3), .int 0, .int 0]) lw_RX3_46 (by omega) (up_at) rfl rfl (Nat.le_of_ble_eq_true rfl) dX3_init_79 ?_
  rw [up_up]
  refine g_aload_n (j := 0) (x := base + k) dX3_init_82 rfl rfl ?_
  refine g_iconst (v := 0) dX3_init_83 (by decide) ?_
  refine g_put (fs := [.ref (base + (k + 1)), .ref (base + (k + 2)), .ref (base + (k + 3)), .ref (base + (k + 4)), .ref (base + (k + 5)), .ref (base + (k + 6)), .ref (base + (k + 7)), .int (0), .int (0), .int (3), .int (3), .int (0), .int 0]) lw_RX3_50 (by omega) (up_at) rfl rfl (Nat.le_of_ble_eq_true rfl) dX3_init_84 ?_
  rw [up_up]
  refine g_drop ((hh 0 (by decide))) ?_
  exact g_vret rfl dX3_init_87
set_option maxRecDepth 100000 in
set_option maxHeartbeats 4000000 in
theorem k_X4_init {l : Launch} {D : va_G} {cy : Nat → ClassId} {base : Nat} {h : Nat → va_E} (hh : ∀ j, j < 2 → h (1 + j) = gH cy base gM0 (1 + j)) : gMet l D cy base yX4_init cX4_init 1 none (gRn 1 1 200) [.ref (base + 1)] 2 (va_up h 1 (.inr (4, [.null, .int 0, .int 0, .int 0, .int 0, .int 0]))) 1 200 none 3 h := by
  refine gC_of2 (own := RX4) (lv0 := [(0, .ref (base + 1))]) rfl (by decide) (Nat.le_of_ble_eq_true rfl) rfl ?_
  refine g_aload_n (j := 0) (x := base + 1) dX4_init_0 rfl rfl ?_
  refine g_objInit ol_RX4_3 oi_ok oc_ok (by decide) (Nat.le_of_ble_eq_true rfl) dX4_init_1 ?_
  refine g_aload_n (j := 0) (x := base + 1) dX4_init_4 rfl rfl ?_
  refine g_sipush (v := 200) dX4_init_5 (by decide) ?_
  refine g_newA (at0 := .int) (kd := 0) (N0 := 200) (ty := .int) (by decide) ac_int rfl rfl (fun _ _ h9 => h9) rfl (by decide) (by decide) (by decide) (by decide) (by decide) ((up_ne (by decide)).trans ((hh 1 (by decide)))) dX4_init_8 ?_
  refine g_putF (fs := [.null, .int 0, .int 0, .int 0, .int 0, .int 0]) (fun _ _ _ h9 => h9) lf_RX4_9 (by decide) (up_at) rfl rfl (Nat.le_of_ble_eq_true rfl) dX4_init_10 ?_
  rw [up_up]
  refine g_aload_n (j := 0) (x := base + 1) dX4_init_13 rfl rfl ?_
  refine g_iconst (v := 0) dX4_init_14 (by decide) ?_
  refine g_put (fs := [.ref (base + 2), .int 0, .int 0, .int 0, .int 0, .int 0]) lw_RX4_15 (by decide) (up_at) rfl rfl (Nat.le_of_ble_eq_true rfl) dX4_init_15 ?_
  rw [up_up]
  refine g_aload_n (j := 0) (x := base + 1) dX4_init_18 rfl rfl ?_
  refine g_iconst (v := 0) dX4_init_19 (by decide) ?_
  refine g_put (fs := [.ref (base + 2), .int (0), .int 0, .int 0, .int 0, .int 0]) lw_RX4_19 (by decide) (up_at) rfl rfl (Nat.le_of_ble_eq_true rfl) dX4_init_20 ?_
  rw [up_up]
  refine g_aload_n (j := 0) (x := base + 1) dX4_init_23 rfl rfl ?_
  refine g_iconst (v := 0) dX4_init_24 (by decide) ?_
  refine g_put (fs := [.ref (base + 2), .int (0), .int (0), .int 0, .int 0, .int 0]) lw_RX4_22 (by decide) (up_at) rfl rfl (Nat.le_of_ble_eq_true rfl) dX4_init_25 ?_
  rw [up_up]
  refine g_aload_n (j := 0) (x := base + 1) dX4_init_28 rfl rfl ?_
  refine g_iconst (v := 0) dX4_init_29 (by decide) ?_
  refine g_put (fs := [.ref (base + 2), .int (0), .int (0), .int (0), .int 0, .int 0]) lw_RX4_25 (by decide) (up_at) rfl rfl (Nat.le_of_ble_eq_true rfl) dX4_init_30 ?_
  rw [up_up]
  refine g_aload_n (j := 0) (x := base + 1) dX4_init_33 rfl rfl ?_
  refine g_iconst (v := -1) dX4_init_34 (by decide) ?_
  refine g_put (fs := [.ref (base + 2), .int (0), .int (0), .int (0), .int (0), .int 0]) lw_RX4_28 (by decide) (up_at) rfl rfl (Nat.le_of_ble_eq_true rfl) dX4_init_35 ?_
  rw [up_up]
  refine g_drop ((hh 0 (by decide))) ?_
  exact g_vret rfl dX4_init_38
set_option maxRecDepth 100000 in
set_option maxHeartbeats 4000000 in
theorem k_X7_init {l : Launch} {D : va_G} {cy : Nat → ClassId} {base : Nat} {h : Nat → va_E} (hh : ∀ j, j < 2 → h (143 + j) = gH cy base gM0 (143 + j)) : gMet l D cy base yX7_init cX7_init 1 none (gRn 1 1 7) [.ref (base + 143)] 144 (va_up h 143 (.inr (7, [.null]))) 1 7 none 145 h := by
  refine gC_of2 (own := RX7) (lv0 := [(0, .ref (base + 143))]) rfl (by decide) (Nat.le_of_ble_eq_true rfl) rfl ?_
  refine g_aload_n (j := 0) (x := base + 143) dX7_init_0 rfl rfl ?_
  refine g_objInit ol_RX7_3 oi_ok oc_ok (by decide) (Nat.le_of_ble_eq_true rfl) dX7_init_1 ?_
  refine g_aload_n (j := 0) (x := base + 143) dX7_init_4 rfl rfl ?_
  refine g_bipush (v := 7) dX7_init_5 (by decide) ?_
  refine g_newA (at0 := .int) (kd := 0) (N0 := 7) (ty := .int) (by decide) ac_int rfl rfl (fun _ _ h9 => h9) rfl (by decide) (by decide) (by decide) (by decide) (by decide) ((up_ne (by decide)).trans ((hh 1 (by decide)))) dX7_init_7 ?_
  refine g_putF (fs := [.null]) (fun _ _ _ h9 => h9) lf_RX7_9 (by decide) (up_at) rfl rfl (Nat.le_of_ble_eq_true rfl) dX7_init_9 ?_
  rw [up_up]
  refine g_drop ((hh 0 (by decide))) ?_
  exact g_vret rfl dX7_init_12
set_option maxRecDepth 100000 in
set_option maxHeartbeats 4000000 in
theorem k_X2_init {l : Launch} {D : va_G} {cy : Nat → ClassId} {base : Nat} {h : Nat → va_E} (hh : ∀ j, j < 20 → h (145 + j) = gH cy base gM0 (145 + j)) : gMet l D cy base yX2_init cX2_init 1 none (gRn 1 19 1916) [.ref (base + 145)] 146 (va_up h 145 (.inr (2, [.null, .null, .null, .null]))) 19 1916 none 165 h := by
  refine gC_of2 (own := RX2) (lv0 := [(0, .ref (base + 145))]) rfl (by decide) (Nat.le_of_ble_eq_true rfl) rfl ?_
  refine g_aload_n (j := 0) (x := base + 145) dX2_init_0 rfl rfl ?_
  refine g_objInit ol_RX2_3 oi_ok oc_ok (by decide) (Nat.le_of_ble_eq_true rfl) dX2_init_1 ?_
  refine g_aload_n (j := 0) (x := base + 145) dX2_init_4 rfl rfl ?_
  refine g_bipush (v := 10) dX2_init_5 (by decide) ?_
  refine g_newA (at0 := .int) (kd := 0) (N0 := 10) (ty := .int) (by decide) ac_int rfl rfl (fun _ _ h9 => h9) rfl (by decide) (by decide) (by decide) (by decide) (by decide) ((up_ne (by decide)).trans ((hh 1 (by decide)))) dX2_init_7 ?_
  refine g_putF (fs := [.null, .null, .null, .null]) (fun _ _ _ h9 => h9) lf_RX2_11 (by decide) (up_at) rfl rfl (Nat.le_of_ble_eq_true rfl) dX2_init_9 ?_
  rw [up_up]
  refine g_aload_n (j := 0) (x := base + 145) dX2_init_12 rfl rfl ?_
  refine g_sipush (v := 1000) dX2_init_13 (by decide) ?_
  refine g_newA (at0 := .int) (kd := 0) (N0 := 1000) (ty := .int) (by decide) ac_int rfl rfl (fun _ _ h9 => h9) rfl (by decide) (by decide) (by decide) (by decide) (by decide) ((up_ne (by decide)).trans ((hh 2 (by decide)))) dX2_init_16 ?_
  refine g_putF (fs := [.ref (base + 146), .null, .null, .null]) (fun _ _ _ h9 => h9) lf_RX2_15 (by decide) (up_at) rfl rfl (Nat.le_of_ble_eq_true rfl) dX2_init_18 ?_
  rw [up_up]
  refine g_aload_n (j := 0) (x := base + 145) dX2_init_21 rfl rfl ?_
  refine g_bipush (v := 7) dX2_init_22 (by decide) ?_
  refine g_bipush (v := 13) dX2_init_24 (by decide) ?_
  refine g_mnew (N0 := 7) (K0 := 13) (fun j hj => by unfold gNN; omega) cw_RX2_18 ac_int (by decide) (by decide) (by decide) (by decide) (by decide) (by decide) (by decide) (by decide) (by decide) ((up_ne (by decide)).trans ((hh 3 (by decide)))) (fun j hj => match j, hj with | 0, _ => ((up_ne (by decide)).trans ((hh 4 (by decide)))) | 1, _ => ((up_ne (by decide)).trans ((hh 5 (by decide)))) | 2, _ => ((up_ne (by decide)).trans ((hh 6 (by decide)))) | 3, _ => ((up_ne (by decide)).trans ((hh 7 (by decide)))) | 4, _ => ((up_ne (by decide)).trans ((hh 8 (by decide)))) | 5, _ => ((up_ne (by decide)).trans ((hh 9 (by decide)))) | 6, _ => ((up_ne (by decide)).trans ((hh 10 (by decide)))) | j + 7, h9 => absurd h9 (by omega)) dX2_init_26 ?_
  refine g_putF (fs := [.ref (base + 146), .ref (base + 147), .null, .null]) (fun _ _ _ h9 => h9) lf_RX2_20 (by decide) (up_at) rfl rfl (Nat.le_of_ble_eq_true rfl) dX2_init_30 ?_
  rw [up_up]
  refine g_aload_n (j := 0) (x := base + 145) dX2_init_33 rfl rfl ?_
  refine g_bipush (v := 8) dX2_init_34 (by decide) ?_
  refine g_bipush (v := 100) dX2_init_36 (by decide) ?_
  refine g_mnew (N0 := 8) (K0 := 100) (fun j hj => by unfold gNN; omega) cw_RX2_18 ac_int (by decide) (by decide) (by decide) (by decide) (by decide) (by decide) (by decide) (by decide) (by decide) ((up_ne (by decide)).trans ((hh 11 (by decide)))) (fun j hj => match j, hj with | 0, _ => ((up_ne (by decide)).trans ((hh 12 (by decide)))) | 1, _ => ((up_ne (by decide)).trans ((hh 13 (by decide)))) | 2, _ => ((up_ne (by decide)).trans ((hh 14 (by decide)))) | 3, _ => ((up_ne (by decide)).trans ((hh 15 (by decide)))) | 4, _ => ((up_ne (by decide)).trans ((hh 16 (by decide)))) | 5, _ => ((up_ne (by decide)).trans ((hh 17 (by decide)))) | 6, _ => ((up_ne (by decide)).trans ((hh 18 (by decide)))) | 7, _ => ((up_ne (by decide)).trans ((hh 19 (by decide)))) | j + 8, h9 => absurd h9 (by omega)) dX2_init_38 ?_
  refine g_putF (fs := [.ref (base + 146), .ref (base + 147), .ref (base + 148), .null]) (fun _ _ _ h9 => h9) lf_RX2_23 (by decide) (up_at) rfl rfl (Nat.le_of_ble_eq_true rfl) dX2_init_42 ?_
  rw [up_up]
  refine g_drop ((hh 0 (by decide))) ?_
  exact g_vret rfl dX2_init_45
set_option maxRecDepth 100000 in
set_option maxHeartbeats 4000000 in
theorem k_X5_init {l : Launch} {D : va_G} {cy : Nat → ClassId} {base : Nat} {h : Nat → va_E} (hh : ∀ j, j < 3 → h (165 + j) = gH cy base gM0 (165 + j)) : gMet l D cy base yX5_init cX5_init 1 none (gRn 1 2 56) [.ref (base + 165)] 166 (va_up h 165 (.inr (5, [.null, .null, .int 0, .int 0, .int 0]))) 2 56 none 168 h := by
  refine gC_of2 (own := RX5) (lv0 := [(0, .ref (base + 165))]) rfl (by decide) (Nat.le_of_ble_eq_true rfl) rfl ?_
  refine g_aload_n (j := 0) (x := base + 165) dX5_init_0 rfl rfl ?_
  refine g_objInit ol_RX5_3 oi_ok oc_ok (by decide) (Nat.le_of_ble_eq_true rfl) dX5_init_1 ?_
  refine g_aload_n (j := 0) (x := base + 165) dX5_init_4 rfl rfl ?_
  refine g_bipush (v := 49) dX5_init_5 (by decide) ?_
  refine g_newA (at0 := .int) (kd := 0) (N0 := 49) (ty := .int) (by decide) ac_int rfl rfl (fun _ _ h9 => h9) rfl (by decide) (by decide) (by decide) (by decide) (by decide) ((up_ne (by decide)).trans ((hh 1 (by decide)))) dX5_init_7 ?_
  refine g_putF (fs := [.null, .null, .int 0, .int 0, .int 0]) (fun _ _ _ h9 => h9) lf_RX5_9 (by decide) (up_at) rfl rfl (Nat.le_of_ble_eq_true rfl) dX5_init_9 ?_
  rw [up_up]
  refine g_aload_n (j := 0) (x := base + 165) dX5_init_12 rfl rfl ?_
  refine g_bipush (v := 7) dX5_init_13 (by decide) ?_
  refine g_newA (at0 := .int) (kd := 0) (N0 := 7) (ty := .int) (by decide) ac_int rfl rfl (fun _ _ h9 => h9) rfl (by decide) (by decide) (by decide) (by decide) (by decide) ((up_ne (by decide)).trans ((hh 2 (by decide)))) dX5_init_15 ?_
  refine g_putF (fs := [.ref (base + 166), .null, .int 0, .int 0, .int 0]) (fun _ _ _ h9 => h9) lf_RX5_15 (by decide) (up_at) rfl rfl (Nat.le_of_ble_eq_true rfl) dX5_init_17 ?_
  rw [up_up]
  refine g_aload_n (j := 0) (x := base + 165) dX5_init_20 rfl rfl ?_
  refine g_iconst (v := 0) dX5_init_21 (by decide) ?_
  refine g_put (fs := [.ref (base + 166), .ref (base + 167), .int 0, .int 0, .int 0]) lw_RX5_18 (by decide) (up_at) rfl rfl (Nat.le_of_ble_eq_true rfl) dX5_init_22 ?_
  rw [up_up]
  refine g_aload_n (j := 0) (x := base + 165) dX5_init_25 rfl rfl ?_
  refine g_iconst (v := 0) dX5_init_26 (by decide) ?_
  refine g_put (fs := [.ref (base + 166), .ref (base + 167), .int (0), .int 0, .int 0]) lw_RX5_22 (by decide) (up_at) rfl rfl (Nat.le_of_ble_eq_true rfl) dX5_init_27 ?_
  rw [up_up]
  refine g_aload_n (j := 0) (x := base + 165) dX5_init_30 rfl rfl ?_
  refine g_iconst (v := 0) dX5_init_31 (by decide) ?_
  refine g_put (fs := [.ref (base + 166), .ref (base + 167), .int (0), .int (0), .int 0]) lw_RX5_25 (by decide) (up_at) rfl rfl (Nat.le_of_ble_eq_true rfl) dX5_init_32 ?_
  rw [up_up]
  refine g_drop ((hh 0 (by decide))) ?_
  exact g_vret rfl dX5_init_35
set_option maxRecDepth 100000 in
set_option maxHeartbeats 4000000 in
theorem k_X6_init {l : Launch} {D : va_G} {cy : Nat → ClassId} {base : Nat} {h : Nat → va_E} (hh : ∀ j, j < 2 → h (168 + j) = gH cy base gM0 (168 + j)) : gMet l D cy base yX6_init cX6_init 1 none (gRn 1 1 11) [.ref (base + 168)] 169 (va_up h 168 (.inr (6, [.null, .int 0, .int 0, .int 0]))) 1 11 none 170 h := by
  refine gC_of2 (own := RX6) (lv0 := [(0, .ref (base + 168))]) rfl (by decide) (Nat.le_of_ble_eq_true rfl) rfl ?_
  refine g_aload_n (j := 0) (x := base + 168) dX6_init_0 rfl rfl ?_
  refine g_objInit ol_RX6_3 oi_ok oc_ok (by decide) (Nat.le_of_ble_eq_true rfl) dX6_init_1 ?_
  refine g_aload_n (j := 0) (x := base + 168) dX6_init_4 rfl rfl ?_
  refine g_bipush (v := 11) dX6_init_5 (by decide) ?_
  refine g_newA (at0 := .int) (kd := 0) (N0 := 11) (ty := .int) (by decide) ac_int rfl rfl (fun _ _ h9 => h9) rfl (by decide) (by decide) (by decide) (by decide) (by decide) ((up_ne (by decide)).trans ((hh 1 (by decide)))) dX6_init_7 ?_
  refine g_putF (fs := [.null, .int 0, .int 0, .int 0]) (fun _ _ _ h9 => h9) lf_RX6_11 (by decide) (up_at) rfl rfl (Nat.le_of_ble_eq_true rfl) dX6_init_9 ?_
  rw [up_up]
  refine g_aload_n (j := 0) (x := base + 168) dX6_init_12 rfl rfl ?_
  refine g_iconst (v := 0) dX6_init_13 (by decide) ?_
  refine g_put (fs := [.ref (base + 169), .int 0, .int 0, .int 0]) lw_RX6_15 (by decide) (up_at) rfl rfl (Nat.le_of_ble_eq_true rfl) dX6_init_14 ?_
  rw [up_up]
  refine g_aload_n (j := 0) (x := base + 168) dX6_init_17 rfl rfl ?_
  refine g_iconst (v := 0) dX6_init_18 (by decide) ?_
  refine g_put (fs := [.ref (base + 169), .int (0), .int 0, .int 0]) lw_RX6_19 (by decide) (up_at) rfl rfl (Nat.le_of_ble_eq_true rfl) dX6_init_19 ?_
  rw [up_up]
  refine g_aload_n (j := 0) (x := base + 168) dX6_init_22 rfl rfl ?_
  refine g_iconst (v := 0) dX6_init_23 (by decide) ?_
  refine g_put (fs := [.ref (base + 169), .int (0), .int (0), .int 0]) lw_RX6_22 (by decide) (up_at) rfl rfl (Nat.le_of_ble_eq_true rfl) dX6_init_24 ?_
  rw [up_up]
  refine g_drop ((hh 0 (by decide))) ?_
  exact g_vret rfl dX6_init_27
set_option maxRecDepth 100000 in
set_option maxHeartbeats 4000000 in
theorem k_X0_init {l : Launch} {D : va_G} {cy : Nat → ClassId} {base : Nat} {h : Nat → va_E} (k : Nat) (hk : k + 46 < 199) (hh : ∀ j, j < 46 → h (k + j) = bkX0 cy base k j) : gMet l D cy base yX0_init cX0_init 2 none (gRn 2 45 758) [.ref (base + k)] (k + 1) (va_up h k (.inr (0, [.null, .null, .int 0, .int 0]))) 45 758 none (k + 46) h := by
  refine gC_of2 (own := RX0) (lv0 := [(0, .ref (base + k))]) rfl (by decide) (Nat.le_of_ble_eq_true rfl) rfl ?_
  refine g_aload_n (j := 0) (x := base + k) dX0_init_0 rfl rfl ?_
  refine g_objInit ol_RX0_3 oi_ok oc_ok (by decide) (Nat.le_of_ble_eq_true rfl) dX0_init_1 ?_
  refine g_aload_n (j := 0) (x := base + k) dX0_init_4 rfl rfl ?_
  refine g_new (ci := 1) (N := 5) (ty := tyX1) (fs := [.null, .null, .null, .int 0, .int 0]) (by unfold gNN; omega) cw_RX0_9 iw_X1 nw_X1 rfl jnX1 tyX1_ok dfX1 (by decide) (by decide) dX0_init_5 ?_
  refine g_dup dX0_init_8 rfl ?_
  refine g_callIN (rt := none) (As := []) (st := [.ref (base + (k + 1)), .ref (base + k)]) (kr := (k + 1)) (k_X1_init (k + 1) (by omega) (fun j hj => match j, hj with | 0, _ => ((up_ne (by omega)).trans ((hh 1 (by decide)))) | 1, _ => ((up_ne (by omega)).trans ((hh 2 (by decide)))) | 2, _ => ((up_ne (by omega)).trans ((hh 3 (by decide)))) | 3, _ => ((up_ne (by omega)).trans ((hh 4 (by decide)))) | j + 4, h9 => absurd h9 (by omega))) cn_RX0_11 sv_X1_init rfl rfl rfl ⟨by decide, by decide⟩ (Nat.le_of_ble_eq_true rfl) ⟨by decide, by decide⟩ rfl dX0_init_9 rfl ?_
  refine g_putF (fs := [.null, .null, .int 0, .int 0]) (fun _ _ _ h9 => h9) lf_RX0_12 (by omega) (up_at) rfl rfl (Nat.le_of_ble_eq_true rfl) dX0_init_12 ?_
  rw [up_up]
  refine g_aload_n (j := 0) (x := base + k) dX0_init_15 rfl rfl ?_
  refine g_bipush (v := 10) dX0_init_16 (by decide) ?_
  refine g_anew (kd := 3) (N0 := 10) (by unfold gNN; omega) cw_RX0_9 (fun _ h9 => h9.2.1) rfl (by decide) (by decide) (by decide) (by decide) (by decide) dX0_init_18 ?_
  refine g_putF (fs := [.ref (base + (k + 1)), .null, .int 0, .int 0]) (fun _ _ _ h9 => h9) lf_RX0_18 (by omega) ((up_ne (by omega)).trans (up_at)) rfl rfl (Nat.le_of_ble_eq_true rfl) dX0_init_21 ?_
  rw [up_cm (by omega)]
  refine g_iconst (v := 0) dX0_init_24 (by decide) ?_
  refine g_istore_n (lvx := [(1, .int (0)), (0, .ref (base + k))]) dX0_init_25 rfl (by decide) rfl ?_
  refine g_iload_n (j := 0) (x := 0) dX0_init_26 rfl rfl ?_
  refine g_bipush (v := 10) dX0_init_27 (by decide) ?_
  refine g_icmp_ge 51 dX0_init_29 (by decide) (fun hc => absurd hc (by decide)) (fun _ => ?_)
  refine g_aload_n (j := 1) (x := base + k) dX0_init_32 rfl rfl ?_
  refine g_get (fs := [.ref (base + (k + 1)), .ref (base + (k + 5)), .int 0, .int 0]) lk_RX0_18 (by omega) ((up_ne (by omega)).trans (up_at)) rfl dX0_init_33 ?_
  refine g_iload_n (j := 0) (x := 0) dX0_init_36 rfl rfl ?_
  refine g_new (ci := 1) (N := 5) (ty := tyX1) (fs := [.null, .null, .null, .int 0, .int 0]) (by unfold gNN; omega) cw_RX0_9 iw_X1 nw_X1 rfl jnX1 tyX1_ok dfX1 (by decide) (by decide) dX0_init_37 ?_
  refine g_dup dX0_init_40 rfl ?_
  refine g_callIN (rt := none) (As := []) (st := [.ref (base + (k + 6)), .int (0), .ref (base + (k + 5))]) (kr := (k + 6)) (k_X1_init (k + 6) (by omega) (fun j hj => match j, hj with | 0, _ => ((up_ne (by omega)).trans ((up_ne (by omega)).trans ((hh 6 (by decide))))) | 1, _ => ((up_ne (by omega)).trans ((up_ne (by omega)).trans ((hh 7 (by decide))))) | 2, _ => ((up_ne (by omega)).trans ((up_ne (by omega)).trans ((hh 8 (by decide))))) | 3, _ => ((up_ne (by omega)).trans ((up_ne (by omega)).trans ((hh 9 (by decide))))) | j + 4, h9 => absurd h9 (by omega))) cn_RX0_11 sv_X1_init rfl rfl rfl ⟨by decide, by decide⟩ (Nat.le_of_ble_eq_true rfl) ⟨by decide, by decide⟩ rfl dX0_init_41 rfl ?_
  refine g_aast (t0 := 3) (ci := 1) (q := (RX1, TX1, 5)) (by omega) up_at rfl (by omega) ((up_ne (by omega)).trans ((up_ne (by omega)).trans ((hh 6 (by decide))))) rfl (ck_in (by decide)) dX0_init_44 ?_
  rw [up_up]
  refine g_iinc (j := 0) (x := 0) (v := 1) (lvx := [(1, .int (1)), (0, .ref (base + k))]) dX0_init_45 rfl (by decide) (by decide) rfl ?_
  refine g_goto 26 dX0_init_48 (by decide) ?_
  refine g_iload_n (j := 0) (x := 1) dX0_init_26 rfl rfl ?_
  refine g_bipush (v := 10) dX0_init_27 (by decide) ?_
  refine g_icmp_ge 51 dX0_init_29 (by decide) (fun hc => absurd hc (by decide)) (fun _ => ?_)
  refine g_aload_n (j := 1) (x := base + k) dX0_init_32 rfl rfl ?_
  refine g_get (fs := [.ref (base + (k + 1)), .ref (base + (k + 5)), .int 0, .int 0]) lk_RX0_18 (by omega) ((up_ne (by omega)).trans (up_at)) rfl dX0_init_33 ?_
  refine g_iload_n (j := 0) (x := 1) dX0_init_36 rfl rfl ?_
  refine g_new (ci := 1) (N := 5) (ty := tyX1) (fs := [.null, .null, .null, .int 0, .int 0]) (by unfold gNN; omega) cw_RX0_9 iw_X1 nw_X1 rfl jnX1 tyX1_ok dfX1 (by decide) (by decide) dX0_init_37 ?_
  refine g_dup dX0_init_40 rfl ?_
  refine g_callIN (rt := none) (As := []) (st := [.ref (base + (k + 10)), .int (1), .ref (base + (k + 5))]) (kr := (k + 10)) (k_X1_init (k + 10) (by omega) (fun j hj => match j, hj with | 0, _ => ((up_ne (by omega)).trans ((up_ne (by omega)).trans ((hh 10 (by decide))))) | 1, _ => ((up_ne (by omega)).trans ((up_ne (by omega)).trans ((hh 11 (by decide))))) | 2, _ => ((up_ne (by omega)).trans ((up_ne (by omega)).trans ((hh 12 (by decide))))) | 3, _ => ((up_ne (by omega)).trans ((up_ne (by omega)).trans ((hh 13 (by decide))))) | j + 4, h9 => absurd h9 (by omega))) cn_RX0_11 sv_X1_init rfl rfl rfl ⟨by decide, by decide⟩ (Nat.le_of_ble_eq_true rfl) ⟨by decide, by decide⟩ rfl dX0_init_41 rfl ?_
  refine g_aast (t0 := 3) (ci := 1) (q := (RX1, TX1, 5)) (by omega) up_at rfl (by omega) ((up_ne (by omega)).trans ((up_ne (by omega)).trans ((hh 10 (by decide))))) rfl (ck_in (by decide)) dX0_init_44 ?_
  rw [up_up]
  refine g_iinc (j := 0) (x := 1) (v := 2) (lvx := [(1, .int (2)), (0, .ref (base + k))]) dX0_init_45 rfl (by decide) (by decide) rfl ?_
  refine g_goto 26 dX0_init_48 (by decide) ?_
  refine g_iload_n (j := 0) (x := 2) dX0_init_26 rfl rfl ?_
  refine g_bipush (v := 10) dX0_init_27 (by decide) ?_
  refine g_icmp_ge 51 dX0_init_29 (by decide) (fun hc => absurd hc (by decide)) (fun _ => ?_)
  refine g_aload_n (j := 1) (x := base + k) dX0_init_32 rfl rfl ?_
  refine g_get (fs := [.ref (base + (k + 1)), .ref (base + (k + 5)), .int 0, .int 0]) lk_RX0_18 (by omega) ((up_ne (by omega)).trans (up_at)) rfl dX0_init_33 ?_
  refine g_iload_n (j := 0) (x := 2) dX0_init_36 rfl rfl ?_
  refine g_new (ci := 1) (N := 5) (ty := tyX1) (fs := [.null, .null, .null, .int 0, .int 0]) (by unfold gNN; omega) cw_RX0_9 iw_X1 nw_X1 rfl jnX1 tyX1_ok dfX1 (by decide) (by decide) dX0_init_37 ?_
  refine g_dup dX0_init_40 rfl ?_
  refine g_callIN (rt := none) (As := []) (st := [.ref (base + (k + 14)), .int (2), .ref (base + (k + 5))]) (kr := (k + 14)) (k_X1_init (k + 14) (by omega) (fun j hj => match j, hj with | 0, _ => ((up_ne (by omega)).trans ((up_ne (by omega)).trans ((hh 14 (by decide))))) | 1, _ => ((up_ne (by omega)).trans ((up_ne (by omega)).trans ((hh 15 (by decide))))) | 2, _ => ((up_ne (by omega)).trans ((up_ne (by omega)).trans ((hh 16 (by decide))))) | 3, _ => ((up_ne (by omega)).trans ((up_ne (by omega)).trans ((hh 17 (by decide))))) | j + 4, h9 => absurd h9 (by omega))) cn_RX0_11 sv_X1_init rfl rfl rfl ⟨by decide, by decide⟩ (Nat.le_of_ble_eq_true rfl) ⟨by decide, by decide⟩ rfl dX0_init_41 rfl ?_
  refine g_aast (t0 := 3) (ci := 1) (q := (RX1, TX1, 5)) (by omega) up_at rfl (by omega) ((up_ne (by omega)).trans ((up_ne (by omega)).trans ((hh 14 (by decide))))) rfl (ck_in (by decide)) dX0_init_44 ?_
  rw [up_up]
  refine g_iinc (j := 0) (x := 2) (v := 3) (lvx := [(1, .int (3)), (0, .ref (base + k))]) dX0_init_45 rfl (by decide) (by decide) rfl ?_
  refine g_goto 26 dX0_init_48 (by decide) ?_
  refine g_iload_n (j := 0) (x := 3) dX0_init_26 rfl rfl ?_
  refine g_bipush (v := 10) dX0_init_27 (by decide) ?_
  refine g_icmp_ge 51 dX0_init_29 (by decide) (fun hc => absurd hc (by decide)) (fun _ => ?_)
  refine g_aload_n (j := 1) (x := base + k) dX0_init_32 rfl rfl ?_
  refine g_get (fs := [.ref (base + (k + 1)), .ref (base + (k + 5)), .int 0, .int 0]) lk_RX0_18 (by omega) ((up_ne (by omega)).trans (up_at)) rfl dX0_init_33 ?_
  refine g_iload_n (j := 0) (x := 3) dX0_init_36 rfl rfl ?_
  refine g_new (ci := 1) (N := 5) (ty := tyX1) (fs := [.null, .null, .null, .int 0, .int 0]) (by unfold gNN; omega) cw_RX0_9 iw_X1 nw_X1 rfl jnX1 tyX1_ok dfX1 (by decide) (by decide) dX0_init_37 ?_
  refine g_dup dX0_init_40 rfl ?_
  refine g_callIN (rt := none) (As := []) (st := [.ref (base + (k + 18)), .int (3), .ref (base + (k + 5))]) (kr := (k + 18)) (k_X1_init (k + 18) (by omega) (fun j hj => match j, hj with | 0, _ => ((up_ne (by omega)).trans ((up_ne (by omega)).trans ((hh 18 (by decide))))) | 1, _ => ((up_ne (by omega)).trans ((up_ne (by omega)).trans ((hh 19 (by decide))))) | 2, _ => ((up_ne (by omega)).trans ((up_ne (by omega)).trans ((hh 20 (by decide))))) | 3, _ => ((up_ne (by omega)).trans ((up_ne (by omega)).trans ((hh 21 (by decide))))) | j + 4, h9 => absurd h9 (by omega))) cn_RX0_11 sv_X1_init rfl rfl rfl ⟨by decide, by decide⟩ (Nat.le_of_ble_eq_true rfl) ⟨by decide, by decide⟩ rfl dX0_init_41 rfl ?_
  refine g_aast (t0 := 3) (ci := 1) (q := (RX1, TX1, 5)) (by omega) up_at rfl (by omega) ((up_ne (by omega)).trans ((up_ne (by omega)).trans ((hh 18 (by decide))))) rfl (ck_in (by decide)) dX0_init_44 ?_
  rw [up_up]
  refine g_iinc (j := 0) (x := 3) (v := 4) (lvx := [(1, .int (4)), (0, .ref (base + k))]) dX0_init_45 rfl (by decide) (by decide) rfl ?_
  refine g_goto 26 dX0_init_48 (by decide) ?_
  refine g_iload_n (j := 0) (x := 4) dX0_init_26 rfl rfl ?_
  refine g_bipush (v := 10) dX0_init_27 (by decide) ?_
  refine g_icmp_ge 51 dX0_init_29 (by decide) (fun hc => absurd hc (by decide)) (fun _ => ?_)
  refine g_aload_n (j := 1) (x := base + k) dX0_init_32 rfl rfl ?_
  refine g_get (fs := [.ref (base + (k + 1)), .ref (base + (k + 5)), .int 0, .int 0]) lk_RX0_18 (by omega) ((up_ne (by omega)).trans (up_at)) rfl dX0_init_33 ?_
  refine g_iload_n (j := 0) (x := 4) dX0_init_36 rfl rfl ?_
  refine g_new (ci := 1) (N := 5) (ty := tyX1) (fs := [.null, .null, .null, .int 0, .int 0]) (by unfold gNN; omega) cw_RX0_9 iw_X1 nw_X1 rfl jnX1 tyX1_ok dfX1 (by decide) (by decide) dX0_init_37 ?_
  refine g_dup dX0_init_40 rfl ?_
  refine g_callIN (rt := none) (As := []) (st := [.ref (base + (k + 22)), .int (4), .ref (base + (k + 5))]) (kr := (k + 22)) (k_X1_init (k + 22) (by omega) (fun j hj => match j, hj with | 0, _ => ((up_ne (by omega)).trans ((up_ne (by omega)).trans ((hh 22 (by decide))))) | 1, _ => ((up_ne (by omega)).trans ((up_ne (by omega)).trans ((hh 23 (by decide))))) | 2, _ => ((up_ne (by omega)).trans ((up_ne (by omega)).trans ((hh 24 (by decide))))) | 3, _ => ((up_ne (by omega)).trans ((up_ne (by omega)).trans ((hh 25 (by decide))))) | j + 4, h9 => absurd h9 (by omega))) cn_RX0_11 sv_X1_init rfl rfl rfl ⟨by decide, by decide⟩ (Nat.le_of_ble_eq_true rfl) ⟨by decide, by decide⟩ rfl dX0_init_41 rfl ?_
  refine g_aast (t0 := 3) (ci := 1) (q := (RX1, TX1, 5)) (by omega) up_at rfl (by omega) ((up_ne (by omega)).trans ((up_ne (by omega)).trans ((hh 22 (by decide))))) rfl (ck_in (by decide)) dX0_init_44 ?_
  rw [up_up]
  refine g_iinc (j := 0) (x := 4) (v := 5) (lvx := [(1, .int (5)), (0, .ref (base + k))]) dX0_init_45 rfl (by decide) (by decide) rfl ?_
  refine g_goto 26 dX0_init_48 (by decide) ?_
  refine g_iload_n (j := 0) (x := 5) dX0_init_26 rfl rfl ?_
  refine g_bipush (v := 10) dX0_init_27 (by decide) ?_
  refine g_icmp_ge 51 dX0_init_29 (by decide) (fun hc => absurd hc (by decide)) (fun _ => ?_)
  refine g_aload_n (j := 1) (x := base + k) dX0_init_32 rfl rfl ?_
  refine g_get (fs := [.ref (base + (k + 1)), .ref (base + (k + 5)), .int 0, .int 0]) lk_RX0_18 (by omega) ((up_ne (by omega)).trans (up_at)) rfl dX0_init_33 ?_
  refine g_iload_n (j := 0) (x := 5) dX0_init_36 rfl rfl ?_
  refine g_new (ci := 1) (N := 5) (ty := tyX1) (fs := [.null, .null, .null, .int 0, .int 0]) (by unfold gNN; omega) cw_RX0_9 iw_X1 nw_X1 rfl jnX1 tyX1_ok dfX1 (by decide) (by decide) dX0_init_37 ?_
  refine g_dup dX0_init_40 rfl ?_
  refine g_callIN (rt := none) (As := []) (st := [.ref (base + (k + 26)), .int (5), .ref (base + (k + 5))]) (kr := (k + 26)) (k_X1_init (k + 26) (by omega) (fun j hj => match j, hj with | 0, _ => ((up_ne (by omega)).trans ((up_ne (by omega)).trans ((hh 26 (by decide))))) | 1, _ => ((up_ne (by omega)).trans ((up_ne (by omega)).trans ((hh 27 (by decide))))) | 2, _ => ((up_ne (by omega)).trans ((up_ne (by omega)).trans ((hh 28 (by decide))))) | 3, _ => ((up_ne (by omega)).trans ((up_ne (by omega)).trans ((hh 29 (by decide))))) | j + 4, h9 => absurd h9 (by omega))) cn_RX0_11 sv_X1_init rfl rfl rfl ⟨by decide, by decide⟩ (Nat.le_of_ble_eq_true rfl) ⟨by decide, by decide⟩ rfl dX0_init_41 rfl ?_
  refine g_aast (t0 := 3) (ci := 1) (q := (RX1, TX1, 5)) (by omega) up_at rfl (by omega) ((up_ne (by omega)).trans ((up_ne (by omega)).trans ((hh 26 (by decide))))) rfl (ck_in (by decide)) dX0_init_44 ?_
  rw [up_up]
  refine g_iinc (j := 0) (x := 5) (v := 6) (lvx := [(1, .int (6)), (0, .ref (base + k))]) dX0_init_45 rfl (by decide) (by decide) rfl ?_
  refine g_goto 26 dX0_init_48 (by decide) ?_
  refine g_iload_n (j := 0) (x := 6) dX0_init_26 rfl rfl ?_
  refine g_bipush (v := 10) dX0_init_27 (by decide) ?_
  refine g_icmp_ge 51 dX0_init_29 (by decide) (fun hc => absurd hc (by decide)) (fun _ => ?_)
  refine g_aload_n (j := 1) (x := base + k) dX0_init_32 rfl rfl ?_
  refine g_get (fs := [.ref (base + (k + 1)), .ref (base + (k + 5)), .int 0, .int 0]) lk_RX0_18 (by omega) ((up_ne (by omega)).trans (up_at)) rfl dX0_init_33 ?_
  refine g_iload_n (j := 0) (x := 6) dX0_init_36 rfl rfl ?_
  refine g_new (ci := 1) (N := 5) (ty := tyX1) (fs := [.null, .null, .null, .int 0, .int 0]) (by unfold gNN; omega) cw_RX0_9 iw_X1 nw_X1 rfl jnX1 tyX1_ok dfX1 (by decide) (by decide) dX0_init_37 ?_
  refine g_dup dX0_init_40 rfl ?_
  refine g_callIN (rt := none) (As := []) (st := [.ref (base + (k + 30)), .int (6), .ref (base + (k + 5))]) (kr := (k + 30)) (k_X1_init (k + 30) (by omega) (fun j hj => match j, hj with | 0, _ => ((up_ne (by omega)).trans ((up_ne (by omega)).trans ((hh 30 (by decide))))) | 1, _ => ((up_ne (by omega)).trans ((up_ne (by omega)).trans ((hh 31 (by decide))))) | 2, _ => ((up_ne (by omega)).trans ((up_ne (by omega)).trans ((hh 32 (by decide))))) | 3, _ => ((up_ne (by omega)).trans ((up_ne (by omega)).trans ((hh 33 (by decide))))) | j + 4, h9 => absurd h9 (by omega))) cn_RX0_11 sv_X1_init rfl rfl rfl ⟨by decide, by decide⟩ (Nat.le_of_ble_eq_true rfl) ⟨by decide, by decide⟩ rfl dX0_init_41 rfl ?_
  refine g_aast (t0 := 3) (ci := 1) (q := (RX1, TX1, 5)) (by omega) up_at rfl (by omega) ((up_ne (by omega)).trans ((up_ne (by omega)).trans ((hh 30 (by decide))))) rfl (ck_in (by decide)) dX0_init_44 ?_
  rw [up_up]
  refine g_iinc (j := 0) (x := 6) (v := 7) (lvx := [(1, .int (7)), (0, .ref (base + k))]) dX0_init_45 rfl (by decide) (by decide) rfl ?_
  refine g_goto 26 dX0_init_48 (by decide) ?_
  refine g_iload_n (j := 0) (x := 7) dX0_init_26 rfl rfl ?_
  refine g_bipush (v := 10) dX0_init_27 (by decide) ?_
  refine g_icmp_ge 51 dX0_init_29 (by decide) (fun hc => absurd hc (by decide)) (fun _ => ?_)
  refine g_aload_n (j := 1) (x := base + k) dX0_init_32 rfl rfl ?_
  refine g_get (fs := [.ref (base + (k + 1)), .ref (base + (k + 5)), .int 0, .int 0]) lk_RX0_18 (by omega) ((up_ne (by omega)).trans (up_at)) rfl dX0_init_33 ?_
  refine g_iload_n (j := 0) (x := 7) dX0_init_36 rfl rfl ?_
  refine g_new (ci := 1) (N := 5) (ty := tyX1) (fs := [.null, .null, .null, .int 0, .int 0]) (by unfold gNN; omega) cw_RX0_9 iw_X1 nw_X1 rfl jnX1 tyX1_ok dfX1 (by decide) (by decide) dX0_init_37 ?_
  refine g_dup dX0_init_40 rfl ?_
  refine g_callIN (rt := none) (As := []) (st := [.ref (base + (k + 34)), .int (7), .ref (base + (k + 5))]) (kr := (k + 34)) (k_X1_init (k + 34) (by omega) (fun j hj => match j, hj with | 0, _ => ((up_ne (by omega)).trans ((up_ne (by omega)).trans ((hh 34 (by decide))))) | 1, _ => ((up_ne (by omega)).trans ((up_ne (by omega)).trans ((hh 35 (by decide))))) | 2, _ => ((up_ne (by omega)).trans ((up_ne (by omega)).trans ((hh 36 (by decide))))) | 3, _ => ((up_ne (by omega)).trans ((up_ne (by omega)).trans ((hh 37 (by decide))))) | j + 4, h9 => absurd h9 (by omega))) cn_RX0_11 sv_X1_init rfl rfl rfl ⟨by decide, by decide⟩ (Nat.le_of_ble_eq_true rfl) ⟨by decide, by decide⟩ rfl dX0_init_41 rfl ?_
  refine g_aast (t0 := 3) (ci := 1) (q := (RX1, TX1, 5)) (by omega) up_at rfl (by omega) ((up_ne (by omega)).trans ((up_ne (by omega)).trans ((hh 34 (by decide))))) rfl (ck_in (by decide)) dX0_init_44 ?_
  rw [up_up]
  refine g_iinc (j := 0) (x := 7) (v := 8) (lvx := [(1, .int (8)), (0, .ref (base + k))]) dX0_init_45 rfl (by decide) (by decide) rfl ?_
  refine g_goto 26 dX0_init_48 (by decide) ?_
  refine g_iload_n (j := 0) (x := 8) dX0_init_26 rfl rfl ?_
  refine g_bipush (v := 10) dX0_init_27 (by decide) ?_
  refine g_icmp_ge 51 dX0_init_29 (by decide) (fun hc => absurd hc (by decide)) (fun _ => ?_)
  refine g_aload_n (j := 1) (x := base + k) dX0_init_32 rfl rfl ?_
  refine g_get (fs := [.ref (base + (k + 1)), .ref (base + (k + 5)), .int 0, .int 0]) lk_RX0_18 (by omega) ((up_ne (by omega)).trans (up_at)) rfl dX0_init_33 ?_
  refine g_iload_n (j := 0) (x := 8) dX0_init_36 rfl rfl ?_
  refine g_new (ci := 1) (N := 5) (ty := tyX1) (fs := [.null, .null, .null, .int 0, .int 0]) (by unfold gNN; omega) cw_RX0_9 iw_X1 nw_X1 rfl jnX1 tyX1_ok dfX1 (by decide) (by decide) dX0_init_37 ?_
  refine g_dup dX0_init_40 rfl ?_
  refine g_callIN (rt := none) (As := []) (st := [.ref (base + (k + 38)), .int (8), .ref (base + (k + 5))]) (kr := (k + 38)) (k_X1_init (k + 38) (by omega) (fun j hj => match j, hj with | 0, _ => ((up_ne (by omega)).trans ((up_ne (by omega)).trans ((hh 38 (by decide))))) | 1, _ => ((up_ne (by omega)).trans ((up_ne (by omega)).trans ((hh 39 (by decide))))) | 2, _ => ((up_ne (by omega)).trans ((up_ne (by omega)).trans ((hh 40 (by decide))))) | 3, _ => ((up_ne (by omega)).trans ((up_ne (by omega)).trans ((hh 41 (by decide))))) | j + 4, h9 => absurd h9 (by omega))) cn_RX0_11 sv_X1_init rfl rfl rfl ⟨by decide, by decide⟩ (Nat.le_of_ble_eq_true rfl) ⟨by decide, by decide⟩ rfl dX0_init_41 rfl ?_
  refine g_aast (t0 := 3) (ci := 1) (q := (RX1, TX1, 5)) (by omega) up_at rfl (by omega) ((up_ne (by omega)).trans ((up_ne (by omega)).trans ((hh 38 (by decide))))) rfl (ck_in (by decide)) dX0_init_44 ?_
  rw [up_up]
  refine g_iinc (j := 0) (x := 8) (v := 9) (lvx := [(1, .int (9)), (0, .ref (base + k))]) dX0_init_45 rfl (by decide) (by decide) rfl ?_
  refine g_goto 26 dX0_init_48 (by decide) ?_
  refine g_iload_n (j := 0) (x := 9) dX0_init_26 rfl rfl ?_
  refine g_bipush (v := 10) dX0_init_27 (by decide) ?_
  refine g_icmp_ge 51 dX0_init_29 (by decide) (fun hc => absurd hc (by decide)) (fun _ => ?_)
  refine g_aload_n (j := 1) (x := base + k) dX0_init_32 rfl rfl ?_
  refine g_get (fs := [.ref (base + (k + 1)), .ref (base + (k + 5)), .int 0, .int 0]) lk_RX0_18 (by omega) ((up_ne (by omega)).trans (up_at)) rfl dX0_init_33 ?_
  refine g_iload_n (j := 0) (x := 9) dX0_init_36 rfl rfl ?_
  refine g_new (ci := 1) (N := 5) (ty := tyX1) (fs := [.null, .null, .null, .int 0, .int 0]) (by unfold gNN; omega) cw_RX0_9 iw_X1 nw_X1 rfl jnX1 tyX1_ok dfX1 (by decide) (by decide) dX0_init_37 ?_
  refine g_dup dX0_init_40 rfl ?_
  refine g_callIN (rt := none) (As := []) (st := [.ref (base + (k + 42)), .int (9), .ref (base + (k + 5))]) (kr := (k + 42)) (k_X1_init (k + 42) (by omega) (fun j hj => match j, hj with | 0, _ => ((up_ne (by omega)).trans ((up_ne (by omega)).trans ((hh 42 (by decide))))) | 1, _ => ((up_ne (by omega)).trans ((up_ne (by omega)).trans ((hh 43 (by decide))))) | 2, _ => ((up_ne (by omega)).trans ((up_ne (by omega)).trans ((hh 44 (by decide))))) | 3, _ => ((up_ne (by omega)).trans ((up_ne (by omega)).trans ((hh 45 (by decide))))) | j + 4, h9 => absurd h9 (by omega))) cn_RX0_11 sv_X1_init rfl rfl rfl ⟨by decide, by decide⟩ (Nat.le_of_ble_eq_true rfl) ⟨by decide, by decide⟩ rfl dX0_init_41 rfl ?_
  refine g_aast (t0 := 3) (ci := 1) (q := (RX1, TX1, 5)) (by omega) up_at rfl (by omega) ((up_ne (by omega)).trans ((up_ne (by omega)).trans ((hh 42 (by decide))))) rfl (ck_in (by decide)) dX0_init_44 ?_
  rw [up_up]
  refine g_iinc (j := 0) (x := 9) (v := 10) (lvx := [(1, .int (10)), (0, .ref (base + k))]) dX0_init_45 rfl (by decide) (by decide) rfl ?_
  refine g_goto 26 dX0_init_48 (by decide) ?_
  refine g_iload_n (j := 0) (x := 10) dX0_init_26 rfl rfl ?_
  refine g_bipush (v := 10) dX0_init_27 (by decide) ?_
  refine g_icmp_ge 51 dX0_init_29 (by decide) (fun _ => ?_) (fun hc => absurd (by decide) hc)
  refine g_aload_n (j := 1) (x := base + k) dX0_init_51 rfl rfl ?_
  refine g_iconst (v := 0) dX0_init_52 (by decide) ?_
  refine g_put (fs := [.ref (base + (k + 1)), .ref (base + (k + 5)), .int 0, .int 0]) lw_RX0_22 (by omega) ((up_ne (by omega)).trans (up_at)) rfl rfl (Nat.le_of_ble_eq_true rfl) dX0_init_53 ?_
  rw [up_cm (by omega)]
  refine g_aload_n (j := 1) (x := base + k) dX0_init_56 rfl rfl ?_
  refine g_iconst (v := 0) dX0_init_57 (by decide) ?_
  refine g_put (fs := [.ref (base + (k + 1)), .ref (base + (k + 5)), .int (0), .int 0]) lw_RX0_26 (by omega) ((up_ne (by omega)).trans (up_at)) rfl rfl (Nat.le_of_ble_eq_true rfl) dX0_init_58 ?_
  rw [up_cm (by omega)]
  refine g_dropA ((up_ne (by omega)).trans ((hh 5 (by decide)))) (fun j hj => match j, hj with | 0, _ => rfl | 1, _ => rfl | 2, _ => rfl | 3, _ => rfl | 4, _ => rfl | 5, _ => rfl | 6, _ => rfl | 7, _ => rfl | 8, _ => rfl | 9, _ => rfl | j + 10, h9 => absurd h9 (by omega)) ?_
  refine g_drop ((hh 0 (by decide))) ?_
  exact g_vret rfl dX0_init_61
set_option maxRecDepth 100000 in
set_option maxHeartbeats 4000000 in
theorem k_X8_init {l : Launch} {D : va_G} {cy : Nat → ClassId} {base : Nat}  : gMet l D cy base yX8_init cX8_init 2 none (gRn 3 185 4612) [.ref (base + 0)] 1 (va_up (gH cy base gM0) 0 (.inr (8, [.null, .null, .null, .null, .null, .null, .null, .null, .null, .null, .long 0]))) 185 4612 none 186 (gH cy base gM0) := by
  have hh : ∀ j, j < 199 → gH cy base gM0 (0 + j) = gH cy base gM0 (0 + j) := fun _ _ => rfl
  refine gC_of2 (own := RX8) (lv0 := [(0, .ref (base + 0))]) rfl (by decide) (Nat.le_of_ble_eq_true rfl) rfl ?_
  refine g_aload_n (j := 0) (x := base + 0) dX8_init_0 rfl rfl ?_
  refine g_objInit ol_RX8_1 oi_ok oc_ok (by decide) (Nat.le_of_ble_eq_true rfl) dX8_init_1 ?_
  refine g_aload_n (j := 0) (x := base + 0) dX8_init_4 rfl rfl ?_
  refine g_new (ci := 4) (N := 6) (ty := tyX4) (fs := [.null, .int 0, .int 0, .int 0, .int 0, .int 0]) (by decide) cw_RX8_7 iw_X4 nw_X4 rfl jnX4 tyX4_ok dfX4 (by decide) (by decide) dX8_init_5 ?_
  refine g_dup dX8_init_8 rfl ?_
  refine g_callIN (rt := none) (As := []) (st := [.ref (base + 1), .ref (base + 0)]) (kr := 1) (k_X4_init   (fun j hj => match j, hj with | 0, _ => ((up_ne (by decide)).trans ((hh 1 (by decide)))) | 1, _ => ((up_ne (by decide)).trans ((hh 2 (by decide)))) | j + 2, h9 => absurd h9 (by omega))) cn_RX8_9 sv_X4_init rfl rfl rfl ⟨by decide, by decide⟩ (Nat.le_of_ble_eq_true rfl) ⟨by decide, by decide⟩ rfl dX8_init_9 rfl ?_
  refine g_putF (fs := [.null, .null, .null, .null, .null, .null, .null, .null, .null, .null, .long 0]) (fun _ _ _ h9 => h9) lf_RX8_10 (by decide) (up_at) rfl rfl (Nat.le_of_ble_eq_true rfl) dX8_init_12 ?_
  rw [up_up]
  refine g_aload_n (j := 0) (x := base + 0) dX8_init_15 rfl rfl ?_
  refine g_new (ci := 0) (N := 4) (ty := tyX0) (fs := [.null, .null, .int 0, .int 0]) (by decide) cw_RX8_16 iw_X0 nw_X0 rfl jnX0 tyX0_ok dfX0 (by decide) (by decide) dX8_init_16 ?_
  refine g_dup dX8_init_19 rfl ?_
  refine g_callI (rt := none) (As := []) (st := [.ref (base + 3), .ref (base + 0)]) (kr := 3) (k_X0_init 3 (by decide) (fun j hj => match j, hj with | 0, _ => ((up_ne (by decide)).trans ((hh 3 (by decide)))) | 1, _ => ((up_ne (by decide)).trans ((hh 4 (by decide)))) | 2, _ => ((up_ne (by decide)).trans ((hh 5 (by decide)))) | 3, _ => ((up_ne (by decide)).trans ((hh 6 (by decide)))) | 4, _ => ((up_ne (by decide)).trans ((hh 7 (by decide)))) | 5, _ => ((up_ne (by decide)).trans ((hh 8 (by decide)))) | 6, _ => ((up_ne (by decide)).trans ((hh 9 (by decide)))) | 7, _ => ((up_ne (by decide)).trans ((hh 10 (by decide)))) | 8, _ => ((up_ne (by decide)).trans ((hh 11 (by decide)))) | 9, _ => ((up_ne (by decide)).trans ((hh 12 (by decide)))) | 10, _ => ((up_ne (by decide)).trans ((hh 13 (by decide)))) | 11, _ => ((up_ne (by decide)).trans ((hh 14 (by decide)))) | 12, _ => ((up_ne (by decide)).trans ((hh 15 (by decide)))) | 13, _ => ((up_ne (by decide)).trans ((hh 16 (by decide)))) | 14, _ => ((up_ne (by decide)).trans ((hh 17 (by decide)))) | 15, _ => ((up_ne (by decide)).trans ((hh 18 (by decide)))) | 16, _ => ((up_ne (by decide)).trans ((hh 19 (by decide)))) | 17, _ => ((up_ne (by decide)).trans ((hh 20 (by decide)))) | 18, _ => ((up_ne (by decide)).trans ((hh 21 (by decide)))) | 19, _ => ((up_ne (by decide)).trans ((hh 22 (by decide)))) | 20, _ => ((up_ne (by decide)).trans ((hh 23 (by decide)))) | 21, _ => ((up_ne (by decide)).trans ((hh 24 (by decide)))) | 22, _ => ((up_ne (by decide)).trans ((hh 25 (by decide)))) | 23, _ => ((up_ne (by decide)).trans ((hh 26 (by decide)))) | 24, _ => ((up_ne (by decide)).trans ((hh 27 (by decide)))) | 25, _ => ((up_ne (by decide)).trans ((hh 28 (by decide)))) | 26, _ => ((up_ne (by decide)).trans ((hh 29 (by decide)))) | 27, _ => ((up_ne (by decide)).trans ((hh 30 (by decide)))) | 28, _ => ((up_ne (by decide)).trans ((hh 31 (by decide)))) | 29, _ => ((up_ne (by decide)).trans ((hh 32 (by decide)))) | 30, _ => ((up_ne (by decide)).trans ((hh 33 (by decide)))) | 31, _ => ((up_ne (by decide)).trans ((hh 34 (by decide)))) | 32, _ => ((up_ne (by decide)).trans ((hh 35 (by decide)))) | 33, _ => ((up_ne (by decide)).trans ((hh 36 (by decide)))) | 34, _ => ((up_ne (by decide)).trans ((hh 37 (by decide)))) | 35, _ => ((up_ne (by decide)).trans ((hh 38 (by decide)))) | 36, _ => ((up_ne (by decide)).trans ((hh 39 (by decide)))) | 37, _ => ((up_ne (by decide)).trans ((hh 40 (by decide)))) | 38, _ => ((up_ne (by decide)).trans ((hh 41 (by decide)))) | 39, _ => ((up_ne (by decide)).trans ((hh 42 (by decide)))) | 40, _ => ((up_ne (by decide)).trans ((hh 43 (by decide)))) | 41, _ => ((up_ne (by decide)).trans ((hh 44 (by decide)))) | 42, _ => ((up_ne (by decide)).trans ((hh 45 (by decide)))) | 43, _ => ((up_ne (by decide)).trans ((hh 46 (by decide)))) | 44, _ => ((up_ne (by decide)).trans ((hh 47 (by decide)))) | 45, _ => ((up_ne (by decide)).trans ((hh 48 (by decide)))) | j + 46, h9 => absurd h9 (by omega))) cl_RX8_18 sv_X0_init rfl rfl rfl ⟨by decide, by decide⟩ (Nat.le_of_ble_eq_true rfl) ⟨by decide, by decide⟩ rfl dX8_init_20 rfl ?_
  refine g_putF (fs := [.ref (base + 1), .null, .null, .null, .null, .null, .null, .null, .null, .null, .long 0]) (fun _ _ _ h9 => h9) lf_RX8_19 (by decide) (up_at) rfl rfl (Nat.le_of_ble_eq_true rfl) dX8_init_23 ?_
  rw [up_up]
  refine g_aload_n (j := 0) (x := base + 0) dX8_init_26 rfl rfl ?_
  refine g_iconst (v := 2) dX8_init_27 (by decide) ?_
  refine g_anew (kd := 2) (N0 := 2) (by decide) cw_RX8_16 (fun _ h9 => h9.2.2.1) rfl (by decide) (by decide) (by decide) (by decide) (by decide) dX8_init_28 ?_
  refine g_putF (fs := [.ref (base + 1), .ref (base + 3), .null, .null, .null, .null, .null, .null, .null, .null, .long 0]) (fun _ _ _ h9 => h9) lf_RX8_23 (by decide) ((up_ne (by decide)).trans (up_at)) rfl rfl (Nat.le_of_ble_eq_true rfl) dX8_init_31 ?_
  rw [up_cm (by decide)]
  refine g_iconst (v := 0) dX8_init_34 (by decide) ?_
  refine g_istore_n (lvx := [(1, .int (0)), (0, .ref (base + 0))]) dX8_init_35 rfl (by decide) rfl ?_
  refine g_iload_n (j := 0) (x := 0) dX8_init_36 rfl rfl ?_
  refine g_iconst (v := 2) dX8_init_37 (by decide) ?_
  refine g_icmp_ge 60 dX8_init_38 (by decide) (fun hc => absurd hc (by decide)) (fun _ => ?_)
  refine g_aload_n (j := 1) (x := base + 0) dX8_init_41 rfl rfl ?_
  refine g_get (fs := [.ref (base + 1), .ref (base + 3), .ref (base + 49), .null, .null, .null, .null, .null, .null, .null, .long 0]) lk_RX8_23 (by decide) ((up_ne (by decide)).trans (up_at)) rfl dX8_init_42 ?_
  refine g_iload_n (j := 0) (x := 0) dX8_init_45 rfl rfl ?_
  refine g_new (ci := 0) (N := 4) (ty := tyX0) (fs := [.null, .null, .int 0, .int 0]) (by decide) cw_RX8_16 iw_X0 nw_X0 rfl jnX0 tyX0_ok dfX0 (by decide) (by decide) dX8_init_46 ?_
  refine g_dup dX8_init_49 rfl ?_
  refine g_callI (rt := none) (As := []) (st := [.ref (base + 50), .int (0), .ref (base + 49)]) (kr := 50) (k_X0_init 50 (by decide) (fun j hj => match j, hj with | 0, _ => ((up_ne (by decide)).trans ((up_ne (by decide)).trans ((hh 50 (by decide))))) | 1, _ => ((up_ne (by decide)).trans ((up_ne (by decide)).trans ((hh 51 (by decide))))) | 2, _ => ((up_ne (by decide)).trans ((up_ne (by decide)).trans ((hh 52 (by decide))))) | 3, _ => ((up_ne (by decide)).trans ((up_ne (by decide)).trans ((hh 53 (by decide))))) | 4, _ => ((up_ne (by decide)).trans ((up_ne (by decide)).trans ((hh 54 (by decide))))) | 5, _ => ((up_ne (by decide)).trans ((up_ne (by decide)).trans ((hh 55 (by decide))))) | 6, _ => ((up_ne (by decide)).trans ((up_ne (by decide)).trans ((hh 56 (by decide))))) | 7, _ => ((up_ne (by decide)).trans ((up_ne (by decide)).trans ((hh 57 (by decide))))) | 8, _ => ((up_ne (by decide)).trans ((up_ne (by decide)).trans ((hh 58 (by decide))))) | 9, _ => ((up_ne (by decide)).trans ((up_ne (by decide)).trans ((hh 59 (by decide))))) | 10, _ => ((up_ne (by decide)).trans ((up_ne (by decide)).trans ((hh 60 (by decide))))) | 11, _ => ((up_ne (by decide)).trans ((up_ne (by decide)).trans ((hh 61 (by decide))))) | 12, _ => ((up_ne (by decide)).trans ((up_ne (by decide)).trans ((hh 62 (by decide))))) | 13, _ => ((up_ne (by decide)).trans ((up_ne (by decide)).trans ((hh 63 (by decide))))) | 14, _ => ((up_ne (by decide)).trans ((up_ne (by decide)).trans ((hh 64 (by decide))))) | 15, _ => ((up_ne (by decide)).trans ((up_ne (by decide)).trans ((hh 65 (by decide))))) | 16, _ => ((up_ne (by decide)).trans ((up_ne (by decide)).trans ((hh 66 (by decide))))) | 17, _ => ((up_ne (by decide)).trans ((up_ne (by decide)).trans ((hh 67 (by decide))))) | 18, _ => ((up_ne (by decide)).trans ((up_ne (by decide)).trans ((hh 68 (by decide))))) | 19, _ => ((up_ne (by decide)).trans ((up_ne (by decide)).trans ((hh 69 (by decide))))) | 20, _ => ((up_ne (by decide)).trans ((up_ne (by decide)).trans ((hh 70 (by decide))))) | 21, _ => ((up_ne (by decide)).trans ((up_ne (by decide)).trans ((hh 71 (by decide))))) | 22, _ => ((up_ne (by decide)).trans ((up_ne (by decide)).trans ((hh 72 (by decide))))) | 23, _ => ((up_ne (by decide)).trans ((up_ne (by decide)).trans ((hh 73 (by decide))))) | 24, _ => ((up_ne (by decide)).trans ((up_ne (by decide)).trans ((hh 74 (by decide))))) | 25, _ => ((up_ne (by decide)).trans ((up_ne (by decide)).trans ((hh 75 (by decide))))) | 26, _ => ((up_ne (by decide)).trans ((up_ne (by decide)).trans ((hh 76 (by decide))))) | 27, _ => ((up_ne (by decide)).trans ((up_ne (by decide)).trans ((hh 77 (by decide))))) | 28, _ => ((up_ne (by decide)).trans ((up_ne (by decide)).trans ((hh 78 (by decide))))) | 29, _ => ((up_ne (by decide)).trans ((up_ne (by decide)).trans ((hh 79 (by decide))))) | 30, _ => ((up_ne (by decide)).trans ((up_ne (by decide)).trans ((hh 80 (by decide))))) | 31, _ => ((up_ne (by decide)).trans ((up_ne (by decide)).trans ((hh 81 (by decide))))) | 32, _ => ((up_ne (by decide)).trans ((up_ne (by decide)).trans ((hh 82 (by decide))))) | 33, _ => ((up_ne (by decide)).trans ((up_ne (by decide)).trans ((hh 83 (by decide))))) | 34, _ => ((up_ne (by decide)).trans ((up_ne (by decide)).trans ((hh 84 (by decide))))) | 35, _ => ((up_ne (by decide)).trans ((up_ne (by decide)).trans ((hh 85 (by decide))))) | 36, _ => ((up_ne (by decide)).trans ((up_ne (by decide)).trans ((hh 86 (by decide))))) | 37, _ => ((up_ne (by decide)).trans ((up_ne (by decide)).trans ((hh 87 (by decide))))) | 38, _ => ((up_ne (by decide)).trans ((up_ne (by decide)).trans ((hh 88 (by decide))))) | 39, _ => ((up_ne (by decide)).trans ((up_ne (by decide)).trans ((hh 89 (by decide))))) | 40, _ => ((up_ne (by decide)).trans ((up_ne (by decide)).trans ((hh 90 (by decide))))) | 41, _ => ((up_ne (by decide)).trans ((up_ne (by decide)).trans ((hh 91 (by decide))))) | 42, _ => ((up_ne (by decide)).trans ((up_ne (by decide)).trans ((hh 92 (by decide))))) | 43, _ => ((up_ne (by decide)).trans ((up_ne (by decide)).trans ((hh 93 (by decide))))) | 44, _ => ((up_ne (by decide)).trans ((up_ne (by decide)).trans ((hh 94 (by decide))))) | 45, _ => ((up_ne (by decide)).trans ((up_ne (by decide)).trans ((hh 95 (by decide))))) | j + 46, h9 => absurd h9 (by omega))) cl_RX8_18 sv_X0_init rfl rfl rfl ⟨by decide, by decide⟩ (Nat.le_of_ble_eq_true rfl) ⟨by decide, by decide⟩ rfl dX8_init_50 rfl ?_
  refine g_aast (t0 := 2) (ci := 0) (q := (RX0, TX0, 4)) (by decide) up_at rfl (by decide) ((up_ne (by decide)).trans ((up_ne (by decide)).trans ((hh 50 (by decide))))) rfl (ck_in (by decide)) dX8_init_53 ?_
  rw [up_up]
  refine g_iinc (j := 0) (x := 0) (v := 1) (lvx := [(1, .int (1)), (0, .ref (base + 0))]) dX8_init_54 rfl (by decide) (by decide) rfl ?_
  refine g_goto 36 dX8_init_57 (by decide) ?_
  refine g_iload_n (j := 0) (x := 1) dX8_init_36 rfl rfl ?_
  refine g_iconst (v := 2) dX8_init_37 (by decide) ?_
  refine g_icmp_ge 60 dX8_init_38 (by decide) (fun hc => absurd hc (by decide)) (fun _ => ?_)
  refine g_aload_n (j := 1) (x := base + 0) dX8_init_41 rfl rfl ?_
  refine g_get (fs := [.ref (base + 1), .ref (base + 3), .ref (base + 49), .null, .null, .null, .null, .null, .null, .null, .long 0]) lk_RX8_23 (by decide) ((up_ne (by decide)).trans (up_at)) rfl dX8_init_42 ?_
  refine g_iload_n (j := 0) (x := 1) dX8_init_45 rfl rfl ?_
  refine g_new (ci := 0) (N := 4) (ty := tyX0) (fs := [.null, .null, .int 0, .int 0]) (by decide) cw_RX8_16 iw_X0 nw_X0 rfl jnX0 tyX0_ok dfX0 (by decide) (by decide) dX8_init_46 ?_
  refine g_dup dX8_init_49 rfl ?_
  refine g_callI (rt := none) (As := []) (st := [.ref (base + 96), .int (1), .ref (base + 49)]) (kr := 96) (k_X0_init 96 (by decide) (fun j hj => match j, hj with | 0, _ => ((up_ne (by decide)).trans ((up_ne (by decide)).trans ((hh 96 (by decide))))) | 1, _ => ((up_ne (by decide)).trans ((up_ne (by decide)).trans ((hh 97 (by decide))))) | 2, _ => ((up_ne (by decide)).trans ((up_ne (by decide)).trans ((hh 98 (by decide))))) | 3, _ => ((up_ne (by decide)).trans ((up_ne (by decide)).trans ((hh 99 (by decide))))) | 4, _ => ((up_ne (by decide)).trans ((up_ne (by decide)).trans ((hh 100 (by decide))))) | 5, _ => ((up_ne (by decide)).trans ((up_ne (by decide)).trans ((hh 101 (by decide))))) | 6, _ => ((up_ne (by decide)).trans ((up_ne (by decide)).trans ((hh 102 (by decide))))) | 7, _ => ((up_ne (by decide)).trans ((up_ne (by decide)).trans ((hh 103 (by decide))))) | 8, _ => ((up_ne (by decide)).trans ((up_ne (by decide)).trans ((hh 104 (by decide))))) | 9, _ => ((up_ne (by decide)).trans ((up_ne (by decide)).trans ((hh 105 (by decide))))) | 10, _ => ((up_ne (by decide)).trans ((up_ne (by decide)).trans ((hh 106 (by decide))))) | 11, _ => ((up_ne (by decide)).trans ((up_ne (by decide)).trans ((hh 107 (by decide))))) | 12, _ => ((up_ne (by decide)).trans ((up_ne (by decide)).trans ((hh 108 (by decide))))) | 13, _ => ((up_ne (by decide)).trans ((up_ne (by decide)).trans ((hh 109 (by decide))))) | 14, _ => ((up_ne (by decide)).trans ((up_ne (by decide)).trans ((hh 110 (by decide))))) | 15, _ => ((up_ne (by decide)).trans ((up_ne (by decide)).trans ((hh 111 (by decide))))) | 16, _ => ((up_ne (by decide)).trans ((up_ne (by decide)).trans ((hh 112 (by decide))))) | 17, _ => ((up_ne (by decide)).trans ((up_ne (by decide)).trans ((hh 113 (by decide))))) | 18, _ => ((up_ne (by decide)).trans ((up_ne (by decide)).trans ((hh 114 (by decide))))) | 19, _ => ((up_ne (by decide)).trans ((up_ne (by decide)).trans ((hh 115 (by decide))))) | 20, _ => ((up_ne (by decide)).trans ((up_ne (by decide)).trans ((hh 116 (by decide))))) | 21, _ => ((up_ne (by decide)).trans ((up_ne (by decide)).trans ((hh 117 (by decide))))) | 22, _ => ((up_ne (by decide)).trans ((up_ne (by decide)).trans ((hh 118 (by decide))))) | 23, _ => ((up_ne (by decide)).trans ((up_ne (by decide)).trans ((hh 119 (by decide))))) | 24, _ => ((up_ne (by decide)).trans ((up_ne (by decide)).trans ((hh 120 (by decide))))) | 25, _ => ((up_ne (by decide)).trans ((up_ne (by decide)).trans ((hh 121 (by decide))))) | 26, _ => ((up_ne (by decide)).trans ((up_ne (by decide)).trans ((hh 122 (by decide))))) | 27, _ => ((up_ne (by decide)).trans ((up_ne (by decide)).trans ((hh 123 (by decide))))) | 28, _ => ((up_ne (by decide)).trans ((up_ne (by decide)).trans ((hh 124 (by decide))))) | 29, _ => ((up_ne (by decide)).trans ((up_ne (by decide)).trans ((hh 125 (by decide))))) | 30, _ => ((up_ne (by decide)).trans ((up_ne (by decide)).trans ((hh 126 (by decide))))) | 31, _ => ((up_ne (by decide)).trans ((up_ne (by decide)).trans ((hh 127 (by decide))))) | 32, _ => ((up_ne (by decide)).trans ((up_ne (by decide)).trans ((hh 128 (by decide))))) | 33, _ => ((up_ne (by decide)).trans ((up_ne (by decide)).trans ((hh 129 (by decide))))) | 34, _ => ((up_ne (by decide)).trans ((up_ne (by decide)).trans ((hh 130 (by decide))))) | 35, _ => ((up_ne (by decide)).trans ((up_ne (by decide)).trans ((hh 131 (by decide))))) | 36, _ => ((up_ne (by decide)).trans ((up_ne (by decide)).trans ((hh 132 (by decide))))) | 37, _ => ((up_ne (by decide)).trans ((up_ne (by decide)).trans ((hh 133 (by decide))))) | 38, _ => ((up_ne (by decide)).trans ((up_ne (by decide)).trans ((hh 134 (by decide))))) | 39, _ => ((up_ne (by decide)).trans ((up_ne (by decide)).trans ((hh 135 (by decide))))) | 40, _ => ((up_ne (by decide)).trans ((up_ne (by decide)).trans ((hh 136 (by decide))))) | 41, _ => ((up_ne (by decide)).trans ((up_ne (by decide)).trans ((hh 137 (by decide))))) | 42, _ => ((up_ne (by decide)).trans ((up_ne (by decide)).trans ((hh 138 (by decide))))) | 43, _ => ((up_ne (by decide)).trans ((up_ne (by decide)).trans ((hh 139 (by decide))))) | 44, _ => ((up_ne (by decide)).trans ((up_ne (by decide)).trans ((hh 140 (by decide))))) | 45, _ => ((up_ne (by decide)).trans ((up_ne (by decide)).trans ((hh 141 (by decide))))) | j + 46, h9 => absurd h9 (by omega))) cl_RX8_18 sv_X0_init rfl rfl rfl ⟨by decide, by decide⟩ (Nat.le_of_ble_eq_true rfl) ⟨by decide, by decide⟩ rfl dX8_init_50 rfl ?_
  refine g_aast (t0 := 2) (ci := 0) (q := (RX0, TX0, 4)) (by decide) up_at rfl (by decide) ((up_ne (by decide)).trans ((up_ne (by decide)).trans ((hh 96 (by decide))))) rfl (ck_in (by decide)) dX8_init_53 ?_
  rw [up_up]
  refine g_iinc (j := 0) (x := 1) (v := 2) (lvx := [(1, .int (2)), (0, .ref (base + 0))]) dX8_init_54 rfl (by decide) (by decide) rfl ?_
  refine g_goto 36 dX8_init_57 (by decide) ?_
  refine g_iload_n (j := 0) (x := 2) dX8_init_36 rfl rfl ?_
  refine g_iconst (v := 2) dX8_init_37 (by decide) ?_
  refine g_icmp_ge 60 dX8_init_38 (by decide) (fun _ => ?_) (fun hc => absurd (by decide) hc)
  refine g_aload_n (j := 1) (x := base + 0) dX8_init_60 rfl rfl ?_
  refine g_iconst (v := 2) dX8_init_61 (by decide) ?_
  refine g_newA (at0 := .boolean) (kd := 1) (N0 := 2) (ty := .boolean) (by decide) ac_boolean rfl rfl (fun _ _ h9 => h9) rfl (by decide) (by decide) (by decide) (by decide) (by decide) ((up_ne (by decide)).trans ((up_ne (by decide)).trans ((hh 142 (by decide))))) dX8_init_62 ?_
  refine g_putF (fs := [.ref (base + 1), .ref (base + 3), .ref (base + 49), .null, .null, .null, .null, .null, .null, .null, .long 0]) (fun _ _ _ h9 => h9) lf_RX8_27 (by decide) ((up_ne (by decide)).trans (up_at)) rfl rfl (Nat.le_of_ble_eq_true rfl) dX8_init_64 ?_
  rw [up_cm (by decide)]
  refine g_aload_n (j := 1) (x := base + 0) dX8_init_67 rfl rfl ?_
  refine g_new (ci := 7) (N := 1) (ty := tyX7) (fs := [.null]) (by decide) cw_RX8_31 iw_X7 nw_X7 rfl jnX7 tyX7_ok dfX7 (by decide) (by decide) dX8_init_68 ?_
  refine g_dup dX8_init_71 rfl ?_
  refine g_callIN (rt := none) (As := []) (st := [.ref (base + 143), .ref (base + 0)]) (kr := 143) (k_X7_init   (fun j hj => match j, hj with | 0, _ => ((up_ne (by decide)).trans ((up_ne (by decide)).trans ((hh 143 (by decide))))) | 1, _ => ((up_ne (by decide)).trans ((up_ne (by decide)).trans ((hh 144 (by decide))))) | j + 2, h9 => absurd h9 (by omega))) cn_RX8_33 sv_X7_init rfl rfl rfl ⟨by decide, by decide⟩ (Nat.le_of_ble_eq_true rfl) ⟨by decide, by decide⟩ rfl dX8_init_72 rfl ?_
  refine g_putF (fs := [.ref (base + 1), .ref (base + 3), .ref (base + 49), .ref (base + 142), .null, .null, .null, .null, .null, .null, .long 0]) (fun _ _ _ h9 => h9) lf_RX8_34 (by decide) ((up_ne (by decide)).trans (up_at)) rfl rfl (Nat.le_of_ble_eq_true rfl) dX8_init_75 ?_
  rw [up_cm (by decide)]
  refine g_aload_n (j := 1) (x := base + 0) dX8_init_78 rfl rfl ?_
  refine g_new (ci := 2) (N := 4) (ty := tyX2) (fs := [.null, .null, .null, .null]) (by decide) cw_RX8_38 iw_X2 nw_X2 rfl jnX2 tyX2_ok dfX2 (by decide) (by decide) dX8_init_79 ?_
  refine g_dup dX8_init_82 rfl ?_
  refine g_callIN (rt := none) (As := []) (st := [.ref (base + 145), .ref (base + 0)]) (kr := 145) (k_X2_init   (fun j hj => match j, hj with | 0, _ => ((up_ne (by decide)).trans ((up_ne (by decide)).trans ((hh 145 (by decide))))) | 1, _ => ((up_ne (by decide)).trans ((up_ne (by decide)).trans ((hh 146 (by decide))))) | 2, _ => ((up_ne (by decide)).trans ((up_ne (by decide)).trans ((hh 147 (by decide))))) | 3, _ => ((up_ne (by decide)).trans ((up_ne (by decide)).trans ((hh 148 (by decide))))) | 4, _ => ((up_ne (by decide)).trans ((up_ne (by decide)).trans ((hh 149 (by decide))))) | 5, _ => ((up_ne (by decide)).trans ((up_ne (by decide)).trans ((hh 150 (by decide))))) | 6, _ => ((up_ne (by decide)).trans ((up_ne (by decide)).trans ((hh 151 (by decide))))) | 7, _ => ((up_ne (by decide)).trans ((up_ne (by decide)).trans ((hh 152 (by decide))))) | 8, _ => ((up_ne (by decide)).trans ((up_ne (by decide)).trans ((hh 153 (by decide))))) | 9, _ => ((up_ne (by decide)).trans ((up_ne (by decide)).trans ((hh 154 (by decide))))) | 10, _ => ((up_ne (by decide)).trans ((up_ne (by decide)).trans ((hh 155 (by decide))))) | 11, _ => ((up_ne (by decide)).trans ((up_ne (by decide)).trans ((hh 156 (by decide))))) | 12, _ => ((up_ne (by decide)).trans ((up_ne (by decide)).trans ((hh 157 (by decide))))) | 13, _ => ((up_ne (by decide)).trans ((up_ne (by decide)).trans ((hh 158 (by decide))))) | 14, _ => ((up_ne (by decide)).trans ((up_ne (by decide)).trans ((hh 159 (by decide))))) | 15, _ => ((up_ne (by decide)).trans ((up_ne (by decide)).trans ((hh 160 (by decide))))) | 16, _ => ((up_ne (by decide)).trans ((up_ne (by decide)).trans ((hh 161 (by decide))))) | 17, _ => ((up_ne (by decide)).trans ((up_ne (by decide)).trans ((hh 162 (by decide))))) | 18, _ => ((up_ne (by decide)).trans ((up_ne (by decide)).trans ((hh 163 (by decide))))) | 19, _ => ((up_ne (by decide)).trans ((up_ne (by decide)).trans ((hh 164 (by decide))))) | j + 20, h9 => absurd h9 (by omega))) cn_RX8_40 sv_X2_init rfl rfl rfl ⟨by decide, by decide⟩ (Nat.le_of_ble_eq_true rfl) ⟨by decide, by decide⟩ rfl dX8_init_83 rfl ?_
  refine g_putF (fs := [.ref (base + 1), .ref (base + 3), .ref (base + 49), .ref (base + 142), .ref (base + 143), .null, .null, .null, .null, .null, .long 0]) (fun _ _ _ h9 => h9) lf_RX8_41 (by decide) ((up_ne (by decide)).trans (up_at)) rfl rfl (Nat.le_of_ble_eq_true rfl) dX8_init_86 ?_
  rw [up_cm (by decide)]
  refine g_aload_n (j := 1) (x := base + 0) dX8_init_89 rfl rfl ?_
  refine g_new (ci := 5) (N := 5) (ty := tyX5) (fs := [.null, .null, .int 0, .int 0, .int 0]) (by decide) cw_RX8_45 iw_X5 nw_X5 rfl jnX5 tyX5_ok dfX5 (by decide) (by decide) dX8_init_90 ?_
  refine g_dup dX8_init_93 rfl ?_
  refine g_callIN (rt := none) (As := []) (st := [.ref (base + 165), .ref (base + 0)]) (kr := 165) (k_X5_init   (fun j hj => match j, hj with | 0, _ => ((up_ne (by decide)).trans ((up_ne (by decide)).trans ((hh 165 (by decide))))) | 1, _ => ((up_ne (by decide)).trans ((up_ne (by decide)).trans ((hh 166 (by decide))))) | 2, _ => ((up_ne (by decide)).trans ((up_ne (by decide)).trans ((hh 167 (by decide))))) | j + 3, h9 => absurd h9 (by omega))) cn_RX8_47 sv_X5_init rfl rfl rfl ⟨by decide, by decide⟩ (Nat.le_of_ble_eq_true rfl) ⟨by decide, by decide⟩ rfl dX8_init_94 rfl ?_
  refine g_putF (fs := [.ref (base + 1), .ref (base + 3), .ref (base + 49), .ref (base + 142), .ref (base + 143), .ref (base + 145), .null, .null, .null, .null, .long 0]) (fun _ _ _ h9 => h9) lf_RX8_48 (by decide) ((up_ne (by decide)).trans (up_at)) rfl rfl (Nat.le_of_ble_eq_true rfl) dX8_init_97 ?_
  rw [up_cm (by decide)]
  refine g_aload_n (j := 1) (x := base + 0) dX8_init_100 rfl rfl ?_
  refine g_new (ci := 6) (N := 4) (ty := tyX6) (fs := [.null, .int 0, .int 0, .int 0]) (by decide) cw_RX8_52 iw_X6 nw_X6 rfl jnX6 tyX6_ok dfX6 (by decide) (by decide) dX8_init_101 ?_
  refine g_dup dX8_init_104 rfl ?_
  refine g_callIN (rt := none) (As := []) (st := [.ref (base + 168), .ref (base + 0)]) (kr := 168) (k_X6_init   (fun j hj => match j, hj with | 0, _ => ((up_ne (by decide)).trans ((up_ne (by decide)).trans ((hh 168 (by decide))))) | 1, _ => ((up_ne (by decide)).trans ((up_ne (by decide)).trans ((hh 169 (by decide))))) | j + 2, h9 => absurd h9 (by omega))) cn_RX8_54 sv_X6_init rfl rfl rfl ⟨by decide, by decide⟩ (Nat.le_of_ble_eq_true rfl) ⟨by decide, by decide⟩ rfl dX8_init_105 rfl ?_
  refine g_putF (fs := [.ref (base + 1), .ref (base + 3), .ref (base + 49), .ref (base + 142), .ref (base + 143), .ref (base + 145), .ref (base + 165), .null, .null, .null, .long 0]) (fun _ _ _ h9 => h9) lf_RX8_55 (by decide) ((up_ne (by decide)).trans (up_at)) rfl rfl (Nat.le_of_ble_eq_true rfl) dX8_init_108 ?_
  rw [up_cm (by decide)]
  refine g_aload_n (j := 1) (x := base + 0) dX8_init_111 rfl rfl ?_
  refine g_new (ci := 3) (N := 13) (ty := tyX3) (fs := [.null, .null, .null, .null, .null, .null, .null, .int 0, .int 0, .int 0, .int 0, .int 0, .int 0]) (by decide) cw_RX8_59 iw_X3 nw_X3 rfl jnX3 tyX3_ok dfX3 (by decide) (by decide) dX8_init_112 ?_
  refine g_dup dX8_init_115 rfl ?_
  refine g_callIN (rt := none) (As := []) (st := [.ref (base + 170), .ref (base + 0)]) (kr := 170) (k_X3_init 170 (by decide) (fun j hj => match j, hj with | 0, _ => ((up_ne (by decide)).trans ((up_ne (by decide)).trans ((hh 170 (by decide))))) | 1, _ => ((up_ne (by decide)).trans ((up_ne (by decide)).trans ((hh 171 (by decide))))) | 2, _ => ((up_ne (by decide)).trans ((up_ne (by decide)).trans ((hh 172 (by decide))))) | 3, _ => ((up_ne (by decide)).trans ((up_ne (by decide)).trans ((hh 173 (by decide))))) | 4, _ => ((up_ne (by decide)).trans ((up_ne (by decide)).trans ((hh 174 (by decide))))) | 5, _ => ((up_ne (by decide)).trans ((up_ne (by decide)).trans ((hh 175 (by decide))))) | 6, _ => ((up_ne (by decide)).trans ((up_ne (by decide)).trans ((hh 176 (by decide))))) | 7, _ => ((up_ne (by decide)).trans ((up_ne (by decide)).trans ((hh 177 (by decide))))) | j + 8, h9 => absurd h9 (by omega))) cn_RX8_61 sv_X3_init rfl rfl rfl ⟨by decide, by decide⟩ (Nat.le_of_ble_eq_true rfl) ⟨by decide, by decide⟩ rfl dX8_init_116 rfl ?_
  refine g_put (fs := [.ref (base + 1), .ref (base + 3), .ref (base + 49), .ref (base + 142), .ref (base + 143), .ref (base + 145), .ref (base + 165), .ref (base + 168), .null, .null, .long 0]) lw_RX8_62 (by decide) ((up_ne (by decide)).trans (up_at)) rfl rfl (Nat.le_of_ble_eq_true rfl) dX8_init_119 ?_
  rw [up_cm (by decide)]
  refine g_aload_n (j := 1) (x := base + 0) dX8_init_122 rfl rfl ?_
  refine g_new (ci := 3) (N := 13) (ty := tyX3) (fs := [.null, .null, .null, .null, .null, .null, .null, .int 0, .int 0, .int 0, .int 0, .int 0, .int 0]) (by decide) cw_RX8_59 iw_X3 nw_X3 rfl jnX3 tyX3_ok dfX3 (by decide) (by decide) dX8_init_123 ?_
  refine g_dup dX8_init_126 rfl ?_
  refine g_callIN (rt := none) (As := []) (st := [.ref (base + 178), .ref (base + 0)]) (kr := 178) (k_X3_init 178 (by decide) (fun j hj => match j, hj with | 0, _ => ((up_ne (by decide)).trans ((up_ne (by decide)).trans ((hh 178 (by decide))))) | 1, _ => ((up_ne (by decide)).trans ((up_ne (by decide)).trans ((hh 179 (by decide))))) | 2, _ => ((up_ne (by decide)).trans ((up_ne (by decide)).trans ((hh 180 (by decide))))) | 3, _ => ((up_ne (by decide)).trans ((up_ne (by decide)).trans ((hh 181 (by decide))))) | 4, _ => ((up_ne (by decide)).trans ((up_ne (by decide)).trans ((hh 182 (by decide))))) | 5, _ => ((up_ne (by decide)).trans ((up_ne (by decide)).trans ((hh 183 (by decide))))) | 6, _ => ((up_ne (by decide)).trans ((up_ne (by decide)).trans ((hh 184 (by decide))))) | 7, _ => ((up_ne (by decide)).trans ((up_ne (by decide)).trans ((hh 185 (by decide))))) | j + 8, h9 => absurd h9 (by omega))) cn_RX8_61 sv_X3_init rfl rfl rfl ⟨by decide, by decide⟩ (Nat.le_of_ble_eq_true rfl) ⟨by decide, by decide⟩ rfl dX8_init_127 rfl ?_
  refine g_put (fs := [.ref (base + 1), .ref (base + 3), .ref (base + 49), .ref (base + 142), .ref (base + 143), .ref (base + 145), .ref (base + 165), .ref (base + 168), .ref (base + 170), .null, .long 0]) lw_RX8_66 (by decide) ((up_ne (by decide)).trans (up_at)) rfl rfl (Nat.le_of_ble_eq_true rfl) dX8_init_130 ?_
  rw [up_cm (by decide)]
  refine g_dropA ((up_ne (by decide)).trans ((hh 49 (by decide)))) (fun j hj => match j, hj with | 0, _ => rfl | 1, _ => rfl | j + 2, h9 => absurd h9 (by omega)) ?_
  refine g_drop ((hh 0 (by decide))) ?_
  exact g_vret rfl dX8_init_133
set_option maxRecDepth 100000 in
set_option maxHeartbeats 4000000 in
theorem k_X9_init {l : Launch} {D : va_G} {cy : Nat → ClassId} {base : Nat} {z1 : Int32 × Mem} {μ2 : Mem} (hr : f_X9_reads gM0 = some z1) (ht : f_X9_tells z1.2 = some μ2) : gMet l D cy base yX9_init cX9_init 1 none (gRn 12 12 5112) [.ref (base + 186)] 187 (va_up (gH cy base gM0) 186 (.inr (9, [.long 0, .null, .int 0, .null, .null, .null, .null, .null, .int 0, .int 0, .int 0, .int 0, .null, .null, .null, .null, .null, .null]))) 12 5112 none gNN (gH cy base μ2) := by
  have hh : ∀ j, j < 199 → gH cy base gM0 (186 + j) = gH cy base gM0 (186 + j) := fun _ _ => rfl
  refine gC_of2 (own := RX9) (lv0 := [(0, .ref (base + 186))]) rfl (by decide) (Nat.le_of_ble_eq_true rfl) rfl ?_
  refine g_aload_n (j := 0) (x := base + 186) dX9_init_0 rfl rfl ?_
  refine g_objInit ol_RX9_1 oi_ok oc_ok (by decide) (Nat.le_of_ble_eq_true rfl) dX9_init_1 ?_
  refine g_aload_n (j := 0) (x := base + 186) dX9_init_4 rfl rfl ?_
  refine g_sipush (v := 200) dX9_init_5 (by decide) ?_
  refine g_newA (at0 := .int) (kd := 0) (N0 := 200) (ty := .int) (by decide) ac_int rfl rfl (fun _ _ h9 => h9) rfl (by decide) (by decide) (by decide) (by decide) (by decide) ((up_ne (by decide)).trans ((hh 1 (by decide)))) dX9_init_8 ?_
  refine g_putF (fs := [.long 0, .null, .int 0, .null, .null, .null, .null, .null, .int 0, .int 0, .int 0, .int 0, .null, .null, .null, .null, .null, .null]) (fun _ _ _ h9 => h9) lf_RX9_7 (by decide) (up_at) rfl rfl (Nat.le_of_ble_eq_true rfl) dX9_init_10 ?_
  rw [up_up]
  refine g_aload_n (j := 0) (x := base + 186) dX9_init_13 rfl rfl ?_
  refine g_bipush (v := 49) dX9_init_14 (by decide) ?_
  refine g_newA (at0 := .int) (kd := 0) (N0 := 49) (ty := .int) (by decide) ac_int rfl rfl (fun _ _ h9 => h9) rfl (by decide) (by decide) (by decide) (by decide) (by decide) ((up_ne (by decide)).trans ((hh 2 (by decide)))) dX9_init_16 ?_
  refine g_putF (fs := [.long 0, .ref (base + 187), .int 0, .null, .null, .null, .null, .null, .int 0, .int 0, .int 0, .int 0, .null, .null, .null, .null, .null, .null]) (fun _ _ _ h9 => h9) lf_RX9_13 (by decide) (up_at) rfl rfl (Nat.le_of_ble_eq_true rfl) dX9_init_18 ?_
  rw [up_up]
  refine g_aload_n (j := 0) (x := base + 186) dX9_init_21 rfl rfl ?_
  refine g_bipush (v := 49) dX9_init_22 (by decide) ?_
  refine g_newA (at0 := .int) (kd := 0) (N0 := 49) (ty := .int) (by decide) ac_int rfl rfl (fun _ _ h9 => h9) rfl (by decide) (by decide) (by decide) (by decide) (by decide) ((up_ne (by decide)).trans ((hh 3 (by decide)))) dX9_init_24 ?_
  refine g_putF (fs := [.long 0, .ref (base + 187), .int 0, .ref (base + 188), .null, .null, .null, .null, .int 0, .int 0, .int 0, .int 0, .null, .null, .null, .null, .null, .null]) (fun _ _ _ h9 => h9) lf_RX9_16 (by decide) (up_at) rfl rfl (Nat.le_of_ble_eq_true rfl) dX9_init_26 ?_
  rw [up_up]
  refine g_aload_n (j := 0) (x := base + 186) dX9_init_29 rfl rfl ?_
  refine g_sipush (v := 716) dX9_init_30 (by decide) ?_
  refine g_newA (at0 := .int) (kd := 0) (N0 := 716) (ty := .int) (by decide) ac_int rfl rfl (fun _ _ h9 => h9) rfl (by decide) (by decide) (by decide) (by decide) (by decide) ((up_ne (by decide)).trans ((hh 4 (by decide)))) dX9_init_33 ?_
  refine g_putF (fs := [.long 0, .ref (base + 187), .int 0, .ref (base + 188), .ref (base + 189), .null, .null, .null, .int 0, .int 0, .int 0, .int 0, .null, .null, .null, .null, .null, .null]) (fun _ _ _ h9 => h9) lf_RX9_19 (by decide) (up_at) rfl rfl (Nat.le_of_ble_eq_true rfl) dX9_init_35 ?_
  rw [up_up]
  refine g_aload_n (j := 0) (x := base + 186) dX9_init_38 rfl rfl ?_
  refine g_sipush (v := 1432) dX9_init_39 (by decide) ?_
  refine g_newA (at0 := .int) (kd := 0) (N0 := 1432) (ty := .int) (by decide) ac_int rfl rfl (fun _ _ h9 => h9) rfl (by decide) (by decide) (by decide) (by decide) (by decide) ((up_ne (by decide)).trans ((hh 5 (by decide)))) dX9_init_42 ?_
  refine g_putF (fs := [.long 0, .ref (base + 187), .int 0, .ref (base + 188), .ref (base + 189), .ref (base + 190), .null, .null, .int 0, .int 0, .int 0, .int 0, .null, .null, .null, .null, .null, .null]) (fun _ _ _ h9 => h9) lf_RX9_22 (by decide) (up_at) rfl rfl (Nat.le_of_ble_eq_true rfl) dX9_init_44 ?_
  rw [up_up]
  refine g_aload_n (j := 0) (x := base + 186) dX9_init_47 rfl rfl ?_
  refine g_iconst (v := 2) dX9_init_48 (by decide) ?_
  refine g_newA (at0 := .boolean) (kd := 1) (N0 := 2) (ty := .boolean) (by decide) ac_boolean rfl rfl (fun _ _ h9 => h9) rfl (by decide) (by decide) (by decide) (by decide) (by decide) ((up_ne (by decide)).trans ((hh 6 (by decide)))) dX9_init_49 ?_
  refine g_putF (fs := [.long 0, .ref (base + 187), .int 0, .ref (base + 188), .ref (base + 189), .ref (base + 190), .ref (base + 191), .null, .int 0, .int 0, .int 0, .int 0, .null, .null, .null, .null, .null, .null]) (fun _ _ _ h9 => h9) lf_RX9_25 (by decide) (up_at) rfl rfl (Nat.le_of_ble_eq_true rfl) dX9_init_51 ?_
  rw [up_up]
  refine g_aload_n (j := 0) (x := base + 186) dX9_init_54 rfl rfl ?_
  refine g_bipush (v := 49) dX9_init_55 (by decide) ?_
  refine g_newA (at0 := .int) (kd := 0) (N0 := 49) (ty := .int) (by decide) ac_int rfl rfl (fun _ _ h9 => h9) rfl (by decide) (by decide) (by decide) (by decide) (by decide) ((up_ne (by decide)).trans ((hh 7 (by decide)))) dX9_init_57 ?_
  refine g_putF (fs := [.long 0, .ref (base + 187), .int 0, .ref (base + 188), .ref (base + 189), .ref (base + 190), .ref (base + 191), .ref (base + 192), .int 0, .int 0, .int 0, .int 0, .null, .null, .null, .null, .null, .null]) (fun _ _ _ h9 => h9) lf_RX9_29 (by decide) (up_at) rfl rfl (Nat.le_of_ble_eq_true rfl) dX9_init_59 ?_
  rw [up_up]
  refine g_aload_n (j := 0) (x := base + 186) dX9_init_62 rfl rfl ?_
  refine g_bipush (v := 8) dX9_init_63 (by decide) ?_
  refine g_newA (at0 := .int) (kd := 0) (N0 := 8) (ty := .int) (by decide) ac_int rfl rfl (fun _ _ h9 => h9) rfl (by decide) (by decide) (by decide) (by decide) (by decide) ((up_ne (by decide)).trans ((hh 8 (by decide)))) dX9_init_65 ?_
  refine g_putF (fs := [.long 0, .ref (base + 187), .int 0, .ref (base + 188), .ref (base + 189), .ref (base + 190), .ref (base + 191), .ref (base + 192), .int 0, .int 0, .int 0, .int 0, .ref (base + 193), .null, .null, .null, .null, .null]) (fun _ _ _ h9 => h9) lf_RX9_32 (by decide) (up_at) rfl rfl (Nat.le_of_ble_eq_true rfl) dX9_init_67 ?_
  rw [up_up]
  refine g_aload_n (j := 0) (x := base + 186) dX9_init_70 rfl rfl ?_
  refine g_bipush (v := 7) dX9_init_71 (by decide) ?_
  refine g_newA (at0 := .int) (kd := 0) (N0 := 7) (ty := .int) (by decide) ac_int rfl rfl (fun _ _ h9 => h9) rfl (by decide) (by decide) (by decide) (by decide) (by decide) ((up_ne (by decide)).trans ((hh 9 (by decide)))) dX9_init_73 ?_
  refine g_putF (fs := [.long 0, .ref (base + 187), .int 0, .ref (base + 188), .ref (base + 189), .ref (base + 190), .ref (base + 191), .ref (base + 192), .int 0, .int 0, .int 0, .int 0, .ref (base + 193), .ref (base + 194), .null, .null, .null, .null]) (fun _ _ _ h9 => h9) lf_RX9_35 (by decide) (up_at) rfl rfl (Nat.le_of_ble_eq_true rfl) dX9_init_75 ?_
  rw [up_up]
  refine g_aload_n (j := 0) (x := base + 186) dX9_init_78 rfl rfl ?_
  refine g_sipush (v := 1000) dX9_init_79 (by decide) ?_
  refine g_newA (at0 := .int) (kd := 0) (N0 := 1000) (ty := .int) (by decide) ac_int rfl rfl (fun _ _ h9 => h9) rfl (by decide) (by decide) (by decide) (by decide) (by decide) ((up_ne (by decide)).trans ((hh 10 (by decide)))) dX9_init_82 ?_
  refine g_putF (fs := [.long 0, .ref (base + 187), .int 0, .ref (base + 188), .ref (base + 189), .ref (base + 190), .ref (base + 191), .ref (base + 192), .int 0, .int 0, .int 0, .int 0, .ref (base + 193), .ref (base + 194), .ref (base + 195), .null, .null, .null]) (fun _ _ _ h9 => h9) lf_RX9_38 (by decide) (up_at) rfl rfl (Nat.le_of_ble_eq_true rfl) dX9_init_84 ?_
  rw [up_up]
  refine g_aload_n (j := 0) (x := base + 186) dX9_init_87 rfl rfl ?_
  refine g_sipush (v := 800) dX9_init_88 (by decide) ?_
  refine g_newA (at0 := .int) (kd := 0) (N0 := 800) (ty := .int) (by decide) ac_int rfl rfl (fun _ _ h9 => h9) rfl (by decide) (by decide) (by decide) (by decide) (by decide) ((up_ne (by decide)).trans ((hh 11 (by decide)))) dX9_init_91 ?_
  refine g_putF (fs := [.long 0, .ref (base + 187), .int 0, .ref (base + 188), .ref (base + 189), .ref (base + 190), .ref (base + 191), .ref (base + 192), .int 0, .int 0, .int 0, .int 0, .ref (base + 193), .ref (base + 194), .ref (base + 195), .ref (base + 196), .null, .null]) (fun _ _ _ h9 => h9) lf_RX9_41 (by decide) (up_at) rfl rfl (Nat.le_of_ble_eq_true rfl) dX9_init_93 ?_
  rw [up_up]
  refine g_aload_n (j := 0) (x := base + 186) dX9_init_96 rfl rfl ?_
  refine g_sipush (v := 800) dX9_init_97 (by decide) ?_
  refine g_newA (at0 := .int) (kd := 0) (N0 := 800) (ty := .int) (by decide) ac_int rfl rfl (fun _ _ h9 => h9) rfl (by decide) (by decide) (by decide) (by decide) (by decide) ((up_ne (by decide)).trans ((hh 12 (by decide)))) dX9_init_100 ?_
  refine g_putF (fs := [.long 0, .ref (base + 187), .int 0, .ref (base + 188), .ref (base + 189), .ref (base + 190), .ref (base + 191), .ref (base + 192), .int 0, .int 0, .int 0, .int 0, .ref (base + 193), .ref (base + 194), .ref (base + 195), .ref (base + 196), .ref (base + 197), .null]) (fun _ _ _ h9 => h9) lf_RX9_44 (by decide) (up_at) rfl rfl (Nat.le_of_ble_eq_true rfl) dX9_init_102 ?_
  rw [up_up]
  refine g_aload_n (j := 0) (x := base + 186) dX9_init_105 rfl rfl ?_
  refine g_drop ((hh 0 (by decide))) ?_
  refine gs_callVi (As := []) (st := []) (kr := 186) (k_X9_reads gM0 hr) cl_RX9_47 sv_X9_reads ckk_X9_reads (tk_186 _) ⟨by decide, by decide⟩ (Nat.le_of_ble_eq_true rfl) ⟨by decide, by decide⟩ rfl dX9_init_106 rfl ?_
  refine g_pop dX9_init_109 rfl ?_
  refine g_aload_n (j := 0) (x := base + 186) dX9_init_110 rfl rfl ?_
  refine gs_callVv (As := []) (st := []) (kr := 186) (k_X9_tells z1.2 ht) cl_RX9_51 sv_X9_tells ckk_X9_tells (tk_186 _) ⟨by decide, by decide⟩ (Nat.le_of_ble_eq_true rfl) ⟨by decide, by decide⟩ rfl dX9_init_111 rfl ?_
  exact g_vret rfl dX9_init_114

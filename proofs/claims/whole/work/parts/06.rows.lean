section GS
variable {l : Launch} {D : va_G} {cy : Nat → ClassId} {base : Nat} {own : String} {cc : ByteArray} {nL : Nat} {ret : Option FieldType} {R : Room} {X : gX} {Z : gZ} {pc : Nat} {lv : List (Nat × Value)} {st : List Value} {cells slots : Nat} {μ μ2 : Mem}
theorem gs_getI {idx ci j k0 : Nat} {cs : List Nat} (hlk : gLk own idx ci j) (hT : gTk μ k0 (.inl (ci, cs))) (hc : cs[j]? = some 0) (hdg : decode cc pc = .ok (.getfield idx, 3)) (k : G l D cy base own cc nL ret R X Z (pc + 3) lv (.int (gi μ k0 j) :: st) cells slots gNN (gH cy base μ)) : G l D cy base own cc nL ret R X Z pc lv (.ref (base + k0) :: st) cells slots gNN (gH cy base μ) :=
  g_get hlk hT.1 (gH_of hT) (by rw [gF_at, hc]; simp) hdg k
theorem gs_getL {idx ci j k0 : Nat} {cs : List Nat} (hlk : gLk own idx ci j) (hT : gTk μ k0 (.inl (ci, cs))) (hc : cs[j]? = some 1) (hdg : decode cc pc = .ok (.getfield idx, 3)) (k : G l D cy base own cc nL ret R X Z (pc + 3) lv (.long (gl μ k0) :: st) cells slots gNN (gH cy base μ)) : G l D cy base own cc nL ret R X Z pc lv (.ref (base + k0) :: st) cells slots gNN (gH cy base μ) :=
  g_get hlk hT.1 (gH_of hT) (by rw [gF_at, hc]; simp) hdg k
theorem gs_getR {idx ci j k0 r : Nat} {cs : List Nat} (hlk : gLk own idx ci j) (hT : gTk μ k0 (.inl (ci, cs))) (hc : cs[j]? = some (r + 2)) (hdg : decode cc pc = .ok (.getfield idx, 3)) (k : G l D cy base own cc nL ret R X Z (pc + 3) lv (.ref (base + r) :: st) cells slots gNN (gH cy base μ)) : G l D cy base own cc nL ret R X Z pc lv (.ref (base + k0) :: st) cells slots gNN (gH cy base μ) :=
  g_get hlk hT.1 (gH_of hT) (by rw [gF_at, hc]; simp) hdg k
theorem gs_putI {idx ci j k0 : Nat} {cs : List Nat} {v : Int32} {ty : FieldType} (hlk : gLw own idx ci j ty) (hT : gTk μ k0 (.inl (ci, cs))) (hc : cs[j]? = some 0) (hn : narrow ty (.int v) = .int v) (hfit : fits ty (.int v) = true) (hdg : decode cc pc = .ok (.putfield idx, 3)) (hs : stI μ k0 j v = some μ2) (k : G l D cy base own cc nL ret R X Z (pc + 3) lv st cells slots gNN (gH cy base μ2)) : G l D cy base own cc nL ret R X Z pc lv (.int v :: .ref (base + k0) :: st) cells slots gNN (gH cy base μ) := by
  cases hs
  refine g_put hlk hT.1 (gH_of hT) hn hfit (by rw [gF_len]; exact (List.getElem?_eq_some_iff.mp hc).1) hdg ?_
  rw [gH_si hT hc]
  exact k
theorem gs_putL {idx ci j k0 : Nat} {cs : List Nat} {v : Int64} {ty : FieldType} (hlk : gLw own idx ci j ty) (hT : gTk μ k0 (.inl (ci, cs))) (hc : cs[j]? = some 1) (hu : ∀ i, cs[i]? = some 1 → i = j) (hn : narrow ty (.long v) = .long v) (hfit : fits ty (.long v) = true) (hdg : decode cc pc = .ok (.putfield idx, 3)) (hs : stL μ k0 v = some μ2) (k : G l D cy base own cc nL ret R X Z (pc + 3) lv st cells slots gNN (gH cy base μ2)) : G l D cy base own cc nL ret R X Z pc lv (.long v :: .ref (base + k0) :: st) cells slots gNN (gH cy base μ) := by
  cases hs
  refine g_put hlk hT.1 (gH_of hT) hn hfit (by rw [gF_len]; exact (List.getElem?_eq_some_iff.mp hc).1) hdg ?_
  rw [gH_sl hT hc hu]
  exact k
theorem gs_putP {idx q : Nat} {ty : FieldType} (hlk : gLw own idx 8 8 ty) (hn : narrow ty (.ref (base + q)) = .ref (base + q)) (hfit : fits ty (.ref (base + q)) = true) (hdg : decode cc pc = .ok (.putfield idx, 3)) (k : G l D cy base own cc nL ret R X Z (pc + 3) lv st cells slots gNN (gH cy base (spl μ q))) : G l D cy base own cc nL ret R X Z pc lv (.ref (base + q) :: .ref (base + 0) :: st) cells slots gNN (gH cy base μ) := by
  refine g_put hlk (tk_0 μ).1 (gH_of (tk_0 μ)) hn hfit (by rw [gF_len]; simp) hdg ?_
  rw [gH_spl]
  exact k
theorem gs_putD {idx q : Nat} {ty : FieldType} (hlk : gLw own idx 8 9 ty) (hn : narrow ty (.ref (base + q)) = .ref (base + q)) (hfit : fits ty (.ref (base + q)) = true) (hdg : decode cc pc = .ok (.putfield idx, 3)) (k : G l D cy base own cc nL ret R X Z (pc + 3) lv st cells slots gNN (gH cy base (sdr μ q))) : G l D cy base own cc nL ret R X Z pc lv (.ref (base + q) :: .ref (base + 0) :: st) cells slots gNN (gH cy base μ) := by
  refine g_put hlk (tk_0 μ).1 (gH_of (tk_0 μ)) hn hfit (by rw [gF_len]; simp) hdg ?_
  rw [gH_sdr]
  exact k
theorem gs_iald {k0 N0 : Nat} {i y : Int32} (hT : gTk μ k0 (.inr (0, N0, 0))) (hdg : decode cc pc = .ok (.iaload, 1)) (hs : ldA μ k0 N0 i = some y) (k : G l D cy base own cc nL ret R X Z (pc + 1) lv (.int y :: st) cells slots gNN (gH cy base μ)) : G l D cy base own cc nL ret R X Z pc lv (.int i :: .ref (base + k0) :: st) cells slots gNN (gH cy base μ) := by
  unfold ldA at hs
  split at hs
  · next hck => cases hs; exact g_iald hT.1 (gH_of hT) (ck_in hck) hdg k
  · cases hs
theorem gs_zald {k0 N0 : Nat} {i y : Int32} (hT : gTk μ k0 (.inr (1, N0, 0))) (hdg : decode cc pc = .ok (.baload, 1)) (hs : ldA μ k0 N0 i = some y) (k : G l D cy base own cc nL ret R X Z (pc + 1) lv (.int y :: st) cells slots gNN (gH cy base μ)) : G l D cy base own cc nL ret R X Z pc lv (.int i :: .ref (base + k0) :: st) cells slots gNN (gH cy base μ) := by
  unfold ldA at hs
  split at hs
  · next hck => cases hs; exact g_zald hT.1 (gH_of hT) (ck_in hck) hdg k
  · cases hs
theorem gs_iast {k0 N0 : Nat} {i x : Int32} (hT : gTk μ k0 (.inr (0, N0, 0))) (hdg : decode cc pc = .ok (.iastore, 1)) (hs : stA μ k0 N0 i x = some μ2) (k : G l D cy base own cc nL ret R X Z (pc + 1) lv st cells slots gNN (gH cy base μ2)) : G l D cy base own cc nL ret R X Z pc lv (.int x :: .int i :: .ref (base + k0) :: st) cells slots gNN (gH cy base μ) := by
  unfold stA at hs
  split at hs
  · next hck =>
    cases hs
    refine g_iast hT.1 (gH_of hT) (ck_in hck) hdg ?_
    rw [gH_sA hT]
    exact k
  · cases hs
theorem gs_zast {k0 N0 : Nat} {i x : Int32} (hT : gTk μ k0 (.inr (1, N0, 0))) (hdg : decode cc pc = .ok (.bastore, 1)) (hs : stZ μ k0 N0 i x = some μ2) (k : G l D cy base own cc nL ret R X Z (pc + 1) lv st cells slots gNN (gH cy base μ2)) : G l D cy base own cc nL ret R X Z pc lv (.int x :: .int i :: .ref (base + k0) :: st) cells slots gNN (gH cy base μ) := by
  unfold stZ at hs
  split at hs
  · next hck =>
    cases hs
    refine g_zast rfl hT.1 (gH_of hT) (ck_in hck) hdg ?_
    rw [gH_sA hT]
    exact k
  · cases hs
theorem gs_aald {k0 N0 t0 sd q : Nat} {ty : FieldType} {i : Int32} {ok : Nat → Bool} (hT : gTk μ k0 (.inr (t0, N0, sd + 1))) (ht : (gT cy)[t0]? = some (cy t0, ty)) (hty : ty.isReference = true) (hdg : decode cc pc = .ok (.aaload, 1)) (hs : rfA k0 N0 (sd + 1) i ok = some q) (k : G l D cy base own cc nL ret R X Z (pc + 1) lv (.ref (base + q) :: st) cells slots gNN (gH cy base μ)) : G l D cy base own cc nL ret R X Z pc lv (.int i :: .ref (base + k0) :: st) cells slots gNN (gH cy base μ) := by
  unfold rfA at hs
  split at hs
  · next hck =>
    cases hs
    have h2 := Bool.and_eq_true_iff.mp hck
    exact g_aald hT.1 (gH_of hT) ht hty (ck_in h2.1) rfl hdg k
  · cases hs
theorem rfA_ok {k0 N0 sd q : Nat} {i : Int32} {ok : Nat → Bool} (hs : rfA k0 N0 sd i ok = some q) : ok q = true := by
  unfold rfA at hs
  split at hs
  · next hck => cases hs; exact (Bool.and_eq_true_iff.mp hck).2
  · cases hs
theorem rfA_at {k0 N0 sd q : Nat} {i : Int32} {ok : Nat → Bool} (hs : rfA k0 N0 sd i ok = some q) : q = k0 + 1 + sd * i.toNatClampNeg ∧ i.toNatClampNeg < N0 := by
  unfold rfA at hs
  split at hs
  · next hck =>
    cases hs
    have h1 := (Bool.and_eq_true_iff.mp hck).1
    simp only [ck, Bool.and_eq_true, decide_eq_true_eq] at h1
    exact ⟨rfl, h1.2⟩
  · cases hs
theorem rfG_ok {q q2 : Nat} {ok : Nat → Bool} (hs : rfG q ok = some q2) : q2 = q ∧ ok q = true := by
  unfold rfG at hs
  split at hs
  · next hck => cases hs; exact ⟨rfl, hck⟩
  · cases hs
theorem tkR148 {q : Nat} {i : Int32} {ok : Nat → Bool} (hs : rfA 148 7 1 i ok = some q) (μ : Mem) : gTk μ q (.inr (0, 13, 0)) := by
  obtain ⟨rfl, h⟩ := rfA_at hs
  exact tkR_148 h μ
theorem tkR156 {q : Nat} {i : Int32} {ok : Nat → Bool} (hs : rfA 156 8 1 i ok = some q) (μ : Mem) : gTk μ q (.inr (0, 100, 0)) := by
  obtain ⟨rfl, h⟩ := rfA_at hs
  exact tkR_156 h μ
theorem gs_alen {k0 N0 : Nat} {v : Int32} (hT : gTk μ k0 (.inr (0, N0, 0))) (hv : Int32.ofNat N0 = v) (hdg : decode cc pc = .ok (.arraylength, 1)) (k : G l D cy base own cc nL ret R X Z (pc + 1) lv (.int v :: st) cells slots gNN (gH cy base μ)) : G l D cy base own cc nL ret R X Z pc lv (.ref (base + k0) :: st) cells slots gNN (gH cy base μ) :=
  g_alen (t0 := 0) (x := (N0, .inl (ga μ k0))) (ty := .int) hT.1 (gH_of hT) rfl hv hdg k
theorem gs_copy {idx k0 k1 N0 N1 : Nat} {sp dp cn : Int32} (hlink : Cond.methodLink own idx arraycopyName ∈ gTbl) (hT0 : gTk μ k0 (.inr (0, N0, 0))) (hT1 : gTk μ k1 (.inr (0, N1, 0))) (hframes : 1 ≤ R.frames) (hlocals : (st.map fun v => v.category).sum + (nativeFrameWords "java/lang/System" "arraycopy" 5 + 11) ≤ R.locals) (hdg : decode cc pc = .ok (.invokestatic idx, 3)) (hs : cpA μ k0 N0 sp k1 N1 dp cn = some μ2) (k : G l D cy base own cc nL ret R X Z (pc + 3) lv st cells slots gNN (gH cy base μ2)) : G l D cy base own cc nL ret R X Z pc lv (.int cn :: .int dp :: .ref (base + k1) :: .int sp :: .ref (base + k0) :: st) cells slots gNN (gH cy base μ) := by
  unfold cpA at hs
  split at hs
  · next hck =>
    cases hs
    simp only [Bool.and_eq_true, decide_eq_true_eq] at hck
    obtain ⟨⟨⟨⟨h1, h2⟩, h3⟩, h4⟩, h5⟩ := hck
    refine g_copy rfl hlink hT0.1 (gH_of hT0) hT1.1 (gH_of hT1) (Int32.not_lt.mpr h1) (Int32.not_lt.mpr h2) (Int32.not_lt.mpr h3) h4 h5 hframes hlocals hdg ?_
    rw [gH_sA hT1]
    exact k
  · cases hs
theorem gs_idiv {x y z : Int32} (hdg : decode cc pc = .ok (.idiv, 1)) (hs : dvI x y = some z) (k : G l D cy base own cc nL ret R X Z (pc + 1) lv (.int z :: st) cells slots gNN (gH cy base μ)) : G l D cy base own cc nL ret R X Z pc lv (.int y :: .int x :: st) cells slots gNN (gH cy base μ) := by
  unfold dvI at hs
  split at hs
  · cases hs
  · next h => cases hs; exact g_idiv hdg h k
theorem gs_irem {x y z : Int32} (hdg : decode cc pc = .ok (.irem, 1)) (hs : rmI x y = some z) (k : G l D cy base own cc nL ret R X Z (pc + 1) lv (.int z :: st) cells slots gNN (gH cy base μ)) : G l D cy base own cc nL ret R X Z pc lv (.int y :: .int x :: st) cells slots gNN (gH cy base μ) := by
  unfold rmI at hs
  split at hs
  · cases hs
  · next h => cases hs; exact g_irem hdg h k
def gRm (d : Nat) : Room := { frames := d, cells := 0, slots := 0, locals := 40 * d }
/-- a method's contract over the memory -/
def gC (l : Launch) (D : va_G) (cy : Nat → ClassId) (base : Nat) (y : MethodName) (cc : ByteArray) (nL : Nat) (ret : Option FieldType) (d : Nat) (args : List Value) (μ : Mem) (rv : Option Value) (μ2 : Mem) : Prop :=
  gMet l D cy base y cc nL ret (gRm d) args gNN (gH cy base μ) 0 0 rv gNN (gH cy base μ2)
def gCr (R : Room) (d maxL : Nat) : Prop := d + 1 ≤ R.frames ∧ 8 + (maxL + 11) + 40 * d ≤ R.locals
def gSv (y : MethodName) : Prop := Cond.instanceMethod y ∈ gTbl ∧ Cond.selects y.cls y y ∈ gTbl
def gCk (y : MethodName) (ci : Nat) : Prop := ∃ qc : vw_C, vwCl[ci]? = some qc ∧ qc.1 = y.cls
theorem gs_callVi {y : MethodName} {bytes : ByteArray} {maxL idx k0 d : Nat} {rt : Option FieldType} {As : List Value} {r : Int32} {kr ci : Nat} {cs : List Nat} {st0 : List Value} (hM : gC l D cy base y bytes maxL rt d (.ref (base + kr) :: As) μ (some (.int r)) μ2) (hcl : gCl own idx y bytes maxL rt k0) (hsv : gSv y) (hck : gCk y ci) (hT : gTk μ kr (.inl (ci, cs))) (hR : gCr R d maxL) (hrest : (st.map fun v => v.category).sum ≤ 8) (hf : cells ≤ R.cells ∧ slots ≤ R.slots) (hn : As.length = k0) (hdg : decode cc pc = .ok (.invokevirtual idx, 3)) (hst : st0 = As.reverse ++ .ref (base + kr) :: st) (k : G l D cy base own cc nL ret R X Z (pc + 3) lv (.int r :: st) cells slots gNN (gH cy base μ2)) : G l D cy base own cc nL ret R X Z pc lv st0 cells slots gNN (gH cy base μ) := by
  obtain ⟨qc, h1, h2⟩ := hck
  exact g_callV (rv := (some (.int r))) hM hcl hsv hT.1 (gH_of hT) h1 h2 rfl rfl hR hrest hf hn hdg hst k
theorem gs_callSi {y : MethodName} {bytes : ByteArray} {maxL idx k0 d : Nat} {rt : Option FieldType} {As : List Value} {r : Int32} {st0 : List Value} (hM : gC l D cy base y bytes maxL rt d As μ (some (.int r)) μ2) (hcl : gCl own idx y bytes maxL rt k0) (hsv : Cond.static y ∈ gTbl) (hR : gCr R d maxL) (hrest : (st.map fun v => v.category).sum ≤ 8) (hf : cells ≤ R.cells ∧ slots ≤ R.slots) (hn : As.length = k0) (hdg : decode cc pc = .ok (.invokestatic idx, 3)) (hst : st0 = As.reverse ++ st) (k : G l D cy base own cc nL ret R X Z (pc + 3) lv (.int r :: st) cells slots gNN (gH cy base μ2)) : G l D cy base own cc nL ret R X Z pc lv st0 cells slots gNN (gH cy base μ) :=
  g_callS (rv := (some (.int r))) hM hcl hsv rfl rfl hR hrest hf hn hdg hst k
theorem gs_callVl {y : MethodName} {bytes : ByteArray} {maxL idx k0 d : Nat} {rt : Option FieldType} {As : List Value} {r : Int64} {kr ci : Nat} {cs : List Nat} {st0 : List Value} (hM : gC l D cy base y bytes maxL rt d (.ref (base + kr) :: As) μ (some (.long r)) μ2) (hcl : gCl own idx y bytes maxL rt k0) (hsv : gSv y) (hck : gCk y ci) (hT : gTk μ kr (.inl (ci, cs))) (hR : gCr R d maxL) (hrest : (st.map fun v => v.category).sum ≤ 8) (hf : cells ≤ R.cells ∧ slots ≤ R.slots) (hn : As.length = k0) (hdg : decode cc pc = .ok (.invokevirtual idx, 3)) (hst : st0 = As.reverse ++ .ref (base + kr) :: st) (k : G l D cy base own cc nL ret R X Z (pc + 3) lv (.long r :: st) cells slots gNN (gH cy base μ2)) : G l D cy base own cc nL ret R X Z pc lv st0 cells slots gNN (gH cy base μ) := by
  obtain ⟨qc, h1, h2⟩ := hck
  exact g_callV (rv := (some (.long r))) hM hcl hsv hT.1 (gH_of hT) h1 h2 rfl rfl hR hrest hf hn hdg hst k
theorem gs_callSl {y : MethodName} {bytes : ByteArray} {maxL idx k0 d : Nat} {rt : Option FieldType} {As : List Value} {r : Int64} {st0 : List Value} (hM : gC l D cy base y bytes maxL rt d As μ (some (.long r)) μ2) (hcl : gCl own idx y bytes maxL rt k0) (hsv : Cond.static y ∈ gTbl) (hR : gCr R d maxL) (hrest : (st.map fun v => v.category).sum ≤ 8) (hf : cells ≤ R.cells ∧ slots ≤ R.slots) (hn : As.length = k0) (hdg : decode cc pc = .ok (.invokestatic idx, 3)) (hst : st0 = As.reverse ++ st) (k : G l D cy base own cc nL ret R X Z (pc + 3) lv (.long r :: st) cells slots gNN (gH cy base μ2)) : G l D cy base own cc nL ret R X Z pc lv st0 cells slots gNN (gH cy base μ) :=
  g_callS (rv := (some (.long r))) hM hcl hsv rfl rfl hR hrest hf hn hdg hst k
theorem gs_callVv {y : MethodName} {bytes : ByteArray} {maxL idx k0 d : Nat} {rt : Option FieldType} {As : List Value}  {kr ci : Nat} {cs : List Nat} {st0 : List Value} (hM : gC l D cy base y bytes maxL rt d (.ref (base + kr) :: As) μ none μ2) (hcl : gCl own idx y bytes maxL rt k0) (hsv : gSv y) (hck : gCk y ci) (hT : gTk μ kr (.inl (ci, cs))) (hR : gCr R d maxL) (hrest : (st.map fun v => v.category).sum ≤ 8) (hf : cells ≤ R.cells ∧ slots ≤ R.slots) (hn : As.length = k0) (hdg : decode cc pc = .ok (.invokevirtual idx, 3)) (hst : st0 = As.reverse ++ .ref (base + kr) :: st) (k : G l D cy base own cc nL ret R X Z (pc + 3) lv st cells slots gNN (gH cy base μ2)) : G l D cy base own cc nL ret R X Z pc lv st0 cells slots gNN (gH cy base μ) := by
  obtain ⟨qc, h1, h2⟩ := hck
  exact g_callV (rv := none) hM hcl hsv hT.1 (gH_of hT) h1 h2 rfl rfl hR hrest hf hn hdg hst k
theorem gs_callSv {y : MethodName} {bytes : ByteArray} {maxL idx k0 d : Nat} {rt : Option FieldType} {As : List Value}  {st0 : List Value} (hM : gC l D cy base y bytes maxL rt d As μ none μ2) (hcl : gCl own idx y bytes maxL rt k0) (hsv : Cond.static y ∈ gTbl) (hR : gCr R d maxL) (hrest : (st.map fun v => v.category).sum ≤ 8) (hf : cells ≤ R.cells ∧ slots ≤ R.slots) (hn : As.length = k0) (hdg : decode cc pc = .ok (.invokestatic idx, 3)) (hst : st0 = As.reverse ++ st) (k : G l D cy base own cc nL ret R X Z (pc + 3) lv st cells slots gNN (gH cy base μ2)) : G l D cy base own cc nL ret R X Z pc lv st0 cells slots gNN (gH cy base μ) :=
  g_callS (rv := none) hM hcl hsv rfl rfl hR hrest hf hn hdg hst k
theorem gs_callSNi {y : MethodName} {bytes : ByteArray} {maxL idx k0 d : Nat} {rt : Option FieldType} {As : List Value} {r : Int32} {host : String} {st0 : List Value} (hM : gC l D cy base y bytes maxL rt d As μ (some (.int r)) μ2) (hcl : gCn own idx y host bytes maxL rt k0) (hsv : Cond.static y ∈ gTbl) (hR : gCr R d maxL) (hrest : (st.map fun v => v.category).sum ≤ 8) (hf : cells ≤ R.cells ∧ slots ≤ R.slots) (hn : As.length = k0) (hdg : decode cc pc = .ok (.invokestatic idx, 3)) (hst : st0 = As.reverse ++ st) (k : G l D cy base own cc nL ret R X Z (pc + 3) lv (.int r :: st) cells slots gNN (gH cy base μ2)) : G l D cy base own cc nL ret R X Z pc lv st0 cells slots gNN (gH cy base μ) :=
  g_callSN (rv := some (.int r)) hM hcl hsv rfl rfl hR hrest hf hn hdg hst k
theorem ob {α β : Type} {x : Option α} {f : α → Option β} {b : β} (h : x.bind f = some b) : ∃ a, x = some a ∧ f a = some b := Option.bind_eq_some_iff.mp h
end GS

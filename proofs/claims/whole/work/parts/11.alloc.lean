section GAlloc
variable {l : Launch} {D : va_G} {cy : Nat → ClassId} {base : Nat} {own : String} {cc : ByteArray} {nL : Nat} {ret : Option FieldType} {R : Room} {X : gX} {Z : gZ} {pc : Nat} {lv : List (Nat × Value)} {st : List Value} {cells slots n : Nat} {h : Nat → va_E}
theorem up_at {α : Type} {f : Nat → α} {k : Nat} {v : α} : va_up f k v k = v := by simp [va_up]
theorem up_ne {α : Type} {f : Nat → α} {k j : Nat} {v : α} (hj : j ≠ k) : va_up f k v j = f j := by simp [va_up, hj]
theorem up_up {α : Type} {f : Nat → α} {k : Nat} {v u : α} : va_up (va_up f k v) k u = va_up f k u := by funext j; by_cases hj : j = k <;> simp [va_up, hj]
theorem up_cm {α : Type} {f : Nat → α} {k k2 : Nat} {v u x : α} (hk : k ≠ k2) : va_up (va_up (va_up f k v) k2 u) k x = va_up (va_up f k x) k2 u := by
  funext j
  by_cases h1 : j = k
  · subst h1; simp [va_up, hk]
  · by_cases h2 : j = k2
    · subst h2; simp [va_up, h1]
    · simp [va_up, h1, h2]
/-- the heap told in other words -/
theorem g_conv {h2 : Nat → va_E} (hc : ∀ (H : Heap) (k : Nat), k < n → va_at D vwCl (base + k, h k) H → va_at D vwCl (base + k, h2 k) H) (k : G l D cy base own cc nL ret R X Z pc lv st cells slots n h2) : G l D cy base own cc nL ret R X Z pc lv st cells slots n h := by
  intro p e s m args below meth c H locs ls C
  refine k p e s m args below meth c H locs ls ⟨C.1, C.2.1, C.2.2.1, fun j q hq => ?_, C.2.2.2.2.1, C.2.2.2.2.2⟩
  obtain ⟨hj, rfl⟩ := gW_inv hq
  exact hc H j hj (C.2.2.2.1 j _ (gW_at hj))
theorem g_drop {k0 : Nat} {c0 : va_E} (hc : h k0 = c0) (k : G l D cy base own cc nL ret R X Z pc lv st cells slots n h) : G l D cy base own cc nL ret R X Z pc lv st cells slots n (va_up h k0 c0) := by
  refine g_conv (h2 := h) (fun H j hj h1 => ?_) k
  by_cases e : j = k0
  · subst e; rw [up_at] at h1; rw [hc]; exact h1
  · rw [up_ne e] at h1; exact h1
theorem g_dropA {k0 N0 t0 : Nat} {f f2 : Nat → Option Nat} (hc : h k0 = .inl (cy t0, N0, .inr (.inr (.inr (.inr f2))))) (hf : ∀ j, j < N0 → f j = f2 j) (k : G l D cy base own cc nL ret R X Z pc lv st cells slots n h) : G l D cy base own cc nL ret R X Z pc lv st cells slots n (va_up h k0 (.inl (cy t0, N0, .inr (.inr (.inr (.inr f)))))) := by
  refine g_conv (h2 := h) (fun H j hj h1 => ?_) k
  by_cases e : j = k0
  · subst e
    rw [up_at] at h1
    rw [hc]
    have h2 : H[base + j]? = some (vp_cell (cy t0) (N0, .inr (.inr (.inr (.inr f))))) := h1
    show H[base + j]? = some (vp_cell (cy t0) (N0, .inr (.inr (.inr (.inr f2)))))
    rw [h2, vp_cell_q, vp_cell_q]
    congr 1
    unfold arrV
    congr 2
    funext i
    show va_rf (f i.val) = va_rf (f2 i.val)
    rw [hf i.val i.isLt]
  · rw [up_ne e] at h1; exact h1
/-- a cell more: the n-th -/
theorem gW_more {D : va_G} {base n : Nat} {h : Nat → va_E} {e0 : va_E} {H H1 : Heap} (hz : H.size = base + n) (hP : va_P D vwCl (gW base n h) H) (o1 : ∀ q, q < H.size → H1[q]? = H[q]?) (he : va_at D vwCl (base + n, e0) H1) : va_P D vwCl (gW base (n + 1) (va_up h n e0)) H1 := by
  intro j q hq
  obtain ⟨hj, rfl⟩ := gW_inv hq
  by_cases e : j = n
  · subst e; rw [up_at]; exact he
  · rw [up_ne e]
    exact (hP j _ (gW_at (by omega))).kept (o1 (base + j) (by omega))
theorem g_new {idx ci N : Nat} {Cn : String} {T : u_T} {ty : Nat → FieldType} {fs : List Value} (hn : n ≠ gNN) (hcl : Cond.classLink own idx Cn ∈ gTbl) (hinst : Cond.instantiable Cn N ∈ gTbl) (hini : Cond.initialized Cn ∈ gTbl) (hc : vwCl[ci]? = some (Cn, T, N)) (hin : ∀ w ∈ u_ws Cn T N, w ∈ gTbl) (hty : ∀ k, k < N → parseFieldDescriptor (T k).2.2.1 = some (ty k)) (hfs : ∀ j, j < N → defaultValue (ty j) = vp_V fs j) (hcells : cells + 1 ≤ R.cells) (hslots : slots + N ≤ R.slots) (hdg : decode cc pc = .ok (.new idx, 3))
    (k : G l D cy base own cc nL ret R X Z (pc + 3) lv (.ref (base + n) :: st) (cells + 1) (slots + N) (n + 1) (va_up h n (.inr (ci, fs)))) : G l D cy base own cc nL ret R X Z pc lv st cells slots n h := by
  intro p e s m args below meth c H locs ls C
  have hz : H.size = base + n := C.2.2.1.resolve_left hn
  have hKn := C.2.1.1.1 ci _ hc
  refine W.newcK C.1.1 C.1.2.1 C.1.2.2.2.2.1 (C.1.2.2.2.2.2.1 _ hcl) (C.1.2.2.2.2.2.1 _ hinst) (C.1.2.2.2.2.2.1 _ hini) rfl hdg hcells hslots hKn.2.1 hz fun H1 kC hkC e1 z1 o1 => ?_
  refine k p e s m args below meth c H1 locs ls ⟨C.1, C.2.1, Or.inr (by rw [z1]; omega), gW_more hz C.2.2.2.1 (by rw [hz]; exact o1) ⟨_, hc, (u_born ty C.1.2.2.2.2.2.1 hin hKn hkC e1 hty).to hfs⟩, ⟨Nat.le_trans C.2.2.2.2.1.1 (by omega), fun x h1 h2 => (o1 x (by have := C.2.2.2.2.1.1; omega)).trans (C.2.2.2.2.1.2.1 x h1 h2), C.2.2.2.2.1.2.2⟩, C.2.2.2.2.2⟩
theorem g_newA {N0 kd : Nat} {at0 : ArrayType} {ty : FieldType} {v : Int32} (hn : n ≠ gNN) (harr : Cond.arrayClass (newarray.typeOf at0) ∈ gTbl) (hty : newarray.typeOf at0 = ty) (hkd : (gT cy)[kd]? = some (cy kd, ty)) (hnm : ∀ cA : ClassId, ∀ U : State, va_RA U cA ty → U.vm.findClass ("[" ++ ty.toString) = some cA) (hz0 : defaultValue ty = .int 0) (hv : ¬ v < 0) (hN : v.toNatClampNeg = N0) (hbytes : N0 * componentBytes ty ≤ 536870912) (hcells : cells + 1 ≤ R.cells) (hslots : slots + N0 ≤ R.slots) (hh : h n = .inl (cy kd, N0, .inl (fun _ => 0))) (hdg : decode cc pc = .ok (.newarray at0, 2))
    (k : G l D cy base own cc nL ret R X Z (pc + 2) lv (.ref (base + n) :: st) (cells + 1) (slots + N0) (n + 1) h) : G l D cy base own cc nL ret R X Z pc lv (.int v :: st) cells slots n h := by
  subst hty
  intro p e s m args below meth c H locs ls C
  have hz : H.size = base + n := C.2.2.1.resolve_left hn
  refine va_newaK C.1.1 C.1.2.1 (C.1.2.2.2.2.2.1 _ harr) rfl hdg rfl hv hN hbytes hcells hslots hz fun H1 cA e1 z1 o1 hAr hNm => ?_
  have hcA : cA = cy kd := Option.some.inj (hNm.symm.trans (hnm _ _ (C.2.1.1.2 kd _ hkd).2))
  subst hcA
  have hup : h = va_up h n (.inl (cy kd, N0, .inl (fun _ => 0))) := by
    funext j
    by_cases ej : j = n
    · subst ej; rw [up_at, hh]
    · rw [up_ne ej]
  refine k p e s m args below meth c H1 locs ls ⟨C.1, C.2.1, Or.inr (by rw [z1]; omega), ?_, ⟨Nat.le_trans C.2.2.2.2.1.1 (by omega), fun x h1 h2 => (o1 x (by have := C.2.2.2.2.1.1; omega)).trans (C.2.2.2.2.1.2.1 x h1 h2), C.2.2.2.2.1.2.2⟩, C.2.2.2.2.2⟩
  rw [hup]
  refine gW_more hz C.2.2.2.1 (by rw [hz]; exact o1) ?_
  show H1[base + n]? = some (vp_cell _ _)
  rw [e1, vp_cell_i, hz0]
theorem g_anew {idx N0 kd : Nat} {Cn : String} {v : Int32} (hn : n ≠ gNN) (hcl : Cond.classLink own idx Cn ∈ gTbl) (hover : ∀ U, gBd U → va_AO Cn U) (hkd : (gT cy)[kd]? = some (cy kd, .object Cn)) (hv : ¬ v < 0) (hN : v.toNatClampNeg = N0) (hbytes : N0 * 4 ≤ 536870912) (hcells : cells + 1 ≤ R.cells) (hslots : slots + N0 ≤ R.slots) (hdg : decode cc pc = .ok (.anewarray idx, 3))
    (k : G l D cy base own cc nL ret R X Z (pc + 3) lv (.ref (base + n) :: st) (cells + 1) (slots + N0) (n + 1) (va_up h n (.inl (cy kd, N0, .inr (.inr (.inr (.inr (fun _ => none)))))))) : G l D cy base own cc nL ret R X Z pc lv (.int v :: st) cells slots n h := by
  intro p e s m args below meth c H locs ls C
  subst hN
  have hz : H.size = base + n := C.2.2.1.resolve_left hn
  refine W.anew C.1.1 C.1.2.1 C.1.2.2.2.2.1 (C.1.2.2.2.2.2.1 _ hcl) (va_AO.use (hover _ C.2.1.2.2.2)) rfl hdg rfl hv hbytes hcells hslots fun cA kA comp f1 f2 f3 f4 => ?_
  obtain ⟨kA2, comp2, -, -, -, f9⟩ := (C.2.1.1.2 kd _ hkd).2
  have hcA : cA = cy kd := Option.some.inj (f1.symm.trans f9)
  subst hcA
  generalize hH1 : H.push ({ cls := cy kd, slots := Array.replicate v.toNatClampNeg .null, vm := .none } : Cell) = H1
  have z1 : H1.size = H.size + 1 := by rw [← hH1, Array.size_push]
  have e1 : H1[H.size]? = some (arrV (cy kd) v.toNatClampNeg (fun _ => .null)) := by rw [← hH1, Array.getElem?_push_size, ← arrV_new]
  have o1 : ∀ q : Nat, q < H.size → H1[q]? = H[q]? := fun q hq => by rw [← hH1, Array.getElem?_push, if_neg (Nat.ne_of_lt hq)]
  rw [hz]
  refine k p e s m args below meth c H1 locs ls ⟨C.1, C.2.1, Or.inr (by rw [z1]; omega), gW_more hz C.2.2.2.1 o1 ?_, ⟨Nat.le_trans C.2.2.2.2.1.1 (by omega), fun x h1 h2 => (o1 x (by have := C.2.2.2.2.1.1; omega)).trans (C.2.2.2.2.1.2.1 x h1 h2), C.2.2.2.2.1.2.2⟩, C.2.2.2.2.2⟩
  show H1[base + n]? = some (vp_cell _ _)
  rw [← hz, vp_cell_q]
  exact e1
theorem g_mnew {idx N0 K0 : Nat} {v u : Int32} (hn : ∀ j, j ≤ N0 → n + j ≠ gNN) (hcl : Cond.classLink own idx "[[I" ∈ gTbl) (harr : Cond.arrayClass .int ∈ gTbl) (hv : ¬ v < 0) (hu : ¬ u < 0) (hN : v.toNatClampNeg = N0) (hK : u.toNatClampNeg = K0) (hb1 : N0 * 4 ≤ 536870912) (hb2 : K0 * componentBytes .int ≤ 536870912) (hb3 : K0 ≤ 536870912) (hcells : cells + (1 + N0) ≤ R.cells) (hslots : slots + (N0 + N0 * K0) ≤ R.slots)
    (hh : h n = .inl (cy 4, N0, .inr (.inr (.inr (.inr (fun i => some (base + (n + 1 + 1 * i)))))))) (hr : ∀ j, j < N0 → h (n + 1 + j) = .inl (cy 0, K0, .inl (fun _ => 0))) (hdg : decode cc pc = .ok (.multianewarray idx 2, 4))
    (k : G l D cy base own cc nL ret R X Z (pc + 4) lv (.ref (base + n) :: st) (cells + 1 + N0) (slots + N0 + N0 * K0) (n + 1 + N0) h) : G l D cy base own cc nL ret R X Z pc lv (.int u :: .int v :: st) cells slots n h := by
  intro p e s m args below meth c H locs ls C
  subst hN
  subst hK
  have hz : H.size = base + n := C.2.2.1.resolve_left (hn 0 (Nat.zero_le _))
  intro T hT Xs
  obtain ⟨vm₁, cA, comp, -, fA, fC, hO, -, X', step⟩ := Xs.multianewarray2F C.1.1 (ty := .int) C.1.2.2.2.2.1 (C.1.2.2.2.2.2.1 _ hcl) C.2.1.2.2.2.2.2.2 (C.1.2.2.2.2.2.1 _ harr) (g := F0 m pc ls (.int u :: .int v :: st)) rfl (by rw [C.1.2.1]; exact hdg) rfl hv hu hb1 hb2 hb3 rfl rfl hcells hslots
  have hcA : cA = cy 4 := Option.some.inj (fA.symm.trans (C.2.1.1.2 4 _ rfl).2)
  have hcy : comp = cy 0 := Option.some.inj (fC.symm.trans (C.2.1.1.2 0 _ rfl).2)
  subst hcA
  subst hcy
  generalize hF : Jvm.Free.Multi.fill (T.setVm vm₁) (cy 4) (cy 0) v.toNatClampNeg u.toNatClampNeg (defaultValue .int) v.toNatClampNeg = F at X' step
  have hTh : (T.setVm vm₁).heap = H := hT
  obtain ⟨f1, f2, -, -⟩ := Jvm.Free.Multi.fill_facts (T.setVm vm₁) (cy 4) (cy 0) v.toNatClampNeg u.toNatClampNeg (defaultValue .int) v.toNatClampNeg
  rw [hF, hTh] at f1 f2
  have hold : ∀ x : Nat, x < H.size → F.heap[x]? = H[x]? := fun x hx => by
    have := Jvm.Free.Multi.fill_old (T.setVm vm₁) (cy 4) (cy 0) v.toNatClampNeg u.toNatClampNeg (defaultValue .int) (a := x) (by rw [hTh]; exact hx) v.toNatClampNeg
    rw [hF, hTh] at this
    exact this
  have hrow : ∀ j : Nat, j < v.toNatClampNeg → F.heap[H.size + 1 + j]? = some (vp_cell (cy 0) (u.toNatClampNeg, .inl (fun _ => 0))) := fun j hj => by
    have := Jvm.Free.Multi.fill_inner (T.setVm vm₁) (cy 4) (cy 0) v.toNatClampNeg u.toNatClampNeg (defaultValue .int) v.toNatClampNeg j hj
    rw [hF, hTh] at this
    rw [this, vp_cell_i, ← arrV_new]
    rfl
  have hout : ∀ (N h0 i : Nat), Jvm.Free.Multi.outerC (cy 4) N h0 i = arrV (cy 4) N (fun j => va_rf (if j < i then some (h0 + 1 + j) else none)) := by
    intro N h0 i
    induction i with
    | zero =>
      show ({ cls := cy 4, slots := Array.replicate N .null, vm := .none } : Cell) = _
      rw [arrV_new]
      refine congrArg (arrV (cy 4) N) (funext fun j => ?_)
      simp [va_rf]
    | succ i ih =>
      show (Jvm.Free.Multi.outerC (cy 4) N h0 i).setSlot i (.ref (h0 + 1 + i)) = _
      rw [ih, arrV_store]
      refine congrArg (arrV (cy 4) N) (funext fun j => ?_)
      by_cases ej : j = i
      · subst ej
        simp [updV, va_rf]
      · by_cases hj : j < i
        · simp [updV, ej, hj, Nat.lt_succ_of_lt hj]
        · simp [updV, ej, hj, show ¬ j < i + 1 by omega]
  rw [hout] at f2
  have hP1 : va_P D vwCl (gW base (n + 1 + v.toNatClampNeg) h) F.heap := by
    intro j q hq
    obtain ⟨hj, rfl⟩ := gW_inv hq
    rcases Nat.lt_trichotomy j n with q1 | q1 | q1
    · exact (C.2.2.2.1 j _ (gW_at q1)).kept (hold (base + j) (by omega))
    · subst q1
      rw [hh]
      show F.heap[base + j]? = some (vp_cell _ _)
      rw [← hz, f2, vp_cell_q]
      congr 1
      unfold arrV
      congr 2
      funext i
      show va_rf (if i.val < v.toNatClampNeg then some (H.size + 1 + i.val) else none) = va_rf (some (base + (j + 1 + 1 * i.val)))
      rw [if_pos i.isLt, hz]
      congr 2
      omega
    · obtain ⟨i, rfl⟩ : ∃ i, j = n + 1 + i := ⟨j - (n + 1), by omega⟩
      rw [hr i (by omega)]
      show F.heap[base + (n + 1 + i)]? = some (vp_cell _ _)
      rw [show base + (n + 1 + i) = H.size + 1 + i by omega]
      exact hrow i (by omega)
  obtain ⟨t, a1, b1⟩ := k p e s m args below meth c F.heap locs ls ⟨C.1, C.2.1, Or.inr (by rw [f1]; omega), hP1, ⟨Nat.le_trans C.2.2.2.2.1.1 (by rw [f1]; omega), fun x h1 h2 => (hold x (by have := C.2.2.2.2.1.1; omega)).trans (C.2.2.2.2.1.2.1 x h1 h2), C.2.2.2.2.1.2.2⟩, C.2.2.2.2.2⟩ F rfl X'
  refine ⟨t, step t ?_, b1⟩
  have e9 : T.heap.size = base + n := by rw [hT, hz]
  rw [e9]
  exact a1
theorem g_objInit {idx a : Nat} (hlink : Cond.methodLink own idx objectInit ∈ gTbl) (hinst : Cond.instanceMethod objectInit ∈ gTbl) (hcode : Cond.code objectInit ⟨#[0xb1]⟩ 1 none ∈ gTbl) (hframes : 1 ≤ R.frames) (hlocals : (st.map fun v => v.category).sum + 12 ≤ R.locals) (hdg : decode cc pc = .ok (.invokespecial idx, 3)) (k : G l D cy base own cc nL ret R X Z (pc + 3) lv st cells slots n h) : G l D cy base own cc nL ret R X Z pc lv (.ref a :: st) cells slots n h := by
  intro p e s m args below meth c H locs ls C
  refine W.objInit C.1.1 C.1.2.1 C.1.2.2.2.2.1 (C.1.2.2.2.2.2.1 _ hlink) (C.1.2.2.2.2.2.1 _ hinst) (C.1.2.2.2.2.2.1 _ hcode) rfl (C.2.2.2.2.2.1.trans C.1.2.2.2.1.symm) rfl hdg hframes (by show 2 * 0 + _ + 12 ≤ _; omega) ?_
  exact k p e s m args below meth c H locs ls C
/-- a final field's link in its own constructor -/
def gLf (own : String) (idx ci j : Nat) (ty : FieldType) : Prop := ∃ (Cn : String) (T : u_T) (N : Nat) (ty0 : Nat → FieldType), vwCl[ci]? = some (Cn, T, N) ∧ j < N ∧ Cond.fieldLink own idx (T j).1 (T j).2.1 (T j).2.2.1 ∈ gTbl ∧ (∀ w ∈ u_ws Cn T N, w ∈ gTbl) ∧ (∀ k, k < N → parseFieldDescriptor (T k).2.2.1 = some (ty0 k)) ∧ (∀ a, a < N → ∀ b, b < N → a ≠ b → (T a).2.1 ≠ (T b).2.1) ∧ (T j).2.2.2 = true ∧ parseFieldDescriptor (T j).2.2.1 = some ty ∧ (T j).1 = own
theorem g_putF {idx ci j k0 : Nat} {fs : List Value} {v : Value} {ty : FieldType} (hX : ∀ s args meth, X s args meth → meth.name = "<init>") (hlk : gLf own idx ci j ty) (hk : k0 < n) (hh : h k0 = .inr (ci, fs)) (hn : narrow ty v = v) (hfit : fits ty v = true) (hlt : j < fs.length) (hdg : decode cc pc = .ok (.putfield idx, 3)) (k : G l D cy base own cc nL ret R X Z (pc + 3) lv st cells slots n (va_up h k0 (.inr (ci, fs.set j v)))) : G l D cy base own cc nL ret R X Z pc lv (v :: .ref (base + k0) :: st) cells slots n h := by
  intro p e s m args below meth c H locs ls C
  obtain ⟨Cn, T, N, ty0, hc, hj, hl, hin, hty, hnm, hfin, hd, hdecl⟩ := hlk
  have he : (gW base n h)[k0]? = some (base + k0, .inr (ci, fs)) := by rw [gW_at hk, hh]
  have hap := va_apart (own := own) C.1.2.2.2.2.2.1 hin ty0 hty hnm C.2.1.1 hc
  obtain ⟨r, h1, cell, q1, q2, q3, q4⟩ := C.2.2.2.1 k0 _ he
  have hr : r = (Cn, T, N) := Option.some.inj (h1.symm.trans hc)
  subst hr
  obtain ⟨hS, hfc, kC, hkC, hkind⟩ := C.2.1.1.1 ci _ hc
  obtain ⟨cf, kf, fi, f, hi, hsl⟩ := hS j hj
  have hlay := C.1.2.2.2.2.2.1 _ (hin _ (u_in_lay hj))
  unfold u_lay at hlay
  rw [if_pos hfin] at hlay
  have hst := (u_facts hfc hkC (u_lays C.1.2.2.2.2.2.1 hin hj) hi).1
  have hcf : m.cls = cf := by
    obtain ⟨_, _, c', _, _, _, -, -, hf', -, -, -, hown2, -⟩ := Cond.laysFinal_spec hlay
    have e1 : c' = cf := by have := hi.symm.trans hf'; simp at this; exact this.1.symm
    rw [hdecl] at hown2
    rw [← e1]; exact Option.some.inj (C.1.2.2.2.2.1.symm.trans hown2)
  have h6 := u_fits hfc hkC hkind (Or.inr hlay) hi hd hn hfit
  refine W.putFinK C.1.1 C.1.2.1 C.1.2.2.2.2.1 (C.1.2.2.2.2.2.1 _ hl) hi hst hcf (hX _ _ _ C.2.1.2.2.1) (by rw [q2]; exact h6) q1 q3 (by rw [hsl]; exact k2_hasslot (q4 j hj)) rfl rfl hdg fun H' e1 e2 e3 => ?_
  rw [hsl] at e1 ⊢
  have hP1 := va_P.set C.2.2.2.1 gW_D he (e := .inr (ci, fs.set j v)) ⟨_, hc, t_OB.to (V := updV (vp_V fs) j v) ⟨_, e1, q2, q3, t_set q4 hap hj v⟩ (fun i _ => vp_updV_set hlt v i)⟩ e3
  rw [gW_set] at hP1
  exact k p e s m args below meth c H' _ ls ⟨C.1, C.2.1, C.2.2.1.imp_right fun z => e2.trans z, hP1, C.2.2.2.2.1.put e2 e3 (gW_D.2 k0 _ he), C.2.2.2.2.2⟩
theorem g_aast {k0 N0 t0 kv ci : Nat} {f : Nat → Option Nat} {i : Int32} {fs : List Value} {q : vw_C} (hk : k0 < n) (hh : h k0 = .inl (cy t0, N0, .inr (.inr (.inr (.inr f))))) (ht : (gT cy)[t0]? = some (cy t0, .object q.1)) (hkv : kv < n) (hhv : h kv = .inr (ci, fs)) (hc : vwCl[ci]? = some q) (hin : vp_in i N0) (hdg : decode cc pc = .ok (.aastore, 1)) (k : G l D cy base own cc nL ret R X Z (pc + 1) lv st cells slots n (va_up h k0 (.inl (cy t0, N0, .inr (.inr (.inr (.inr (va_up f i.toNatClampNeg (some (base + kv)))))))))) : G l D cy base own cc nL ret R X Z pc lv (.ref (base + kv) :: .int i :: .ref (base + k0) :: st) cells slots n h := by
  intro p e s m args below meth c H locs ls C
  have ha : (gW base n h)[k0]? = some (base + k0, .inl (cy t0, N0, .inr (.inr (.inr (.inr f))))) := by rw [gW_at hk, hh]
  have hv : (gW base n h)[kv]? = some (base + kv, .inr (ci, fs)) := by rw [gW_at hkv, hhv]
  have hlt : i.toNatClampNeg < N0 := Nat.not_le.mp fun q => hin (Or.inr q)
  have h0 : ¬ i < 0 := fun q => hin (Or.inl q)
  obtain ⟨r', hr', cellV, g1, g2, g3, -⟩ := C.2.2.2.1 kv _ hv
  have hcls := (C.2.1.1.1 ci q hc).2
  obtain ⟨kA, comp, k1, k2, k3, -⟩ := (C.2.1.1.2 t0 _ ht).2
  have hcomp : comp = D.1 ci := Option.some.inj (k3.symm.trans hcls.1)
  subst hcomp
  obtain ⟨kC, hkC, -⟩ := hcls.2
  refine W.aast C.1.1 C.1.2.1 (C.2.2.2.1 k0 _ ha) (fun q h => by cases h) (fun h => by cases h) k1 k2 rfl hkC ⟨h0, by show _ < (arrV _ _ _).slots.size; rw [arrV_size]; exact hlt⟩ g1 (fun q h => by rw [g3] at h; cases h) (by rw [g2]; exact hkC) (by rw [g2]; exact va_assign hcls) rfl rfl hdg fun H1 e1 z oq => ?_
  have hP1 := va_P.set C.2.2.2.1 gW_D ha (e := .inl (cy t0, N0, .inr (.inr (.inr (.inr (va_up f i.toNatClampNeg (some (base + kv)))))))) (H1 := H1) (by
    show H1[base + k0]? = some (vp_cell _ _)
    rw [e1]
    rw [vp_cell_q, vp_cell_q, arrV_store]
    congr 2
    funext q
    by_cases hq : q = i.toNatClampNeg
    · subst hq
      simp [updV, va_up, va_rf]
    · simp [updV, va_up, hq]) oq
  rw [gW_set] at hP1
  exact k p e s m args below meth c H1 _ ls ⟨C.1, C.2.1, C.2.2.1.imp_right fun y => z.trans y, hP1, C.2.2.2.2.1.put z oq (gW_D.2 k0 _ ha), C.2.2.2.2.2⟩
end GAlloc

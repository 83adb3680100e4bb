/-! ===== BEGIN words of one list among another's, by their places ===== -/
theorem goodIn_r {big : List Cond} (ws : List Cond) (ps : List Nat) (hp : ws = ps.filterMap (fun i => big[i]?)) (h : ws.all goodWord = true) : GoodIn big ws := by
  intro w hw
  have h1 := List.all_eq_true.mp h w hw
  rw [hp] at hw
  obtain ⟨i, -, hi⟩ := List.mem_filterMap.mp hw
  have hm : w ∈ big := by first | exact List.mem_of_getElem? hi | exact List.getElem?_mem hi
  exact ⟨hm, good_of_word h1⟩
theorem goodIn_app {big a b : List Cond} (ha : GoodIn big a) (hb : GoodIn big b) : GoodIn big (a ++ b) := fun w h => (List.mem_append.mp h).elim (ha w) (hb w)
theorem goodIn_ca {big a b : List Cond} {c : Cond} (ha : GoodIn big (c :: a)) (hb : GoodIn big b) : GoodIn big (c :: (a ++ b)) := fun w h => (List.mem_cons.mp h).elim (fun e => ha w (List.mem_cons.mpr (Or.inl e))) (fun h => (List.mem_append.mp h).elim (fun h => ha w (List.mem_cons.mpr (Or.inr h))) (hb w))
theorem goodIn_sub {big ws : List Cond} (hm : ∀ w ∈ ws, w ∈ big) (h : ws.all goodWord = true) : GoodIn big ws := fun w hw => ⟨hm w hw, good_of_word (List.all_eq_true.mp h w hw)⟩
/-! ===== END ===== -/

/-! ===== BEGIN new T[n][m]: the outer array a place, the inner ones among the pooled ===== -/
/-- f, but v at every address of l -/
def vr_up {α : Type} (f : Nat → α) (l : List Nat) (v : α) : Nat → α := fun a => if a ∈ l then v else f a
theorem vr_up_in {α : Type} {f : Nat → α} {l : List Nat} {v : α} {a : Nat} (h : a ∈ l) : vr_up f l v a = v := if_pos h
theorem vr_up_ne {α : Type} {f : Nat → α} {l : List Nat} {v : α} {a : Nat} (h : a ∉ l) : vr_up f l v a = f a := if_neg h
theorem vr_rows {L l : List Nat} {f : Nat → va_E} {e : va_E} (h : ∀ a, a ∈ l → a ∉ L) : va_pl L f ++ l.map (fun a => (a, e)) = va_pl (L ++ l) (vr_up f l e) := by
  unfold va_pl
  rw [List.map_append]
  congr 1
  · apply List.map_congr_left
    intro a ha
    rw [vr_up_ne (fun q => h a q ha)]
  · apply List.map_congr_left
    intro a ha
    rw [vr_up_in ha]
theorem vr_lay {X rows : va_W} {x : Nat × va_E} {pl : va_W} {D : va_G} {cl : List vw_C} {H : Heap} (hP : va_P D cl (((X ++ pl) ++ [x]) ++ rows) H) : va_P D cl ((X ++ [x]) ++ (pl ++ rows)) H := by
  rw [List.append_assoc (X ++ pl)] at hP
  have h := va_P.swap hP
  rw [← List.append_assoc X] at h
  have h2 := va_P.swap h
  rw [List.append_assoc (X ++ [x])] at h2
  exact h2
theorem vr_layD {X rows : va_W} {x : Nat × va_E} {pl : va_W} {A : Nat → Prop} (hD : va_D A (((X ++ pl) ++ [x]) ++ rows)) : va_D A ((X ++ [x]) ++ (pl ++ rows)) := by
  rw [List.append_assoc (X ++ pl)] at hD
  have h := va_D.swap hD
  rw [← List.append_assoc X] at h
  have h2 := va_D.swap h
  rw [List.append_assoc (X ++ [x])] at h2
  exact h2
theorem vr_outer (c : ClassId) (N h0 : Nat) : ∀ i : Nat, Jvm.Free.Multi.outerC c N h0 i = arrV c N (fun j => va_rf (if j < i then some (h0 + 1 + j) else none))
  | 0 => by
    show ({ cls := c, slots := Array.replicate N .null, vm := .none } : Cell) = _
    rw [arrV_new]
    refine congrArg (arrV c N) (funext fun j => ?_)
    simp [va_rf]
  | i + 1 => by
    show (Jvm.Free.Multi.outerC c N h0 i).setSlot i (.ref (h0 + 1 + i)) = _
    rw [vr_outer c N h0 i, arrV_store]
    refine congrArg (arrV c N) (funext fun j => ?_)
    by_cases e : j = i
    · subst e
      simp [updV, va_rf]
    · by_cases h : j < i
      · simp [updV, e, h, Nat.lt_succ_of_lt h]
      · simp [updV, e, h, show ¬ j < i + 1 by omega]
section VGM
variable {p : Program} {l : Launch} {e : Env} {R : Room} {s : State} {m : MethodId} {args : Array Value} {below : List Frame} {meth : Method} {c : Code} {H : Heap} {locs : List Loc} {cells slots : Nat} {Q : State → Prop}
variable {cc : ByteArray} {pc : Nat} {ls : Array Slot} {rest : List Value} {D : va_G} {cl : List vw_C} {A : Nat → Prop} {a : Nat} {tys : List (ClassId × FieldType)} {ws : va_W} {H0 : Heap}
theorem va_mna {X : va_W} {L : List Nat} {f : Nat → va_E} {cc : ByteArray} (hexec : p.tables.exec = Jvm.exec) (hb : c.code = cc) {own : String} {index : Nat} {ty : FieldType} {cy : ClassId} (hown : s.vm.findClass own = some m.cls) (hclink : (Cond.classLink own index ("[" ++ (FieldType.array ty).toString)).before args s = true) (hover : va_AOA ty s) (harr : (Cond.arrayClass ty).before args s = true) (hcy : s.vm.findClass (FieldType.array ty).toString = some cy)
    (hK : va_K D cl tys s) (hP : va_P D cl (X ++ va_pl L f) H) (hD : va_D A (X ++ va_pl L f)) (hS : va_S A H0 H locs) (hA : ∀ q, H0.size ≤ q → A q) {n k : Int32} {N' K' : Nat} {z : vp_A} (hn : ¬ n < 0) (hk : ¬ k < 0) (hN : n.toNatClampNeg = N') (hM : k.toNatClampNeg = K')
    (hb1 : N' * 4 ≤ 536870912) (hb2 : K' * componentBytes ty ≤ 536870912) (hb3 : K' ≤ 536870912) (hdf : fits ty (defaultValue ty) = true) (hdd : (defaultValue ty).isDefault = true) (hcells : cells + (1 + N') ≤ R.cells) (hslots : slots + (N' + N' * K') ≤ R.slots) (hz : ∀ c : ClassId, Jvm.Free.Multi.innerC c K' (defaultValue ty) = vp_cell c z) (hdg : decode cc pc = .ok (.multianewarray index 2, 4))
    (kk : ∀ (q : Nat) (r : Nat → Nat) (cA : ClassId) (H1 : Heap), (∀ i j : Nat, i < N' → j < N' → r i = r j → i = j) → (∀ i : Nat, i < N' → r i ∉ L) → va_K D cl (tys ++ [(cA, .array ty)]) s →
      va_P D cl ((X ++ [(q, .inl (cA, N', .inr (.inr (.inr (.inr (fun i => if i < N' then some (r i) else none))))))]) ++ va_pl (L ++ (List.range N').map r) (vr_up f ((List.range N').map r) (.inl (cy, z)))) H1 → va_D A ((X ++ [(q, .inl (cA, N', .inr (.inr (.inr (.inr (fun i => if i < N' then some (r i) else none))))))]) ++ va_pl (L ++ (List.range N').map r) (vr_up f ((List.range N').map r) (.inl (cy, z)))) → va_S A H0 H1 locs →
      W p l e R s m args below meth c H1 locs (cells + 1 + N') (slots + N' + N' * K') Q (F0 m (pc + 4) ls (.ref q :: rest))) : W p l e R s m args below meth c H locs cells slots Q (F0 m pc ls (.int k :: .int n :: rest)) := by
  subst hN
  subst hM
  intro T hT Xs
  obtain ⟨vm₁, cA, comp, -, fA, fC, hO, -, X', step⟩ := Xs.multianewarray2F hexec hown hclink (va_AOA.use hover) harr (g := F0 m pc ls (.int k :: .int n :: rest)) rfl (by rw [hb]; exact hdg) rfl hn hk hb1 hb2 hb3 hdf hdd hcells hslots
  have ec : some cy = some comp := hcy.symm.trans fC
  cases ec
  generalize hF : Jvm.Free.Multi.fill (T.setVm vm₁) cA cy n.toNatClampNeg k.toNatClampNeg (defaultValue ty) n.toNatClampNeg = F at X' step
  have hTh : (T.setVm vm₁).heap = H := hT
  obtain ⟨f1, f2, -, -⟩ := Jvm.Free.Multi.fill_facts (T.setVm vm₁) cA cy n.toNatClampNeg k.toNatClampNeg (defaultValue ty) n.toNatClampNeg
  rw [hF, hTh] at f1 f2
  have hold : ∀ x : Nat, x < H.size → F.heap[x]? = H[x]? := fun x hx => by
    have := Jvm.Free.Multi.fill_old (T.setVm vm₁) cA cy n.toNatClampNeg k.toNatClampNeg (defaultValue ty) (a := x) (by rw [hTh]; exact hx) n.toNatClampNeg
    rw [hF, hTh] at this
    exact this
  have hrow : ∀ j : Nat, j < n.toNatClampNeg → F.heap[H.size + 1 + j]? = some (vp_cell cy z) := fun j hj => by
    have := Jvm.Free.Multi.fill_inner (T.setVm vm₁) cA cy n.toNatClampNeg k.toNatClampNeg (defaultValue ty) n.toNatClampNeg j hj
    rw [hF, hTh, hz] at this
    exact this
  have hout : Jvm.Free.Multi.outerC cA n.toNatClampNeg H.size n.toNatClampNeg = vp_cell cA (n.toNatClampNeg, .inr (.inr (.inr (.inr (fun i => if i < n.toNatClampNeg then some (H.size + 1 + i) else none))))) := by
    rw [vp_cell_q]
    exact vr_outer cA n.toNatClampNeg H.size n.toNatClampNeg
  rw [hout] at f2
  have hlt : ∀ a, a ∈ L → a < H.size := fun a ha => by
    obtain ⟨k9, hk9⟩ := va_pl_get (X := X) (f := f) ha
    exact (hP k9 _ hk9).lt
  have hnl : ∀ i : Nat, i < n.toNatClampNeg → H.size + 1 + i ∉ L := fun i _ h => by
    have := hlt _ h
    omega
  have hnm : ∀ a, a ∈ (List.range n.toNatClampNeg).map (fun i => H.size + 1 + i) → a ∉ L := fun a ha h => by
    obtain ⟨i, -, rfl⟩ := List.mem_map.mp ha
    have := hlt _ h
    omega
  have hP0 : va_P D cl (X ++ va_pl L f) F.heap := hP.kept (fun k9 x hx => hold x.1 ((hP k9 x hx).lt))
  have hP1 : va_P D cl ((X ++ va_pl L f) ++ [(H.size, .inl (cA, n.toNatClampNeg, .inr (.inr (.inr (.inr (fun i => if i < n.toNatClampNeg then some (H.size + 1 + i) else none))))))]) F.heap := hP0.app (fun k9 x hx => by
    have h0 : k9 < 1 := (List.getElem?_eq_some_iff.mp hx).1
    rw [show k9 = 0 by omega] at hx
    cases hx
    exact f2)
  have hP2 : va_P D cl (((X ++ va_pl L f) ++ [(H.size, .inl (cA, n.toNatClampNeg, .inr (.inr (.inr (.inr (fun i => if i < n.toNatClampNeg then some (H.size + 1 + i) else none))))))]) ++ ((List.range n.toNatClampNeg).map (fun i => H.size + 1 + i)).map (fun a => (a, .inl (cy, z)))) F.heap := hP1.app (fun k9 x hx => by
    obtain ⟨a, ha, rfl⟩ := List.mem_map.mp (List.mem_of_getElem? hx)
    obtain ⟨i, hi, rfl⟩ := List.mem_map.mp ha
    exact hrow i (List.mem_range.mp hi))
  have hD2 : va_D A (((X ++ va_pl L f) ++ [(H.size, .inl (cA, n.toNatClampNeg, .inr (.inr (.inr (.inr (fun i => if i < n.toNatClampNeg then some (H.size + 1 + i) else none))))))]) ++ ((List.range n.toNatClampNeg).map (fun i => H.size + 1 + i)).map (fun a => (a, .inl (cy, z)))) := by
    have hD1 := hD.push (e := .inl (cA, n.toNatClampNeg, .inr (.inr (.inr (.inr (fun i => if i < n.toNatClampNeg then some (H.size + 1 + i) else none)))))) hP rfl (hA _ hS.1)
    generalize hW1 : (X ++ va_pl L f) ++ [(H.size, .inl (cA, n.toNatClampNeg, .inr (.inr (.inr (.inr (fun i => if i < n.toNatClampNeg then some (H.size + 1 + i) else none))))))] = W1 at hD1 hP1 ⊢
    have hle : ∀ (k9 : Nat) (x : Nat × va_E), W1[k9]? = some x → x.1 ≤ H.size := fun k9 x hx => by
      rw [← hW1] at hx
      by_cases hl : k9 < (X ++ va_pl L f).length
      · rw [List.getElem?_append_left hl] at hx
        exact Nat.le_of_lt ((hP k9 x hx).lt)
      · rw [List.getElem?_append_right (by omega)] at hx
        have h0 : k9 - (X ++ va_pl L f).length < 1 := (List.getElem?_eq_some_iff.mp hx).1
        rw [show k9 - (X ++ va_pl L f).length = 0 by omega] at hx
        cases hx
        exact Nat.le_refl _
    have hr : ∀ (k9 : Nat) (x : Nat × va_E), (((List.range n.toNatClampNeg).map (fun i => H.size + 1 + i)).map (fun a => ((a, .inl (cy, z)) : Nat × va_E)))[k9]? = some x → x.1 = H.size + 1 + k9 := fun k9 x hx => by
      rw [List.getElem?_map, List.getElem?_map] at hx
      by_cases h9 : k9 < n.toNatClampNeg
      · rw [List.getElem?_range h9] at hx
        cases hx
        rfl
      · have hn0 : (List.range n.toNatClampNeg)[k9]? = none := List.getElem?_eq_none (by rw [List.length_range]; omega)
        rw [hn0] at hx
        cases hx
    refine ⟨fun i j x y hi hj hxy => ?_, fun k9 x hx => ?_⟩
    · by_cases h1 : i < W1.length <;> by_cases h2 : j < W1.length
      · rw [List.getElem?_append_left h1] at hi
        rw [List.getElem?_append_left h2] at hj
        exact hD1.1 i j x y hi hj hxy
      · rw [List.getElem?_append_left h1] at hi
        rw [List.getElem?_append_right (by omega)] at hj
        have := hle _ _ hi
        have := hr _ _ hj
        omega
      · rw [List.getElem?_append_right (by omega)] at hi
        rw [List.getElem?_append_left h2] at hj
        have := hle _ _ hj
        have := hr _ _ hi
        omega
      · rw [List.getElem?_append_right (by omega)] at hi hj
        have := hr _ _ hi
        have := hr _ _ hj
        omega
    · by_cases h1 : k9 < W1.length
      · rw [List.getElem?_append_left h1] at hx
        exact hD1.2 k9 x hx
      · rw [List.getElem?_append_right (by omega)] at hx
        have := hr _ _ hx
        exact hA _ (by have := hS.1; omega)
  have hAr : ArrOfT s cA (.array ty) := fun N9 z9 => by
    obtain ⟨-, k9, hk9, cm9, hkk9⟩ := (hO 0 0 0).1
    exact ⟨(fun q hq => by cases hq), k9, hk9, cm9, hkk9⟩
  have hK2 : va_K D cl (tys ++ [(cA, .array ty)]) s := ⟨hK.1, fun k9 x hx => by
    by_cases hl : k9 < tys.length
    · rw [List.getElem?_append_left hl] at hx
      exact hK.2 k9 x hx
    · rw [List.getElem?_append_right (by omega)] at hx
      have h0 : k9 - tys.length < 1 := (List.getElem?_eq_some_iff.mp hx).1
      rw [show k9 - tys.length = 0 by omega] at hx
      cases hx
      exact ⟨hAr, fA⟩⟩
  obtain ⟨t, a1, b1⟩ := kk H.size (fun i => H.size + 1 + i) cA F.heap (fun i j _ _ h => by have h9 : H.size + 1 + i = H.size + 1 + j := h; omega) hnl hK2 (by rw [← vr_rows hnm]; exact vr_lay hP2) (by rw [← vr_rows hnm]; exact vr_layD hD2) ⟨by rw [f1]; have := hS.1; omega, fun x h1 h2 => (hold x (Nat.lt_of_lt_of_le h1 hS.1)).trans (hS.2.1 x h1 h2), hS.2.2⟩ F rfl X'
  refine ⟨t, step t ?_, b1⟩
  have e : T.heap.size = H.size := by rw [hT]
  rw [e]
  exact a1
end VGM
/-! ===== END ===== -/

/-! ===== BEGIN printed: names, fields, word lists, decode rows ===== -/
def RX0 : String := "OwedFalls$Ledger"
def TX0 : u_T := fun k => match k with
  | 0 => ("OwedFalls$Ledger", "present", "LOwedFalls$Moment;", true)
  | 1 => ("OwedFalls$Ledger", "past", "[LOwedFalls$Moment;", true)
  | 2 => ("OwedFalls$Ledger", "known", "I", false)
  | _ => ("OwedFalls$Ledger", "next", "I", false)
def tyX0 : Nat → FieldType := fun k => match k with
  | 0 => .object "OwedFalls$Moment"
  | 1 => .array (.object "OwedFalls$Moment")
  | 2 => .int
  | _ => .int
abbrev wsX00 : List Cond := u_ws RX0 TX0 4
theorem nmX0 : ∀ a, a < 4 → ∀ b, b < 4 → a ≠ b → (TX0 a).2.1 ≠ (TX0 b).2.1 := by decide +kernel
theorem tyX0_ok : ∀ k, k < 4 → parseFieldDescriptor (TX0 k).2.2.1 = some (tyX0 k) := by decide +kernel
abbrev cX0_init : ByteArray := prog_2_method_1_code
def yX0_init : MethodName := ⟨RX0, "<init>", "()V"⟩
abbrev cX0_begin : ByteArray := prog_2_method_2_code
def yX0_begin : MethodName := ⟨RX0, "begin", "(LOwedFalls$Plan;)V"⟩
abbrev cX0_remember : ByteArray := prog_2_method_3_code
def yX0_remember : MethodName := ⟨RX0, "remember", "()V"⟩
abbrev cX0_takeBack : ByteArray := prog_2_method_4_code
def yX0_takeBack : MethodName := ⟨RX0, "takeBack", "()Z"⟩
abbrev cX0_copyFrom : ByteArray := prog_2_method_5_code
def yX0_copyFrom : MethodName := ⟨RX0, "copyFrom", "(LOwedFalls$Ledger;)V"⟩
def RX1 : String := "OwedFalls$Moment"
def TX1 : u_T := fun k => match k with
  | 0 => ("OwedFalls$Moment", "due", "[I", true)
  | 1 => ("OwedFalls$Moment", "thrown", "[I", true)
  | 2 => ("OwedFalls$Moment", "bonds", "[I", true)
  | 3 => ("OwedFalls$Moment", "hurt", "I", false)
  | _ => ("OwedFalls$Moment", "year", "I", false)
def tyX1 : Nat → FieldType := fun k => match k with
  | 0 => .array .int
  | 1 => .array .int
  | 2 => .array .int
  | 3 => .int
  | _ => .int
abbrev wsX10 : List Cond := u_ws RX1 TX1 5
theorem nmX1 : ∀ a, a < 5 → ∀ b, b < 5 → a ≠ b → (TX1 a).2.1 ≠ (TX1 b).2.1 := by decide +kernel
theorem tyX1_ok : ∀ k, k < 5 → parseFieldDescriptor (TX1 k).2.2.1 = some (tyX1 k) := by decide +kernel
abbrev cX1_init : ByteArray := prog_3_method_1_code
def yX1_init : MethodName := ⟨RX1, "<init>", "()V"⟩
abbrev cX1_begin : ByteArray := prog_3_method_2_code
def yX1_begin : MethodName := ⟨RX1, "begin", "(LOwedFalls$Plan;)V"⟩
abbrev cX1_copyFrom : ByteArray := prog_3_method_3_code
def yX1_copyFrom : MethodName := ⟨RX1, "copyFrom", "(LOwedFalls$Moment;)V"⟩
abbrev cX1_lessen : ByteArray := prog_3_method_4_code
def yX1_lessen : MethodName := ⟨RX1, "lessen", "(II)I"⟩
abbrev cX1_addHurt : ByteArray := prog_3_method_5_code
def yX1_addHurt : MethodName := ⟨RX1, "addHurt", "(I)V"⟩
abbrev cX1_endYear : ByteArray := prog_3_method_6_code
def yX1_endYear : MethodName := ⟨RX1, "endYear", "(LOwedFalls$Plan;)V"⟩
abbrev cX1_dueOfAll : ByteArray := prog_3_method_7_code
def yX1_dueOfAll : MethodName := ⟨RX1, "dueOfAll", "(I)I"⟩
def RX2 : String := "OwedFalls$Payments"
def TX2 : u_T := fun k => match k with
  | 0 => ("OwedFalls$Payments", "hurtFor", "[I", true)
  | 1 => ("OwedFalls$Payments", "fallsFor", "[I", true)
  | 2 => ("OwedFalls$Payments", "dueAfter", "[[I", true)
  | _ => ("OwedFalls$Payments", "best", "[[I", true)
def tyX2 : Nat → FieldType := fun k => match k with
  | 0 => .array .int
  | 1 => .array .int
  | 2 => .array (.array .int)
  | _ => .array (.array .int)
abbrev wsX20 : List Cond := u_ws RX2 TX2 4
theorem nmX2 : ∀ a, a < 4 → ∀ b, b < 4 → a ≠ b → (TX2 a).2.1 ≠ (TX2 b).2.1 := by decide +kernel
theorem tyX2_ok : ∀ k, k < 4 → parseFieldDescriptor (TX2 k).2.2.1 = some (tyX2 k) := by decide +kernel
abbrev cX2_init : ByteArray := prog_4_method_1_code
def yX2_init : MethodName := ⟨RX2, "<init>", "()V"⟩
abbrev cX2_payByFalls : ByteArray := prog_4_method_2_code
def yX2_payByFalls : MethodName := ⟨RX2, "payByFalls", "(LOwedFalls$Plan;IZ)I"⟩
abbrev cX2_gatherFalls : ByteArray := prog_4_method_3_code
def yX2_gatherFalls : MethodName := ⟨RX2, "gatherFalls", "(LOwedFalls$Plan;)V"⟩
abbrev cX2_offerFall : ByteArray := prog_4_method_4_code
def yX2_offerFall : MethodName := ⟨RX2, "offerFall", "(II)V"⟩
abbrev cX2_cheapestFor : ByteArray := prog_4_method_5_code
def yX2_cheapestFor : MethodName := ⟨RX2, "cheapestFor", "(I)I"⟩
abbrev cX2_spend : ByteArray := prog_4_method_6_code
def yX2_spend : MethodName := ⟨RX2, "spend", "(LOwedFalls$Plan;LOwedFalls$Moment;I)V"⟩
abbrev cX2_leastWith : ByteArray := prog_4_method_7_code
def yX2_leastWith : MethodName := ⟨RX2, "leastWith", "(II)I"⟩
abbrev cX2_spentOn : ByteArray := prog_4_method_8_code
def yX2_spentOn : MethodName := ⟨RX2, "spentOn", "(III)I"⟩
abbrev cX2_dueWithCoins : ByteArray := prog_4_method_9_code
def yX2_dueWithCoins : MethodName := ⟨RX2, "dueWithCoins", "(III)I"⟩
abbrev cX2_leastDue : ByteArray := prog_4_method_10_code
def yX2_leastDue : MethodName := ⟨RX2, "leastDue", "(I)I"⟩
abbrev cX2_fewestCoins : ByteArray := prog_4_method_11_code
def yX2_fewestCoins : MethodName := ⟨RX2, "fewestCoins", "(I)I"⟩
abbrev cX2_coinsFor : ByteArray := prog_4_method_12_code
def yX2_coinsFor : MethodName := ⟨RX2, "coinsFor", "(II)I"⟩
abbrev cX2_fewerCoins : ByteArray := prog_4_method_13_code
def yX2_fewerCoins : MethodName := ⟨RX2, "fewerCoins", "(II)I"⟩
abbrev cX2_yearsTillFree : ByteArray := prog_4_method_14_code
def yX2_yearsTillFree : MethodName := ⟨RX2, "yearsTillFree", "(III)I"⟩
def RX3 : String := "OwedFalls$Plan"
def TX3 : u_T := fun k => match k with
  | 0 => ("OwedFalls$Plan", "floorA", "[I", true)
  | 1 => ("OwedFalls$Plan", "floorB", "[I", true)
  | 2 => ("OwedFalls$Plan", "steps", "[I", true)
  | 3 => ("OwedFalls$Plan", "owes", "[I", true)
  | 4 => ("OwedFalls$Plan", "child", "[I", true)
  | 5 => ("OwedFalls$Plan", "care", "[I", true)
  | 6 => ("OwedFalls$Plan", "hurtBy", "[I", true)
  | 7 => ("OwedFalls$Plan", "stairs", "I", false)
  | 8 => ("OwedFalls$Plan", "people", "I", false)
  | 9 => ("OwedFalls$Plan", "dolls", "I", false)
  | 10 => ("OwedFalls$Plan", "pair", "I", false)
  | 11 => ("OwedFalls$Plan", "dollsTold", "Z", false)
  | _ => ("OwedFalls$Plan", "pairTold", "Z", false)
def tyX3 : Nat → FieldType := fun k => match k with
  | 0 => .array .int
  | 1 => .array .int
  | 2 => .array .int
  | 3 => .array .int
  | 4 => .array .int
  | 5 => .array .int
  | 6 => .array .int
  | 7 => .int
  | 8 => .int
  | 9 => .int
  | 10 => .int
  | 11 => .boolean
  | _ => .boolean
abbrev wsX30 : List Cond := u_ws RX3 TX3 13
theorem nmX3 : ∀ a, a < 13 → ∀ b, b < 13 → a ≠ b → (TX3 a).2.1 ≠ (TX3 b).2.1 := by decide +kernel
theorem tyX3_ok : ∀ k, k < 13 → parseFieldDescriptor (TX3 k).2.2.1 = some (tyX3 k) := by decide +kernel
abbrev cX3_init : ByteArray := prog_5_method_1_code
def yX3_init : MethodName := ⟨RX3, "<init>", "()V"⟩
abbrev cX3_forget : ByteArray := prog_5_method_2_code
def yX3_forget : MethodName := ⟨RX3, "forget", "()V"⟩
abbrev cX3_hasStair : ByteArray := prog_5_method_3_code
def yX3_hasStair : MethodName := ⟨RX3, "hasStair", "(I)Z"⟩
abbrev cX3_hasTwoStairs : ByteArray := prog_5_method_4_code
def yX3_hasTwoStairs : MethodName := ⟨RX3, "hasTwoStairs", "(II)Z"⟩
abbrev cX3_hasPerson : ByteArray := prog_5_method_5_code
def yX3_hasPerson : MethodName := ⟨RX3, "hasPerson", "(I)Z"⟩
abbrev cX3_halvesOf : ByteArray := prog_5_method_6_code
def yX3_halvesOf : MethodName := ⟨RX3, "halvesOf", "(I)I"⟩
def RX4 : String := "OwedFalls$Reader"
def TX4 : u_T := fun k => match k with
  | 0 => ("OwedFalls$Reader", "bytes", "[I", true)
  | 1 => ("OwedFalls$Reader", "length", "I", false)
  | 2 => ("OwedFalls$Reader", "place", "I", false)
  | 3 => ("OwedFalls$Reader", "tokenAt", "I", false)
  | 4 => ("OwedFalls$Reader", "tokenKind", "I", false)
  | _ => ("OwedFalls$Reader", "tokenValue", "I", false)
def tyX4 : Nat → FieldType := fun k => match k with
  | 0 => .array .int
  | 1 => .int
  | 2 => .int
  | 3 => .int
  | 4 => .int
  | _ => .int
abbrev wsX40 : List Cond := u_ws RX4 TX4 6
theorem nmX4 : ∀ a, a < 6 → ∀ b, b < 6 → a ≠ b → (TX4 a).2.1 ≠ (TX4 b).2.1 := by decide +kernel
theorem tyX4_ok : ∀ k, k < 6 → parseFieldDescriptor (TX4 k).2.2.1 = some (tyX4 k) := by decide +kernel
abbrev cX4_init : ByteArray := prog_6_method_1_code
def yX4_init : MethodName := ⟨RX4, "<init>", "()V"⟩
abbrev cX4_take : ByteArray := prog_6_method_2_code
def yX4_take : MethodName := ⟨RX4, "take", "(I)Z"⟩
abbrev cX4_empty : ByteArray := prog_6_method_3_code
def yX4_empty : MethodName := ⟨RX4, "empty", "()V"⟩
abbrev cX4_readInto : ByteArray := prog_6_method_4_code
def yX4_readInto : MethodName := ⟨RX4, "readInto", "(LOwedFalls$Plan;)I"⟩
abbrev cX4_readItem : ByteArray := prog_6_method_5_code
def yX4_readItem : MethodName := ⟨RX4, "readItem", "(LOwedFalls$Plan;)Z"⟩
abbrev cX4_readStair : ByteArray := prog_6_method_6_code
def yX4_readStair : MethodName := ⟨RX4, "readStair", "(LOwedFalls$Plan;)Z"⟩
abbrev cX4_readPerson : ByteArray := prog_6_method_7_code
def yX4_readPerson : MethodName := ⟨RX4, "readPerson", "(LOwedFalls$Plan;)Z"⟩
abbrev cX4_readDolls : ByteArray := prog_6_method_8_code
def yX4_readDolls : MethodName := ⟨RX4, "readDolls", "(LOwedFalls$Plan;)Z"⟩
abbrev cX4_readPair : ByteArray := prog_6_method_9_code
def yX4_readPair : MethodName := ⟨RX4, "readPair", "(LOwedFalls$Plan;)Z"⟩
abbrev cX4_readNumber : ByteArray := prog_6_method_10_code
def yX4_readNumber : MethodName := ⟨RX4, "readNumber", "(II)Z"⟩
abbrev cX4_readStop : ByteArray := prog_6_method_11_code
def yX4_readStop : MethodName := ⟨RX4, "readStop", "()Z"⟩
abbrev cX4_nextToken : ByteArray := prog_6_method_12_code
def yX4_nextToken : MethodName := ⟨RX4, "nextToken", "()V"⟩
abbrev cX4_takeWord : ByteArray := prog_6_method_13_code
def yX4_takeWord : MethodName := ⟨RX4, "takeWord", "()V"⟩
abbrev cX4_takeNumber : ByteArray := prog_6_method_14_code
def yX4_takeNumber : MethodName := ⟨RX4, "takeNumber", "()V"⟩
abbrev cX4_isLetter : ByteArray := prog_6_method_15_code
def yX4_isLetter : MethodName := ⟨RX4, "isLetter", "(I)Z"⟩
abbrev cX4_isDigit : ByteArray := prog_6_method_16_code
def yX4_isDigit : MethodName := ⟨RX4, "isDigit", "(I)Z"⟩
def RX5 : String := "OwedFalls$Rings"
def TX5 : u_T := fun k => match k with
  | 0 => ("OwedFalls$Rings", "left", "[I", true)
  | 1 => ("OwedFalls$Rings", "row", "[I", true)
  | 2 => ("OwedFalls$Rings", "size", "I", false)
  | 3 => ("OwedFalls$Rings", "stairs", "I", false)
  | _ => ("OwedFalls$Rings", "struck", "I", false)
def tyX5 : Nat → FieldType := fun k => match k with
  | 0 => .array .int
  | 1 => .array .int
  | 2 => .int
  | 3 => .int
  | _ => .int
abbrev wsX50 : List Cond := u_ws RX5 TX5 5
theorem nmX5 : ∀ a, a < 5 → ∀ b, b < 5 → a ≠ b → (TX5 a).2.1 ≠ (TX5 b).2.1 := by decide +kernel
theorem tyX5_ok : ∀ k, k < 5 → parseFieldDescriptor (TX5 k).2.2.1 = some (tyX5 k) := by decide +kernel
abbrev cX5_init : ByteArray := prog_7_method_1_code
def yX5_init : MethodName := ⟨RX5, "<init>", "()V"⟩
abbrev cX5_strikeAll : ByteArray := prog_7_method_2_code
def yX5_strikeAll : MethodName := ⟨RX5, "strikeAll", "([II)I"⟩
abbrev cX5_goOn : ByteArray := prog_7_method_3_code
def yX5_goOn : MethodName := ⟨RX5, "goOn", "(LOwedFalls$Rings;II)V"⟩
abbrev cX5_strikeRow : ByteArray := prog_7_method_4_code
def yX5_strikeRow : MethodName := ⟨RX5, "strikeRow", "()V"⟩
abbrev cX5_linkAt : ByteArray := prog_7_method_5_code
def yX5_linkAt : MethodName := ⟨RX5, "linkAt", "(I)I"⟩
def RX6 : String := "OwedFalls$Suspects"
def TX6 : u_T := fun k => match k with
  | 0 => ("OwedFalls$Suspects", "chances", "[I", true)
  | 1 => ("OwedFalls$Suspects", "found", "I", false)
  | 2 => ("OwedFalls$Suspects", "inEach", "I", false)
  | _ => ("OwedFalls$Suspects", "inSome", "I", false)
def tyX6 : Nat → FieldType := fun k => match k with
  | 0 => .array .int
  | 1 => .int
  | 2 => .int
  | _ => .int
abbrev wsX60 : List Cond := u_ws RX6 TX6 4
theorem nmX6 : ∀ a, a < 4 → ∀ b, b < 4 → a ≠ b → (TX6 a).2.1 ≠ (TX6 b).2.1 := by decide +kernel
theorem tyX6_ok : ∀ k, k < 4 → parseFieldDescriptor (TX6 k).2.2.1 = some (tyX6 k) := by decide +kernel
abbrev cX6_init : ByteArray := prog_8_method_1_code
def yX6_init : MethodName := ⟨RX6, "<init>", "()V"⟩
abbrev cX6_search : ByteArray := prog_8_method_2_code
def yX6_search : MethodName := ⟨RX6, "search", "(LOwedFalls$Plan;III)V"⟩
abbrev cX6_accuse : ByteArray := prog_8_method_3_code
def yX6_accuse : MethodName := ⟨RX6, "accuse", "(LOwedFalls$Suspects;LOwedFalls$Plan;IIIII)V"⟩
abbrev cX6_note : ByteArray := prog_8_method_4_code
def yX6_note : MethodName := ⟨RX6, "note", "(I)V"⟩
abbrev cX6_oddsOf : ByteArray := prog_8_method_5_code
def yX6_oddsOf : MethodName := ⟨RX6, "oddsOf", "(LOwedFalls$Plan;IZ)I"⟩
abbrev cX6_spreadChances : ByteArray := prog_8_method_6_code
def yX6_spreadChances : MethodName := ⟨RX6, "spreadChances", "(LOwedFalls$Plan;)I"⟩
abbrev cX6_commonDivisor : ByteArray := prog_8_method_7_code
def yX6_commonDivisor : MethodName := ⟨RX6, "commonDivisor", "(II)I"⟩
def RX7 : String := "OwedFalls$Ways"
def TX7 : u_T := fun k => match k with
  | _ => ("OwedFalls$Ways", "cost", "[I", true)
def tyX7 : Nat → FieldType := fun k => match k with
  | _ => .array .int
abbrev wsX70 : List Cond := u_ws RX7 TX7 1
theorem nmX7 : ∀ a, a < 1 → ∀ b, b < 1 → a ≠ b → (TX7 a).2.1 ≠ (TX7 b).2.1 := by decide +kernel
theorem tyX7_ok : ∀ k, k < 1 → parseFieldDescriptor (TX7 k).2.2.1 = some (tyX7 k) := by decide +kernel
abbrev cX7_init : ByteArray := prog_9_method_1_code
def yX7_init : MethodName := ⟨RX7, "<init>", "()V"⟩
abbrev cX7_measure : ByteArray := prog_9_method_2_code
def yX7_measure : MethodName := ⟨RX7, "measure", "(LOwedFalls$Plan;LOwedFalls$Moment;II)V"⟩
abbrev cX7_goBy : ByteArray := prog_9_method_3_code
def yX7_goBy : MethodName := ⟨RX7, "goBy", "(III)V"⟩
abbrev cX7_weight : ByteArray := prog_9_method_4_code
def yX7_weight : MethodName := ⟨RX7, "weight", "(LOwedFalls$Plan;LOwedFalls$Moment;I)I"⟩
abbrev cX7_dueFrom : ByteArray := prog_9_method_5_code
def yX7_dueFrom : MethodName := ⟨RX7, "dueFrom", "(I)I"⟩
abbrev cX7_stepsFrom : ByteArray := prog_9_method_6_code
def yX7_stepsFrom : MethodName := ⟨RX7, "stepsFrom", "(I)I"⟩
abbrev cX7_firstFrom : ByteArray := prog_9_method_7_code
def yX7_firstFrom : MethodName := ⟨RX7, "firstFrom", "(LOwedFalls$Plan;LOwedFalls$Moment;I)I"⟩
abbrev cX7_barsBetween : ByteArray := prog_9_method_8_code
def yX7_barsBetween : MethodName := ⟨RX7, "barsBetween", "(LOwedFalls$Plan;LOwedFalls$Moment;II)I"⟩
def RX8 : String := "OwedFalls"
def TX8 : u_T := fun k => match k with
  | 0 => ("OwedFalls", "reader", "LOwedFalls$Reader;", true)
  | 1 => ("OwedFalls", "ledger", "LOwedFalls$Ledger;", true)
  | 2 => ("OwedFalls", "images", "[LOwedFalls$Ledger;", true)
  | 3 => ("OwedFalls", "kept", "[Z", true)
  | 4 => ("OwedFalls", "ways", "LOwedFalls$Ways;", true)
  | 5 => ("OwedFalls", "payments", "LOwedFalls$Payments;", true)
  | 6 => ("OwedFalls", "rings", "LOwedFalls$Rings;", true)
  | 7 => ("OwedFalls", "suspects", "LOwedFalls$Suspects;", true)
  | 8 => ("OwedFalls", "plan", "LOwedFalls$Plan;", false)
  | 9 => ("OwedFalls", "draft", "LOwedFalls$Plan;", false)
  | _ => ("OwedFalls", "traced", "J", false)
def tyX8 : Nat → FieldType := fun k => match k with
  | 0 => .object "OwedFalls$Reader"
  | 1 => .object "OwedFalls$Ledger"
  | 2 => .array (.object "OwedFalls$Ledger")
  | 3 => .array .boolean
  | 4 => .object "OwedFalls$Ways"
  | 5 => .object "OwedFalls$Payments"
  | 6 => .object "OwedFalls$Rings"
  | 7 => .object "OwedFalls$Suspects"
  | 8 => .object "OwedFalls$Plan"
  | 9 => .object "OwedFalls$Plan"
  | _ => .long
abbrev wsX80 : List Cond := u_ws RX8 TX8 11
theorem nmX8 : ∀ a, a < 11 → ∀ b, b < 11 → a ≠ b → (TX8 a).2.1 ≠ (TX8 b).2.1 := by decide +kernel
theorem tyX8_ok : ∀ k, k < 11 → parseFieldDescriptor (TX8 k).2.2.1 = some (tyX8 k) := by decide +kernel
abbrev cX8_init : ByteArray := prog_1_method_1_code
def yX8_init : MethodName := ⟨RX8, "<init>", "()V"⟩
abbrev cX8_type : ByteArray := prog_1_method_2_code
def yX8_type : MethodName := ⟨RX8, "type", "(I)I"⟩
abbrev cX8_clear : ByteArray := prog_1_method_3_code
def yX8_clear : MethodName := ⟨RX8, "clear", "()I"⟩
abbrev cX8_house : ByteArray := prog_1_method_4_code
def yX8_house : MethodName := ⟨RX8, "house", "()I"⟩
abbrev cX8_stair : ByteArray := prog_1_method_5_code
def yX8_stair : MethodName := ⟨RX8, "stair", "(II)I"⟩
abbrev cX8_person : ByteArray := prog_1_method_6_code
def yX8_person : MethodName := ⟨RX8, "person", "(II)I"⟩
abbrev cX8_bond : ByteArray := prog_1_method_7_code
def yX8_bond : MethodName := ⟨RX8, "bond", "(II)I"⟩
abbrev cX8_falls : ByteArray := prog_1_method_8_code
def yX8_falls : MethodName := ⟨RX8, "falls", "(II)I"⟩
abbrev cX8_together : ByteArray := prog_1_method_9_code
def yX8_together : MethodName := ⟨RX8, "together", "(III)I"⟩
abbrev cX8_throwsDoll : ByteArray := prog_1_method_10_code
def yX8_throwsDoll : MethodName := ⟨RX8, "throwsDoll", "(I)I"⟩
abbrev cX8_sells : ByteArray := prog_1_method_11_code
def yX8_sells : MethodName := ⟨RX8, "sells", "(III)I"⟩
abbrev cX8_redeems : ByteArray := prog_1_method_12_code
def yX8_redeems : MethodName := ⟨RX8, "redeems", "(I)I"⟩
abbrev cX8_ends : ByteArray := prog_1_method_13_code
def yX8_ends : MethodName := ⟨RX8, "ends", "()I"⟩
abbrev cX8_undo : ByteArray := prog_1_method_14_code
def yX8_undo : MethodName := ⟨RX8, "undo", "()I"⟩
abbrev cX8_now : ByteArray := prog_1_method_15_code
def yX8_now : MethodName := ⟨RX8, "now", "(I)I"⟩
abbrev cX8_surest : ByteArray := prog_1_method_16_code
def yX8_surest : MethodName := ⟨RX8, "surest", "(III)I"⟩
abbrev cX8_bars : ByteArray := prog_1_method_17_code
def yX8_bars : MethodName := ⟨RX8, "bars", "(II)I"⟩
abbrev cX8_paid : ByteArray := prog_1_method_18_code
def yX8_paid : MethodName := ⟨RX8, "paid", "(II)I"⟩
abbrev cX8_coins : ByteArray := prog_1_method_19_code
def yX8_coins : MethodName := ⟨RX8, "coins", "(II)I"⟩
abbrev cX8_free : ByteArray := prog_1_method_20_code
def yX8_free : MethodName := ⟨RX8, "free", "(II)I"⟩
abbrev cX8_who : ByteArray := prog_1_method_21_code
def yX8_who : MethodName := ⟨RX8, "who", "(IIII)I"⟩
abbrev cX8_odds : ByteArray := prog_1_method_22_code
def yX8_odds : MethodName := ⟨RX8, "odds", "(II)I"⟩
abbrev cX8_mark : ByteArray := prog_1_method_23_code
def yX8_mark : MethodName := ⟨RX8, "mark", "(II)I"⟩
abbrev cX8_keep : ByteArray := prog_1_method_24_code
def yX8_keep : MethodName := ⟨RX8, "keep", "(I)I"⟩
abbrev cX8_back : ByteArray := prog_1_method_25_code
def yX8_back : MethodName := ⟨RX8, "back", "(I)I"⟩
abbrev cX8_count : ByteArray := prog_1_method_26_code
def yX8_count : MethodName := ⟨RX8, "count", "(I)I"⟩
abbrev cX8_trace : ByteArray := prog_1_method_27_code
def yX8_trace : MethodName := ⟨RX8, "trace", "()J"⟩
abbrev cX8_isFloor : ByteArray := prog_1_method_28_code
def yX8_isFloor : MethodName := ⟨RX8, "isFloor", "(I)Z"⟩
abbrev cX8_isAsked : ByteArray := prog_1_method_29_code
def yX8_isAsked : MethodName := ⟨RX8, "isAsked", "(I)Z"⟩
abbrev cX8_isImage : ByteArray := prog_1_method_30_code
def yX8_isImage : MethodName := ⟨RX8, "isImage", "(I)Z"⟩
abbrev cX8_bondAt : ByteArray := prog_1_method_31_code
def yX8_bondAt : MethodName := ⟨RX8, "bondAt", "(II)I"⟩
abbrev cX8_priceOf : ByteArray := prog_1_method_32_code
def yX8_priceOf : MethodName := ⟨RX8, "priceOf", "(I)I"⟩
abbrev cX8_dearest : ByteArray := prog_1_method_33_code
def yX8_dearest : MethodName := ⟨RX8, "dearest", "()I"⟩
abbrev cX8_stairsPaidOff : ByteArray := prog_1_method_34_code
def yX8_stairsPaidOff : MethodName := ⟨RX8, "stairsPaidOff", "()I"⟩
abbrev cX8_asStair : ByteArray := prog_1_method_35_code
def yX8_asStair : MethodName := ⟨RX8, "asStair", "(I)I"⟩
abbrev cX8_asMarble : ByteArray := prog_1_method_36_code
def yX8_asMarble : MethodName := ⟨RX8, "asMarble", "(I)I"⟩
abbrev cX8_asLadder : ByteArray := prog_1_method_37_code
def yX8_asLadder : MethodName := ⟨RX8, "asLadder", "(I)I"⟩
abbrev cX8_asChurch : ByteArray := prog_1_method_38_code
def yX8_asChurch : MethodName := ⟨RX8, "asChurch", "(I)I"⟩
abbrev cX8_asLift : ByteArray := prog_1_method_39_code
def yX8_asLift : MethodName := ⟨RX8, "asLift", "(I)I"⟩
abbrev cX8_asTower : ByteArray := prog_1_method_40_code
def yX8_asTower : MethodName := ⟨RX8, "asTower", "(I)I"⟩
def RX9 : String := "OwedFallsModel"
def TX9 : u_T := fun k => match k with
  | 0 => ("OwedFallsModel", "trace", "J", false)
  | 1 => ("OwedFallsModel", "text", "[I", true)
  | 2 => ("OwedFallsModel", "typed", "I", false)
  | 3 => ("OwedFallsModel", "told", "[I", true)
  | 4 => ("OwedFallsModel", "draft", "[I", true)
  | 5 => ("OwedFallsModel", "s", "[I", true)
  | 6 => ("OwedFallsModel", "images", "[I", true)
  | 7 => ("OwedFallsModel", "kept", "[Z", true)
  | 8 => ("OwedFallsModel", "at", "I", false)
  | 9 => ("OwedFallsModel", "sort", "I", false)
  | 10 => ("OwedFallsModel", "start", "I", false)
  | 11 => ("OwedFallsModel", "value", "I", false)
  | 12 => ("OwedFallsModel", "bonds", "[I", true)
  | 13 => ("OwedFallsModel", "ring", "[I", true)
  | 14 => ("OwedFallsModel", "least", "[I", true)
  | 15 => ("OwedFallsModel", "bill", "[I", true)
  | 16 => ("OwedFallsModel", "dues", "[I", true)
  | _ => ("OwedFallsModel", "spent", "[I", true)
def tyX9 : Nat → FieldType := fun k => match k with
  | 0 => .long
  | 1 => .array .int
  | 2 => .int
  | 3 => .array .int
  | 4 => .array .int
  | 5 => .array .int
  | 6 => .array .int
  | 7 => .array .boolean
  | 8 => .int
  | 9 => .int
  | 10 => .int
  | 11 => .int
  | 12 => .array .int
  | 13 => .array .int
  | 14 => .array .int
  | 15 => .array .int
  | 16 => .array .int
  | _ => .array .int
abbrev wsX90 : List Cond := u_ws RX9 TX9 18
theorem nmX9 : ∀ a, a < 18 → ∀ b, b < 18 → a ≠ b → (TX9 a).2.1 ≠ (TX9 b).2.1 := by decide +kernel
theorem tyX9_ok : ∀ k, k < 18 → parseFieldDescriptor (TX9 k).2.2.1 = some (tyX9 k) := by decide +kernel
abbrev cX9_init : ByteArray := prog_11_method_1_code
def yX9_init : MethodName := ⟨RX9, "<init>", "()V"⟩
abbrev cX9_in : ByteArray := prog_11_method_3_code
def yX9_in : MethodName := ⟨RX9, "in", "(III)Z"⟩
abbrev cX9_isStair : ByteArray := prog_11_method_4_code
def yX9_isStair : MethodName := ⟨RX9, "isStair", "(I)Z"⟩
abbrev cX9_isPerson : ByteArray := prog_11_method_5_code
def yX9_isPerson : MethodName := ⟨RX9, "isPerson", "(I)Z"⟩
abbrev cX9_isFloor : ByteArray := prog_11_method_6_code
def yX9_isFloor : MethodName := ⟨RX9, "isFloor", "(I)Z"⟩
abbrev cX9_type : ByteArray := prog_11_method_7_code
def yX9_type : MethodName := ⟨RX9, "type", "(I)I"⟩
abbrev cX9_clear : ByteArray := prog_11_method_8_code
def yX9_clear : MethodName := ⟨RX9, "clear", "()I"⟩
abbrev cX9_byteAt : ByteArray := prog_11_method_9_code
def yX9_byteAt : MethodName := ⟨RX9, "byteAt", "(I)I"⟩
abbrev cX9_isLetter : ByteArray := prog_11_method_10_code
def yX9_isLetter : MethodName := ⟨RX9, "isLetter", "(I)Z"⟩
abbrev cX9_isDigit : ByteArray := prog_11_method_11_code
def yX9_isDigit : MethodName := ⟨RX9, "isDigit", "(I)Z"⟩
abbrev cX9_token : ByteArray := prog_11_method_12_code
def yX9_token : MethodName := ⟨RX9, "token", "()V"⟩
abbrev cX9_number : ByteArray := prog_11_method_13_code
def yX9_number : MethodName := ⟨RX9, "number", "(III)Z"⟩
abbrev cX9_readsStair : ByteArray := prog_11_method_14_code
def yX9_readsStair : MethodName := ⟨RX9, "readsStair", "()Z"⟩
abbrev cX9_readsPerson : ByteArray := prog_11_method_15_code
def yX9_readsPerson : MethodName := ⟨RX9, "readsPerson", "()Z"⟩
abbrev cX9_once : ByteArray := prog_11_method_16_code
def yX9_once : MethodName := ⟨RX9, "once", "(II)Z"⟩
abbrev cX9_readsItem : ByteArray := prog_11_method_17_code
def yX9_readsItem : MethodName := ⟨RX9, "readsItem", "()Z"⟩
abbrev cX9_reads : ByteArray := prog_11_method_18_code
def yX9_reads : MethodName := ⟨RX9, "reads", "()Z"⟩
abbrev cX9_tells : ByteArray := prog_11_method_19_code
def yX9_tells : MethodName := ⟨RX9, "tells", "()V"⟩
abbrev cX9_house : ByteArray := prog_11_method_20_code
def yX9_house : MethodName := ⟨RX9, "house", "()I"⟩
abbrev cX9_price : ByteArray := prog_11_method_21_code
def yX9_price : MethodName := ⟨RX9, "price", "(I)I"⟩
abbrev cX9_stair : ByteArray := prog_11_method_22_code
def yX9_stair : MethodName := ⟨RX9, "stair", "(II)I"⟩
abbrev cX9_person : ByteArray := prog_11_method_23_code
def yX9_person : MethodName := ⟨RX9, "person", "(II)I"⟩
abbrev cX9_bond : ByteArray := prog_11_method_24_code
def yX9_bond : MethodName := ⟨RX9, "bond", "(II)I"⟩
abbrev cX9_keeps : ByteArray := prog_11_method_25_code
def yX9_keeps : MethodName := ⟨RX9, "keeps", "()V"⟩
abbrev cX9_counts : ByteArray := prog_11_method_26_code
def yX9_counts : MethodName := ⟨RX9, "counts", "(I)I"⟩
abbrev cX9_pays : ByteArray := prog_11_method_27_code
def yX9_pays : MethodName := ⟨RX9, "pays", "(III)I"⟩
abbrev cX9_falls : ByteArray := prog_11_method_28_code
def yX9_falls : MethodName := ⟨RX9, "falls", "(II)I"⟩
abbrev cX9_together : ByteArray := prog_11_method_29_code
def yX9_together : MethodName := ⟨RX9, "together", "(III)I"⟩
abbrev cX9_throwsDoll : ByteArray := prog_11_method_30_code
def yX9_throwsDoll : MethodName := ⟨RX9, "throwsDoll", "(I)I"⟩
abbrev cX9_sells : ByteArray := prog_11_method_31_code
def yX9_sells : MethodName := ⟨RX9, "sells", "(III)I"⟩
abbrev cX9_redeems : ByteArray := prog_11_method_32_code
def yX9_redeems : MethodName := ⟨RX9, "redeems", "(I)I"⟩
abbrev cX9_all : ByteArray := prog_11_method_33_code
def yX9_all : MethodName := ⟨RX9, "all", "()I"⟩
abbrev cX9_more : ByteArray := prog_11_method_34_code
def yX9_more : MethodName := ⟨RX9, "more", "(II)I"⟩
abbrev cX9_ends : ByteArray := prog_11_method_35_code
def yX9_ends : MethodName := ⟨RX9, "ends", "()I"⟩
abbrev cX9_undo : ByteArray := prog_11_method_36_code
def yX9_undo : MethodName := ⟨RX9, "undo", "()I"⟩
abbrev cX9_dear : ByteArray := prog_11_method_37_code
def yX9_dear : MethodName := ⟨RX9, "dear", "()I"⟩
abbrev cX9_finds : ByteArray := prog_11_method_38_code
def yX9_finds : MethodName := ⟨RX9, "finds", "(I)Z"⟩
abbrev cX9_struck : ByteArray := prog_11_method_39_code
def yX9_struck : MethodName := ⟨RX9, "struck", "()I"⟩
abbrev cX9_now : ByteArray := prog_11_method_40_code
def yX9_now : MethodName := ⟨RX9, "now", "(I)I"⟩
abbrev cX9_other : ByteArray := prog_11_method_41_code
def yX9_other : MethodName := ⟨RX9, "other", "(II)I"⟩
abbrev cX9_weight : ByteArray := prog_11_method_42_code
def yX9_weight : MethodName := ⟨RX9, "weight", "(I)I"⟩
abbrev cX9_lays : ByteArray := prog_11_method_43_code
def yX9_lays : MethodName := ⟨RX9, "lays", "(I)V"⟩
abbrev cX9_surest : ByteArray := prog_11_method_44_code
def yX9_surest : MethodName := ⟨RX9, "surest", "(III)I"⟩
abbrev cX9_isWay : ByteArray := prog_11_method_45_code
def yX9_isWay : MethodName := ⟨RX9, "isWay", "(III)Z"⟩
abbrev cX9_bars : ByteArray := prog_11_method_46_code
def yX9_bars : MethodName := ⟨RX9, "bars", "(II)I"⟩
abbrev cX9_better : ByteArray := prog_11_method_47_code
def yX9_better : MethodName := ⟨RX9, "better", "(II)I"⟩
abbrev cX9_paid : ByteArray := prog_11_method_48_code
def yX9_paid : MethodName := ⟨RX9, "paid", "(II)I"⟩
abbrev cX9_dueBy : ByteArray := prog_11_method_49_code
def yX9_dueBy : MethodName := ⟨RX9, "dueBy", "(II)I"⟩
abbrev cX9_coins : ByteArray := prog_11_method_50_code
def yX9_coins : MethodName := ⟨RX9, "coins", "(II)I"⟩
abbrev cX9_free : ByteArray := prog_11_method_51_code
def yX9_free : MethodName := ⟨RX9, "free", "(II)I"⟩
abbrev cX9_who : ByteArray := prog_11_method_52_code
def yX9_who : MethodName := ⟨RX9, "who", "(IIII)I"⟩
abbrev cX9_odds : ByteArray := prog_11_method_53_code
def yX9_odds : MethodName := ⟨RX9, "odds", "(II)I"⟩
abbrev cX9_mark : ByteArray := prog_11_method_54_code
def yX9_mark : MethodName := ⟨RX9, "mark", "(II)I"⟩
abbrev cX9_keep : ByteArray := prog_11_method_55_code
def yX9_keep : MethodName := ⟨RX9, "keep", "(I)I"⟩
abbrev cX9_back : ByteArray := prog_11_method_56_code
def yX9_back : MethodName := ⟨RX9, "back", "(I)I"⟩
abbrev cX9_count : ByteArray := prog_11_method_57_code
def yX9_count : MethodName := ⟨RX9, "count", "(I)I"⟩
abbrev cX9_trace : ByteArray := prog_11_method_58_code
def yX9_trace : MethodName := ⟨RX9, "trace", "()J"⟩
def RJ9 : String := "java/lang/Math"
def TJ9 : u_T := fun k => match k with
  | _ => ("", "", "", false)
def tyJ9 : Nat → FieldType := fun k => match k with
  | _ => .int
abbrev wsJ90 : List Cond := u_ws RJ9 TJ9 0
theorem nmJ9 : ∀ a, a < 0 → ∀ b, b < 0 → a ≠ b → (TJ9 a).2.1 ≠ (TJ9 b).2.1 := by decide +kernel
theorem tyJ9_ok : ∀ k, k < 0 → parseFieldDescriptor (TJ9 k).2.2.1 = some (tyJ9 k) := by decide +kernel
abbrev cJ9_max_7cf53 : ByteArray := prog_12_method_65_code
def yJ9_max_7cf53 : MethodName := ⟨RJ9, "max", "(II)I"⟩
abbrev cJ9_min_7cf53 : ByteArray := prog_12_method_69_code
def yJ9_min_7cf53 : MethodName := ⟨RJ9, "min", "(II)I"⟩
def RJ10 : String := "java/lang/System"
def TJ10 : u_T := fun k => match k with
  | _ => ("", "", "", false)
def tyJ10 : Nat → FieldType := fun k => match k with
  | _ => .int
abbrev wsJ100 : List Cond := u_ws RJ10 TJ10 0
theorem nmJ10 : ∀ a, a < 0 → ∀ b, b < 0 → a ≠ b → (TJ10 a).2.1 ≠ (TJ10 b).2.1 := by decide +kernel
theorem tyJ10_ok : ∀ k, k < 0 → parseFieldDescriptor (TJ10 k).2.2.1 = some (tyJ10 k) := by decide +kernel
def RJ7 : String := "java/util/Arrays"
def TJ7 : u_T := fun k => match k with
  | _ => ("", "", "", false)
def tyJ7 : Nat → FieldType := fun k => match k with
  | _ => .int
abbrev wsJ70 : List Cond := u_ws RJ7 TJ7 0
theorem nmJ7 : ∀ a, a < 0 → ∀ b, b < 0 → a ≠ b → (TJ7 a).2.1 ≠ (TJ7 b).2.1 := by decide +kernel
theorem tyJ7_ok : ∀ k, k < 0 → parseFieldDescriptor (TJ7 k).2.2.1 = some (tyJ7 k) := by decide +kernel
abbrev cJ7_fill_53178 : ByteArray := prog_14_method_103_code
def yJ7_fill_53178 : MethodName := ⟨RJ7, "fill", "([II)V"⟩
def RL : String := "OwedFallsLaw"
abbrev cL_law : ByteArray := code
def yL_law : MethodName := ⟨RL, "law", "([I)Z"⟩
theorem inlX0 : ∀ w ∈ wsX00, w ∈ wsL_law := fun _ h => List.mem_append_left _ (List.mem_append_left _ (List.mem_append_left _ (List.mem_append_left _ (List.mem_append_left _ (List.mem_append_left _ (List.mem_append_left _ (List.mem_append_right _ h)))))))
theorem inX0 : ∀ w ∈ wsX00, w ∈ lw_tbl := fun w h => wsL_law_in w (inlX0 w h)
theorem inlX1 : ∀ w ∈ wsX10, w ∈ wsL_law := fun _ h => List.mem_append_left _ (List.mem_append_right _ h)
theorem inX1 : ∀ w ∈ wsX10, w ∈ lw_tbl := fun w h => wsL_law_in w (inlX1 w h)
theorem inlX2 : ∀ w ∈ wsX20, w ∈ wsL_law := fun _ h => List.mem_append_left _ (List.mem_append_left _ (List.mem_append_left _ (List.mem_append_left _ (List.mem_append_left _ (List.mem_append_right _ h)))))
theorem inX2 : ∀ w ∈ wsX20, w ∈ lw_tbl := fun w h => wsL_law_in w (inlX2 w h)
theorem inlX3 : ∀ w ∈ wsX30, w ∈ wsL_law := fun _ h => List.mem_append_left _ (List.mem_append_left _ (List.mem_append_right _ h))
theorem inX3 : ∀ w ∈ wsX30, w ∈ lw_tbl := fun w h => wsL_law_in w (inlX3 w h)
theorem inlX4 : ∀ w ∈ wsX40, w ∈ wsL_law := fun _ h => List.mem_append_left _ (List.mem_append_left _ (List.mem_append_left _ (List.mem_append_left _ (List.mem_append_left _ (List.mem_append_left _ (List.mem_append_left _ (List.mem_append_left _ (List.mem_append_right _ h))))))))
theorem inX4 : ∀ w ∈ wsX40, w ∈ lw_tbl := fun w h => wsL_law_in w (inlX4 w h)
theorem inlX5 : ∀ w ∈ wsX50, w ∈ wsL_law := fun _ h => List.mem_append_left _ (List.mem_append_left _ (List.mem_append_left _ (List.mem_append_left _ (List.mem_append_right _ h))))
theorem inX5 : ∀ w ∈ wsX50, w ∈ lw_tbl := fun w h => wsL_law_in w (inlX5 w h)
theorem inlX6 : ∀ w ∈ wsX60, w ∈ wsL_law := fun _ h => List.mem_append_left _ (List.mem_append_left _ (List.mem_append_left _ (List.mem_append_right _ h)))
theorem inX6 : ∀ w ∈ wsX60, w ∈ lw_tbl := fun w h => wsL_law_in w (inlX6 w h)
theorem inlX7 : ∀ w ∈ wsX70, w ∈ wsL_law := fun _ h => List.mem_append_left _ (List.mem_append_left _ (List.mem_append_left _ (List.mem_append_left _ (List.mem_append_left _ (List.mem_append_left _ (List.mem_append_right _ h))))))
theorem inX7 : ∀ w ∈ wsX70, w ∈ lw_tbl := fun w h => wsL_law_in w (inlX7 w h)
theorem inlX8 : ∀ w ∈ wsX80, w ∈ wsL_law := fun _ h => List.mem_append_left _ (List.mem_append_left _ (List.mem_append_left _ (List.mem_append_left _ (List.mem_append_left _ (List.mem_append_left _ (List.mem_append_left _ (List.mem_append_left _ (List.mem_append_left _ (List.mem_append_left _ (List.mem_append_right _ h))))))))))
theorem inX8 : ∀ w ∈ wsX80, w ∈ lw_tbl := fun w h => wsL_law_in w (inlX8 w h)
theorem inlX9 : ∀ w ∈ wsX90, w ∈ wsL_law := fun _ h => List.mem_append_left _ (List.mem_append_left _ (List.mem_append_left _ (List.mem_append_left _ (List.mem_append_left _ (List.mem_append_left _ (List.mem_append_left _ (List.mem_append_left _ (List.mem_append_left _ (List.mem_append_right _ h)))))))))
theorem inX9 : ∀ w ∈ wsX90, w ∈ lw_tbl := fun w h => wsL_law_in w (inlX9 w h)
theorem inJ9 : ∀ w ∈ wsJ90, w ∈ lw_tbl := by decide +kernel
theorem inJ10 : ∀ w ∈ wsJ100, w ∈ lw_tbl := by decide +kernel
theorem inJ7 : ∀ w ∈ wsJ70, w ∈ lw_tbl := by decide +kernel
abbrev vwCl : List vw_C := [(RX0, TX0, 4), (RX1, TX1, 5), (RX2, TX2, 4), (RX3, TX3, 13), (RX4, TX4, 6), (RX5, TX5, 5), (RX6, TX6, 4), (RX7, TX7, 1), (RX8, TX8, 11), (RX9, TX9, 18)]

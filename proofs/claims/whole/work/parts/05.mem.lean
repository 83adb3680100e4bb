/-! The memory: int fields by place and field, arrays by place, a long by place, and the places of the plan and of the draft. -/
abbrev Mem : Type := (Nat → Nat → Int32) × (Nat → Nat → Int32) × (Nat → Int64) × Nat × Nat
def gi (μ : Mem) (k j : Nat) : Int32 := μ.1 k j
def ga (μ : Mem) (k : Nat) : Nat → Int32 := μ.2.1 k
def gl (μ : Mem) (k : Nat) : Int64 := μ.2.2.1 k
def gpl (μ : Mem) : Nat := μ.2.2.2.1
def gdr (μ : Mem) : Nat := μ.2.2.2.2
def si (μ : Mem) (k j : Nat) (v : Int32) : Mem := (va_up μ.1 k (va_up (μ.1 k) j v), μ.2)
def sA (μ : Mem) (k : Nat) (f : Nat → Int32) : Mem := (μ.1, va_up μ.2.1 k f, μ.2.2)
def sl (μ : Mem) (k : Nat) (v : Int64) : Mem := (μ.1, μ.2.1, va_up μ.2.2.1 k v, μ.2.2.2)
def spl (μ : Mem) (p : Nat) : Mem := (μ.1, μ.2.1, μ.2.2.1, p, μ.2.2.2.2)
def sdr (μ : Mem) (p : Nat) : Mem := (μ.1, μ.2.1, μ.2.2.1, μ.2.2.2.1, p)
def ck (i : Int32) (n : Nat) : Bool := decide (0 ≤ i) && decide (i.toNatClampNeg < n)
theorem ck_in {i : Int32} {n : Nat} (h : ck i n = true) : vp_in i n := by
  simp only [ck, Bool.and_eq_true, decide_eq_true_eq] at h
  intro q
  rcases q with q | q
  · exact Int32.not_lt.mpr h.1 q
  · omega
def ldA (μ : Mem) (k n : Nat) (i : Int32) : Option Int32 := if ck i n then some (ga μ k i.toNatClampNeg) else none
def stA (μ : Mem) (k n : Nat) (i v : Int32) : Option Mem := if ck i n then some (sA μ k (upd (ga μ k) i.toNatClampNeg v)) else none
def stZ (μ : Mem) (k n : Nat) (i v : Int32) : Option Mem := if ck i n then some (sA μ k (upd (ga μ k) i.toNatClampNeg (vp_nar .boolean v))) else none
def stI (μ : Mem) (k j : Nat) (v : Int32) : Option Mem := some (si μ k j v)
def stL (μ : Mem) (k : Nat) (v : Int64) : Option Mem := some (sl μ k v)
def dvI (x y : Int32) : Option Int32 := if y = 0 then none else some (x / y)
def rmI (x y : Int32) : Option Int32 := if y = 0 then none else some (x - x / y * y)
def cpA (μ : Mem) (k0 n0 : Nat) (sp : Int32) (k1 n1 : Nat) (dp cn : Int32) : Option Mem := if (decide (0 ≤ sp) && decide (0 ≤ dp) && decide (0 ≤ cn) && decide (sp.toNatClampNeg + cn.toNatClampNeg ≤ n0) && decide (dp.toNatClampNeg + cn.toNatClampNeg ≤ n1)) then some (sA μ k1 (va_cpy (ga μ k0) (ga μ k1) sp.toNatClampNeg dp.toNatClampNeg cn.toNatClampNeg)) else none
/-- a reference out of an array of references -/
def rfA (k n st : Nat) (i : Int32) (ok : Nat → Bool) : Option Nat := if ck i n && ok (k + 1 + st * i.toNatClampNeg) then some (k + 1 + st * i.toNatClampNeg) else none
def rfG (q : Nat) (ok : Nat → Bool) : Option Nat := if ok q then some q else none
def iter {V E : Type} : Nat → (V → Option (V ⊕ E)) → V → Option E
  | 0, _, _ => none
  | n + 1, B, v => match B v with
    | none => none
    | some (.inl v2) => iter n B v2
    | some (.inr x) => some x
def gFU : Nat := 1000000000000
theorem iter_ind {V E : Type} {B : V → Option (V ⊕ E)} (Gv : V → Prop) (Gx : E → Prop) (hs : ∀ v r, B v = some r → (∀ v2, r = .inl v2 → Gv v2) → (∀ x, r = .inr x → Gx x) → Gv v) : ∀ (n : Nat) (v : V) (x : E), iter n B v = some x → Gx x → Gv v
  | 0, v, x, h, _ => by simp [iter] at h
  | n + 1, v, x, h, hx => by
    unfold iter at h
    split at h
    · cases h
    · next v2 e => exact hs v _ e (fun v3 e3 => by cases e3; exact iter_ind Gv Gx hs n v2 x h hx) (fun x e3 => by cases e3)
    · next y e => cases h; exact hs v _ e (fun v3 e3 => by cases e3) (fun x e3 => by cases e3; exact hx)

def isMo (q : Nat) : Bool := [4, 9, 13, 17, 21, 25, 29, 33, 37, 41, 45, 51, 56, 60, 64, 68, 72, 76, 80, 84, 88, 92, 97, 102, 106, 110, 114, 118, 122, 126, 130, 134, 138].contains q
def isLe (q : Nat) : Bool := [3, 50, 96].contains q
def isPl (q : Nat) : Bool := [170, 178].contains q
def isAny (_ : Nat) : Bool := true
def gTs : List ((Nat × List Nat) ⊕ (Nat × Nat × Nat)) := [.inr (0, 0, 0), .inl (4, [4, 0, 0, 0, 0, 0]), .inr (0, 200, 0), .inl (0, [6, 10, 0, 0]), .inl (1, [7, 8, 9, 0, 0]), .inr (0, 7, 0), .inr (0, 7, 0), .inr (0, 49, 0), .inr (3, 10, 4), .inl (1, [12, 13, 14, 0, 0]), .inr (0, 7, 0), .inr (0, 7, 0), .inr (0, 49, 0), .inl (1, [16, 17, 18, 0, 0]), .inr (0, 7, 0), .inr (0, 7, 0), .inr (0, 49, 0), .inl (1, [20, 21, 22, 0, 0]), .inr (0, 7, 0), .inr (0, 7, 0), .inr (0, 49, 0), .inl (1, [24, 25, 26, 0, 0]), .inr (0, 7, 0), .inr (0, 7, 0), .inr (0, 49, 0), .inl (1, [28, 29, 30, 0, 0]), .inr (0, 7, 0), .inr (0, 7, 0), .inr (0, 49, 0), .inl (1, [32, 33, 34, 0, 0]), .inr (0, 7, 0), .inr (0, 7, 0), .inr (0, 49, 0), .inl (1, [36, 37, 38, 0, 0]), .inr (0, 7, 0), .inr (0, 7, 0), .inr (0, 49, 0), .inl (1, [40, 41, 42, 0, 0]), .inr (0, 7, 0), .inr (0, 7, 0), .inr (0, 49, 0), .inl (1, [44, 45, 46, 0, 0]), .inr (0, 7, 0), .inr (0, 7, 0), .inr (0, 49, 0), .inl (1, [48, 49, 50, 0, 0]), .inr (0, 7, 0), .inr (0, 7, 0), .inr (0, 49, 0), .inr (2, 2, 46), .inl (0, [53, 57, 0, 0]), .inl (1, [54, 55, 56, 0, 0]), .inr (0, 7, 0), .inr (0, 7, 0), .inr (0, 49, 0), .inr (3, 10, 4), .inl (1, [59, 60, 61, 0, 0]), .inr (0, 7, 0), .inr (0, 7, 0), .inr (0, 49, 0), .inl (1, [63, 64, 65, 0, 0]), .inr (0, 7, 0), .inr (0, 7, 0), .inr (0, 49, 0), .inl (1, [67, 68, 69, 0, 0]), .inr (0, 7, 0), .inr (0, 7, 0), .inr (0, 49, 0), .inl (1, [71, 72, 73, 0, 0]), .inr (0, 7, 0), .inr (0, 7, 0), .inr (0, 49, 0), .inl (1, [75, 76, 77, 0, 0]), .inr (0, 7, 0), .inr (0, 7, 0), .inr (0, 49, 0), .inl (1, [79, 80, 81, 0, 0]), .inr (0, 7, 0), .inr (0, 7, 0), .inr (0, 49, 0), .inl (1, [83, 84, 85, 0, 0]), .inr (0, 7, 0), .inr (0, 7, 0), .inr (0, 49, 0), .inl (1, [87, 88, 89, 0, 0]), .inr (0, 7, 0), .inr (0, 7, 0), .inr (0, 49, 0), .inl (1, [91, 92, 93, 0, 0]), .inr (0, 7, 0), .inr (0, 7, 0), .inr (0, 49, 0), .inl (1, [95, 96, 97, 0, 0]), .inr (0, 7, 0), .inr (0, 7, 0), .inr (0, 49, 0), .inl (0, [99, 103, 0, 0]), .inl (1, [100, 101, 102, 0, 0]), .inr (0, 7, 0), .inr (0, 7, 0), .inr (0, 49, 0), .inr (3, 10, 4), .inl (1, [105, 106, 107, 0, 0]), .inr (0, 7, 0), .inr (0, 7, 0), .inr (0, 49, 0), .inl (1, [109, 110, 111, 0, 0]), .inr (0, 7, 0), .inr (0, 7, 0), .inr (0, 49, 0), .inl (1, [113, 114, 115, 0, 0]), .inr (0, 7, 0), .inr (0, 7, 0), .inr (0, 49, 0), .inl (1, [117, 118, 119, 0, 0]), .inr (0, 7, 0), .inr (0, 7, 0), .inr (0, 49, 0), .inl (1, [121, 122, 123, 0, 0]), .inr (0, 7, 0), .inr (0, 7, 0), .inr (0, 49, 0), .inl (1, [125, 126, 127, 0, 0]), .inr (0, 7, 0), .inr (0, 7, 0), .inr (0, 49, 0), .inl (1, [129, 130, 131, 0, 0]), .inr (0, 7, 0), .inr (0, 7, 0), .inr (0, 49, 0), .inl (1, [133, 134, 135, 0, 0]), .inr (0, 7, 0), .inr (0, 7, 0), .inr (0, 49, 0), .inl (1, [137, 138, 139, 0, 0]), .inr (0, 7, 0), .inr (0, 7, 0), .inr (0, 49, 0), .inl (1, [141, 142, 143, 0, 0]), .inr (0, 7, 0), .inr (0, 7, 0), .inr (0, 49, 0), .inr (1, 2, 0), .inl (7, [146]), .inr (0, 7, 0), .inl (2, [148, 149, 150, 158]), .inr (0, 10, 0), .inr (0, 1000, 0), .inr (4, 7, 1), .inr (0, 13, 0), .inr (0, 13, 0), .inr (0, 13, 0), .inr (0, 13, 0), .inr (0, 13, 0), .inr (0, 13, 0), .inr (0, 13, 0), .inr (4, 8, 1), .inr (0, 100, 0), .inr (0, 100, 0), .inr (0, 100, 0), .inr (0, 100, 0), .inr (0, 100, 0), .inr (0, 100, 0), .inr (0, 100, 0), .inr (0, 100, 0), .inl (5, [168, 169, 0, 0, 0]), .inr (0, 49, 0), .inr (0, 7, 0), .inl (6, [171, 0, 0, 0]), .inr (0, 11, 0), .inl (3, [173, 174, 175, 176, 177, 178, 179, 0, 0, 0, 0, 0, 0]), .inr (0, 7, 0), .inr (0, 7, 0), .inr (0, 7, 0), .inr (0, 7, 0), .inr (0, 5, 0), .inr (0, 5, 0), .inr (0, 5, 0), .inl (3, [181, 182, 183, 184, 185, 186, 187, 0, 0, 0, 0, 0, 0]), .inr (0, 7, 0), .inr (0, 7, 0), .inr (0, 7, 0), .inr (0, 7, 0), .inr (0, 5, 0), .inr (0, 5, 0), .inr (0, 5, 0), .inl (9, [1, 189, 0, 190, 191, 192, 193, 194, 0, 0, 0, 0, 195, 196, 197, 198, 199, 200]), .inr (0, 200, 0), .inr (0, 49, 0), .inr (0, 49, 0), .inr (0, 716, 0), .inr (0, 1432, 0), .inr (1, 2, 0), .inr (0, 49, 0), .inr (0, 8, 0), .inr (0, 7, 0), .inr (0, 1000, 0), .inr (0, 800, 0), .inr (0, 800, 0)]
def gTb (a b k : Nat) : (Nat × List Nat) ⊕ (Nat × Nat × Nat) := match k with
  | 0 => .inl (8, [3, 5, 51, 144, 145, 147, 167, 170, a + 2, b + 2, 1])
  | k + 1 => gTs.getD (k + 1) (.inr (0, 0, 0))
def gF (base : Nat) (μ : Mem) (k : Nat) : List Nat → Nat → List Value
  | [], _ => []
  | 0 :: cs, j => .int (gi μ k j) :: gF base μ k cs (j + 1)
  | 1 :: cs, j => .long (gl μ k) :: gF base μ k cs (j + 1)
  | (r + 2) :: cs, j => .ref (base + r) :: gF base μ k cs (j + 1)
def gE (cy : Nat → ClassId) (base : Nat) (μ : Mem) (k : Nat) (t : (Nat × List Nat) ⊕ (Nat × Nat × Nat)) : va_E := match t with
  | .inl q => .inr (q.1, gF base μ k q.2 0)
  | .inr q => match q.2.2 with
    | 0 => .inl (cy q.1, q.2.1, .inl (ga μ k))
    | st + 1 => .inl (cy q.1, q.2.1, .inr (.inr (.inr (.inr (fun i => some (base + (k + 1 + (st + 1) * i)))))))
def gH (cy : Nat → ClassId) (base : Nat) (μ : Mem) (k : Nat) : va_E := gE cy base μ k (gTb (gpl μ) (gdr μ) k)
def gTk (μ : Mem) (k : Nat) (t : (Nat × List Nat) ⊕ (Nat × Nat × Nat)) : Prop := k < gNN ∧ gTb (gpl μ) (gdr μ) k = t
theorem gH_of {cy : Nat → ClassId} {base : Nat} {μ : Mem} {k : Nat} {t : (Nat × List Nat) ⊕ (Nat × Nat × Nat)} (h : gTk μ k t) : gH cy base μ k = gE cy base μ k t := by unfold gH; rw [h.2]
theorem gF_at {base : Nat} {μ : Mem} {k : Nat} : ∀ (cs : List Nat) (j i : Nat), (gF base μ k cs j)[i]? = (cs[i]?).map (fun c => match c with | 0 => .int (gi μ k (j + i)) | 1 => .long (gl μ k) | r + 2 => .ref (base + r))
  | [], _, i => by simp [gF]
  | 0 :: cs, j, 0 => by simp [gF]
  | 1 :: cs, j, 0 => by simp [gF]
  | (r + 2) :: cs, j, 0 => by simp [gF]
  | 0 :: cs, j, i + 1 => by simp only [gF, List.getElem?_cons_succ]; rw [gF_at cs (j + 1) i]; simp [show j + 1 + i = j + (i + 1) by omega]
  | 1 :: cs, j, i + 1 => by simp only [gF, List.getElem?_cons_succ]; rw [gF_at cs (j + 1) i]; simp [show j + 1 + i = j + (i + 1) by omega]
  | (r + 2) :: cs, j, i + 1 => by simp only [gF, List.getElem?_cons_succ]; rw [gF_at cs (j + 1) i]; simp [show j + 1 + i = j + (i + 1) by omega]
theorem gF_len {base : Nat} {μ : Mem} {k : Nat} : ∀ (cs : List Nat) (j : Nat), (gF base μ k cs j).length = cs.length
  | [], _ => rfl
  | 0 :: cs, j => by simp [gF, gF_len cs (j + 1)]
  | 1 :: cs, j => by simp [gF, gF_len cs (j + 1)]
  | (r + 2) :: cs, j => by simp [gF, gF_len cs (j + 1)]
theorem gF_ext {base : Nat} {μ μ2 : Mem} {k : Nat} {cs : List Nat} (h1 : ∀ j, gi μ k j = gi μ2 k j) (h2 : gl μ k = gl μ2 k) : gF base μ k cs 0 = gF base μ2 k cs 0 := by
  apply List.ext_getElem?
  intro i
  rw [gF_at, gF_at, h2]
  congr 1
  funext c
  rw [h1]
theorem gE_ext {cy : Nat → ClassId} {base : Nat} {μ μ2 : Mem} {k : Nat} {t : (Nat × List Nat) ⊕ (Nat × Nat × Nat)} (h1 : ∀ j, gi μ k j = gi μ2 k j) (h2 : gl μ k = gl μ2 k) (h3 : ga μ k = ga μ2 k) : gE cy base μ k t = gE cy base μ2 k t := by
  unfold gE
  cases t with
  | inl q => simp only [gF_ext h1 h2]
  | inr q => simp only [h3]
theorem gH_si {cy : Nat → ClassId} {base : Nat} {μ : Mem} {k j ci : Nat} {cs : List Nat} {v : Int32} (h : gTk μ k (.inl (ci, cs))) (hc : cs[j]? = some 0) : va_up (gH cy base μ) k (.inr (ci, (gF base μ k cs 0).set j (.int v))) = gH cy base (si μ k j v) := by
  funext q
  by_cases hq : q = k
  · subst hq
    have h2 : gTk (si μ q j v) q (.inl (ci, cs)) := h
    rw [gH_of h2]
    simp only [va_up, if_true, gE]
    congr 2
    apply List.ext_getElem?
    intro i
    rw [List.getElem?_set, gF_at, gF_at, gF_len]
    have hlt : j < cs.length := (List.getElem?_eq_some_iff.mp hc).1
    by_cases hi : j = i
    · subst hi
      rw [if_pos rfl, if_pos hlt, hc]
      simp [gi, si, va_up]
    · rw [if_neg hi]
      congr 1
      funext c
      have h3 : ¬ i = j := fun e => hi e.symm
      simp [gi, si, va_up, h3, gl]
  · simp only [va_up, if_neg hq]
    exact gE_ext (fun i => by simp [gi, si, va_up, hq]) rfl rfl
theorem gH_sl {cy : Nat → ClassId} {base : Nat} {μ : Mem} {k j ci : Nat} {cs : List Nat} {v : Int64} (h : gTk μ k (.inl (ci, cs))) (hc : cs[j]? = some 1) (hu : ∀ i, cs[i]? = some 1 → i = j) : va_up (gH cy base μ) k (.inr (ci, (gF base μ k cs 0).set j (.long v))) = gH cy base (sl μ k v) := by
  funext q
  by_cases hq : q = k
  · subst hq
    have h2 : gTk (sl μ q v) q (.inl (ci, cs)) := h
    rw [gH_of h2]
    simp only [va_up, if_true, gE]
    congr 2
    apply List.ext_getElem?
    intro i
    rw [List.getElem?_set, gF_at, gF_at, gF_len]
    have hlt : j < cs.length := (List.getElem?_eq_some_iff.mp hc).1
    by_cases hi : j = i
    · subst hi
      rw [if_pos rfl, if_pos hlt, hc]
      simp [gl, sl, va_up]
    · rw [if_neg hi]
      cases hci : cs[i]? with
      | none => rfl
      | some c =>
        have h9 : ¬ c = 1 := fun e => hi (hu i (by rw [hci, e])).symm
        match c, h9 with
        | 0, _ => simp [gi, sl]
        | 1, h9 => exact absurd rfl h9
        | r + 2, _ => simp
  · simp only [va_up, if_neg hq]
    exact gE_ext (fun i => rfl) (by simp [gl, sl, va_up, hq]) rfl
theorem gH_sA {cy : Nat → ClassId} {base : Nat} {μ : Mem} {k t len : Nat} {f : Nat → Int32} (h : gTk μ k (.inr (t, len, 0))) : va_up (gH cy base μ) k (.inl (cy t, len, .inl f)) = gH cy base (sA μ k f) := by
  funext q
  by_cases hq : q = k
  · subst hq
    have h2 : gTk (sA μ q f) q (.inr (t, len, 0)) := h
    rw [gH_of h2]
    simp [va_up, gE, ga, sA]
  · simp only [va_up, if_neg hq]
    exact gE_ext (fun i => rfl) rfl (by simp [ga, sA, va_up, hq])

theorem gH_spl {cy : Nat → ClassId} {base : Nat} {μ : Mem} {q : Nat} : va_up (gH cy base μ) 0 (.inr (8, (gF base μ 0 ([3, 5, 51, 144, 145, 147, 167, 170, gpl μ + 2, gdr μ + 2, 1]) 0).set 8 (.ref (base + q)))) = gH cy base (spl μ q) := by
  funext k
  match k with
  | 0 => simp [va_up, gH, gE, gTb, gF, spl, gpl, gdr, gl]
  | k + 1 => simp [va_up, gH, gTb]; exact gE_ext (fun i => rfl) rfl rfl
theorem gH_sdr {cy : Nat → ClassId} {base : Nat} {μ : Mem} {q : Nat} : va_up (gH cy base μ) 0 (.inr (8, (gF base μ 0 ([3, 5, 51, 144, 145, 147, 167, 170, gpl μ + 2, gdr μ + 2, 1]) 0).set 9 (.ref (base + q)))) = gH cy base (sdr μ q) := by
  funext k
  match k with
  | 0 => simp [va_up, gH, gE, gTb, gF, sdr, gpl, gdr, gl]
  | k + 1 => simp [va_up, gH, gTb]; exact gE_ext (fun i => rfl) rfl rfl
theorem tk_0 (μ : Mem) : gTk μ 0 (.inl (8, [3, 5, 51, 144, 145, 147, 167, 170, gpl μ + 2, gdr μ + 2, 1])) := ⟨by decide, rfl⟩
theorem tk_1 (μ : Mem) : gTk μ 1 (.inl (4, [4, 0, 0, 0, 0, 0])) := ⟨by decide, rfl⟩
theorem tk_2 (μ : Mem) : gTk μ 2 (.inr (0, 200, 0)) := ⟨by decide, rfl⟩
theorem tk_3 (μ : Mem) : gTk μ 3 (.inl (0, [6, 10, 0, 0])) := ⟨by decide, rfl⟩
theorem tk_4 (μ : Mem) : gTk μ 4 (.inl (1, [7, 8, 9, 0, 0])) := ⟨by decide, rfl⟩
theorem tk_5 (μ : Mem) : gTk μ 5 (.inr (0, 7, 0)) := ⟨by decide, rfl⟩
theorem tk_6 (μ : Mem) : gTk μ 6 (.inr (0, 7, 0)) := ⟨by decide, rfl⟩
theorem tk_7 (μ : Mem) : gTk μ 7 (.inr (0, 49, 0)) := ⟨by decide, rfl⟩
theorem tk_8 (μ : Mem) : gTk μ 8 (.inr (3, 10, 4)) := ⟨by decide, rfl⟩
theorem tk_9 (μ : Mem) : gTk μ 9 (.inl (1, [12, 13, 14, 0, 0])) := ⟨by decide, rfl⟩
theorem tk_10 (μ : Mem) : gTk μ 10 (.inr (0, 7, 0)) := ⟨by decide, rfl⟩
theorem tk_11 (μ : Mem) : gTk μ 11 (.inr (0, 7, 0)) := ⟨by decide, rfl⟩
theorem tk_12 (μ : Mem) : gTk μ 12 (.inr (0, 49, 0)) := ⟨by decide, rfl⟩
theorem tk_13 (μ : Mem) : gTk μ 13 (.inl (1, [16, 17, 18, 0, 0])) := ⟨by decide, rfl⟩
theorem tk_14 (μ : Mem) : gTk μ 14 (.inr (0, 7, 0)) := ⟨by decide, rfl⟩
theorem tk_15 (μ : Mem) : gTk μ 15 (.inr (0, 7, 0)) := ⟨by decide, rfl⟩
theorem tk_16 (μ : Mem) : gTk μ 16 (.inr (0, 49, 0)) := ⟨by decide, rfl⟩
theorem tk_17 (μ : Mem) : gTk μ 17 (.inl (1, [20, 21, 22, 0, 0])) := ⟨by decide, rfl⟩
theorem tk_18 (μ : Mem) : gTk μ 18 (.inr (0, 7, 0)) := ⟨by decide, rfl⟩
theorem tk_19 (μ : Mem) : gTk μ 19 (.inr (0, 7, 0)) := ⟨by decide, rfl⟩
theorem tk_20 (μ : Mem) : gTk μ 20 (.inr (0, 49, 0)) := ⟨by decide, rfl⟩
theorem tk_21 (μ : Mem) : gTk μ 21 (.inl (1, [24, 25, 26, 0, 0])) := ⟨by decide, rfl⟩
theorem tk_22 (μ : Mem) : gTk μ 22 (.inr (0, 7, 0)) := ⟨by decide, rfl⟩
theorem tk_23 (μ : Mem) : gTk μ 23 (.inr (0, 7, 0)) := ⟨by decide, rfl⟩
theorem tk_24 (μ : Mem) : gTk μ 24 (.inr (0, 49, 0)) := ⟨by decide, rfl⟩
theorem tk_25 (μ : Mem) : gTk μ 25 (.inl (1, [28, 29, 30, 0, 0])) := ⟨by decide, rfl⟩
theorem tk_26 (μ : Mem) : gTk μ 26 (.inr (0, 7, 0)) := ⟨by decide, rfl⟩
theorem tk_27 (μ : Mem) : gTk μ 27 (.inr (0, 7, 0)) := ⟨by decide, rfl⟩
theorem tk_28 (μ : Mem) : gTk μ 28 (.inr (0, 49, 0)) := ⟨by decide, rfl⟩
theorem tk_29 (μ : Mem) : gTk μ 29 (.inl (1, [32, 33, 34, 0, 0])) := ⟨by decide, rfl⟩
theorem tk_30 (μ : Mem) : gTk μ 30 (.inr (0, 7, 0)) := ⟨by decide, rfl⟩
theorem tk_31 (μ : Mem) : gTk μ 31 (.inr (0, 7, 0)) := ⟨by decide, rfl⟩
theorem tk_32 (μ : Mem) : gTk μ 32 (.inr (0, 49, 0)) := ⟨by decide, rfl⟩
theorem tk_33 (μ : Mem) : gTk μ 33 (.inl (1, [36, 37, 38, 0, 0])) := ⟨by decide, rfl⟩
theorem tk_34 (μ : Mem) : gTk μ 34 (.inr (0, 7, 0)) := ⟨by decide, rfl⟩
theorem tk_35 (μ : Mem) : gTk μ 35 (.inr (0, 7, 0)) := ⟨by decide, rfl⟩
theorem tk_36 (μ : Mem) : gTk μ 36 (.inr (0, 49, 0)) := ⟨by decide, rfl⟩
theorem tk_37 (μ : Mem) : gTk μ 37 (.inl (1, [40, 41, 42, 0, 0])) := ⟨by decide, rfl⟩
theorem tk_38 (μ : Mem) : gTk μ 38 (.inr (0, 7, 0)) := ⟨by decide, rfl⟩
theorem tk_39 (μ : Mem) : gTk μ 39 (.inr (0, 7, 0)) := ⟨by decide, rfl⟩
theorem tk_40 (μ : Mem) : gTk μ 40 (.inr (0, 49, 0)) := ⟨by decide, rfl⟩
theorem tk_41 (μ : Mem) : gTk μ 41 (.inl (1, [44, 45, 46, 0, 0])) := ⟨by decide, rfl⟩
theorem tk_42 (μ : Mem) : gTk μ 42 (.inr (0, 7, 0)) := ⟨by decide, rfl⟩
theorem tk_43 (μ : Mem) : gTk μ 43 (.inr (0, 7, 0)) := ⟨by decide, rfl⟩
theorem tk_44 (μ : Mem) : gTk μ 44 (.inr (0, 49, 0)) := ⟨by decide, rfl⟩
theorem tk_45 (μ : Mem) : gTk μ 45 (.inl (1, [48, 49, 50, 0, 0])) := ⟨by decide, rfl⟩
theorem tk_46 (μ : Mem) : gTk μ 46 (.inr (0, 7, 0)) := ⟨by decide, rfl⟩
theorem tk_47 (μ : Mem) : gTk μ 47 (.inr (0, 7, 0)) := ⟨by decide, rfl⟩
theorem tk_48 (μ : Mem) : gTk μ 48 (.inr (0, 49, 0)) := ⟨by decide, rfl⟩
theorem tk_49 (μ : Mem) : gTk μ 49 (.inr (2, 2, 46)) := ⟨by decide, rfl⟩
theorem tk_50 (μ : Mem) : gTk μ 50 (.inl (0, [53, 57, 0, 0])) := ⟨by decide, rfl⟩
theorem tk_51 (μ : Mem) : gTk μ 51 (.inl (1, [54, 55, 56, 0, 0])) := ⟨by decide, rfl⟩
theorem tk_52 (μ : Mem) : gTk μ 52 (.inr (0, 7, 0)) := ⟨by decide, rfl⟩
theorem tk_53 (μ : Mem) : gTk μ 53 (.inr (0, 7, 0)) := ⟨by decide, rfl⟩
theorem tk_54 (μ : Mem) : gTk μ 54 (.inr (0, 49, 0)) := ⟨by decide, rfl⟩
theorem tk_55 (μ : Mem) : gTk μ 55 (.inr (3, 10, 4)) := ⟨by decide, rfl⟩
theorem tk_56 (μ : Mem) : gTk μ 56 (.inl (1, [59, 60, 61, 0, 0])) := ⟨by decide, rfl⟩
theorem tk_57 (μ : Mem) : gTk μ 57 (.inr (0, 7, 0)) := ⟨by decide, rfl⟩
theorem tk_58 (μ : Mem) : gTk μ 58 (.inr (0, 7, 0)) := ⟨by decide, rfl⟩
theorem tk_59 (μ : Mem) : gTk μ 59 (.inr (0, 49, 0)) := ⟨by decide, rfl⟩
theorem tk_60 (μ : Mem) : gTk μ 60 (.inl (1, [63, 64, 65, 0, 0])) := ⟨by decide, rfl⟩
theorem tk_61 (μ : Mem) : gTk μ 61 (.inr (0, 7, 0)) := ⟨by decide, rfl⟩
theorem tk_62 (μ : Mem) : gTk μ 62 (.inr (0, 7, 0)) := ⟨by decide, rfl⟩
theorem tk_63 (μ : Mem) : gTk μ 63 (.inr (0, 49, 0)) := ⟨by decide, rfl⟩
theorem tk_64 (μ : Mem) : gTk μ 64 (.inl (1, [67, 68, 69, 0, 0])) := ⟨by decide, rfl⟩
theorem tk_65 (μ : Mem) : gTk μ 65 (.inr (0, 7, 0)) := ⟨by decide, rfl⟩
theorem tk_66 (μ : Mem) : gTk μ 66 (.inr (0, 7, 0)) := ⟨by decide, rfl⟩
theorem tk_67 (μ : Mem) : gTk μ 67 (.inr (0, 49, 0)) := ⟨by decide, rfl⟩
theorem tk_68 (μ : Mem) : gTk μ 68 (.inl (1, [71, 72, 73, 0, 0])) := ⟨by decide, rfl⟩
theorem tk_69 (μ : Mem) : gTk μ 69 (.inr (0, 7, 0)) := ⟨by decide, rfl⟩
theorem tk_70 (μ : Mem) : gTk μ 70 (.inr (0, 7, 0)) := ⟨by decide, rfl⟩
theorem tk_71 (μ : Mem) : gTk μ 71 (.inr (0, 49, 0)) := ⟨by decide, rfl⟩
theorem tk_72 (μ : Mem) : gTk μ 72 (.inl (1, [75, 76, 77, 0, 0])) := ⟨by decide, rfl⟩
theorem tk_73 (μ : Mem) : gTk μ 73 (.inr (0, 7, 0)) := ⟨by decide, rfl⟩
theorem tk_74 (μ : Mem) : gTk μ 74 (.inr (0, 7, 0)) := ⟨by decide, rfl⟩
theorem tk_75 (μ : Mem) : gTk μ 75 (.inr (0, 49, 0)) := ⟨by decide, rfl⟩
theorem tk_76 (μ : Mem) : gTk μ 76 (.inl (1, [79, 80, 81, 0, 0])) := ⟨by decide, rfl⟩
theorem tk_77 (μ : Mem) : gTk μ 77 (.inr (0, 7, 0)) := ⟨by decide, rfl⟩
theorem tk_78 (μ : Mem) : gTk μ 78 (.inr (0, 7, 0)) := ⟨by decide, rfl⟩
theorem tk_79 (μ : Mem) : gTk μ 79 (.inr (0, 49, 0)) := ⟨by decide, rfl⟩
theorem tk_80 (μ : Mem) : gTk μ 80 (.inl (1, [83, 84, 85, 0, 0])) := ⟨by decide, rfl⟩
theorem tk_81 (μ : Mem) : gTk μ 81 (.inr (0, 7, 0)) := ⟨by decide, rfl⟩
theorem tk_82 (μ : Mem) : gTk μ 82 (.inr (0, 7, 0)) := ⟨by decide, rfl⟩
theorem tk_83 (μ : Mem) : gTk μ 83 (.inr (0, 49, 0)) := ⟨by decide, rfl⟩
theorem tk_84 (μ : Mem) : gTk μ 84 (.inl (1, [87, 88, 89, 0, 0])) := ⟨by decide, rfl⟩
theorem tk_85 (μ : Mem) : gTk μ 85 (.inr (0, 7, 0)) := ⟨by decide, rfl⟩
theorem tk_86 (μ : Mem) : gTk μ 86 (.inr (0, 7, 0)) := ⟨by decide, rfl⟩
theorem tk_87 (μ : Mem) : gTk μ 87 (.inr (0, 49, 0)) := ⟨by decide, rfl⟩
theorem tk_88 (μ : Mem) : gTk μ 88 (.inl (1, [91, 92, 93, 0, 0])) := ⟨by decide, rfl⟩
theorem tk_89 (μ : Mem) : gTk μ 89 (.inr (0, 7, 0)) := ⟨by decide, rfl⟩
theorem tk_90 (μ : Mem) : gTk μ 90 (.inr (0, 7, 0)) := ⟨by decide, rfl⟩
theorem tk_91 (μ : Mem) : gTk μ 91 (.inr (0, 49, 0)) := ⟨by decide, rfl⟩
theorem tk_92 (μ : Mem) : gTk μ 92 (.inl (1, [95, 96, 97, 0, 0])) := ⟨by decide, rfl⟩
theorem tk_93 (μ : Mem) : gTk μ 93 (.inr (0, 7, 0)) := ⟨by decide, rfl⟩
theorem tk_94 (μ : Mem) : gTk μ 94 (.inr (0, 7, 0)) := ⟨by decide, rfl⟩
theorem tk_95 (μ : Mem) : gTk μ 95 (.inr (0, 49, 0)) := ⟨by decide, rfl⟩
theorem tk_96 (μ : Mem) : gTk μ 96 (.inl (0, [99, 103, 0, 0])) := ⟨by decide, rfl⟩
theorem tk_97 (μ : Mem) : gTk μ 97 (.inl (1, [100, 101, 102, 0, 0])) := ⟨by decide, rfl⟩
theorem tk_98 (μ : Mem) : gTk μ 98 (.inr (0, 7, 0)) := ⟨by decide, rfl⟩
theorem tk_99 (μ : Mem) : gTk μ 99 (.inr (0, 7, 0)) := ⟨by decide, rfl⟩
theorem tk_100 (μ : Mem) : gTk μ 100 (.inr (0, 49, 0)) := ⟨by decide, rfl⟩
theorem tk_101 (μ : Mem) : gTk μ 101 (.inr (3, 10, 4)) := ⟨by decide, rfl⟩
theorem tk_102 (μ : Mem) : gTk μ 102 (.inl (1, [105, 106, 107, 0, 0])) := ⟨by decide, rfl⟩
theorem tk_103 (μ : Mem) : gTk μ 103 (.inr (0, 7, 0)) := ⟨by decide, rfl⟩
theorem tk_104 (μ : Mem) : gTk μ 104 (.inr (0, 7, 0)) := ⟨by decide, rfl⟩
theorem tk_105 (μ : Mem) : gTk μ 105 (.inr (0, 49, 0)) := ⟨by decide, rfl⟩
theorem tk_106 (μ : Mem) : gTk μ 106 (.inl (1, [109, 110, 111, 0, 0])) := ⟨by decide, rfl⟩
theorem tk_107 (μ : Mem) : gTk μ 107 (.inr (0, 7, 0)) := ⟨by decide, rfl⟩
theorem tk_108 (μ : Mem) : gTk μ 108 (.inr (0, 7, 0)) := ⟨by decide, rfl⟩
theorem tk_109 (μ : Mem) : gTk μ 109 (.inr (0, 49, 0)) := ⟨by decide, rfl⟩
theorem tk_110 (μ : Mem) : gTk μ 110 (.inl (1, [113, 114, 115, 0, 0])) := ⟨by decide, rfl⟩
theorem tk_111 (μ : Mem) : gTk μ 111 (.inr (0, 7, 0)) := ⟨by decide, rfl⟩
theorem tk_112 (μ : Mem) : gTk μ 112 (.inr (0, 7, 0)) := ⟨by decide, rfl⟩
theorem tk_113 (μ : Mem) : gTk μ 113 (.inr (0, 49, 0)) := ⟨by decide, rfl⟩
theorem tk_114 (μ : Mem) : gTk μ 114 (.inl (1, [117, 118, 119, 0, 0])) := ⟨by decide, rfl⟩
theorem tk_115 (μ : Mem) : gTk μ 115 (.inr (0, 7, 0)) := ⟨by decide, rfl⟩
theorem tk_116 (μ : Mem) : gTk μ 116 (.inr (0, 7, 0)) := ⟨by decide, rfl⟩
theorem tk_117 (μ : Mem) : gTk μ 117 (.inr (0, 49, 0)) := ⟨by decide, rfl⟩
theorem tk_118 (μ : Mem) : gTk μ 118 (.inl (1, [121, 122, 123, 0, 0])) := ⟨by decide, rfl⟩
theorem tk_119 (μ : Mem) : gTk μ 119 (.inr (0, 7, 0)) := ⟨by decide, rfl⟩
theorem tk_120 (μ : Mem) : gTk μ 120 (.inr (0, 7, 0)) := ⟨by decide, rfl⟩
theorem tk_121 (μ : Mem) : gTk μ 121 (.inr (0, 49, 0)) := ⟨by decide, rfl⟩
theorem tk_122 (μ : Mem) : gTk μ 122 (.inl (1, [125, 126, 127, 0, 0])) := ⟨by decide, rfl⟩
theorem tk_123 (μ : Mem) : gTk μ 123 (.inr (0, 7, 0)) := ⟨by decide, rfl⟩
theorem tk_124 (μ : Mem) : gTk μ 124 (.inr (0, 7, 0)) := ⟨by decide, rfl⟩
theorem tk_125 (μ : Mem) : gTk μ 125 (.inr (0, 49, 0)) := ⟨by decide, rfl⟩
theorem tk_126 (μ : Mem) : gTk μ 126 (.inl (1, [129, 130, 131, 0, 0])) := ⟨by decide, rfl⟩
theorem tk_127 (μ : Mem) : gTk μ 127 (.inr (0, 7, 0)) := ⟨by decide, rfl⟩
theorem tk_128 (μ : Mem) : gTk μ 128 (.inr (0, 7, 0)) := ⟨by decide, rfl⟩
theorem tk_129 (μ : Mem) : gTk μ 129 (.inr (0, 49, 0)) := ⟨by decide, rfl⟩
theorem tk_130 (μ : Mem) : gTk μ 130 (.inl (1, [133, 134, 135, 0, 0])) := ⟨by decide, rfl⟩
theorem tk_131 (μ : Mem) : gTk μ 131 (.inr (0, 7, 0)) := ⟨by decide, rfl⟩
theorem tk_132 (μ : Mem) : gTk μ 132 (.inr (0, 7, 0)) := ⟨by decide, rfl⟩
theorem tk_133 (μ : Mem) : gTk μ 133 (.inr (0, 49, 0)) := ⟨by decide, rfl⟩
theorem tk_134 (μ : Mem) : gTk μ 134 (.inl (1, [137, 138, 139, 0, 0])) := ⟨by decide, rfl⟩
theorem tk_135 (μ : Mem) : gTk μ 135 (.inr (0, 7, 0)) := ⟨by decide, rfl⟩
theorem tk_136 (μ : Mem) : gTk μ 136 (.inr (0, 7, 0)) := ⟨by decide, rfl⟩
theorem tk_137 (μ : Mem) : gTk μ 137 (.inr (0, 49, 0)) := ⟨by decide, rfl⟩
theorem tk_138 (μ : Mem) : gTk μ 138 (.inl (1, [141, 142, 143, 0, 0])) := ⟨by decide, rfl⟩
theorem tk_139 (μ : Mem) : gTk μ 139 (.inr (0, 7, 0)) := ⟨by decide, rfl⟩
theorem tk_140 (μ : Mem) : gTk μ 140 (.inr (0, 7, 0)) := ⟨by decide, rfl⟩
theorem tk_141 (μ : Mem) : gTk μ 141 (.inr (0, 49, 0)) := ⟨by decide, rfl⟩
theorem tk_142 (μ : Mem) : gTk μ 142 (.inr (1, 2, 0)) := ⟨by decide, rfl⟩
theorem tk_143 (μ : Mem) : gTk μ 143 (.inl (7, [146])) := ⟨by decide, rfl⟩
theorem tk_144 (μ : Mem) : gTk μ 144 (.inr (0, 7, 0)) := ⟨by decide, rfl⟩
theorem tk_145 (μ : Mem) : gTk μ 145 (.inl (2, [148, 149, 150, 158])) := ⟨by decide, rfl⟩
theorem tk_146 (μ : Mem) : gTk μ 146 (.inr (0, 10, 0)) := ⟨by decide, rfl⟩
theorem tk_147 (μ : Mem) : gTk μ 147 (.inr (0, 1000, 0)) := ⟨by decide, rfl⟩
theorem tk_148 (μ : Mem) : gTk μ 148 (.inr (4, 7, 1)) := ⟨by decide, rfl⟩
theorem tk_149 (μ : Mem) : gTk μ 149 (.inr (0, 13, 0)) := ⟨by decide, rfl⟩
theorem tk_150 (μ : Mem) : gTk μ 150 (.inr (0, 13, 0)) := ⟨by decide, rfl⟩
theorem tk_151 (μ : Mem) : gTk μ 151 (.inr (0, 13, 0)) := ⟨by decide, rfl⟩
theorem tk_152 (μ : Mem) : gTk μ 152 (.inr (0, 13, 0)) := ⟨by decide, rfl⟩
theorem tk_153 (μ : Mem) : gTk μ 153 (.inr (0, 13, 0)) := ⟨by decide, rfl⟩
theorem tk_154 (μ : Mem) : gTk μ 154 (.inr (0, 13, 0)) := ⟨by decide, rfl⟩
theorem tk_155 (μ : Mem) : gTk μ 155 (.inr (0, 13, 0)) := ⟨by decide, rfl⟩
theorem tk_156 (μ : Mem) : gTk μ 156 (.inr (4, 8, 1)) := ⟨by decide, rfl⟩
theorem tk_157 (μ : Mem) : gTk μ 157 (.inr (0, 100, 0)) := ⟨by decide, rfl⟩
theorem tk_158 (μ : Mem) : gTk μ 158 (.inr (0, 100, 0)) := ⟨by decide, rfl⟩
theorem tk_159 (μ : Mem) : gTk μ 159 (.inr (0, 100, 0)) := ⟨by decide, rfl⟩
theorem tk_160 (μ : Mem) : gTk μ 160 (.inr (0, 100, 0)) := ⟨by decide, rfl⟩
theorem tk_161 (μ : Mem) : gTk μ 161 (.inr (0, 100, 0)) := ⟨by decide, rfl⟩
theorem tk_162 (μ : Mem) : gTk μ 162 (.inr (0, 100, 0)) := ⟨by decide, rfl⟩
theorem tk_163 (μ : Mem) : gTk μ 163 (.inr (0, 100, 0)) := ⟨by decide, rfl⟩
theorem tk_164 (μ : Mem) : gTk μ 164 (.inr (0, 100, 0)) := ⟨by decide, rfl⟩
theorem tk_165 (μ : Mem) : gTk μ 165 (.inl (5, [168, 169, 0, 0, 0])) := ⟨by decide, rfl⟩
theorem tk_166 (μ : Mem) : gTk μ 166 (.inr (0, 49, 0)) := ⟨by decide, rfl⟩
theorem tk_167 (μ : Mem) : gTk μ 167 (.inr (0, 7, 0)) := ⟨by decide, rfl⟩
theorem tk_168 (μ : Mem) : gTk μ 168 (.inl (6, [171, 0, 0, 0])) := ⟨by decide, rfl⟩
theorem tk_169 (μ : Mem) : gTk μ 169 (.inr (0, 11, 0)) := ⟨by decide, rfl⟩
theorem tk_170 (μ : Mem) : gTk μ 170 (.inl (3, [173, 174, 175, 176, 177, 178, 179, 0, 0, 0, 0, 0, 0])) := ⟨by decide, rfl⟩
theorem tk_171 (μ : Mem) : gTk μ 171 (.inr (0, 7, 0)) := ⟨by decide, rfl⟩
theorem tk_172 (μ : Mem) : gTk μ 172 (.inr (0, 7, 0)) := ⟨by decide, rfl⟩
theorem tk_173 (μ : Mem) : gTk μ 173 (.inr (0, 7, 0)) := ⟨by decide, rfl⟩
theorem tk_174 (μ : Mem) : gTk μ 174 (.inr (0, 7, 0)) := ⟨by decide, rfl⟩
theorem tk_175 (μ : Mem) : gTk μ 175 (.inr (0, 5, 0)) := ⟨by decide, rfl⟩
theorem tk_176 (μ : Mem) : gTk μ 176 (.inr (0, 5, 0)) := ⟨by decide, rfl⟩
theorem tk_177 (μ : Mem) : gTk μ 177 (.inr (0, 5, 0)) := ⟨by decide, rfl⟩
theorem tk_178 (μ : Mem) : gTk μ 178 (.inl (3, [181, 182, 183, 184, 185, 186, 187, 0, 0, 0, 0, 0, 0])) := ⟨by decide, rfl⟩
theorem tk_179 (μ : Mem) : gTk μ 179 (.inr (0, 7, 0)) := ⟨by decide, rfl⟩
theorem tk_180 (μ : Mem) : gTk μ 180 (.inr (0, 7, 0)) := ⟨by decide, rfl⟩
theorem tk_181 (μ : Mem) : gTk μ 181 (.inr (0, 7, 0)) := ⟨by decide, rfl⟩
theorem tk_182 (μ : Mem) : gTk μ 182 (.inr (0, 7, 0)) := ⟨by decide, rfl⟩
theorem tk_183 (μ : Mem) : gTk μ 183 (.inr (0, 5, 0)) := ⟨by decide, rfl⟩
theorem tk_184 (μ : Mem) : gTk μ 184 (.inr (0, 5, 0)) := ⟨by decide, rfl⟩
theorem tk_185 (μ : Mem) : gTk μ 185 (.inr (0, 5, 0)) := ⟨by decide, rfl⟩
theorem tk_186 (μ : Mem) : gTk μ 186 (.inl (9, [1, 189, 0, 190, 191, 192, 193, 194, 0, 0, 0, 0, 195, 196, 197, 198, 199, 200])) := ⟨by decide, rfl⟩
theorem tk_187 (μ : Mem) : gTk μ 187 (.inr (0, 200, 0)) := ⟨by decide, rfl⟩
theorem tk_188 (μ : Mem) : gTk μ 188 (.inr (0, 49, 0)) := ⟨by decide, rfl⟩
theorem tk_189 (μ : Mem) : gTk μ 189 (.inr (0, 49, 0)) := ⟨by decide, rfl⟩
theorem tk_190 (μ : Mem) : gTk μ 190 (.inr (0, 716, 0)) := ⟨by decide, rfl⟩
theorem tk_191 (μ : Mem) : gTk μ 191 (.inr (0, 1432, 0)) := ⟨by decide, rfl⟩
theorem tk_192 (μ : Mem) : gTk μ 192 (.inr (1, 2, 0)) := ⟨by decide, rfl⟩
theorem tk_193 (μ : Mem) : gTk μ 193 (.inr (0, 49, 0)) := ⟨by decide, rfl⟩
theorem tk_194 (μ : Mem) : gTk μ 194 (.inr (0, 8, 0)) := ⟨by decide, rfl⟩
theorem tk_195 (μ : Mem) : gTk μ 195 (.inr (0, 7, 0)) := ⟨by decide, rfl⟩
theorem tk_196 (μ : Mem) : gTk μ 196 (.inr (0, 1000, 0)) := ⟨by decide, rfl⟩
theorem tk_197 (μ : Mem) : gTk μ 197 (.inr (0, 800, 0)) := ⟨by decide, rfl⟩
theorem tk_198 (μ : Mem) : gTk μ 198 (.inr (0, 800, 0)) := ⟨by decide, rfl⟩
theorem gFam {ps : List Nat} (g : Nat → Nat) (e : Nat → (Nat × List Nat) ⊕ (Nat × Nat × Nat)) {q : Nat} {μ : Mem} (h : ∀ p ∈ ps, gTs.getD (g p) (.inr (0, 0, 0)) = e p ∧ 0 < g p ∧ g p < gNN) (hq : ps.contains q = true) : gTk μ (g q) (e q) := by
  obtain ⟨h1, h2, h3⟩ := h q (List.contains_iff_mem.mp hq)
  refine ⟨h3, ?_⟩
  rw [← h1]
  obtain ⟨r, hr⟩ : ∃ r, g q = r + 1 := ⟨g q - 1, by omega⟩
  rw [hr]
  rfl
theorem tkMo_0 {q : Nat} (hq : isMo q = true) (μ : Mem) : gTk μ q (.inl (1, [q + 1 + 2, q + 2 + 2, q + 3 + 2, 0, 0])) := gFam (fun q => q) (fun q => .inl (1, [q + 1 + 2, q + 2 + 2, q + 3 + 2, 0, 0])) (ps := [4, 9, 13, 17, 21, 25, 29, 33, 37, 41, 45, 51, 56, 60, 64, 68, 72, 76, 80, 84, 88, 92, 97, 102, 106, 110, 114, 118, 122, 126, 130, 134, 138]) (by decide +kernel) hq
theorem tkMo_1 {q : Nat} (hq : isMo q = true) (μ : Mem) : gTk μ (q + 1) (.inr (0, 7, 0)) := gFam (fun q => (q + 1)) (fun q => .inr (0, 7, 0)) (ps := [4, 9, 13, 17, 21, 25, 29, 33, 37, 41, 45, 51, 56, 60, 64, 68, 72, 76, 80, 84, 88, 92, 97, 102, 106, 110, 114, 118, 122, 126, 130, 134, 138]) (by decide +kernel) hq
theorem tkMo_2 {q : Nat} (hq : isMo q = true) (μ : Mem) : gTk μ (q + 2) (.inr (0, 7, 0)) := gFam (fun q => (q + 2)) (fun q => .inr (0, 7, 0)) (ps := [4, 9, 13, 17, 21, 25, 29, 33, 37, 41, 45, 51, 56, 60, 64, 68, 72, 76, 80, 84, 88, 92, 97, 102, 106, 110, 114, 118, 122, 126, 130, 134, 138]) (by decide +kernel) hq
theorem tkMo_3 {q : Nat} (hq : isMo q = true) (μ : Mem) : gTk μ (q + 3) (.inr (0, 49, 0)) := gFam (fun q => (q + 3)) (fun q => .inr (0, 49, 0)) (ps := [4, 9, 13, 17, 21, 25, 29, 33, 37, 41, 45, 51, 56, 60, 64, 68, 72, 76, 80, 84, 88, 92, 97, 102, 106, 110, 114, 118, 122, 126, 130, 134, 138]) (by decide +kernel) hq
theorem tkPl_0 {q : Nat} (hq : isPl q = true) (μ : Mem) : gTk μ q (.inl (3, [q + 1 + 2, q + 2 + 2, q + 3 + 2, q + 4 + 2, q + 5 + 2, q + 6 + 2, q + 7 + 2, 0, 0, 0, 0, 0, 0])) := gFam (fun q => q) (fun q => .inl (3, [q + 1 + 2, q + 2 + 2, q + 3 + 2, q + 4 + 2, q + 5 + 2, q + 6 + 2, q + 7 + 2, 0, 0, 0, 0, 0, 0])) (ps := [170, 178]) (by decide +kernel) hq
theorem tkPl_1 {q : Nat} (hq : isPl q = true) (μ : Mem) : gTk μ (q + 1) (.inr (0, 7, 0)) := gFam (fun q => (q + 1)) (fun q => .inr (0, 7, 0)) (ps := [170, 178]) (by decide +kernel) hq
theorem tkPl_2 {q : Nat} (hq : isPl q = true) (μ : Mem) : gTk μ (q + 2) (.inr (0, 7, 0)) := gFam (fun q => (q + 2)) (fun q => .inr (0, 7, 0)) (ps := [170, 178]) (by decide +kernel) hq
theorem tkPl_3 {q : Nat} (hq : isPl q = true) (μ : Mem) : gTk μ (q + 3) (.inr (0, 7, 0)) := gFam (fun q => (q + 3)) (fun q => .inr (0, 7, 0)) (ps := [170, 178]) (by decide +kernel) hq
theorem tkPl_4 {q : Nat} (hq : isPl q = true) (μ : Mem) : gTk μ (q + 4) (.inr (0, 7, 0)) := gFam (fun q => (q + 4)) (fun q => .inr (0, 7, 0)) (ps := [170, 178]) (by decide +kernel) hq
theorem tkPl_5 {q : Nat} (hq : isPl q = true) (μ : Mem) : gTk μ (q + 5) (.inr (0, 5, 0)) := gFam (fun q => (q + 5)) (fun q => .inr (0, 5, 0)) (ps := [170, 178]) (by decide +kernel) hq
theorem tkPl_6 {q : Nat} (hq : isPl q = true) (μ : Mem) : gTk μ (q + 6) (.inr (0, 5, 0)) := gFam (fun q => (q + 6)) (fun q => .inr (0, 5, 0)) (ps := [170, 178]) (by decide +kernel) hq
theorem tkPl_7 {q : Nat} (hq : isPl q = true) (μ : Mem) : gTk μ (q + 7) (.inr (0, 5, 0)) := gFam (fun q => (q + 7)) (fun q => .inr (0, 5, 0)) (ps := [170, 178]) (by decide +kernel) hq
theorem tkLe_0 {q : Nat} (hq : isLe q = true) (μ : Mem) : gTk μ q (.inl (0, [q + 1 + 2, q + 5 + 2, 0, 0])) := gFam (fun q => q) (fun q => .inl (0, [q + 1 + 2, q + 5 + 2, 0, 0])) (ps := [3, 50, 96]) (by decide +kernel) hq
theorem tkLe_5 {q : Nat} (hq : isLe q = true) (μ : Mem) : gTk μ (q + 5) (.inr (3, 10, 4)) := gFam (fun q => (q + 5)) (fun q => .inr (3, 10, 4)) (ps := [3, 50, 96]) (by decide +kernel) hq
theorem isMo_Le {q : Nat} (hq : isLe q = true) : isMo (q + 1) = true := by
  have h : ∀ q ∈ [3, 50, 96], isMo (q + 1) = true := by decide +kernel
  exact h q (List.contains_iff_mem.mp hq)
theorem tkR_148 {i : Nat} (hi : i < 7) (μ : Mem) : gTk μ (148 + 1 + 1 * i) (.inr (0, 13, 0)) := by
  have h : ∀ j ∈ List.range 7, gTs.getD (148 + 1 + 1 * j) (.inr (0, 0, 0)) = .inr (0, 13, 0) ∧ 148 + 1 + 1 * j < gNN := by decide +kernel
  have h2 := h i (List.mem_range.mpr hi)
  refine ⟨h2.2, ?_⟩
  rw [← h2.1, show 148 + 1 + 1 * i = (148 + 1 * i) + 1 by omega]
  rfl
theorem tkR_156 {i : Nat} (hi : i < 8) (μ : Mem) : gTk μ (156 + 1 + 1 * i) (.inr (0, 100, 0)) := by
  have h : ∀ j ∈ List.range 8, gTs.getD (156 + 1 + 1 * j) (.inr (0, 0, 0)) = .inr (0, 100, 0) ∧ 156 + 1 + 1 * j < gNN := by decide +kernel
  have h2 := h i (List.mem_range.mpr hi)
  refine ⟨h2.2, ?_⟩
  rw [← h2.1, show 156 + 1 + 1 * i = (156 + 1 * i) + 1 by omega]
  rfl

section GMore
variable {l : Launch} {D : va_G} {cy : Nat → ClassId} {base : Nat} {own : String} {cc : ByteArray} {nL : Nat} {ret : Option FieldType} {R : Room} {X : gX} {Z : gZ} {pc : Nat} {lv : List (Nat × Value)} {st : List Value} {cells slots : Nat} {μ μ2 : Mem}
theorem gs_getPl {idx q : Nat} (hlk : gLk own idx 8 8) (hdg : decode cc pc = .ok (.getfield idx, 3)) (hs : rfG (gpl μ) isPl = some q) (k : G l D cy base own cc nL ret R X Z (pc + 3) lv (.ref (base + q) :: st) cells slots gNN (gH cy base μ)) : G l D cy base own cc nL ret R X Z pc lv (.ref (base + 0) :: st) cells slots gNN (gH cy base μ) := by
  obtain ⟨rfl, -⟩ := rfG_ok hs
  exact gs_getR hlk (tk_0 μ) rfl hdg k
theorem gs_getDr {idx q : Nat} (hlk : gLk own idx 8 9) (hdg : decode cc pc = .ok (.getfield idx, 3)) (hs : rfG (gdr μ) isPl = some q) (k : G l D cy base own cc nL ret R X Z (pc + 3) lv (.ref (base + q) :: st) cells slots gNN (gH cy base μ)) : G l D cy base own cc nL ret R X Z pc lv (.ref (base + 0) :: st) cells slots gNN (gH cy base μ) := by
  obtain ⟨rfl, -⟩ := rfG_ok hs
  exact gs_getR hlk (tk_0 μ) rfl hdg k
theorem rfG_is {q q2 : Nat} {ok : Nat → Bool} (hs : rfG q ok = some q2) : ok q2 = true := by
  obtain ⟨rfl, h⟩ := rfG_ok hs
  exact h
def bz (v : Int32) : Option Int32 := if v = 0 then some 0 else if v = 1 then some 1 else none
theorem gs_zret {v r : Int32} (hs : bz v = some r) (hr : ret = some .boolean) (hdg : decode cc pc = .ok (.ireturn, 1)) : G l D cy base own cc nL ret R X (gZm D cy base cells slots (some (.int r)) gNN (gH cy base μ)) pc lv [.int v] cells slots gNN (gH cy base μ) := by
  unfold bz at hs
  split at hs
  · next h => cases hs; subst h; exact g_zret rfl hr hdg
  · split at hs
    · next h => cases hs; subst h; exact g_zret rfl hr hdg
    · cases hs
theorem gC_of {y : MethodName} {d : Nat} {args : List Value} {rv : Option Value} {lv0 : List (Nat × Value)} (ho : y.cls = own) (hy : plainName y.cls = true) (hn : (lg_sl args).length ≤ nL) (hlv : lv_args 0 args = lv0)
    (hG : G l D cy base own cc nL ret (gRm d) (gXm y) (gZm D cy base 0 0 rv gNN (gH cy base μ2)) 0 lv0 [] 0 0 gNN (gH cy base μ)) : gC l D cy base y cc nL ret d args μ rv μ2 := by
  subst ho
  exact gMet_of hy hn hlv hG
theorem gs_table {dflt lo hi : Int} {offs : Array Int} {len : Nat} {x lit : Int32} {off : Int} (hx : x = lit) (tgt : Nat) (hdg : decode cc pc = .ok (.tableswitch dflt lo hi offs, len)) (h1 : ¬ lit.toInt < lo) (h2 : ¬ hi < lit.toInt) (ho : offs[(lit.toInt - lo).toNat]? = some off) (ht : (pc : Int) + off = (tgt : Int)) (k : G l D cy base own cc nL ret R X Z tgt lv st cells slots gNN (gH cy base μ)) : G l D cy base own cc nL ret R X Z pc lv (.int x :: st) cells slots gNN (gH cy base μ) := by
  subst hx
  exact g_tableIn tgt hdg h1 h2 ho ht k
theorem gs_tableOut {dflt hi : Int} {offs : Array Int} {len : Nat} {x : Int32} (N : Nat) (tgt : Nat) (hdg : decode cc pc = .ok (.tableswitch dflt 0 hi offs, len)) (hN : hi + 1 = (N : Int)) (hs : N < 2147483648) (h : ∀ j : Nat, j < N → ¬ x = nI j) (ht : (pc : Int) + dflt = (tgt : Int)) (k : G l D cy base own cc nL ret R X Z tgt lv st cells slots gNN (gH cy base μ)) : G l D cy base own cc nL ret R X Z pc lv (.int x :: st) cells slots gNN (gH cy base μ) := by
  refine g_tableOut tgt hdg ?_ ht k
  rcases Int.lt_or_le x.toInt 0 with q | q
  · exact Or.inl q
  · rcases Int.lt_or_le hi x.toInt with q2 | q2
    · exact Or.inr q2
    · refine absurd ?_ (h x.toInt.toNat (by omega))
      apply Int32.toInt_inj.mp
      rw [nI_toInt (by omega)]
      omega
theorem gs_lookup {dflt : Int} {ps : Array (Int × Int)} {len : Nat} {x lit : Int32} {off : Int} (hx : x = lit) (tgt : Nat) (hdg : decode cc pc = .ok (.lookupswitch dflt ps, len)) (hp : (ps.toList.zip (ps.toList.drop 1)).all (fun (a, next) => a.1 < next.1) = true) (ho : Op.lookupswitch.offset ps.toList dflt lit.toInt = off) (ht : (pc : Int) + off = (tgt : Int)) (k : G l D cy base own cc nL ret R X Z tgt lv st cells slots gNN (gH cy base μ)) : G l D cy base own cc nL ret R X Z pc lv (.int x :: st) cells slots gNN (gH cy base μ) := by
  subst hx
  exact g_lookup tgt hdg hp ho ht k
theorem gs_lookupOut {dflt : Int} {ps : Array (Int × Int)} {len : Nat} {x : Int32} (tgt : Nat) (hdg : decode cc pc = .ok (.lookupswitch dflt ps, len)) (hp : (ps.toList.zip (ps.toList.drop 1)).all (fun (a, next) => a.1 < next.1) = true) (h : ∀ q ∈ ps.toList, ¬ x = Int32.ofInt q.1) (ht : (pc : Int) + dflt = (tgt : Int)) (k : G l D cy base own cc nL ret R X Z tgt lv st cells slots gNN (gH cy base μ)) : G l D cy base own cc nL ret R X Z pc lv (.int x :: st) cells slots gNN (gH cy base μ) := by
  refine g_lookup tgt hdg hp ?_ ht k
  have key : ∀ l : List (Int × Int), (∀ q ∈ l, ¬ x = Int32.ofInt q.1) → Op.lookupswitch.offset l dflt x.toInt = dflt := by
    intro l hl
    induction l with
    | nil => simp [Op.lookupswitch.offset]
    | cons a t ih =>
      have h1 := hl a List.mem_cons_self
      have h2 : ¬ a.1 = x.toInt := fun e => h1 (by rw [e, Int32.ofInt_toInt])
      have h3 : ¬ x.toInt = a.1 := fun e => h2 e.symm
      obtain ⟨a1, a2⟩ := a
      simp only [Op.lookupswitch.offset]
      first | (rw [if_neg h2]; exact ih (fun q hq => hl q (List.mem_cons_of_mem _ hq))) | (rw [if_neg h3]; exact ih (fun q hq => hl q (List.mem_cons_of_mem _ hq))) | (simp [h2, h3]; exact ih (fun q hq => hl q (List.mem_cons_of_mem _ hq))) | (simp_all [Op.lookupswitch.offset])
  exact key _ h
def mxI (x y : Int32) : Int32 := if x < y then y else x
theorem gs_mmax {idx : Nat} {x y : Int32} (hcl : gCl own idx yJ9_max_7cf53 cJ9_max_7cf53 2 (some .int) 2) (hsv : Cond.static yJ9_max_7cf53 ∈ gTbl) (hframes : 1 ≤ R.frames) (hlocals : (st.map fun v => v.category).sum + 13 ≤ R.locals) (hc : cells ≤ R.cells) (hs : slots ≤ R.slots) (hdg : decode cc pc = .ok (.invokestatic idx, 3)) (k : G l D cy base own cc nL ret R X Z (pc + 3) lv (.int (mxI x y) :: st) cells slots gNN (gH cy base μ)) : G l D cy base own cc nL ret R X Z pc lv (.int y :: .int x :: st) cells slots gNN (gH cy base μ) := by
  intro p e s m args below meth c H locs ls C
  exact va_mmax C.1.1 C.1.2.1 (C.1.2.2.2.1.trans C.2.2.2.2.2.1.symm) C.1.2.2.2.2.1 (C.1.2.2.2.2.2.1 _ hcl.1) (C.1.2.2.2.2.2.1 _ hsv) (C.1.2.2.2.2.2.1 _ hcl.2.2.1) (C.1.2.2.2.2.2.1 _ hcl.2.1) hframes hlocals hc hs hdg (k p e s m args below meth c H locs ls C)
def mnI (x y : Int32) : Int32 := if y < x then y else x
theorem gs_mmin {idx : Nat} {x y : Int32} (hcl : gCl own idx yJ9_min_7cf53 cJ9_min_7cf53 2 (some .int) 2) (hsv : Cond.static yJ9_min_7cf53 ∈ gTbl) (hframes : 1 ≤ R.frames) (hlocals : (st.map fun v => v.category).sum + 13 ≤ R.locals) (hc : cells ≤ R.cells) (hs : slots ≤ R.slots) (hdg : decode cc pc = .ok (.invokestatic idx, 3)) (k : G l D cy base own cc nL ret R X Z (pc + 3) lv (.int (mnI x y) :: st) cells slots gNN (gH cy base μ)) : G l D cy base own cc nL ret R X Z pc lv (.int y :: .int x :: st) cells slots gNN (gH cy base μ) := by
  intro p e s m args below meth c H locs ls C
  exact va_mmin C.1.1 C.1.2.1 (C.1.2.2.2.1.trans C.2.2.2.2.2.1.symm) C.1.2.2.2.2.1 (C.1.2.2.2.2.2.1 _ hcl.1) (C.1.2.2.2.2.2.1 _ hsv) (C.1.2.2.2.2.2.1 _ hcl.2.2.1) (C.1.2.2.2.2.2.1 _ hcl.2.1) hframes hlocals hc hs hdg (k p e s m args below meth c H locs ls C)
end GMore
theorem uq0 (a b : Nat) : ∀ i, ([3, 5, 51, 144, 145, 147, 167, 170, a + 2, b + 2, 1] : List Nat)[i]? = some 1 → i = 10 := by
  intro i h
  have hl : i < 11 := (List.getElem?_eq_some_iff.mp h).1
  exact match i, hl, h with | 0, _, h => by simp at h | 1, _, h => by simp at h | 2, _, h => by simp at h | 3, _, h => by simp at h | 4, _, h => by simp at h | 5, _, h => by simp at h | 6, _, h => by simp at h | 7, _, h => by simp at h | 8, _, h => by simp at h | 9, _, h => by simp at h | 10, _, h => rfl | i + 11, hl, _ => absurd hl (by omega)
theorem uq186  : ∀ i, ([1, 189, 0, 190, 191, 192, 193, 194, 0, 0, 0, 0, 195, 196, 197, 198, 199, 200] : List Nat)[i]? = some 1 → i = 0 := by
  intro i h
  have hl : i < 18 := (List.getElem?_eq_some_iff.mp h).1
  exact match i, hl, h with | 0, _, h => rfl | 1, _, h => by simp at h | 2, _, h => by simp at h | 3, _, h => by simp at h | 4, _, h => by simp at h | 5, _, h => by simp at h | 6, _, h => by simp at h | 7, _, h => by simp at h | 8, _, h => by simp at h | 9, _, h => by simp at h | 10, _, h => by simp at h | 11, _, h => by simp at h | 12, _, h => by simp at h | 13, _, h => by simp at h | 14, _, h => by simp at h | 15, _, h => by simp at h | 16, _, h => by simp at h | 17, _, h => by simp at h | i + 18, hl, _ => absurd hl (by omega)
theorem gCr_le {d c maxL : Nat} (h : c + 1 ≤ d) (hm : maxL ≤ 21) : gCr (gRm d) c maxL := ⟨h, by show 8 + (maxL + 11) + 40 * c ≤ 40 * d; omega⟩

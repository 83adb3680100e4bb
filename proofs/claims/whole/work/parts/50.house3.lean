/-! house: the whole text -/
def dr0 : Nat → Nat := fun k => if k = 2 ∨ k = 3 then 3 else 0
theorem PlC.congr {μ : Mem} {q : Nat} {d d2 : Nat → Nat} (h : ∀ k, k ≠ 4 → d2 k = d k) (hm : PlC μ q d) : PlC μ q d2 := by
  obtain ⟨h1, h2, h3, h4, h5, h6⟩ := hm
  refine ⟨?_, ?_, ?_, ?_, fun s hs => ?_, fun s hs => ?_⟩
  · rw [h 0 (by omega)]; exact h1
  · rw [h 1 (by omega)]; exact h2
  · rw [h 2 (by omega)]; exact h3
  · rw [h 3 (by omega)]; exact h4
  · rw [h 0 (by omega)] at hs
    rw [h (6 + s) (by omega), h (13 + s) (by omega), h (20 + s) (by omega), h (27 + s) (by omega)]; exact h5 s hs
  · rw [h 1 (by omega)] at hs
    rw [h (34 + s) (by omega), h (39 + s) (by omega), h (44 + s) (by omega)]; exact h6 s hs
theorem PlOk.congr {d d2 : Nat → Nat} (h : ∀ k, k ≠ 4 → d2 k = d k) (hm : PlOk d) : PlOk d2 := by
  obtain ⟨h1, h2, h3, h4, h5, h6⟩ := hm
  refine ⟨?_, ?_, ?_, ?_, fun s hs => ?_, fun s hs => ?_⟩
  · rw [h 0 (by omega)]; exact h1
  · rw [h 1 (by omega)]; exact h2
  · rw [h 2 (by omega)]; exact h3
  · rw [h 3 (by omega)]; exact h4
  · rw [h 0 (by omega)] at hs
    rw [h (6 + s) (by omega), h (13 + s) (by omega), h (20 + s) (by omega), h (27 + s) (by omega)]; exact h5 s hs
  · rw [h 1 (by omega)] at hs
    rw [h (34 + s) (by omega), h (39 + s) (by omega), h (44 + s) (by omega)]; exact h6 s hs
theorem Dr.cnt {q x : Nat} {v w : Mem} {dr : Nat → Nat} (h : Dr q v w dr) : Dr q v (sA w 189 (upd (ga w 189) 4 (nI x))) (fun k => if k = 4 then x else dr k) := by
  obtain ⟨h1, h2, h3, h4, h5, h6⟩ := h
  have e : ∀ k, k ≠ 4 → (fun k => if k = 4 then x else dr k) k = dr k := fun k hk => if_neg hk
  refine ⟨h1.congr e, h2.congr e, ?_, ?_, ?_, fun k hk => ?_⟩
  · rw [e 5 (by omega)]; exact h3
  · rw [e 5 (by omega)]; exact h4
  · rw [e 5 (by omega)]; exact h5
  · rw [ga_at, upd_at]
    show _ = nI (if k = 4 then x else dr k)
    by_cases u : k = 4
    · rw [if_pos u, if_pos u]
    · rw [if_neg u, if_neg u]; exact h6 k hk
def LQ (q : Nat) (m m9 : Mem) (x : (Int32 × Mem) ⊕ (Mem) ⊕ (Int32 × Mem)) (y : Mem ⊕ Mem ⊕ Mem) : Prop := (∃ z z9 dr, x = .inl (nI (dr 4), z) ∧ y = .inr (.inr z9) ∧ E1 q m z ∧ D9 m9 z9 ∧ Dr q z z9 dr ∧ dr 4 ≤ 200) ∨ (∃ z z9, x = .inr (.inl z) ∧ (y = .inl z9 ∨ y = .inr (.inl z9)) ∧ E1 q m z ∧ D9 m9 z9 ∧ SS z z9)
theorem loop_ex {q : Nat} {m m9 : Mem} {tx : Nat → Nat} {len : Nat} (hq : 2 < q) (hl : len ≤ 200) (hb : ∀ i, i < len → tx i ≤ 255) {v0 w0 w : Mem} {dr : Nat → Nat} (hd4 : dr 4 = 0) (hL : LT tx len 0 v0 w0) (hE : E1 q m v0) (hD : D9 m9 w0) (hd : Dr q v0 w0 dr) (hw : f_X9_token w0 = some w) : ∃ x y, iter gFU (f_X4_readInto_b13 q) (0, 0, v0) = some x ∧ iter gFU f_X9_reads_b44 w = some y ∧ LQ q m m9 x y := by
  refine iter_sim (fun (v : Int32 × Int32 × Mem) (w : Mem) => ∃ p dr u, v.1 = nI (dr 4) ∧ v.2.1 = nI (dr 4) ∧ dr 4 ≤ p ∧ E1 q m v.2.2 ∧ D9 m9 u ∧ LT tx len p v.2.2 u ∧ Dr q v.2.2 u dr ∧ f_X9_token u = some w) (LQ q m m9) (fun v => 201 - v.2.1.toNatClampNeg) ?_ gFU (0, 0, v0) w ⟨0, dr, w0, by rw [hd4]; rfl, by rw [hd4]; rfl, by omega, hE, hD, hL, hd, hw⟩ (Nat.lt_of_le_of_lt (Nat.sub_le _ _) (by decide))
  rintro ⟨a, n, v⟩ w ⟨p, dr, u, i1, i2, i3, i4, i5, i6, i7, i8⟩
  dsimp only at i1 i2 i4 i6 i7
  subst i1 i2
  obtain ⟨t1, t2, t3, t4, t5⟩ := i6
  obtain ⟨s, k, e, c, r, z, z9, y1, y9, ⟨a1, a2, a3, a4, a5⟩, ⟨b1, b2, b3, b4, b5⟩, c1, c2, c3, c4, c5, c6⟩ := tok_ex t1 t2 hl hb t3 t4 t5
  obtain rfl : w = z9 := Option.some.inj (i8.symm.trans y9)
  have L1 : LT tx len e z w := ⟨a1.tx t1, b1.tx t2, a2, b2, c3⟩
  have S1 : SS z w := ⟨s, by omega, a3, b4⟩
  have R1 := i7.tok (by omega) a1 b1
  have E_1 := i4.tr (a1.e1 (q := q))
  have D_1 := i5.tr b1.d9
  unfold f_X4_readInto_b13 f_X9_reads_b44
  dsimp only
  rw [if_neg (show ¬ (200 : Int32) < nI (dr 4) from nI_nlt (a := 200) (by omega) (by omega)), y1, Option.bind_some, a4, b3]
  by_cases k0 : k = 0
  · rw [if_pos (show nI k = 0 by rw [k0]; rfl), if_pos (show nI k = 0 by rw [k0]; rfl)]
    exact ⟨_, _, rfl, rfl, Or.inr ⟨_, _, rfl, rfl, Or.inl ⟨z, w, dr, rfl, rfl, E_1, D_1, R1, by omega⟩⟩⟩
  have nk0 : ¬ nI k = 0 := fun z => k0 ((nI_eq (b := 0) (by omega) (by omega)).mp z)
  have hse := c5 k0
  rw [if_neg nk0, if_neg nk0]
  obtain ⟨A, hA, ok, e2, dr2, z2, w2, g1, g9, E2, D2, L2, S2, le2, R2⟩ := item_ex hq L1 S1 hl hb R1 c4 a4 b3 a5 b5 c6
  rw [hA, g1, g9, Option.bind_some]
  unfold stp
  rw [Option.bind_some]
  dsimp only
  cases ok with
  | false =>
    rw [if_pos bi0, if_pos bi0, Option.bind_some, if_pos rfl]
    exact ⟨_, _, rfl, rfl, Or.inr ⟨_, _, rfl, rfl, Or.inr ⟨z2, w2, rfl, Or.inl rfl, E_1.tr E2, D_1.tr D2, S2⟩⟩⟩
  | true =>
  obtain ⟨R2, it⟩ := R2 rfl
  rw [if_neg bi1, if_neg bi1]
  obtain ⟨u1, u2, u3, u4, u5⟩ := L2
  obtain ⟨s3, k3, e3, c', r', z3, w3, y1, y9, ⟨a1, a2, a3, a4, a5⟩, ⟨b1, b2, b3, b4, b5⟩, d1, d2, d3, d4, d5, d6⟩ := tok_ex u1 u2 hl hb u3 u4 u5
  have L3 : LT tx len e3 z3 w3 := ⟨a1.tx u1, b1.tx u2, a2, b2, d3⟩
  have S3 : SS z3 w3 := ⟨s3, by omega, a3, b4⟩
  have R3 := R2.tok (by omega) a1 b1
  have E_3 := (E_1.tr E2).tr (a1.e1 (q := q))
  have D_3 := (D_1.tr D2).tr b1.d9
  unfold f_X4_readStop
  rw [y1, y9, Option.bind_some, Option.bind_some, a4, b3]
  by_cases k3' : k3 = 3
  · rw [if_pos (show nI k3 = 3 by rw [k3']; rfl), if_pos (show nI k3 = 3 by rw [k3']; rfl), Option.bind_some]
    dsimp only
    rw [if_neg (by decide), Option.bind_some]
    dsimp only
    rw [if_neg (by decide), show ldA w3 189 49 4 = some (nI (dr2 4)) from (ldA_nI (i := 4) (by omega) (by omega)).trans (congrArg some (R3.2.2.2.2.2 4 (by omega))), Option.bind_some, nI_1 (dr2 4), show stA w3 189 49 4 (nI (dr2 4 + 1)) = some (sA w3 189 (upd (ga w3 189) 4 (nI (dr2 4 + 1)))) from stA_nI (i := 4) (by omega) (by omega), Option.bind_some]
    have R4 := R3.cnt (x := dr2 4 + 1)
    have D_4 := D_3.sA (f := upd (ga w3 189) 4 (nI (dr2 4 + 1)))
    have L4 : LT tx len e3 z3 (sA w3 189 (upd (ga w3 189) 4 (nI (dr2 4 + 1)))) := ⟨L3.1, (D9.rf.sA : D9 w3 _).tx L3.2.1, L3.2.2⟩
    generalize sA w3 189 (upd (ga w3 189) 4 (nI (dr2 4 + 1))) = U at *
    obtain ⟨_, _, _, _, _, _, w5, _, y9, _⟩ := tok_ex L4.1 L4.2.1 hl hb L4.2.2.1 L4.2.2.2.1 L4.2.2.2.2
    rw [y9, Option.bind_some, nI_1]
    refine ⟨_, _, rfl, rfl, Or.inl ⟨_, _, rfl, rfl, ⟨e3, _, U, ?_, ?_, ?_, E_3, D_4, L4, R4, y9⟩, ?_⟩⟩
    · show nI (dr 4 + 1) = nI (dr2 4 + 1); rw [it]
    · show nI (dr 4 + 1) = nI (dr2 4 + 1); rw [it]
    · show dr2 4 + 1 ≤ e3; omega
    · show 201 - (nI (dr 4 + 1)).toNatClampNeg < 201 - (nI (dr 4)).toNatClampNeg
      rw [nI_clamp (by omega), nI_clamp (by omega)]
      omega
  · have nk3 : ¬ nI k3 = 3 := fun z => k3' ((nI_eq (b := 3) (by omega) (by omega)).mp z)
    rw [if_neg nk3, if_neg nk3, Option.bind_some]
    dsimp only
    rw [if_pos rfl, Option.bind_some]
    dsimp only
    rw [if_pos rfl]
    exact ⟨_, _, rfl, rfl, Or.inr ⟨_, _, rfl, rfl, Or.inr ⟨z3, w3, rfl, Or.inr rfl, E_3, D_3, S3⟩⟩⟩
theorem forget_ok {m : Mem} {q : Nat} (hq : 2 < q) : ∃ z, f_X3_forget m q = some z ∧ E1 q m z ∧ gi z q 7 = 0 ∧ gi z q 8 = 0 ∧ gi z q 9 = 3 ∧ gi z q 10 = 3 ∧ gi z q 11 = 0 ∧ gi z q 12 = 0 := by
  unfold f_X3_forget
  rw [stI_eq, Option.bind_some, stI_eq, Option.bind_some, stI_eq, Option.bind_some, stI_eq, Option.bind_some, stI_eq, Option.bind_some, stI_eq, Option.bind_some]
  refine ⟨_, rfl, (((((E1.rf.si (by omega)).si (by omega)).si (by omega)).si (by omega)).si (by omega)).si (by omega), ?_, ?_, ?_, ?_, ?_, ?_⟩ <;> simp [gi_si]
theorem reads_pre {m9 : Mem} : ∃ w0, D9 m9 w0 ∧ gi w0 186 8 = nI 0 ∧ (∀ k, k < 49 → ga w0 189 k = nI (dr0 k)) ∧ f_X9_reads m9 = (f_X9_token w0).bind fun m7 => (iter gFU f_X9_reads_b44 m7).bind fun z15 => Sum.elim (fun w16 => some ((0 : Int32), w16)) (fun w17 => Sum.elim (fun w18 => some ((0 : Int32), w18)) (fun w19 => some ((1 : Int32), w19)) w17) z15 := by
  obtain ⟨z, z1, z2, z3⟩ := iter_rule (B := f_X9_reads_b2) (v := (0, m9)) (fun (i : Nat) (v : Int32 × Mem) => v.1 = nI i ∧ D9 m9 v.2 ∧ ∀ k, k < i → ga v.2 189 k = nI 0) (fun z => D9 m9 z ∧ ∀ k, k < 49 → ga z 189 k = nI 0) 49 (by omega) (by
    rintro i ⟨a, v⟩ hi ⟨c0, c1, c2⟩
    dsimp only at c0 c1 c2
    subst c0
    unfold f_X9_reads_b2
    dsimp only
    by_cases e : i = 49
    · rw [if_pos (show (49 : Int32) ≤ nI i by rw [e]; decide)]
      exact Or.inr ⟨_, rfl, c1, by rw [← e]; exact c2⟩
    · rw [if_neg (show ¬ (49 : Int32) ≤ nI i from nI_ge (b := 49) (by omega) (by omega)), stA_nI (by omega) (by omega), Option.bind_some, nI_1]
      refine Or.inl ⟨by omega, _, rfl, rfl, c1.sA, fun k hk => ?_⟩
      show ga (sA v 189 _) 189 k = _
      rw [ga_at, upd_at]
      by_cases u : k = i
      · rw [if_pos u]; rfl
      · rw [if_neg u]; exact c2 k (by omega)) ⟨rfl, D9.rf, fun k hk => by omega⟩
  unfold f_X9_reads
  rw [z1, Option.bind_some, show stA z 189 49 2 3 = some (sA z 189 (upd (ga z 189) 2 3)) from stA_nI (i := 2) (by omega) (by omega), Option.bind_some, show stA (sA z 189 (upd (ga z 189) 2 3)) 189 49 3 3 = some (sA (sA z 189 (upd (ga z 189) 2 3)) 189 (upd (ga (sA z 189 (upd (ga z 189) 2 3)) 189) 3 3)) from stA_nI (i := 3) (by omega) (by omega), Option.bind_some, stI_eq, Option.bind_some]
  refine ⟨_, ?_, ?_, fun k hk => ?_, rfl⟩
  · have a : D9 m9 (sA (sA z 189 (upd (ga z 189) 2 3)) 189 (upd (ga (sA z 189 (upd (ga z 189) 2 3)) 189) 3 3)) := z2.sA.sA
    exact a.tr ((C9.rf _).si (by omega) (by omega)).d9
  · rw [gi_si, if_pos ⟨rfl, rfl⟩]; rfl
  · rw [ga_si, ga_at, upd_at, ga_at, upd_at]
    unfold dr0
    by_cases u : k = 3
    · rw [if_pos u, if_pos (Or.inr u)]; rfl
    · rw [if_neg u]
      by_cases u2 : k = 2
      · rw [if_pos u2, if_pos (Or.inl u2)]; rfl
      · rw [if_neg u2, if_neg (by omega)]; exact z3 k hk
theorem dr0_ok : PlOk dr0 := ⟨by decide, by decide, by decide, by decide, fun s hs => absurd hs (Nat.not_lt_zero _), fun s hs => absurd hs (Nat.not_lt_zero _)⟩
theorem read_ex {q : Nat} {m m9 : Mem} {tx : Nat → Nat} {len : Nat} (hq : 2 < q) (hT : Tx1 m tx len) (hT9 : Tx9 m9 tx len) (hl : len ≤ 200) (hb : ∀ i, i < len → tx i ≤ 255) : (∃ dr z z9, f_X4_readInto m q = some (nI (dr 4), z) ∧ f_X9_reads m9 = some (1, z9) ∧ E1 q m z ∧ D9 m9 z9 ∧ Dr q z z9 dr ∧ dr 4 ≤ 200) ∨ (∃ s z z9, s ≤ 200 ∧ f_X4_readInto m q = some (-10 - nI s, z) ∧ f_X9_reads m9 = some (0, z9) ∧ E1 q m z ∧ D9 m9 z9 ∧ gi z9 186 10 = nI s) := by
  obtain ⟨z0, f1, f2, f3, f4, f5, f6, f7, f8⟩ := forget_ok (m := m) hq
  obtain ⟨w0, g1, g2, g3, g4⟩ := reads_pre (m9 := m9)
  unfold f_X4_readInto
  rw [f1, Option.bind_some, stI_eq, Option.bind_some, g4]
  have E_0 : E1 q m (si z0 1 2 0) := f2.tr ((C1.rf z0).si (by omega) (by omega)).e1
  have gq : ∀ j, gi (si z0 1 2 0) q j = gi z0 q j := fun j => by rw [gi_si, if_neg (by omega)]
  have L0 : LT tx len 0 (si z0 1 2 0) w0 := ⟨E_0.tx hq hT, g1.tx hT9, by rw [gi_si, if_pos ⟨rfl, rfl⟩]; rfl, g2, by omega⟩
  have R0 : Dr q (si z0 1 2 0) w0 dr0 := ⟨⟨by rw [gq]; exact f3, by rw [gq]; exact f4, by rw [gq]; exact f5, by rw [gq]; exact f6, fun s hs => absurd hs (Nat.not_lt_zero _), fun s hs => absurd hs (Nat.not_lt_zero _)⟩, dr0_ok, by decide, by rw [gq]; exact f7, by rw [gq]; exact f8, g3⟩
  obtain ⟨_, _, _, _, _, _, w5, _, y9, _⟩ := tok_ex L0.1 L0.2.1 hl hb L0.2.2.1 L0.2.2.2.1 L0.2.2.2.2
  obtain ⟨x, y, h1, h2, h3⟩ := loop_ex (m := m) (m9 := m9) hq hl hb (dr := dr0) rfl L0 E_0 g1 R0 y9
  rw [h1, y9, Option.bind_some, Option.bind_some, h2, Option.bind_some]
  rcases h3 with ⟨z, z9, dr, rfl, rfl, h4, h5, h6, h7⟩ | ⟨z, z9, rfl, h8, h4, h5, s, s1, s2, s3⟩
  · exact Or.inl ⟨dr, z, z9, rfl, rfl, h4, h5, h6, h7⟩
  · refine Or.inr ⟨s, z, z9, s1, ?_, ?_, h4, h5, s3⟩
    · rw [← s2]; rfl
    · rcases h8 with rfl | rfl <;> rfl

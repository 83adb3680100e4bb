/-! the invariant: data (numbers), what the class holds of it, what the reference holds of it, its bounds -/
def MoC (μ : Mem) (ns q : Nat) (f : Nat → Nat) : Prop := (∀ s, s < ns → ga μ (q + 1) s = nI (f s)) ∧ (∀ s, s < ns → ga μ (q + 2) s = nI (f (7 + s))) ∧ (∀ k, k < 49 → ga μ (q + 3) k = nI (f (14 + k))) ∧ gi μ q 3 = nI (f 63) ∧ gi μ q 4 = nI (f 64)
def MoM (a : Nat → Int32) (off : Nat) (f : Nat → Nat) : Prop := ∀ k, k < 65 → a (off + k) = nI (f k)
def LeC (μ : Mem) (ns o : Nat) (f : Nat → Nat) (kn : Nat) (ps : Nat → Nat → Nat) : Prop := MoC μ ns (o + 1) f ∧ gi μ o 2 = nI kn ∧ ∃ nx, nx < 10 ∧ gi μ o 3 = nI nx ∧ ∀ j, j < kn → MoC μ ns (o + 6 + 4 * ((nx + 10 - kn + j) % 10)) (ps j)
def LeM (a : Nat → Int32) (off : Nat) (f : Nat → Nat) (kn : Nat) (ps : Nat → Nat → Nat) : Prop := MoM a off f ∧ a (off + 65) = nI kn ∧ ∀ j, j < kn → MoM a (off + 66 + 65 * j) (ps j)
def MoOk (pl : Nat → Nat) (c : Nat) (f : Nat → Nat) : Prop := (∀ s, s < 7 → f s ≤ 999) ∧ (∀ s, s < 7 → f (7 + s) ≤ pl 2) ∧ (∀ k, k < 49 → f (14 + k) ≤ 99 * c) ∧ f 63 ≤ 999999 ∧ f 64 ≤ 99
def PlOk (pl : Nat → Nat) : Prop := pl 0 ≤ 7 ∧ pl 1 ≤ 5 ∧ pl 2 ≤ 9 ∧ pl 3 ≤ 9 ∧ (∀ s, s < pl 0 → pl (6 + s) ≤ 6 ∧ pl (13 + s) ≤ 6 ∧ pl (6 + s) ≠ pl (13 + s) ∧ 1 ≤ pl (20 + s) ∧ pl (20 + s) ≤ 99 ∧ pl (27 + s) ≤ 40) ∧ ∀ p, p < pl 1 → pl (34 + p) ≤ 1 ∧ pl (39 + p) ≤ 10 ∧ pl (44 + p) ≤ 9
def PlC (μ : Mem) (q : Nat) (pl : Nat → Nat) : Prop := gi μ q 7 = nI (pl 0) ∧ gi μ q 8 = nI (pl 1) ∧ gi μ q 9 = nI (pl 2) ∧ gi μ q 10 = nI (pl 3) ∧ (∀ s, s < pl 0 → ga μ (q + 1) s = nI (pl (6 + s)) ∧ ga μ (q + 2) s = nI (pl (13 + s)) ∧ ga μ (q + 3) s = nI (pl (20 + s)) ∧ ga μ (q + 4) s = nI (pl (27 + s))) ∧ ∀ p, p < pl 1 → ga μ (q + 5) p = nI (pl (34 + p)) ∧ ga μ (q + 6) p = nI (pl (39 + p)) ∧ ga μ (q + 7) p = nI (pl (44 + p))
def PlM (μ : Mem) (pl : Nat → Nat) : Prop := ∀ k, k < 49 → ga μ 188 k = nI (pl k)
def InvC (μ : Mem) (tx : Nat → Nat) (len : Nat) (pl f : Nat → Nat) (kn : Nat) (ps : Nat → Nat → Nat) (b : Nat → Nat) (gf : Nat → Nat → Nat) (gk : Nat → Nat) (gp : Nat → Nat → Nat → Nat) (tr : Int64) : Prop :=
  (isPl (gpl μ) = true ∧ isPl (gdr μ) = true ∧ gpl μ ≠ gdr μ) ∧ (gi μ 1 1 = nI len ∧ ∀ i, i < len → ga μ 2 i = nI (tx i)) ∧ PlC μ (gpl μ) pl ∧ LeC μ (pl 0) 3 f kn ps ∧ (∀ e, e < 2 → ga μ 142 e = nI (b e) ∧ (b e = 1 → LeC μ (pl 0) (50 + 46 * e) (gf e) (gk e) (gp e))) ∧ gl μ 0 = tr
def InvM (μ : Mem) (tx : Nat → Nat) (len : Nat) (pl f : Nat → Nat) (kn : Nat) (ps : Nat → Nat → Nat) (b : Nat → Nat) (gf : Nat → Nat → Nat) (gk : Nat → Nat) (gp : Nat → Nat → Nat → Nat) (tr : Int64) : Prop :=
  (gi μ 186 2 = nI len ∧ ∀ i, i < len → ga μ 187 i = nI (tx i)) ∧ PlM μ pl ∧ LeM (ga μ 190) 0 f kn ps ∧ (∀ e, e < 2 → ga μ 192 e = nI (b e) ∧ (b e = 1 → LeM (ga μ 191) (716 * e) (gf e) (gk e) (gp e))) ∧ gl μ 186 = tr ∧ ga μ 196 0 = nI 0
def InvO (c : Nat) (tx : Nat → Nat) (len : Nat) (pl f : Nat → Nat) (kn : Nat) (ps : Nat → Nat → Nat) (b : Nat → Nat) (gf : Nat → Nat → Nat) (gk : Nat → Nat) (gp : Nat → Nat → Nat → Nat) : Prop :=
  (len ≤ 200 ∧ ∀ i, i < len → tx i ≤ 255) ∧ PlOk pl ∧ (MoOk pl c f ∧ kn ≤ 10 ∧ ∀ j, j < kn → MoOk pl c (ps j)) ∧ ∀ e, e < 2 → b e ≤ 1 ∧ (b e = 1 → MoOk pl c (gf e) ∧ gk e ≤ 10 ∧ ∀ j, j < gk e → MoOk pl c (gp e j))
def Inv (c : Nat) (μ : Mem) : Prop := ∃ tx len pl f kn ps b gf gk gp tr, InvC μ tx len pl f kn ps b gf gk gp tr ∧ InvM μ tx len pl f kn ps b gf gk gp tr ∧ InvO c tx len pl f kn ps b gf gk gp
/-- what stays when a call only asks -/
def SameC (μ μ2 : Mem) : Prop := gpl μ2 = gpl μ ∧ gdr μ2 = gdr μ ∧ gl μ2 0 = gl μ 0 ∧ gi μ2 1 1 = gi μ 1 1 ∧ ∀ k, (1 < k ∧ k < 143 ∨ 170 ≤ k ∧ k < 186) → gi μ2 k = gi μ k ∧ ga μ2 k = ga μ k
def SameM (μ μ2 : Mem) : Prop := gl μ2 186 = gl μ 186 ∧ gi μ2 186 2 = gi μ 186 2 ∧ ga μ2 187 = ga μ 187 ∧ ga μ2 188 = ga μ 188 ∧ ga μ2 190 = ga μ 190 ∧ ga μ2 191 = ga μ 191 ∧ ga μ2 192 = ga μ 192 ∧ ga μ2 196 0 = ga μ 196 0
theorem SameC.rf (μ : Mem) : SameC μ μ := ⟨rfl, rfl, rfl, rfl, fun _ _ => ⟨rfl, rfl⟩⟩
theorem SameM.rf (μ : Mem) : SameM μ μ := ⟨rfl, rfl, rfl, rfl, rfl, rfl, rfl, rfl⟩
theorem SameC.tr {a b c : Mem} (h1 : SameC a b) (h2 : SameC b c) : SameC a c := ⟨h2.1.trans h1.1, h2.2.1.trans h1.2.1, h2.2.2.1.trans h1.2.2.1, h2.2.2.2.1.trans h1.2.2.2.1, fun k hk => ⟨(h2.2.2.2.2 k hk).1.trans (h1.2.2.2.2 k hk).1, (h2.2.2.2.2 k hk).2.trans (h1.2.2.2.2 k hk).2⟩⟩
theorem SameM.tr {a b c : Mem} (h1 : SameM a b) (h2 : SameM b c) : SameM a c := ⟨h2.1.trans h1.1, h2.2.1.trans h1.2.1, h2.2.2.1.trans h1.2.2.1, h2.2.2.2.1.trans h1.2.2.2.1, h2.2.2.2.2.1.trans h1.2.2.2.2.1, h2.2.2.2.2.2.1.trans h1.2.2.2.2.2.1, h2.2.2.2.2.2.2.1.trans h1.2.2.2.2.2.2.1, h2.2.2.2.2.2.2.2.trans h1.2.2.2.2.2.2.2⟩
theorem MoC.same {μ μ2 : Mem} (h : ∀ k, (1 < k ∧ k < 143 ∨ 170 ≤ k ∧ k < 186) → gi μ2 k = gi μ k ∧ ga μ2 k = ga μ k) {ns q : Nat} {f : Nat → Nat} (hq : 3 ≤ q) (hq2 : q + 3 < 143) (hm : MoC μ ns q f) : MoC μ2 ns q f := by
  obtain ⟨h1, h2, h3, h4, h5⟩ := hm
  have e0 := h q (Or.inl ⟨by omega, by omega⟩)
  have e1 := h (q + 1) (Or.inl ⟨by omega, by omega⟩)
  have e2 := h (q + 2) (Or.inl ⟨by omega, by omega⟩)
  have e3 := h (q + 3) (Or.inl ⟨by omega, by omega⟩)
  refine ⟨fun s hs => ?_, fun s hs => ?_, fun k hk => ?_, ?_, ?_⟩
  · rw [e1.2]; exact h1 s hs
  · rw [e2.2]; exact h2 s hs
  · rw [e3.2]; exact h3 k hk
  · rw [e0.1]; exact h4
  · rw [e0.1]; exact h5
theorem LeC.same {μ μ2 : Mem} (h : ∀ k, (1 < k ∧ k < 143 ∨ 170 ≤ k ∧ k < 186) → gi μ2 k = gi μ k ∧ ga μ2 k = ga μ k) {ns o : Nat} {f : Nat → Nat} {kn : Nat} {ps : Nat → Nat → Nat} (ho : 3 ≤ o) (ho2 : o ≤ 96) (hm : LeC μ ns o f kn ps) : LeC μ2 ns o f kn ps := by
  obtain ⟨h1, h2, nx, hn, h3, h4⟩ := hm
  have e0 := h o (Or.inl ⟨by omega, by omega⟩)
  refine ⟨h1.same h (by omega) (by omega), by rw [e0.1]; exact h2, nx, hn, by rw [e0.1]; exact h3, fun j hj => (h4 j hj).same h (by omega) (by omega)⟩
theorem isPl_cases {q : Nat} (h : isPl q = true) : q = 170 ∨ q = 178 := by
  have : q ∈ [170, 178] := List.contains_iff_mem.mp h
  simpa using this
theorem PlC.same {μ μ2 : Mem} (h : ∀ k, (1 < k ∧ k < 143 ∨ 170 ≤ k ∧ k < 186) → gi μ2 k = gi μ k ∧ ga μ2 k = ga μ k) {q : Nat} {pl : Nat → Nat} (hq : isPl q = true) (hm : PlC μ q pl) : PlC μ2 q pl := by
  have hc := isPl_cases hq
  obtain ⟨h1, h2, h3, h4, h5, h6⟩ := hm
  have e0 := h q (by omega)
  have e1 := h (q + 1) (by omega)
  have e2 := h (q + 2) (by omega)
  have e3 := h (q + 3) (by omega)
  have e4 := h (q + 4) (by omega)
  have e5 := h (q + 5) (by omega)
  have e6 := h (q + 6) (by omega)
  have e7 := h (q + 7) (by omega)
  refine ⟨by rw [e0.1]; exact h1, by rw [e0.1]; exact h2, by rw [e0.1]; exact h3, by rw [e0.1]; exact h4, fun s hs => ?_, fun p hp => ?_⟩
  · rw [e1.2, e2.2, e3.2, e4.2]; exact h5 s hs
  · rw [e5.2, e6.2, e7.2]; exact h6 p hp
theorem InvC.same {μ μ2 : Mem} (h : SameC μ μ2) {tx : Nat → Nat} {len : Nat} {pl f : Nat → Nat} {kn : Nat} {ps : Nat → Nat → Nat} {b : Nat → Nat} {gf : Nat → Nat → Nat} {gk : Nat → Nat} {gp : Nat → Nat → Nat → Nat} {tr : Int64} (hm : InvC μ tx len pl f kn ps b gf gk gp tr) : InvC μ2 tx len pl f kn ps b gf gk gp tr := by
  obtain ⟨s1, s2, s3, s4, s5⟩ := h
  obtain ⟨⟨a1, a2, a3⟩, ⟨b1, b2⟩, c1, d1, e1, f1⟩ := hm
  refine ⟨by rw [s1, s2]; exact ⟨a1, a2, a3⟩, ⟨by rw [s4]; exact b1, ?_⟩, by rw [s1]; exact c1.same s5 a1, d1.same s5 (by omega) (by omega), fun e he => ?_, by rw [s3]; exact f1⟩
  · rw [(s5 2 (by omega)).2]; exact b2
  · rw [(s5 142 (by omega)).2]
    exact ⟨(e1 e he).1, fun hb => ((e1 e he).2 hb).same s5 (by omega) (by omega)⟩
theorem InvM.same {μ μ2 : Mem} (h : SameM μ μ2) {tx : Nat → Nat} {len : Nat} {pl f : Nat → Nat} {kn : Nat} {ps : Nat → Nat → Nat} {b : Nat → Nat} {gf : Nat → Nat → Nat} {gk : Nat → Nat} {gp : Nat → Nat → Nat → Nat} {tr : Int64} (hm : InvM μ tx len pl f kn ps b gf gk gp tr) : InvM μ2 tx len pl f kn ps b gf gk gp tr := by
  obtain ⟨s1, s2, s3, s4, s5, s6, s7, s8⟩ := h
  obtain ⟨⟨b1, b2⟩, c1, d1, e1, f1, f2⟩ := hm
  refine ⟨⟨by rw [s2]; exact b1, by rw [s3]; exact b2⟩, by unfold PlM; rw [s4]; exact c1, by rw [s5]; exact d1, fun e he => ?_, by rw [s1]; exact f1, by rw [s8]; exact f2⟩
  rw [s7, s6]
  exact e1 e he
theorem MoOk.up {pl : Nat → Nat} {c : Nat} {f : Nat → Nat} (h : MoOk pl c f) : MoOk pl (c + 1) f := ⟨h.1, h.2.1, fun k hk => by have := h.2.2.1 k hk; omega, h.2.2.2⟩
theorem InvO.up {c : Nat} {tx : Nat → Nat} {len : Nat} {pl f : Nat → Nat} {kn : Nat} {ps : Nat → Nat → Nat} {b : Nat → Nat} {gf : Nat → Nat → Nat} {gk : Nat → Nat} {gp : Nat → Nat → Nat → Nat} (h : InvO c tx len pl f kn ps b gf gk gp) : InvO (c + 1) tx len pl f kn ps b gf gk gp := by
  obtain ⟨h1, h2, ⟨h3, h4, h5⟩, h6⟩ := h
  exact ⟨h1, h2, ⟨h3.up, h4, fun j hj => (h5 j hj).up⟩, fun e he => ⟨(h6 e he).1, fun hb => ⟨((h6 e he).2 hb).1.up, ((h6 e he).2 hb).2.1, fun j hj => (((h6 e he).2 hb).2.2 j hj).up⟩⟩⟩
theorem Inv.up {c : Nat} {μ : Mem} (h : Inv c μ) : Inv (c + 1) μ := by
  obtain ⟨tx, len, pl, f, kn, ps, b, gf, gk, gp, tr, h1, h2, h3⟩ := h
  exact ⟨tx, len, pl, f, kn, ps, b, gf, gk, gp, tr, h1, h2, h3.up⟩
theorem Inv.same {c : Nat} {μ μ2 : Mem} (h : Inv c μ) (hc : SameC μ μ2) (hm : SameM μ μ2) : Inv (c + 1) μ2 := by
  obtain ⟨tx, len, pl, f, kn, ps, b, gf, gk, gp, tr, h1, h2, h3⟩ := h
  exact ⟨tx, len, pl, f, kn, ps, b, gf, gk, gp, tr, h1.same hc, h2.same hm, h3.up⟩

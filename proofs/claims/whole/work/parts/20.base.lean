/-! pure rows: memory, checked reads and writes, loops -/
theorem gi_si (μ : Mem) (k j k2 j2 : Nat) (v : Int32) : gi (si μ k j v) k2 j2 = if k2 = k ∧ j2 = j then v else gi μ k2 j2 := by
  by_cases h1 : k2 = k
  · subst h1
    by_cases h2 : j2 = j
    · subst h2; simp [gi, si, va_up]
    · simp [gi, si, va_up, h2]
  · simp [gi, si, va_up, h1]
theorem ga_si (μ : Mem) (k j k2 : Nat) (v : Int32) : ga (si μ k j v) k2 = ga μ k2 := rfl
theorem gl_si (μ : Mem) (k j k2 : Nat) (v : Int32) : gl (si μ k j v) k2 = gl μ k2 := rfl
theorem gpl_si (μ : Mem) (k j : Nat) (v : Int32) : gpl (si μ k j v) = gpl μ := rfl
theorem gdr_si (μ : Mem) (k j : Nat) (v : Int32) : gdr (si μ k j v) = gdr μ := rfl
theorem gi_sA (μ : Mem) (k k2 j2 : Nat) (f : Nat → Int32) : gi (sA μ k f) k2 j2 = gi μ k2 j2 := rfl
theorem ga_sA (μ : Mem) (k k2 : Nat) (f : Nat → Int32) : ga (sA μ k f) k2 = if k2 = k then f else ga μ k2 := by
  by_cases h : k2 = k
  · subst h; simp [ga, sA, va_up]
  · simp [ga, sA, va_up, h]
theorem gl_sA (μ : Mem) (k k2 : Nat) (f : Nat → Int32) : gl (sA μ k f) k2 = gl μ k2 := rfl
theorem gpl_sA (μ : Mem) (k : Nat) (f : Nat → Int32) : gpl (sA μ k f) = gpl μ := rfl
theorem gdr_sA (μ : Mem) (k : Nat) (f : Nat → Int32) : gdr (sA μ k f) = gdr μ := rfl
theorem gi_sl (μ : Mem) (k k2 j2 : Nat) (v : Int64) : gi (sl μ k v) k2 j2 = gi μ k2 j2 := rfl
theorem ga_sl (μ : Mem) (k k2 : Nat) (v : Int64) : ga (sl μ k v) k2 = ga μ k2 := rfl
theorem gl_sl (μ : Mem) (k k2 : Nat) (v : Int64) : gl (sl μ k v) k2 = if k2 = k then v else gl μ k2 := by
  by_cases h : k2 = k
  · subst h; simp [gl, sl, va_up]
  · simp [gl, sl, va_up, h]
theorem gpl_sl (μ : Mem) (k : Nat) (v : Int64) : gpl (sl μ k v) = gpl μ := rfl
theorem gdr_sl (μ : Mem) (k : Nat) (v : Int64) : gdr (sl μ k v) = gdr μ := rfl
theorem gi_spl (μ : Mem) (p k2 j2 : Nat) : gi (spl μ p) k2 j2 = gi μ k2 j2 := rfl
theorem ga_spl (μ : Mem) (p k2 : Nat) : ga (spl μ p) k2 = ga μ k2 := rfl
theorem gl_spl (μ : Mem) (p k2 : Nat) : gl (spl μ p) k2 = gl μ k2 := rfl
theorem gpl_spl (μ : Mem) (p : Nat) : gpl (spl μ p) = p := rfl
theorem gdr_spl (μ : Mem) (p : Nat) : gdr (spl μ p) = gdr μ := rfl
theorem gi_sdr (μ : Mem) (p k2 j2 : Nat) : gi (sdr μ p) k2 j2 = gi μ k2 j2 := rfl
theorem ga_sdr (μ : Mem) (p k2 : Nat) : ga (sdr μ p) k2 = ga μ k2 := rfl
theorem gl_sdr (μ : Mem) (p k2 : Nat) : gl (sdr μ p) k2 = gl μ k2 := rfl
theorem gpl_sdr (μ : Mem) (p : Nat) : gpl (sdr μ p) = gpl μ := rfl
theorem gdr_sdr (μ : Mem) (p : Nat) : gdr (sdr μ p) = p := rfl
theorem upd_at (f : Nat → Int32) (k j : Nat) (x : Int32) : upd f k x j = if j = k then x else f j := rfl
theorem lit_nI (n : Nat) : (@OfNat.ofNat Int32 n Int32.instOfNat) = nI n := rfl
theorem ck_nI {i n : Nat} (h : i < n) (hn : n ≤ 2147483647) : ck (nI i) n = true := by
  simp only [ck, Bool.and_eq_true, decide_eq_true_eq]
  exact ⟨nI_pos' (by omega), by rw [nI_clamp (by omega)]; exact h⟩
theorem ck_nI_out {i n : Nat} (h : n ≤ i) (hn : i ≤ 2147483647) : ck (nI i) n = false := by
  have : ¬ (nI i).toNatClampNeg < n := by rw [nI_clamp (by omega)]; omega
  simp [ck, this]
theorem ck_nat {a : Int32} {n : Nat} (h : ck a n = true) (hn : n ≤ 2147483647) : ∃ j, j < n ∧ a = nI j := by
  simp only [ck, Bool.and_eq_true, decide_eq_true_eq] at h
  obtain ⟨j, hj, rfl⟩ := nI_of (Int32.not_lt.mpr h.1)
  refine ⟨j, ?_, rfl⟩
  have h2 := h.2
  rw [nI_clamp (by omega)] at h2
  exact h2
theorem ck_le {a : Int32} {n m : Nat} (h : ck a n = true) (hm : n ≤ m) : ck a m = true := by
  simp only [ck, Bool.and_eq_true, decide_eq_true_eq] at h ⊢
  exact ⟨h.1, by omega⟩
theorem ldA_nI {μ : Mem} {k n i : Nat} (h : i < n) (hn : n ≤ 2147483647) : ldA μ k n (nI i) = some (ga μ k i) := by
  unfold ldA
  rw [ck_nI h hn, nI_clamp (by omega)]
  rfl
theorem stA_nI {μ : Mem} {k n i : Nat} {v : Int32} (h : i < n) (hn : n ≤ 2147483647) : stA μ k n (nI i) v = some (sA μ k (upd (ga μ k) i v)) := by
  unfold stA
  rw [ck_nI h hn, nI_clamp (by omega)]
  rfl
theorem stI_eq {μ : Mem} {k j : Nat} {v : Int32} : stI μ k j v = some (si μ k j v) := rfl
theorem stL_eq {μ : Mem} {k : Nat} {v : Int64} : stL μ k v = some (sl μ k v) := rfl
theorem rfG_eq {q : Nat} {ok : Nat → Bool} (h : ok q = true) : rfG q ok = some q := by unfold rfG; rw [h]; rfl
/-- a comparison of an arbitrary int with a bound -/
theorem int_range (a : Int32) {n : Nat} (hn : n ≤ 2147483647) : (a < 0 ∧ ck a n = false) ∨ (¬ a < 0 ∧ nI n ≤ a ∧ ck a n = false) ∨ ∃ j, j < n ∧ a = nI j ∧ ck a n = true := by
  by_cases h0 : a < 0
  · refine Or.inl ⟨h0, ?_⟩
    have : ¬ (0 : Int32) ≤ a := Int32.not_le.mpr h0
    simp [ck, this]
  · obtain ⟨j, hj, rfl⟩ := nI_of h0
    by_cases hjn : j < n
    · exact Or.inr (Or.inr ⟨j, hjn, rfl, ck_nI hjn hn⟩)
    · exact Or.inr (Or.inl ⟨h0, nI_le (by omega) (by omega), ck_nI_out (by omega) (by omega)⟩)
def bi (b : Bool) : Int32 := if b then 1 else 0
theorem bi_t : bi true = 1 := rfl
theorem bi_f : bi false = 0 := rfl
theorem bz_bi (b : Bool) : bz (bi b) = some (bi b) := by cases b <;> rfl
theorem bi_eq0 (b : Bool) : (bi b = 0) ↔ b = false := by cases b <;> simp [bi]
/-- loops told by their states -/
theorem iter_for {V E : Type} {B : V → Option (V ⊕ E)} (st : Nat → V) (N : Nat) (e : E) (hs : ∀ i, i < N → B (st i) = some (.inl (st (i + 1)))) (he : B (st N) = some (.inr e)) : ∀ n, N < n → iter n B (st 0) = some e := by
  have key : ∀ (k n : Nat), k ≤ N → N - k < n → iter n B (st k) = some e := by
    intro k n
    induction n generalizing k with
    | zero => intro _ h; omega
    | succ n ih =>
      intro hk hn
      unfold iter
      by_cases hkN : k = N
      · subst hkN; rw [he]
      · rw [hs k (by omega)]
        exact ih (k + 1) (by omega) (by omega)
  intro n hn
  exact key 0 n (Nat.zero_le _) (by omega)
theorem iter_forU {V E : Type} {B : V → Option (V ⊕ E)} (st : Nat → V) (N : Nat) (e : E) {v : V} (hv : v = st 0) (hN : N < 1000000000000) (hs : ∀ i, i < N → B (st i) = some (.inl (st (i + 1)))) (he : B (st N) = some (.inr e)) : iter gFU B v = some e := by
  subst hv
  exact iter_for st N e hs he gFU hN
theorem iter_done {V E : Type} {B : V → Option (V ⊕ E)} {v : V} {e : E} (he : B v = some (.inr e)) : iter gFU B v = some e := iter_forU (fun _ => v) 0 e rfl (by decide) (fun i hi => absurd hi (by omega)) he

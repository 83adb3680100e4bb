/-! what is done: frames, moments copied, the ledger and the reference's row of moments -/
def Fr (S : Nat → Prop) (μ μ2 : Mem) : Prop := gpl μ2 = gpl μ ∧ gdr μ2 = gdr μ ∧ (∀ k, gl μ2 k = gl μ k) ∧ ∀ k, ¬ S k → gi μ2 k = gi μ k ∧ ga μ2 k = ga μ k
theorem Fr.rf {S : Nat → Prop} {μ : Mem} : Fr S μ μ := ⟨rfl, rfl, fun _ => rfl, fun _ _ => ⟨rfl, rfl⟩⟩
theorem Fr.tr {S : Nat → Prop} {a b c : Mem} (h1 : Fr S a b) (h2 : Fr S b c) : Fr S a c := ⟨h2.1.trans h1.1, h2.2.1.trans h1.2.1, fun k => (h2.2.2.1 k).trans (h1.2.2.1 k), fun k hk => ⟨(h2.2.2.2 k hk).1.trans (h1.2.2.2 k hk).1, (h2.2.2.2 k hk).2.trans (h1.2.2.2 k hk).2⟩⟩
theorem Fr.mono {S T : Nat → Prop} {a b : Mem} (h : Fr S a b) (hs : ∀ k, S k → T k) : Fr T a b := ⟨h.1, h.2.1, h.2.2.1, fun k hk => h.2.2.2 k (fun q => hk (hs k q))⟩
theorem Fr.si {S : Nat → Prop} {μ : Mem} {k j : Nat} {v : Int32} (hk : S k) : Fr S μ (si μ k j v) := by
  refine ⟨rfl, rfl, fun _ => rfl, fun q hq => ⟨?_, rfl⟩⟩
  funext i
  rw [gi_si, if_neg (fun e => hq (by rw [e.1]; exact hk))]
theorem Fr.sA {S : Nat → Prop} {μ : Mem} {k : Nat} {f : Nat → Int32} (hk : S k) : Fr S μ (sA μ k f) := by
  refine ⟨rfl, rfl, fun _ => rfl, fun q hq => ⟨rfl, ?_⟩⟩
  rw [ga_sA, if_neg (fun e => hq (by rw [e]; exact hk))]
theorem Fr.sameM {S : Nat → Prop} {μ μ2 : Mem} (h : Fr S μ μ2) (hs : ∀ k, S k → k < 186) : SameM μ μ2 := by
  have g : ∀ k, 186 ≤ k → gi μ2 k = gi μ k ∧ ga μ2 k = ga μ k := fun k hk => h.2.2.2 k (fun q => absurd (hs k q) (by omega))
  exact ⟨h.2.2.1 186, by rw [(g 186 (by omega)).1], (g 187 (by omega)).2, (g 188 (by omega)).2, (g 190 (by omega)).2, (g 191 (by omega)).2, (g 192 (by omega)).2, by rw [(g 196 (by omega)).2]⟩
theorem Fr.sameC {S : Nat → Prop} {μ μ2 : Mem} (h : Fr S μ μ2) (hs : ∀ k, S k → 143 ≤ k ∧ (k < 170 ∨ 186 ≤ k)) : SameC μ μ2 := by
  have g : ∀ k, k < 143 ∨ 170 ≤ k ∧ k < 186 → gi μ2 k = gi μ k ∧ ga μ2 k = ga μ k := fun k hk => h.2.2.2 k (fun q => by have := hs k q; omega)
  exact ⟨h.1, h.2.1, h.2.2.1 0, by rw [(g 1 (by omega)).1], fun k hk => g k (by omega)⟩
theorem MoC.fr {S : Nat → Prop} {μ μ2 : Mem} (h : Fr S μ μ2) {ns q : Nat} {f : Nat → Nat} (h0 : ¬ S q) (h1 : ¬ S (q + 1)) (h2 : ¬ S (q + 2)) (h3 : ¬ S (q + 3)) (hm : MoC μ ns q f) : MoC μ2 ns q f := by
  obtain ⟨m1, m2, m3, m4, m5⟩ := hm
  refine ⟨?_, ?_, ?_, ?_, ?_⟩
  · rw [(h.2.2.2 _ h1).2]; exact m1
  · rw [(h.2.2.2 _ h2).2]; exact m2
  · rw [(h.2.2.2 _ h3).2]; exact m3
  · rw [(h.2.2.2 _ h0).1]; exact m4
  · rw [(h.2.2.2 _ h0).1]; exact m5
theorem LeC.fr {S : Nat → Prop} {μ μ2 : Mem} (h : Fr S μ μ2) {ns o : Nat} {f : Nat → Nat} {kn : Nat} {ps : Nat → Nat → Nat} (hs : ∀ k, o ≤ k → k < o + 46 → ¬ S k) (hm : LeC μ ns o f kn ps) : LeC μ2 ns o f kn ps := by
  obtain ⟨m1, m2, nx, hn, m3, m4⟩ := hm
  refine ⟨m1.fr h (hs _ (by omega) (by omega)) (hs _ (by omega) (by omega)) (hs _ (by omega) (by omega)) (hs _ (by omega) (by omega)), ?_, nx, hn, ?_, fun j hj => (m4 j hj).fr h (hs _ (by omega) (by omega)) (hs _ (by omega) (by omega)) (hs _ (by omega) (by omega)) (hs _ (by omega) (by omega))⟩
  · rw [(h.2.2.2 _ (hs o (by omega) (by omega))).1]; exact m2
  · rw [(h.2.2.2 _ (hs o (by omega) (by omega))).1]; exact m3
theorem PlC.fr {S : Nat → Prop} {μ μ2 : Mem} (h : Fr S μ μ2) {q : Nat} {pl : Nat → Nat} (hs : ∀ k, q ≤ k → k < q + 8 → ¬ S k) (hm : PlC μ q pl) : PlC μ2 q pl := by
  obtain ⟨h1, h2, h3, h4, h5, h6⟩ := hm
  have e0 := h.2.2.2 q (hs _ (by omega) (by omega))
  have e1 := h.2.2.2 (q + 1) (hs _ (by omega) (by omega))
  have e2 := h.2.2.2 (q + 2) (hs _ (by omega) (by omega))
  have e3 := h.2.2.2 (q + 3) (hs _ (by omega) (by omega))
  have e4 := h.2.2.2 (q + 4) (hs _ (by omega) (by omega))
  have e5 := h.2.2.2 (q + 5) (hs _ (by omega) (by omega))
  have e6 := h.2.2.2 (q + 6) (hs _ (by omega) (by omega))
  have e7 := h.2.2.2 (q + 7) (hs _ (by omega) (by omega))
  refine ⟨by rw [e0.1]; exact h1, by rw [e0.1]; exact h2, by rw [e0.1]; exact h3, by rw [e0.1]; exact h4, fun s hs => ?_, fun p hp => ?_⟩
  · rw [e1.2, e2.2, e3.2, e4.2]; exact h5 s hs
  · rw [e5.2, e6.2, e7.2]; exact h6 p hp
theorem cpA_nI {μ : Mem} {k0 n0 k1 n1 n : Nat} (h0 : n ≤ n0) (h1 : n ≤ n1) (hn : n ≤ 2147483647) : cpA μ k0 n0 (nI 0) k1 n1 (nI 0) (nI n) = some (sA μ k1 (fun i => if i < n then ga μ k0 i else ga μ k1 i)) := by
  unfold cpA
  have e0 : (nI 0).toNatClampNeg = 0 := nI_clamp (by omega)
  have en : (nI n).toNatClampNeg = n := nI_clamp (by omega)
  rw [e0, en]
  have c1 : (0 : Int32) ≤ nI 0 := nI_pos' (by omega)
  have c2 : (0 : Int32) ≤ nI n := nI_pos' (by omega)
  rw [if_pos (by simp only [c1, c2, decide_true, Bool.true_and, Bool.and_eq_true, decide_eq_true_eq]; omega)]
  congr 2
  funext i
  unfold va_cpy
  simp
theorem copyFrom_ok (μ : Mem) {a b : Nat} (hab : a + 4 ≤ b ∨ b + 4 ≤ a) : ∃ μ2, f_X1_copyFrom μ a b = some μ2 ∧ Fr (fun k => a ≤ k ∧ k < a + 4) μ μ2 ∧ ∀ (ns : Nat) (f : Nat → Nat), ns ≤ 7 → MoC μ ns b f → MoC μ2 ns a f := by
  unfold f_X1_copyFrom
  rw [show (0 : Int32) = nI 0 from rfl, show (7 : Int32) = nI 7 from rfl, show (49 : Int32) = nI 49 from rfl]
  rw [cpA_nI (by omega) (by omega) (by omega), Option.bind_some, cpA_nI (by omega) (by omega) (by omega), Option.bind_some, cpA_nI (by omega) (by omega) (by omega), Option.bind_some]
  simp only [stI_eq, Option.bind_some]
  refine ⟨_, rfl, ?_, ?_⟩
  · exact ((((Fr.sA (by omega)).tr (Fr.sA (by omega))).tr (Fr.sA (by omega))).tr (Fr.si (by omega))).tr (Fr.si (by omega))
  · intro ns f hns hm
    obtain ⟨m1, m2, m3, m4, m5⟩ := hm
    have n1 : ¬ b + 2 = a + 1 := by omega
    have n2 : ¬ b + 3 = a + 2 := by omega
    have n3 : ¬ b + 3 = a + 1 := by omega
    have n4 : ¬ b = a := by omega
    refine ⟨fun s hs => ?_, fun s hs => ?_, fun k hk => ?_, ?_, ?_⟩
    · simp [ga_si, ga_sA, show s < 7 by omega, m1 s hs]
    · simp [ga_si, ga_sA, n1, show s < 7 by omega, m2 s hs]
    · simp [ga_si, ga_sA, n2, n3, hk, m3 k hk]
    · simp [gi_si, gi_sA, m4]
    · simp [gi_si, gi_sA, n4, m5]
/-- a moment more is known; the oldest of eleven is lost -/
def pk2 (kn : Nat) : Nat := if kn = 10 then 10 else kn + 1
def pp2 (kn : Nat) (ps : Nat → Nat → Nat) (f : Nat → Nat) : Nat → Nat → Nat := if kn = 10 then (fun j => if j < 9 then ps (j + 1) else f) else fun j => if j < kn then ps j else f
theorem isMo_past {o nx : Nat} (ho : isLe o = true) (hn : nx < 10) : isMo (o + 5 + 1 + 4 * nx) = true := by
  have h : ∀ p ∈ [3, 50, 96], ∀ x ∈ List.range 10, isMo (p + 5 + 1 + 4 * x) = true := by decide +kernel
  exact h o (List.contains_iff_mem.mp ho) nx (List.mem_range.mpr hn)
theorem rfA_nI {k n sd i : Nat} {ok : Nat → Bool} (h : i < n) (hn : n ≤ 2147483647) (hok : ok (k + 1 + sd * i) = true) : rfA k n sd (nI i) ok = some (k + 1 + sd * i) := by
  unfold rfA
  rw [nI_clamp (by omega), ck_nI h hn, hok]
  rfl
theorem remember_ok {μ : Mem} {o ns kn : Nat} {f : Nat → Nat} {ps : Nat → Nat → Nat} (ho : isLe o = true) (hns : ns ≤ 7) (hkn : kn ≤ 10) (h : LeC μ ns o f kn ps) : ∃ μ2, f_X0_remember μ o = some μ2 ∧ Fr (fun k => k = o ∨ o + 6 ≤ k ∧ k < o + 46) μ μ2 ∧ LeC μ2 ns o f (pk2 kn) (pp2 kn ps f) := by
  obtain ⟨m1, m2, nx, hn, m3, m4⟩ := h
  unfold f_X0_remember
  rw [m3, rfA_nI hn (by omega) (isMo_past ho hn), Option.bind_some]
  obtain ⟨μ2, e1, e2, e3⟩ := copyFrom_ok μ (a := o + 5 + 1 + 4 * nx) (b := o + 1) (by omega)
  rw [e1, Option.bind_some]
  have g3 : gi μ2 o 3 = nI nx := by rw [(e2.2.2.2 o (by omega)).1]; exact m3
  have g2 : gi μ2 o 2 = nI kn := by rw [(e2.2.2.2 o (by omega)).1]; exact m2
  obtain ⟨nx2, hnx, hj⟩ : ∃ nx2, nx2 = (nx + 1) % 10 ∧ (if (10 : Int32) ≤ gi μ2 o 3 + 1 then f_X0_remember_j38 μ2 o o 0 else f_X0_remember_j38 μ2 o o (gi μ2 o 3 + 1)) = f_X0_remember_j38 μ2 o o (nI nx2) := by
    refine ⟨_, rfl, ?_⟩
    rw [g3, nI_1]
    by_cases h9 : nx = 9
    · subst h9; rfl
    · rw [if_neg (show ¬ (10 : Int32) ≤ nI (nx + 1) from fun q => absurd ((nI_leI (a := 10) (by omega) (by omega)).mp q) (by omega)), show (nx + 1) % 10 = nx + 1 by omega]
  rw [hj]
  unfold f_X0_remember_j38
  rw [stI_eq, Option.bind_some, gi_si, if_neg (by omega), g2, nI_1]
  have hmn : mnI 10 (nI (kn + 1)) = nI (pk2 kn) := by
    unfold mnI pk2
    by_cases h10 : kn = 10
    · subst h10; rfl
    · rw [if_neg h10]
      by_cases h9 : kn = 9
      · subst h9; rfl
      · rw [if_pos (show nI (kn + 1) < 10 from nI_lt (b := 10) (by omega) (by omega))]
  rw [hmn, stI_eq, Option.bind_some]
  refine ⟨_, rfl, ?_, ?_⟩
  · exact ((e2.mono (fun k hk => by omega)).tr (Fr.si (Or.inl rfl))).tr (Fr.si (Or.inl rfl))
  · have fr2 : Fr (fun k => k = o) μ2 (si (si μ2 o 3 (nI nx2)) o 2 (nI (pk2 kn))) := (Fr.si (S := fun k => k = o) rfl).tr (Fr.si (S := fun k => k = o) rfl)
    refine ⟨(m1.fr e2 (by omega) (by omega) (by omega) (by omega)).fr fr2 (by omega) (by omega) (by omega) (by omega), by rw [gi_si, if_pos ⟨rfl, rfl⟩], nx2, by omega, by rw [gi_si, if_neg (by omega), gi_si, if_pos ⟨rfl, rfl⟩], fun j hj => ?_⟩
    generalize si (si μ2 o 3 (nI nx2)) o 2 (nI (pk2 kn)) = m9 at fr2 ⊢
    unfold pk2 at hj ⊢
    unfold pp2
    by_cases h10 : kn = 10
    · rw [if_pos h10] at hj ⊢
      rw [if_pos h10]
      by_cases hj9 : j < 9
      · rw [if_pos hj9]
        have hm := m4 (j + 1) (by omega)
        rw [show (nx + 10 - kn + (j + 1)) % 10 = (nx2 + 10 - 10 + j) % 10 by omega] at hm
        exact (hm.fr e2 (by omega) (by omega) (by omega) (by omega)).fr fr2 (by omega) (by omega) (by omega) (by omega)
      · rw [if_neg hj9, show (nx2 + 10 - 10 + j) % 10 = nx by omega]
        have hm := e3 ns f hns m1
        rw [show o + 5 + 1 + 4 * nx = o + 6 + 4 * nx by omega] at hm
        exact hm.fr fr2 (by omega) (by omega) (by omega) (by omega)
    · rw [if_neg h10] at hj ⊢
      rw [if_neg h10]
      by_cases hjk : j < kn
      · rw [if_pos hjk]
        have hm := m4 j hjk
        rw [show (nx + 10 - kn + j) % 10 = (nx2 + 10 - (kn + 1) + j) % 10 by omega] at hm
        exact (hm.fr e2 (by omega) (by omega) (by omega) (by omega)).fr fr2 (by omega) (by omega) (by omega) (by omega)
      · rw [if_neg hjk, show (nx2 + 10 - (kn + 1) + j) % 10 = nx by omega]
        have hm := e3 ns f hns m1
        rw [show o + 5 + 1 + 4 * nx = o + 6 + 4 * nx by omega] at hm
        exact hm.fr fr2 (by omega) (by omega) (by omega) (by omega)

/-! the reference's row -/
theorem sA_self (μ : Mem) (k : Nat) : sA μ k (ga μ k) = μ := by
  obtain ⟨I, F, L, p⟩ := μ
  show (I, va_up F k (F k), L, p) = (I, F, L, p)
  have : va_up F k (F k) = F := by
    funext j
    by_cases h : j = k
    · subst h; simp [va_up]
    · simp [va_up, h]
  rw [this]
theorem sA_sA (μ : Mem) (k : Nat) (f g : Nat → Int32) : sA (sA μ k f) k g = sA μ k g := by
  obtain ⟨I, F, L, p⟩ := μ
  show (I, va_up (va_up F k f) k g, L, p) = (I, va_up F k g, L, p)
  rw [up_up]
theorem keeps_copy {μ : Mem} {p : Nat} (hp : 66 ≤ p) (hp2 : p + 65 ≤ 716) : iter gFU (f_X9_keeps_b70 (nI p)) (0, μ) = some (sA μ 190 (fun k => if p ≤ k ∧ k < p + 65 then ga μ 190 (k - p) else ga μ 190 k)) := by
  refine iter_forU (fun i => (nI i, sA μ 190 (fun k => if p ≤ k ∧ k < p + i then ga μ 190 (k - p) else ga μ 190 k))) 65 _ ?_ (by decide) ?_ ?_
  · refine Prod.ext rfl ?_
    show μ = sA μ 190 _
    have : (fun k => if p ≤ k ∧ k < p + 0 then ga μ 190 (k - p) else ga μ 190 k) = ga μ 190 := by
      funext k; rw [if_neg (by omega)]
    rw [this]
    exact (sA_self μ 190).symm
  · intro i hi
    unfold f_X9_keeps_b70
    show (if (65 : Int32) ≤ nI i then _ else _) = _
    rw [if_neg (show ¬ (65 : Int32) ≤ nI i from nI_ge (b := 65) hi (by omega))]
    show (ldA _ 190 716 (nI i)).bind _ = _
    rw [ldA_nI (by omega) (by omega), Option.bind_some]
    show (stA _ 190 716 (nI p + nI i) _).bind _ = _
    rw [nI_add, stA_nI (by omega) (by omega), Option.bind_some]
    show some (Sum.inl (nI i + 1, _)) = _
    rw [nI_1]
    congr 3
    rw [ga_sA, if_pos rfl, sA_sA]
    congr 1
    funext k
    rw [upd_at, if_neg (show ¬ (p ≤ i ∧ i < p + i) by omega)]
    by_cases e : k = p + i
    · rw [if_pos e, if_pos (by omega), e, show p + i - p = i by omega]
    · rw [if_neg e]
      by_cases e2 : p ≤ k ∧ k < p + i
      · rw [if_pos e2, if_pos (by omega)]
      · rw [if_neg e2, if_neg (by omega)]
  · unfold f_X9_keeps_b70
    show (if (65 : Int32) ≤ nI 65 then _ else _) = _
    rw [if_pos (by decide)]
theorem keeps_shift {μ : Mem} : iter gFU f_X9_keeps_b15 (66, μ) = some (sA μ 190 (fun k => if 66 ≤ k ∧ k < 651 then ga μ 190 (k + 65) else ga μ 190 k)) := by
  refine iter_forU (fun i => (nI (66 + i), sA μ 190 (fun k => if 66 ≤ k ∧ k < 66 + i then ga μ 190 (k + 65) else ga μ 190 k))) 585 _ ?_ (by decide) ?_ ?_
  · refine Prod.ext rfl ?_
    show μ = sA μ 190 _
    have : (fun k => if 66 ≤ k ∧ k < 66 + 0 then ga μ 190 (k + 65) else ga μ 190 k) = ga μ 190 := by
      funext k; rw [if_neg (by omega)]
    rw [this]
    exact (sA_self μ 190).symm
  · intro i hi
    unfold f_X9_keeps_b15
    show (if (651 : Int32) ≤ nI (66 + i) then _ else _) = _
    rw [if_neg (show ¬ (651 : Int32) ≤ nI (66 + i) from nI_ge (b := 651) (by omega) (by omega))]
    show (ldA _ 190 716 (nI (66 + i) + nI 65)).bind _ = _
    rw [nI_add, ldA_nI (by omega) (by omega), Option.bind_some]
    show (stA _ 190 716 (nI (66 + i)) _).bind _ = _
    rw [stA_nI (by omega) (by omega), Option.bind_some]
    show some (Sum.inl (nI (66 + i) + 1, _)) = _
    rw [nI_1]
    congr 3
    rw [ga_sA, if_pos rfl, sA_sA]
    congr 1
    funext k
    rw [upd_at, if_neg (show ¬ (66 ≤ 66 + i + 65 ∧ 66 + i + 65 < 66 + i) by omega)]
    by_cases e : k = 66 + i
    · rw [if_pos e, if_pos (by omega), e]
    · rw [if_neg e]
      by_cases e2 : 66 ≤ k ∧ k < 66 + i
      · rw [if_pos e2, if_pos (by omega)]
      · rw [if_neg e2, if_neg (by omega)]
  · unfold f_X9_keeps_b15
    show (if (651 : Int32) ≤ nI 651 then _ else _) = _
    rw [if_pos (by decide)]
theorem keepsj_ok {μ : Mem} {f : Nat → Nat} {kn : Nat} {ps : Nat → Nat → Nat} (hkn : kn < 10) (h : LeM (ga μ 190) 0 f kn ps) : ∃ a2, f_X9_keeps_j54 μ = some (sA μ 190 a2) ∧ LeM a2 0 f (kn + 1) (fun j => if j < kn then ps j else f) := by
  obtain ⟨m1, m2, m3⟩ := h
  rw [Nat.zero_add] at m2
  unfold f_X9_keeps_j54
  rw [show (65 : Int32) = nI 65 from rfl, show (66 : Int32) = nI 66 from rfl, ldA_nI (by omega) (by omega), Option.bind_some, m2, pk_mul, nI_add, keeps_copy (by omega) (by omega), Option.bind_some, ldA_nI (by omega) (by omega), Option.bind_some, ga_sA, if_pos rfl, if_neg (by omega), m2, nI_1, stA_nI (by omega) (by omega), Option.bind_some, sA_sA, ga_sA, if_pos rfl]
  refine ⟨_, rfl, fun k hk => ?_, ?_, fun j hj k hk => ?_⟩
  · rw [upd_at, if_neg (by omega), if_neg (by omega)]
    exact m1 k hk
  · rw [upd_at, if_pos (by omega)]
  · rw [upd_at, if_neg (by omega)]
    show _ = nI ((if j < kn then ps j else f) k)
    by_cases e : j < kn
    · rw [if_pos e, if_neg (by omega)]
      exact m3 j e k hk
    · rw [if_neg e, if_pos (by omega), show 0 + 66 + 65 * j + k - (66 + 65 * kn) = 0 + k by omega]
      exact m1 k hk
theorem keeps_ok {μ : Mem} {f : Nat → Nat} {kn : Nat} {ps : Nat → Nat → Nat} (hkn : kn ≤ 10) (h : LeM (ga μ 190) 0 f kn ps) : ∃ a2, f_X9_keeps μ = some (sA μ 190 a2) ∧ LeM a2 0 f (pk2 kn) (pp2 kn ps f) := by
  unfold f_X9_keeps
  rw [show (65 : Int32) = nI 65 from rfl, ldA_nI (by omega) (by omega), Option.bind_some, show ga μ 190 65 = nI kn from (by have := h.2.1; rw [Nat.zero_add] at this; exact this)]
  by_cases h10 : kn = 10
  · subst h10
    rw [if_pos (show nI 10 = 10 from rfl)]
    rw [keeps_shift, Option.bind_some, ldA_nI (by omega) (by omega), Option.bind_some, ga_sA, if_pos rfl, if_neg (by omega), show ga μ 190 65 = nI 10 from (by have := h.2.1; rw [Nat.zero_add] at this; exact this), stA_nI (by omega) (by omega), Option.bind_some, sA_sA, ga_sA, if_pos rfl]
    obtain ⟨m1, m2, m3⟩ := h
    have hl : LeM (ga (sA μ 190 (upd (fun k => if 66 ≤ k ∧ k < 651 then ga μ 190 (k + 65) else ga μ 190 k) 65 (nI 10 - 1))) 190) 0 f 9 (fun j => ps (j + 1)) := by
      rw [ga_sA, if_pos rfl]
      refine ⟨fun k hk => ?_, ?_, fun j hj k hk => ?_⟩
      · rw [upd_at, if_neg (by omega), if_neg (by omega)]
        exact m1 k hk
      · rw [upd_at, if_pos (by omega)]; rfl
      · rw [upd_at, if_neg (by omega), if_pos (by omega), show 0 + 66 + 65 * j + k + 65 = 0 + 66 + 65 * (j + 1) + k by omega]
        exact m3 (j + 1) (by omega) k hk
    obtain ⟨a2, e1, e2⟩ := keepsj_ok (by omega) hl
    refine ⟨a2, by rw [e1, sA_sA], ?_⟩
    unfold pk2 pp2
    rw [if_pos rfl, if_pos rfl]
    exact e2
  · rw [if_neg (show ¬ nI kn = 10 from fun q => h10 ((nI_eq (b := 10) (by omega) (by omega)).mp q))]
    obtain ⟨a2, e1, e2⟩ := keepsj_ok (by omega) h
    refine ⟨a2, e1, ?_⟩
    unfold pk2 pp2
    rw [if_neg h10, if_neg h10]
    exact e2

/-! person, bond, count, mark -/
theorem sp_person : Sp_person Inv := by
  intro c μ a1 a2 hc hI
  obtain ⟨tx, len, pl, f, kn, ps, b, gf, gk, gp, tr, h1, h2, h3⟩ := id hI
  have hq := h1.1.1
  have hnp := h3.2.1.2.1
  suffices h : ∃ r, f_X8_person μ a1 a2 = some r ∧ f_X9_person μ a1 a2 = some r by
    obtain ⟨r, e1, e2⟩ := h
    exact ⟨r, μ, μ, ⟨e1, rfl⟩, ⟨e2, rfl⟩, hI.up⟩
  unfold f_X8_person f_X9_person
  simp only [rfG_eq hq, Option.bind_some, hasPerson_eq h1.2.2.1.2.1 (show pl 1 ≤ 7 by omega) a1, isPerson_eq h2.2.1 (show pl 1 ≤ 7 by omega) a1]
  cases hck : ck a1 (pl 1) with
  | false => exact ⟨-1, rfl, rfl⟩
  | true =>
    obtain ⟨j, hj, rfl⟩ := ck_nat hck (by omega)
    obtain ⟨p1, p2, p3⟩ := h1.2.2.1.2.2.2.2.2 j hj
    have hM := h2.2.1
    rw [if_neg bi1, if_neg bi1, in_eq (N := 3) (by omega) a2 2 rfl (by decide), Option.bind_some]
    by_cases e0 : a2 = 0
    · subst e0
      refine ⟨nI (pl (34 + j)), ?_, ?_⟩
      · rw [if_pos rfl, ldA_nI (by omega) (by omega), p1]; rfl
      · rw [if_neg (by decide)]
        show (ldA μ 188 49 (nI 34 + nI 5 * nI 0 + nI j)).bind _ = _
        rw [pk_mul, nI_add, nI_add, ldA_nI (by omega) (by omega), hM _ (by omega)]; rfl
    · by_cases e1 : a2 = 1
      · subst e1
        refine ⟨nI (pl (39 + j)), ?_, ?_⟩
        · rw [if_neg e0, if_pos rfl, ldA_nI (by omega) (by omega), p2]; rfl
        · rw [if_neg (by decide)]
          show (ldA μ 188 49 (nI 34 + nI 5 * nI 1 + nI j)).bind _ = _
          rw [pk_mul, nI_add, nI_add, ldA_nI (by omega) (by omega), hM _ (by omega)]; rfl
      · by_cases e2 : a2 = 2
        · subst e2
          refine ⟨nI (pl (44 + j)), ?_, ?_⟩
          · rw [if_neg e0, if_neg e1, if_pos rfl, ldA_nI (by omega) (by omega), p3]; rfl
          · rw [if_neg (by decide)]
            show (ldA μ 188 49 (nI 34 + nI 5 * nI 2 + nI j)).bind _ = _
            rw [pk_mul, nI_add, nI_add, ldA_nI (by omega) (by omega), hM _ (by omega)]; rfl
        · refine ⟨-1, by rw [if_neg e0, if_neg e1, if_neg e2], ?_⟩
          have : ck a2 3 = false := by
            cases hk : ck a2 3 with
            | false => rfl
            | true =>
              obtain ⟨i, hi, rfl⟩ := ck_nat hk (by omega)
              match i, hi with
              | 0, _ => exact absurd rfl e0
              | 1, _ => exact absurd rfl e1
              | 2, _ => exact absurd rfl e2
              | i + 3, hi => omega
          rw [this, if_pos bi0]
theorem hasTwo_eq {μ : Mem} {q ns : Nat} (h : gi μ q 7 = nI ns) (hn : ns ≤ 7) (a b : Int32) : f_X3_hasTwoStairs μ q a b = some (bi (ck a ns && ck b ns && decide (a ≠ b))) := by
  unfold f_X3_hasTwoStairs
  simp only [hasStair_eq h hn, Option.bind_some]
  cases ck a ns with
  | false => rfl
  | true =>
    rw [if_neg bi1]
    cases ck b ns with
    | false => rfl
    | true =>
      rw [if_neg bi1]
      by_cases e : a = b
      · rw [if_pos e]; simp [e, bi]
      · rw [if_neg e]; simp [e, bi]
theorem sp_bond : Sp_bond Inv := by
  intro c μ a1 a2 hc hI
  obtain ⟨tx, len, pl, f, kn, ps, b, gf, gk, gp, tr, h1, h2, h3⟩ := id hI
  have hq := h1.1.1
  have hns := h3.2.1.1
  suffices h : ∃ r, f_X8_bond μ a1 a2 = some r ∧ f_X9_bond μ a1 a2 = some r by
    obtain ⟨r, e1, e2⟩ := h
    exact ⟨r, μ, μ, ⟨e1, rfl⟩, ⟨e2, rfl⟩, hI.up⟩
  unfold f_X8_bond f_X9_bond
  simp only [rfG_eq hq, Option.bind_some, hasTwo_eq h1.2.2.1.1 hns, isStair_eq h2.2.1 hns]
  cases hk1 : ck a1 (pl 0) with
  | false => exact ⟨-1, rfl, rfl⟩
  | true =>
    cases hk2 : ck a2 (pl 0) with
    | false => exact ⟨-1, rfl, rfl⟩
    | true =>
      rw [if_neg bi1, if_neg bi1]
      by_cases e : a1 = a2
      · refine ⟨-1, ?_, by rw [if_pos e]⟩
        simp [e, bi]
      · rw [if_neg e]
        have hbt : (true && true && decide (a1 ≠ a2)) = true := by simp [e]
        rw [hbt, if_neg bi1]
        obtain ⟨s, hs, rfl⟩ := ck_nat hk1 (by omega)
        obtain ⟨t, ht, rfl⟩ := ck_nat hk2 (by omega)
        refine ⟨nI (f (14 + (s * 7 + t))), ?_, ?_⟩
        · unfold f_X8_bondAt
          rw [Option.bind_some, show (7 : Int32) = nI 7 from rfl, pk_mul, nI_add, ldA_nI (by omega) (by omega), show ga μ 7 (s * 7 + t) = nI (f (14 + (s * 7 + t))) from h1.2.2.2.1.1.2.2.1 _ (by omega)]; rfl
        · have := h2.2.2.1.1 (14 + (s * 7 + t)) (by omega)
          rw [Nat.zero_add] at this
          rw [show (7 : Int32) = nI 7 from rfl, show (14 : Int32) = nI 14 from rfl, pk_mul, nI_add, nI_add, show 14 + 7 * s + t = 14 + (s * 7 + t) by omega, ldA_nI (by omega) (by omega), this]; rfl
theorem sp_count : Sp_count Inv := by
  intro c μ a1 hc hI
  obtain ⟨tx, len, pl, f, kn, ps, b, gf, gk, gp, tr, h1, h2, h3⟩ := id hI
  have hq := h1.1.1
  suffices h : f_X9_count μ a1 = f_X8_count μ a1 ∧ ∃ r, f_X8_count μ a1 = some r by
    obtain ⟨e, r, e1⟩ := h
    exact ⟨r, μ, μ, ⟨e1, rfl⟩, ⟨e.trans e1, rfl⟩, hI.up⟩
  unfold f_X8_count f_X9_count
  have e65 := h2.2.2.1.2.1
  rw [Nat.zero_add] at e65
  simp only [rfG_eq hq, Option.bind_some, h1.2.2.1.1, h1.2.2.1.2.1, h1.2.2.1.2.2.1, h1.2.2.1.2.2.2.1, h1.2.2.2.1.2.1, h1.2.1.1, h2.1.1]
  rw [show (65 : Int32) = nI 65 from rfl, ldA_nI (show 65 < 716 by omega) (by omega), e65]
  have l0 : ldA μ 188 49 0 = some (nI (pl 0)) := by rw [show (0 : Int32) = nI 0 from rfl, ldA_nI (by omega) (by omega), h2.2.1 0 (by omega)]
  have l1 : ldA μ 188 49 1 = some (nI (pl 1)) := by rw [show (1 : Int32) = nI 1 from rfl, ldA_nI (by omega) (by omega), h2.2.1 1 (by omega)]
  have l2 : ldA μ 188 49 2 = some (nI (pl 2)) := by rw [show (2 : Int32) = nI 2 from rfl, ldA_nI (by omega) (by omega), h2.2.1 2 (by omega)]
  have l3 : ldA μ 188 49 3 = some (nI (pl 3)) := by rw [show (3 : Int32) = nI 3 from rfl, ldA_nI (by omega) (by omega), h2.2.1 3 (by omega)]
  rw [l0, l1, l2, l3]
  refine ⟨rfl, ?_⟩
  split
  · exact ⟨_, rfl⟩
  · split
    · exact ⟨_, rfl⟩
    · split
      · exact ⟨_, rfl⟩
      · split
        · exact ⟨_, rfl⟩
        · split
          · exact ⟨_, rfl⟩
          · split <;> exact ⟨_, rfl⟩
/-- the trace grows on both sides -/
theorem Inv.trace {c : Nat} {μ : Mem} (hI : Inv c μ) (v : Int64) : Inv (c + 1) (sl (sl μ 0 v) 186 v) := by
  obtain ⟨tx, len, pl, f, kn, ps, b, gf, gk, gp, tr, h1, h2, h3⟩ := hI
  refine ⟨tx, len, pl, f, kn, ps, b, gf, gk, gp, v, ?_, ?_, h3.up⟩
  · obtain ⟨x1, x2, x3, x4, x5, x6⟩ := h1
    exact ⟨x1, x2, x3, x4, x5, rfl⟩
  · obtain ⟨x1, x2, x3, x4, x5, x6⟩ := h2
    exact ⟨x1, x2, x3, x4, rfl, x6⟩
theorem sl_sl (μ : Mem) (k : Nat) (v u : Int64) : sl (sl μ k v) k u = sl μ k u := by
  obtain ⟨I, F, L, p⟩ := μ
  show (I, F, va_up (va_up L k v) k u, p) = (I, F, va_up L k u, p)
  rw [up_up]
theorem sp_mark : Sp_mark Inv := by
  intro c μ a1 a2 hc hI
  obtain ⟨tx, len, pl, f, kn, ps, b, gf, gk, gp, tr, h1, h2, h3⟩ := id hI
  have hq := h1.1.1
  have hns := h3.2.1.1
  have hs8 := hasStair_eq h1.2.2.1.1 hns
  have hs9 := isStair_eq h2.2.1 hns
  cases hk1 : ck a2 (pl 0) with
  | false =>
    refine ⟨-1000000, μ, μ, ?_, ?_, hI.up⟩
    · unfold f_X8_mark
      simp only [rfG_eq hq, Option.bind_some, hs8, hk1, if_pos bi0]
    · unfold f_X9_mark
      rw [in_eq (N := 6) (by omega) a1 5 rfl (by decide), Option.bind_some, hs9, hk1, Option.bind_some, if_pos bi0]
      split <;> rfl
  | true =>
    obtain ⟨s, hs, rfl⟩ := ck_nat hk1 (by omega)
    have hC := h1.2.2.2.1.1
    have hM := h2.2.1
    have gM : ∀ k, k < 65 → ga μ 190 k = nI (f k) := fun k hk => by have := h2.2.2.1.1 k hk; rw [Nat.zero_add] at this; exact this
    obtain ⟨p1, p2, p3, p4⟩ := h1.2.2.1.2.2.2.2.1 s hs
    have c5 : ∀ v, ldA (sl μ 0 v) 5 7 (nI s) = some (nI (f s)) := fun v => by rw [ldA_nI (by omega) (by omega)]; exact congrArg some (hC.1 s hs)
    have c6 : ∀ v, ldA (sl μ 0 v) 6 7 (nI s) = some (nI (f (7 + s))) := fun v => by rw [ldA_nI (by omega) (by omega)]; exact congrArg some (hC.2.1 s hs)
    have q3 : ∀ v, ldA (sl μ 0 v) (gpl μ + 3) 7 (nI s) = some (nI (pl (20 + s))) := fun v => by rw [ldA_nI (by omega) (by omega)]; exact congrArg some p3
    have q4 : ∀ v, ldA (sl μ 0 v) (gpl μ + 4) 7 (nI s) = some (nI (pl (27 + s))) := fun v => by rw [ldA_nI (by omega) (by omega)]; exact congrArg some p4
    have g4 : ∀ v, gi (sl μ 0 v) 4 4 = nI (f 64) := fun v => hC.2.2.2.2
    have cl : f_X8_mark μ a1 (nI s) = if a1 = 0 then some (nI (f s), sl μ 0 (tr + 1)) else if a1 = 1 then some (nI (f s) + nI (pl (20 + s)), sl μ 0 (tr + 10 + 1)) else if a1 = 2 then some (nI (f s) - nI (f (7 + s)), sl μ 0 (tr + 100 + 1)) else if a1 = 3 then some ((nI (f s) + nI (pl (20 + s))) * 2, sl μ 0 (tr + 1000 + 10 + 1)) else if a1 = 4 then some (nI (f s) - nI (f (7 + s)) + nI (pl (27 + s)), sl μ 0 (tr + 10000 + 100 + 1)) else if a1 = 5 then some (nI (f s) + nI (f 64), sl μ 0 (tr + 100000 + 1)) else some (-1000000, μ) := by
      unfold f_X8_mark f_X8_asTower f_X8_asLift f_X8_asChurch f_X8_asLadder f_X8_asMarble f_X8_asStair
      simp only [rfG_eq hq, Option.bind_some, hs8, hk1, if_neg bi1, stL_eq, gl_sl, if_true, h1.2.2.2.2.2, sl_sl, c5, c6, gpl_sl, q3, q4, g4]
    have mj : ∀ (m : Mem) (x : Int32) (v : Int64), ga m 190 = ga μ 190 → ga m 188 = ga μ 188 → gl m 186 = tr → f_X9_mark_j80 m x (nI s) (gl m 186) v = some ((if x = 0 then nI (f s) else if x = 1 then nI (f s) + nI (pl (20 + s)) else if x = 2 then nI (f s) - nI (f (7 + s)) else if x = 3 then 2 * (nI (f s) + nI (pl (20 + s))) else if x = 4 then nI (f s) - nI (f (7 + s)) + nI (pl (27 + s)) else nI (f s) + nI (f 64)), sl m 186 (tr + v)) := by
      intro m x v e1 e2 e3
      unfold f_X9_mark_j80
      rw [e3]
      have d0 : ∀ u, ldA (sl m 186 u) 190 716 (nI s) = some (nI (f s)) := fun u => by rw [ldA_nI (by omega) (by omega), ga_sl, e1, gM s (by omega)]
      have d7 : ∀ u, ldA (sl m 186 u) 190 716 (7 + nI s) = some (nI (f (7 + s))) := fun u => by rw [show (7 : Int32) = nI 7 from rfl, nI_add, ldA_nI (by omega) (by omega), ga_sl, e1, gM (7 + s) (by omega)]
      have d64 : ∀ u, ldA (sl m 186 u) 190 716 64 = some (nI (f 64)) := fun u => by rw [show (64 : Int32) = nI 64 from rfl, ldA_nI (by omega) (by omega), ga_sl, e1, gM 64 (by omega)]
      have d20 : ∀ u, ldA (sl m 186 u) 188 49 (20 + nI s) = some (nI (pl (20 + s))) := fun u => by rw [show (20 : Int32) = nI 20 from rfl, nI_add, ldA_nI (by omega) (by omega), ga_sl, e2, hM (20 + s) (by omega)]
      have d27 : ∀ u, ldA (sl m 186 u) 188 49 (27 + nI s) = some (nI (pl (27 + s))) := fun u => by rw [show (27 : Int32) = nI 27 from rfl, nI_add, ldA_nI (by omega) (by omega), ga_sl, e2, hM (27 + s) (by omega)]
      simp only [stL_eq, Option.bind_some, d0, d7, d20, d27, d64]
      split
      · rfl
      · split
        · rfl
        · split
          · rfl
          · split
            · rfl
            · split <;> rfl
    have mo : ∀ (m : Mem), ga m 190 = ga μ 190 → ga m 188 = ga μ 188 → gl m 186 = tr → ck a1 6 = true → f_X9_mark m a1 (nI s) = some ((if a1 = 0 then nI (f s) else if a1 = 1 then nI (f s) + nI (pl (20 + s)) else if a1 = 2 then nI (f s) - nI (f (7 + s)) else if a1 = 3 then 2 * (nI (f s) + nI (pl (20 + s))) else if a1 = 4 then nI (f s) - nI (f (7 + s)) + nI (pl (27 + s)) else nI (f s) + nI (f 64)), sl m 186 (tr + (if a1 = 0 then 1 else if a1 = 1 then 11 else if a1 = 2 then 101 else if a1 = 3 then 1011 else if a1 = 4 then 10101 else 100001))) := by
      intro m e1 e2 e3 hk
      have hP : PlM m pl := by unfold PlM; rw [e2]; exact hM
      unfold f_X9_mark
      rw [in_eq (N := 6) (by omega) a1 5 rfl (by decide), Option.bind_some, hk, if_neg bi1, isStair_eq hP hns, Option.bind_some, hk1, if_neg bi1]
      simp only [mj m a1 _ e1 e2 e3]
      split
      · rfl
      · split
        · rfl
        · split
          · rfl
          · split
            · rfl
            · split <;> rfl
    have tr186 : gl μ 186 = tr := h2.2.2.2.2.1
    have fin : ∀ (r : Int32) (v : Int64), f_X8_mark μ a1 (nI s) = some (r, sl μ 0 v) → f_X9_mark (sl μ 0 v) a1 (nI s) = some (r, sl (sl μ 0 v) 186 v) → ∃ (r : Int32) (μ1 μ2 : Mem), (f_X8_mark μ a1 (nI s) = some (r, μ1)) ∧ (f_X9_mark μ1 a1 (nI s) = some (r, μ2)) ∧ Inv (c + 1) μ2 := fun r v e1 e2 => ⟨r, _, _, e1, e2, hI.trace v⟩
    have mo2 : ∀ v, ck a1 6 = true → _ := fun v hk => mo (sl μ 0 v) rfl rfl tr186 hk
    by_cases e0 : a1 = 0
    · subst e0
      exact fin _ _ (by rw [cl]; rfl) (by rw [mo2 _ rfl]; rfl)
    by_cases e1 : a1 = 1
    · subst e1
      refine fin _ _ (by rw [cl]; rfl) (by rw [mo2 _ rfl, show tr + 10 + 1 = tr + 11 by rw [Int64.add_assoc]; rfl]; rfl)
    by_cases e2 : a1 = 2
    · subst e2
      refine fin _ _ (by rw [cl]; rfl) (by rw [mo2 _ rfl, show tr + 100 + 1 = tr + 101 by rw [Int64.add_assoc]; rfl]; rfl)
    by_cases e3 : a1 = 3
    · subst e3
      refine fin _ _ (by rw [cl]; rfl) (by rw [mo2 _ rfl, show tr + 1000 + 10 + 1 = tr + 1011 by rw [Int64.add_assoc, Int64.add_assoc]; rfl, Int32.mul_comm]; rfl)
    by_cases e4 : a1 = 4
    · subst e4
      refine fin _ _ (by rw [cl]; rfl) (by rw [mo2 _ rfl, show tr + 10000 + 100 + 1 = tr + 10101 by rw [Int64.add_assoc, Int64.add_assoc]; rfl]; rfl)
    by_cases e5 : a1 = 5
    · subst e5
      refine fin _ _ (by rw [cl]; rfl) (by rw [mo2 _ rfl, show tr + 100000 + 1 = tr + 100001 by rw [Int64.add_assoc]; rfl]; rfl)
    refine ⟨-1000000, μ, μ, ?_, ?_, hI.up⟩
    · rw [cl, if_neg e0, if_neg e1, if_neg e2, if_neg e3, if_neg e4, if_neg e5]
    · unfold f_X9_mark
      have : ck a1 6 = false := by
        cases hk : ck a1 6 with
        | false => rfl
        | true =>
          obtain ⟨i, hi, rfl⟩ := ck_nat hk (by omega)
          match i, hi with
          | 0, _ => exact absurd rfl e0
          | 1, _ => exact absurd rfl e1
          | 2, _ => exact absurd rfl e2
          | 3, _ => exact absurd rfl e3
          | 4, _ => exact absurd rfl e4
          | 5, _ => exact absurd rfl e5
          | i + 6, hi => omega
      rw [in_eq (N := 6) (by omega) a1 5 rfl (by decide), Option.bind_some, this, if_pos bi0]

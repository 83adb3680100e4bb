/-! free; two loops that go alike -/
theorem iter_same {V E : Type} {B1 B2 : V → Option (V ⊕ E)} (I : V → Prop) (m : V → Nat) (h : ∀ v, I v → ∃ r, B1 v = some r ∧ B2 v = some r ∧ ∀ v2, r = .inl v2 → I v2 ∧ m v2 < m v) : ∀ n v, I v → m v < n → ∃ x, iter n B1 v = some x ∧ iter n B2 v = some x := by
  intro n
  induction n with
  | zero => intro v _ hm; omega
  | succ n ih =>
    intro v hv hm
    obtain ⟨r, h1, h2, h3⟩ := h v hv
    unfold iter
    rw [h1, h2]
    match r, h3 with
    | .inl v2, h3 =>
      obtain ⟨h4, h5⟩ := h3 v2 rfl
      exact ih v2 h4 (by omega)
    | .inr x, _ => exact ⟨x, rfl, rfl⟩
/-- two loops over states that are told alike -/
theorem iter_sim {V W E F : Type} {B1 : V → Option (V ⊕ E)} {B2 : W → Option (W ⊕ F)} (I : V → W → Prop) (Q : E → F → Prop) (m : V → Nat) (h : ∀ v w, I v w → ∃ r1 r2, B1 v = some r1 ∧ B2 w = some r2 ∧ ((∃ v2 w2, r1 = .inl v2 ∧ r2 = .inl w2 ∧ I v2 w2 ∧ m v2 < m v) ∨ ∃ x y, r1 = .inr x ∧ r2 = .inr y ∧ Q x y)) : ∀ n v w, I v w → m v < n → ∃ x y, iter n B1 v = some x ∧ iter n B2 w = some y ∧ Q x y := by
  intro n
  induction n with
  | zero => intro v w _ hm; omega
  | succ n ih =>
    intro v w hv hm
    obtain ⟨r1, r2, h1, h2, h3⟩ := h v w hv
    unfold iter
    rw [h1, h2]
    rcases h3 with ⟨v2, w2, rfl, rfl, h4, h5⟩ | ⟨x, y, rfl, rfl, h4⟩
    · exact ih v2 w2 h4 (by omega)
    · exact ⟨x, y, rfl, rfl, h4⟩
theorem isAsked_eq {μ : Mem} (a : Int32) : f_X8_isAsked μ a = some (bi (ck a 100)) := by
  unfold f_X8_isAsked
  rcases int_range a (n := 100) (by omega) with ⟨h1, h2⟩ | ⟨h1, h2, h3⟩ | ⟨j, h1, rfl, h3⟩
  · rw [if_pos h1, h2]; rfl
  · rw [if_neg h1, if_pos (show (99 : Int32) < a from Int32.lt_of_lt_of_le (by decide) h2), h3]; rfl
  · rw [if_neg (nI_pos (by omega)), if_neg (show ¬ (99 : Int32) < nI j from nI_nlt (a := 99) (by omega) (by omega)), h3]; rfl
theorem in99_eq {μ : Mem} (a : Int32) : f_X9_in μ a 0 99 = some (bi (ck a 100)) := in_eq (N := 100) (by omega) a 99 rfl (by decide)
theorem sp_free : Sp_free Inv := by
  intro c μ a1 a2 hc hI
  obtain ⟨tx, len, pl, f, kn, ps, b, gf, gk, gp, tr, h1, h2, h3⟩ := id hI
  have hq := h1.1.1
  have hns := h3.2.1.1
  suffices h : ∃ r, f_X8_free μ a1 a2 = some r ∧ f_X9_free μ a1 a2 = some r by
    obtain ⟨r, e1, e2⟩ := h
    exact ⟨r, μ, μ, ⟨e1, rfl⟩, ⟨e2, rfl⟩, hI.up⟩
  unfold f_X8_free f_X9_free
  simp only [rfG_eq hq, Option.bind_some, hasStair_eq h1.2.2.1.1 hns, isStair_eq h2.2.1 hns, isAsked_eq, in99_eq]
  cases hk1 : ck a1 (pl 0) with
  | false => exact ⟨-1, rfl, rfl⟩
  | true =>
    cases hk2 : ck a2 100 with
    | false => exact ⟨-1, rfl, rfl⟩
    | true =>
      obtain ⟨s, hs, rfl⟩ := ck_nat hk1 (by omega)
      obtain ⟨n, hn, rfl⟩ := ck_nat hk2 (by omega)
      have hO := h3.2.2.1.1
      have hds := hO.1 s (by omega)
      have how := (h3.2.1.2.2.2.2.1 s hs).2.2.2.2.2
      have gM := h2.2.2.1.1 s (by omega)
      rw [Nat.zero_add] at gM
      rw [if_neg bi1, if_neg bi1, if_neg bi1, if_neg bi1, ldA_nI (show s < 7 by omega) (by omega), show ga μ 5 s = nI (f s) from h1.2.2.2.1.1.1 s hs, Option.bind_some, ldA_nI (show s < 7 by omega) (by omega), (h1.2.2.1.2.2.2.2.1 s hs).2.2.2, Option.bind_some, ldA_nI (show s < 716 by omega) (by omega), gM, Option.bind_some]
      unfold f_X2_yearsTillFree
      by_cases hz : f s = 0
      · rw [hz]; exact ⟨0, rfl, rfl⟩
      · have hz' : ¬ nI (f s) = 0 := fun q => hz ((nI_eq (b := 0) (by omega) (by omega)).mp q)
        rw [if_neg hz', if_neg hz']
        obtain ⟨x, e1, e2⟩ := iter_same (B1 := f_X2_yearsTillFree_b11 μ (nI (pl (27 + s))) (nI n)) (B2 := f_X9_free_b36 μ (nI s) (nI n)) (fun v => ∃ d y, v = (nI d, nI y) ∧ d ≤ 999 ∧ y ≤ 100) (fun v => 200 - v.2.toNatClampNeg) (by
          intro v hv
          obtain ⟨d, y, rfl, hd, hy⟩ := hv
          unfold f_X2_yearsTillFree_b11 f_X9_free_b36
          by_cases h99 : y = 100
          · subst h99
            exact ⟨_, rfl, rfl, fun v2 q => by cases q⟩
          · have hlt : ¬ (99 : Int32) < nI y := nI_nlt (a := 99) (by omega) (by omega)
            simp only [if_neg hlt]
            rw [mx_sub (by omega) (by omega)]
            have hm : (if nI d ≤ nI n then f_X9_free_j55 μ (nI s) (nI n) (nI y) 0 else f_X9_free_j55 μ (nI s) (nI n) (nI y) (nI d - nI n)) = f_X9_free_j55 μ (nI s) (nI n) (nI y) (nI (d - n)) := by
              by_cases e : d ≤ n
              · rw [if_pos (nI_le e (by omega)), show d - n = 0 by omega]; rfl
              · rw [if_neg (nI_ge (by omega) (by omega)), pk_sub (by omega)]
            rw [hm]
            unfold f_X9_free_j55
            by_cases e : d - n = 0
            · rw [e]
              exact ⟨_, rfl, rfl, fun v2 q => by cases q⟩
            · have e' : ¬ nI (d - n) = 0 := fun q => e ((nI_eq (b := 0) (by omega) (by omega)).mp q)
              rw [if_neg e', if_neg e', nI_add, show (999 : Int32) = nI 999 from rfl, mn_nI (by omega) (by omega), show (27 : Int32) = nI 27 from rfl, nI_add, ldA_nI (by omega) (by omega), h2.2.1 (27 + s) (by omega), Option.bind_some, more_ok (by omega) (by omega), Option.bind_some, nI_1]
              refine ⟨_, rfl, rfl, fun v2 q => ?_⟩
              cases q
              refine ⟨⟨_, _, rfl, by omega, by omega⟩, ?_⟩
              show 200 - (nI (y + 1)).toNatClampNeg < 200 - (nI y).toNatClampNeg
              rw [nI_clamp (by omega), nI_clamp (by omega)]
              omega) gFU (nI (f s), 1) ⟨f s, 1, rfl, hds, by omega⟩ (by
              show 200 - (nI 1).toNatClampNeg < gFU
              have : gFU = 1000000000000 := rfl
              omega)
        rw [e1, e2]
        simp only [Option.bind_some]
        match x with
        | .inl y => exact ⟨y, rfl, rfl⟩
        | .inr y => exact ⟨-9, rfl, rfl⟩

/-! ends, undo -/
theorem more_ok {μ : Mem} {a b : Nat} (h : a ≤ 999) (h2 : b ≤ 40) : f_X9_more μ (nI a) (nI b) = some (nI (min 999 (a + b))) := by
  unfold f_X9_more
  rw [nI_add]
  by_cases e : a + b ≤ 999
  · rw [if_pos (show nI (a + b) ≤ 999 from nI_le (b := 999) e (by omega)), Nat.min_eq_right (by omega)]
  · rw [if_neg (show ¬ nI (a + b) ≤ 999 from nI_ge (a := 999) (by omega) (by omega)), Nat.min_eq_left (by omega)]
    rfl
theorem ends21 {μ : Mem} {pl f : Nat → Nat} {a : Nat → Int32} (hP : PlM μ pl) (hM : ∀ k, k < 65 → a k = nI (f k)) (hns : pl 0 ≤ 7) (hf : ∀ s, s < 7 → f s ≤ 999) (hpl : ∀ s, s < pl 0 → pl (27 + s) ≤ 40) : iter gFU f_X9_ends_b21 (0, sA μ 190 a) = some (sA μ 190 (fun k => if k < pl 0 then nI (min 999 (f k + pl (27 + k))) else if 7 ≤ k ∧ k < 7 + pl 0 then nI 0 else a k)) := by
  refine iter_forU (fun i => (nI i, sA μ 190 (fun k => if k < i then nI (min 999 (f k + pl (27 + k))) else if 7 ≤ k ∧ k < 7 + i then nI 0 else a k))) (pl 0) _ ?_ (by omega) ?_ ?_
  · refine Prod.ext rfl ?_
    show sA μ 190 a = sA μ 190 _
    congr 1
    funext k
    rw [if_neg (by omega), if_neg (by omega)]
  · intro i hi
    unfold f_X9_ends_b21
    show ((ldA (sA μ 190 _) 188 49 (nI 0)).bind fun y4 => if y4 ≤ nI i then _ else (ldA (sA μ 190 (fun k => if k < i then nI (min 999 (f k + pl (27 + k))) else if 7 ≤ k ∧ k < 7 + i then nI 0 else a k)) 190 716 (nI i)).bind fun y5 => (ldA (sA μ 190 (fun k => if k < i then nI (min 999 (f k + pl (27 + k))) else if 7 ≤ k ∧ k < 7 + i then nI 0 else a k)) 188 49 (nI 27 + nI i)).bind fun y6 => (f_X9_more (sA μ 190 (fun k => if k < i then nI (min 999 (f k + pl (27 + k))) else if 7 ≤ k ∧ k < 7 + i then nI 0 else a k)) y5 y6).bind fun y7 => (stA (sA μ 190 (fun k => if k < i then nI (min 999 (f k + pl (27 + k))) else if 7 ≤ k ∧ k < 7 + i then nI 0 else a k)) 190 716 (nI i) y7).bind fun m8 => (stA m8 190 716 (nI 7 + nI i) (nI 0)).bind fun m9 => some (Sum.inl (nI i + 1, m9))) = _
    have := hf i (by omega)
    have := hpl i hi
    rw [ldA_nI (by omega) (by omega), Option.bind_some, show ga (sA μ 190 _) 188 0 = ga μ 188 0 from rfl, hP 0 (by omega), if_neg (nI_ge hi (by omega)), ldA_nI (by omega) (by omega), Option.bind_some, ga_sA, if_pos rfl, if_neg (show ¬ i < i by omega), if_neg (show ¬ (7 ≤ i ∧ i < 7 + i) by omega), hM i (by omega), nI_add, ldA_nI (by omega) (by omega), Option.bind_some, show ga (sA μ 190 _) 188 (27 + i) = ga μ 188 (27 + i) from rfl, hP (27 + i) (by omega), more_ok (by omega) (by omega), Option.bind_some, stA_nI (by omega) (by omega), Option.bind_some, nI_add, stA_nI (by omega) (by omega), Option.bind_some, nI_1, sA_sA, sA_sA, ga_sA, if_pos rfl, ga_sA, if_pos rfl]
    congr 4
    funext k
    rw [upd_at, upd_at]
    by_cases e : k = 7 + i
    · rw [if_pos e, if_neg (by omega), if_pos (by omega)]
    · rw [if_neg e]
      by_cases e1 : k = i
      · rw [if_pos e1, if_pos (by omega), e1]
      · rw [if_neg e1]
        by_cases e2 : k < i
        · rw [if_pos e2, if_pos (by omega)]
        · rw [if_neg e2, if_neg (show ¬ k < i + 1 by omega)]
          by_cases e3 : 7 ≤ k ∧ k < 7 + i
          · rw [if_pos e3, if_pos (by omega)]
          · rw [if_neg e3, if_neg (by omega)]
  · unfold f_X9_ends_b21
    show ((ldA (sA μ 190 _) 188 49 (nI 0)).bind fun y4 => if y4 ≤ nI (pl 0) then some (Sum.inr (sA μ 190 (fun k => if k < pl 0 then nI (min 999 (f k + pl (27 + k))) else if 7 ≤ k ∧ k < 7 + pl 0 then nI 0 else a k))) else _) = _
    rw [ldA_nI (by omega) (by omega), Option.bind_some, show ga (sA μ 190 _) 188 0 = ga μ 188 0 from rfl, hP 0 (by omega), if_pos (nI_le (Nat.le_refl _) (by omega))]
theorem ends73 {μ : Mem} {a : Nat → Int32} : iter gFU f_X9_ends_b73 (0, sA μ 190 a) = some (sA μ 190 (fun k => if 14 ≤ k ∧ k < 63 then nI 0 else a k)) := by
  refine iter_forU (fun i => (nI i, sA μ 190 (fun k => if 14 ≤ k ∧ k < 14 + i then nI 0 else a k))) 49 _ ?_ (by omega) ?_ ?_
  · refine Prod.ext rfl ?_
    show sA μ 190 a = sA μ 190 _
    congr 1
    funext k
    rw [if_neg (by omega)]
  · intro i hi
    unfold f_X9_ends_b73
    show (if (49 : Int32) ≤ nI i then _ else (stA (sA μ 190 (fun k => if 14 ≤ k ∧ k < 14 + i then nI 0 else a k)) 190 716 (nI 14 + nI i) (nI 0)).bind fun m11 => some (Sum.inl (nI i + 1, m11))) = _
    rw [if_neg (show ¬ (49 : Int32) ≤ nI i from nI_ge (b := 49) hi (by omega)), nI_add, stA_nI (by omega) (by omega), Option.bind_some, nI_1, sA_sA, ga_sA, if_pos rfl]
    congr 4
    funext k
    rw [upd_at]
    by_cases e : k = 14 + i
    · rw [if_pos e, if_pos (by omega)]
    · rw [if_neg e]
      by_cases e3 : 14 ≤ k ∧ k < 14 + i
      · rw [if_pos e3, if_pos (by omega)]
      · rw [if_neg e3, if_neg (by omega)]
  · unfold f_X9_ends_b73
    show (if (49 : Int32) ≤ nI 49 then some (Sum.inr (sA μ 190 (fun k => if 14 ≤ k ∧ k < 63 then nI 0 else a k))) else _) = _
    rw [if_pos (by decide)]
theorem aend_ok {pl : Nat → Nat} {c : Nat} {f : Nat → Nat} (hm : MoOk pl c f) (hy : f 64 ≤ 98) : MoOk pl c (aend pl f) := by
  obtain ⟨h1, h2, h3, h4, h5⟩ := hm
  unfold aend
  refine ⟨fun s hs => ?_, fun s hs => ?_, fun k hk => ?_, ?_, ?_⟩
  · have := h1 s hs
    show (if s < 7 then (if s < pl 0 then min 999 (f s + pl (27 + s)) else f s) else _) ≤ 999
    rw [if_pos hs]
    split <;> omega
  · have := h2 s hs
    show (if 7 + s < 7 then _ else if 7 + s < 14 then (if 7 + s < 7 + pl 0 then 0 else f (7 + s)) else _) ≤ pl 2
    rw [if_neg (by omega), if_pos (by omega)]
    split <;> omega
  · show (if 14 + k < 7 then _ else if 14 + k < 14 then _ else if 14 + k < 63 then 0 else _) ≤ 99 * c
    rw [if_neg (by omega), if_neg (by omega), if_pos (by omega)]
    omega
  · show (if 63 < 7 then _ else if 63 < 14 then _ else if 63 < 63 then 0 else if 63 = 63 then f 63 else _) ≤ 999999
    rw [if_neg (by omega), if_neg (by omega), if_neg (by omega), if_pos rfl]
    exact h4
  · show (if 64 < 7 then _ else if 64 < 14 then _ else if 64 < 63 then 0 else if 64 = 63 then f 63 else if 64 = 64 then f 64 + 1 else _) ≤ 99
    rw [if_neg (by omega), if_neg (by omega), if_neg (by omega), if_neg (by omega), if_pos rfl]
    omega
theorem sp_ends : Sp_ends Inv := by
  intro c μ hc hI
  obtain ⟨tx, len, pl, f, kn, ps, b, gf, gk, gp, tr, h1, h2, h3⟩ := id hI
  have hq := h1.1.1
  have hns := h3.2.1.1
  have hO := h3.2.2.1.1
  have hpl : ∀ s, s < pl 0 → pl (27 + s) ≤ 40 := fun s hs => (h3.2.1.2.2.2.2.1 s hs).2.2.2.2.2
  have hy := hO.2.2.2.2
  have hC4 : gi μ 4 4 = nI (f 64) := h1.2.2.2.1.1.2.2.2.2
  have gM : ∀ k, k < 65 → ga μ 190 k = nI (f k) := fun k hk => by have := h2.2.2.1.1 k hk; rw [Nat.zero_add] at this; exact this
  by_cases h99 : f 64 = 99
  · refine ⟨-2, μ, μ, ?_, ?_, hI.up⟩
    · unfold f_X8_ends
      rw [hC4, if_neg (show ¬ nI (f 64) < 99 from nI_nlt (b := 99) (by omega) (by omega))]
    · unfold f_X9_ends
      rw [show (64 : Int32) = nI 64 from rfl, ldA_nI (by omega) (by omega), gM 64 (by omega), Option.bind_some, h99]
      rfl
  · have h98 : f 64 ≤ 98 := by omega
    obtain ⟨μ1, e1, e2, e3⟩ := remember_ok (o := 3) rfl hns h3.2.2.1.2.1 h1.2.2.2.1
    have hc' := isPl_cases hq
    have hPl : PlC μ1 (gpl μ) pl := h1.2.2.1.fr e2 (fun k k1 k2 => by omega)
    obtain ⟨μ3, e4, e5, e6⟩ := endYear_ok (o := 4) e3.1 hPl hns hO.1 hpl (by omega) h98
    have hF : Fr (fun k => 3 ≤ k ∧ k < 49) μ μ3 := (e2.mono (fun k hk => by omega)).tr (e5.mono (fun k hk => by omega))
    have hL3 : LeC μ3 (pl 0) 3 (aend pl f) (pk2 kn) (pp2 kn ps f) := e3.now e5 e6
    have hPl3 : PlC μ3 (gpl μ) pl := h1.2.2.1.fr hF (fun k k1 k2 => by omega)
    have hOe := aend_ok hO.up h98
    have hM3 := (h2.same (hF.sameM (fun k hk => by omega)))
    obtain ⟨a2, k1, k2⟩ := keeps_ok (μ := μ3) h3.2.2.1.2.1 hM3.2.2.1
    have g2 : ∀ k, k < 65 → a2 k = nI (f k) := fun k hk => by have := k2.1 k hk; rw [Nat.zero_add] at this; exact this
    have gM3 : ∀ k, k < 65 → ga μ3 190 k = nI (f k) := fun k hk => by have := hM3.2.2.1.1 k hk; rw [Nat.zero_add] at this; exact this
    have hsum := sumN_le (f := aend pl f) (M := 999) (n := pl 0) (fun k hk => hOe.1 k (by omega))
    generalize ha3 : upd (fun k => if 14 ≤ k ∧ k < 63 then nI 0 else if k < pl 0 then nI (min 999 (f k + pl (27 + k))) else if 7 ≤ k ∧ k < 7 + pl 0 then nI 0 else a2 k) 64 (nI (f 64 + 1)) = a3
    have l2 : LeM a3 0 (aend pl f) (pk2 kn) (pp2 kn ps f) := by
      rw [← ha3]
      refine k2.now (fun k hk => ?_) (fun k hk => ?_)
      · rw [upd_at, if_neg (by omega), if_neg (by omega), if_neg (by omega), if_neg (by omega)]
      · rw [upd_at, Nat.zero_add]
        unfold aend
        by_cases x1 : k = 64
        · rw [if_pos x1, if_neg (by omega), if_neg (by omega), if_neg (by omega), if_neg (by omega), if_pos x1]
        · rw [if_neg x1]
          by_cases x2 : 14 ≤ k ∧ k < 63
          · rw [if_pos x2, if_neg (by omega), if_neg (by omega), if_pos (by omega)]
          · rw [if_neg x2]
            by_cases x3 : k < pl 0
            · rw [if_pos x3, if_pos (by omega), if_pos x3]
            · rw [if_neg x3]
              by_cases x4 : 7 ≤ k ∧ k < 7 + pl 0
              · rw [if_pos x4, if_neg (by omega), if_pos (by omega), if_pos (by omega)]
              · rw [if_neg x4, g2 k hk]
                by_cases x5 : k < 7
                · rw [if_pos x5, if_neg x3]
                · rw [if_neg x5]
                  by_cases x6 : k < 14
                  · rw [if_pos x6, if_neg (by omega)]
                  · rw [if_neg x6, if_neg (by omega), if_pos (by omega), show k = 63 by omega]
    have gA : ∀ k, k < 65 → ga (sA μ3 190 a3) 190 k = nI (aend pl f k) := fun k hk => by rw [ga_sA, if_pos rfl]; have := l2.1 k hk; rw [Nat.zero_add] at this; exact this
    refine ⟨nI (sumN (aend pl f) (pl 0)), μ3, sA μ3 190 a3, ?_, ?_, act_done h1 h2 h3 hF hL3 l2 hOe⟩
    · unfold f_X8_ends
      rw [hC4, if_pos (show nI (f 64) < 99 from nI_lt (b := 99) (by omega) (by omega)), e1, Option.bind_some]
      simp only [e2.1, rfG_eq hq, Option.bind_some, e4, hF.1, hPl3.1, dueOfAll_ok e6 hns hOe.1]
    · unfold f_X9_ends
      rw [show (64 : Int32) = nI 64 from rfl, ldA_nI (by omega) (by omega), gM3 64 (by omega), Option.bind_some, if_neg (show ¬ nI (f 64) = 99 from fun q => h99 ((nI_eq (b := 99) (by omega) (by omega)).mp q)), k1, Option.bind_some, ends21 hM3.2.1 g2 hns hO.1 hpl, Option.bind_some, ends73, Option.bind_some, ldA_nI (by omega) (by omega), Option.bind_some, ga_sA, if_pos rfl, if_neg (by omega), if_neg (by omega), if_neg (by omega), g2 64 (by omega), nI_1, stA_nI (by omega) (by omega), Option.bind_some, sA_sA, ga_sA, if_pos rfl, ha3, all_ok (μ := sA μ3 190 a3) (pl := pl) (f := aend pl f) hM3.2.1 gA hns, Option.bind_some]
/-! undo -/
theorem InvO.un {c : Nat} {tx : Nat → Nat} {len : Nat} {pl f : Nat → Nat} {kn : Nat} {ps : Nat → Nat → Nat} {b : Nat → Nat} {gf : Nat → Nat → Nat} {gk : Nat → Nat} {gp : Nat → Nat → Nat → Nat} (h : InvO c tx len pl f kn ps b gf gk gp) (hk : 0 < kn) : InvO (c + 1) tx len pl (ps (kn - 1)) (kn - 1) ps b gf gk gp := by
  have h3 := h.up
  exact ⟨h3.1, h3.2.1, ⟨h3.2.2.1.2.2 _ (by omega), by have := h.2.2.1.2.1; omega, fun j hj => h3.2.2.1.2.2 j (by omega)⟩, h3.2.2.2⟩
theorem undo40 {μ : Mem} {a : Nat → Int32} {p : Nat} (hp : 66 ≤ p) (hp2 : p + 65 ≤ 716) : iter gFU (f_X9_undo_b40 (nI p)) (0, sA μ 190 a) = some (sA μ 190 (fun k => if k < 65 then a (p + k) else a k)) := by
  refine iter_forU (fun i => (nI i, sA μ 190 (fun k => if k < i then a (p + k) else a k))) 65 _ ?_ (by omega) ?_ ?_
  · refine Prod.ext rfl ?_
    show sA μ 190 a = sA μ 190 _
    congr 1
  · intro i hi
    unfold f_X9_undo_b40
    show (if (65 : Int32) ≤ nI i then _ else (ldA (sA μ 190 (fun k => if k < i then a (p + k) else a k)) 190 716 (nI p + nI i)).bind fun y6 => (stA (sA μ 190 (fun k => if k < i then a (p + k) else a k)) 190 716 (nI i) y6).bind fun m7 => some (Sum.inl (nI i + 1, m7))) = _
    rw [if_neg (show ¬ (65 : Int32) ≤ nI i from nI_ge (b := 65) hi (by omega)), nI_add, ldA_nI (by omega) (by omega), Option.bind_some, ga_sA, if_pos rfl, if_neg (by omega), stA_nI (by omega) (by omega), Option.bind_some, nI_1, sA_sA, ga_sA, if_pos rfl]
    congr 4
    funext k
    rw [upd_at]
    by_cases e : k = i
    · rw [if_pos e, if_pos (by omega), e]
    · rw [if_neg e]
      by_cases e3 : k < i
      · rw [if_pos e3, if_pos (by omega)]
      · rw [if_neg e3, if_neg (by omega)]
  · unfold f_X9_undo_b40
    show (if (65 : Int32) ≤ nI 65 then some (Sum.inr (sA μ 190 (fun k => if k < 65 then a (p + k) else a k))) else _) = _
    rw [if_pos (by decide)]
theorem takeBack_ok {μ : Mem} {o ns kn : Nat} {f : Nat → Nat} {ps : Nat → Nat → Nat} (ho : isLe o = true) (hns : ns ≤ 7) (hkn : kn ≤ 10) (hk0 : 0 < kn) (h : LeC μ ns o f kn ps) : ∃ μ2, f_X0_takeBack μ o = some (1, μ2) ∧ Fr (fun k => o ≤ k ∧ k < o + 5) μ μ2 ∧ LeC μ2 ns o (ps (kn - 1)) (kn - 1) ps := by
  obtain ⟨m1, m2, nx, hn, m3, m4⟩ := h
  unfold f_X0_takeBack
  rw [m2, if_neg (show ¬ nI kn = 0 from fun q => absurd ((nI_eq (b := 0) (by omega) (by omega)).mp q) (by omega)), m3]
  have hj : (if nI nx ≤ (0 : Int32) then f_X0_takeBack_j28 μ o o 9 else f_X0_takeBack_j28 μ o o (nI nx - 1)) = f_X0_takeBack_j28 μ o o (nI ((nx + 9) % 10)) := by
    by_cases e : nx = 0
    · subst e; rfl
    · rw [if_neg (show ¬ nI nx ≤ 0 from nI_nle (by omega) (by omega)), show (1 : Int32) = nI 1 from rfl, pk_sub (by omega), show (nx + 9) % 10 = nx - 1 by omega]
  rw [hj]
  unfold f_X0_takeBack_j28
  rw [stI_eq, Option.bind_some, gi_si, if_pos ⟨rfl, rfl⟩, rfA_nI (by omega) (by omega) (isMo_past ho (by omega)), Option.bind_some]
  obtain ⟨μ2, e1, e2, e3⟩ := copyFrom_ok (si μ o 3 (nI ((nx + 9) % 10))) (a := o + 1) (b := o + 5 + 1 + 4 * ((nx + 9) % 10)) (by omega)
  have g2 : gi μ2 o 2 = nI kn := by rw [(e2.2.2.2 o (by omega)).1, gi_si, if_neg (by omega)]; exact m2
  rw [e1, Option.bind_some, g2, show (1 : Int32) = nI 1 from rfl, pk_sub (by omega), stI_eq, Option.bind_some]
  have f1 : Fr (fun k => k = o) μ (si μ o 3 (nI ((nx + 9) % 10))) := Fr.si rfl
  have f3 : Fr (fun k => k = o) μ2 (si μ2 o 2 (nI (kn - 1))) := Fr.si rfl
  refine ⟨_, rfl, ((f1.mono (fun k hk => by omega)).tr (e2.mono (fun k hk => by omega))).tr (f3.mono (fun k hk => by omega)), ?_⟩
  have hmv : ∀ j, j < kn → MoC (si μ o 3 (nI ((nx + 9) % 10))) ns (o + 6 + 4 * ((nx + 10 - kn + j) % 10)) (ps j) := fun j hj => (m4 j hj).fr f1 (by omega) (by omega) (by omega) (by omega)
  have hlast := hmv (kn - 1) (by omega)
  rw [show (nx + 10 - kn + (kn - 1)) % 10 = (nx + 9) % 10 by omega, show o + 6 + 4 * ((nx + 9) % 10) = o + 5 + 1 + 4 * ((nx + 9) % 10) by omega] at hlast
  refine ⟨(e3 ns _ hns hlast).fr f3 (by omega) (by omega) (by omega) (by omega), by rw [gi_si, if_pos ⟨rfl, rfl⟩], (nx + 9) % 10, by omega, ?_, fun j hj => ?_⟩
  · rw [gi_si, if_neg (by omega), (e2.2.2.2 o (by omega)).1, gi_si, if_pos ⟨rfl, rfl⟩]
  · have hm := hmv j (by omega)
    rw [show (nx + 10 - kn + j) % 10 = ((nx + 9) % 10 + 10 - (kn - 1) + j) % 10 by omega] at hm
    exact (hm.fr e2 (by omega) (by omega) (by omega) (by omega)).fr f3 (by omega) (by omega) (by omega) (by omega)
theorem sp_undo : Sp_undo Inv := by
  intro c μ hc hI
  obtain ⟨tx, len, pl, f, kn, ps, b, gf, gk, gp, tr, h1, h2, h3⟩ := id hI
  have hns := h3.2.1.1
  have hkn := h3.2.2.1.2.1
  have e65 := h2.2.2.1.2.1
  rw [Nat.zero_add] at e65
  by_cases hk : kn = 0
  · subst hk
    refine ⟨-2, μ, μ, ?_, ?_, hI.up⟩
    · unfold f_X8_undo f_X0_takeBack
      rw [h1.2.2.2.1.2.1]
      rfl
    · unfold f_X9_undo
      rw [show (65 : Int32) = nI 65 from rfl, ldA_nI (by omega) (by omega), e65]
      rfl
  · obtain ⟨μ3, e1, e2, e3⟩ := takeBack_ok (o := 3) rfl hns hkn (by omega) h1.2.2.2.1
    have hF : Fr (fun k => 3 ≤ k ∧ k < 49) μ μ3 := e2.mono (fun k hk => by omega)
    have hM3 := (h2.same (hF.sameM (fun k hk => by omega)))
    have e65' := hM3.2.2.1.2.1
    rw [Nat.zero_add] at e65'
    obtain ⟨m1, m2, m3⟩ := hM3.2.2.1
    have l2 : LeM (fun k => if k < 65 then upd (ga μ3 190) 65 (nI (kn - 1)) (66 + 65 * (kn - 1) + k) else upd (ga μ3 190) 65 (nI (kn - 1)) k) 0 (ps (kn - 1)) (kn - 1) ps := by
      refine ⟨fun k hk => ?_, ?_, fun j hj k hk => ?_⟩
      · show (if 0 + k < 65 then upd (ga μ3 190) 65 (nI (kn - 1)) (66 + 65 * (kn - 1) + (0 + k)) else _) = _
        rw [if_pos (by omega), upd_at, if_neg (by omega), show 66 + 65 * (kn - 1) + (0 + k) = 0 + 66 + 65 * (kn - 1) + k by omega]
        exact m3 (kn - 1) (by omega) k hk
      · show (if 0 + 65 < 65 then _ else upd (ga μ3 190) 65 (nI (kn - 1)) (0 + 65)) = _
        rw [if_neg (by omega), upd_at, if_pos (by omega)]
      · show (if 0 + 66 + 65 * j + k < 65 then _ else upd (ga μ3 190) 65 (nI (kn - 1)) (0 + 66 + 65 * j + k)) = _
        rw [if_neg (by omega), upd_at, if_neg (by omega)]
        exact m3 j (by omega) k hk
    refine ⟨nI (kn - 1), μ3, sA μ3 190 _, ?_, ?_, ⟨tx, len, pl, ps (kn - 1), kn - 1, ps, b, gf, gk, gp, tr, (h1.led hF e3).same (SameC.sA (by omega) (by omega)), hM3.led l2, h3.un (by omega)⟩⟩
    · unfold f_X8_undo
      rw [e1, Option.bind_some]
      show some (gi μ3 3 2, μ3) = _
      rw [e3.2.1]
    · unfold f_X9_undo
      rw [show (65 : Int32) = nI 65 from rfl, show (66 : Int32) = nI 66 from rfl, ldA_nI (by omega) (by omega), e65', Option.bind_some, if_neg (show ¬ nI kn = 0 from fun q => hk ((nI_eq (b := 0) (by omega) (by omega)).mp q)), Option.bind_some, show (1 : Int32) = nI 1 from rfl, pk_sub (by omega), stA_nI (by omega) (by omega), Option.bind_some, ldA_nI (by omega) (by omega), Option.bind_some, ga_sA, if_pos rfl, upd_at, if_pos rfl, pk_mul, nI_add]
      show (iter gFU (f_X9_undo_b40 (nI (66 + 65 * (kn - 1)))) (0, sA μ3 190 (upd (ga μ3 190) 65 (nI (kn - 1))))).bind _ = _
      rw [undo40 (by omega) (by omega), Option.bind_some, ldA_nI (by omega) (by omega), Option.bind_some, ga_sA, if_pos rfl, if_neg (by omega), upd_at, if_pos rfl]

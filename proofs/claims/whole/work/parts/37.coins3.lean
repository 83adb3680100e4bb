/-! coins: the reference's rows -/
def RowR (m : Mem) (dw : Nat → Nat → Nat) (ns n s : Nat) : Prop := ∀ b, b < n → ga m 197 (100 * s + b) = nI (Hc dw ns s b / 1000) ∧ ga m 198 (100 * s + b) = nI (Hc dw ns s b % 1000)
def S2 (k : Nat) : Prop := k = 197 ∨ k = 198
theorem PlM.fr {S : Nat → Prop} {μ m : Mem} {pl : Nat → Nat} (h : Fr S μ m) (hs : ¬ S 188) (hm : PlM μ pl) : PlM m pl := by
  unfold PlM
  rw [(h.2.2.2 188 hs).2]
  exact hm
theorem ref31 {μ : Mem} {pl : Nat → Nat} {dw : Nat → Nat → Nat} {n : Nat} (x : Int32) (hP : PlM μ pl) (h7 : pl 0 ≤ 7) (hn : n ≤ 99) : ∃ m, iter gFU (f_X9_coins_b31 (nI n) x) (0, μ) = some m ∧ Fr S2 μ m ∧ RowR m dw (pl 0) (n + 1) (pl 0) := by
  refine iter_rule (fun t v => v.1 = nI t ∧ Fr S2 μ v.2 ∧ RowR v.2 dw (pl 0) t (pl 0)) _ (n + 1) (by omega) ?_ ⟨rfl, Fr.rf, fun b hb => by omega⟩
  rintro t ⟨v1, m⟩ ht ⟨i1, i2, i3⟩
  dsimp only at i1 i2 i3
  subst i1
  unfold f_X9_coins_b31
  dsimp only
  by_cases e : t = n + 1
  · rw [if_pos (nI_lt (by omega) (by omega))]
    exact Or.inr ⟨m, rfl, i2, by rw [e] at i3; exact i3⟩
  · have ld : ∀ m2, Fr S2 μ m2 → ldA m2 188 49 0 = some (nI (pl 0)) := fun m2 h => (ldA_nI (i := 0) (by omega) (by omega)).trans (by rw [(hP.fr h (by unfold S2; omega)) 0 (by omega)])
    have f1 : Fr S2 μ (sA m 197 (upd (ga m 197) (100 * pl 0 + t) 0)) := i2.tr (Fr.sA (Or.inl rfl))
    rw [if_neg (nI_nlt (by omega) (by omega)), ld m i2, Option.bind_some, show (100 : Int32) = nI 100 from rfl, pk_mul, nI_add, stA_nI (by omega) (by omega), Option.bind_some, ld _ f1, Option.bind_some, pk_mul, nI_add, stA_nI (by omega) (by omega), Option.bind_some, nI_1]
    refine Or.inl ⟨by omega, _, rfl, rfl, f1.tr (Fr.sA (Or.inr rfl)), ?_⟩
    intro b hb
    rw [ga_ne (by omega), ga_at, ga_at, ga_ne (by omega), upd_at, upd_at, Hc_end]
    by_cases e2 : b = t
    · rw [if_pos (by omega), if_pos (by omega)]
      exact ⟨rfl, rfl⟩
    · rw [if_neg (by omega), if_neg (by omega)]
      have := i3 b (by omega)
      rw [Hc_end] at this
      exact this
theorem ref108 {m : Mem} {pl f : Nat → Nat} {n s b : Nat} (x y : Int32) (hP : PlM m pl) (hM : ∀ k, k < 65 → ga m 190 k = nI (f k)) (h7 : pl 0 ≤ 7) (h9 : pl 2 ≤ 9) (hs : s < pl 0) (hf : f s ≤ 999) (hD : f (7 + s) ≤ pl 2) (hR : RowR m (dwOf pl f) (pl 0) (n + 1) (s + 1)) (hb : b ≤ n) (hn : n ≤ 99) : iter gFU (f_X9_coins_b108 m x y (nI s) (nI b)) (1000000, 0, 0) = some (nI (Hc (dwOf pl f) (pl 0) s b / 1000), nI (Hc (dwOf pl f) (pl 0) s b % 1000)) := by
  rw [← Hc_all (dwOf_12 pl f) hs]
  refine iter_forU (fun c => (nI (mn9 (Fc (dwOf pl f) (pl 0) s b) c / 1000), nI (mn9 (Fc (dwOf pl f) (pl 0) s b) c % 1000), nI c)) (b + 1) _ ?_ (by omega) ?_ ?_
  · show _ = (nI (1000000000 / 1000), nI (1000000000 % 1000), nI 0)
    rw [show 1000000000 / 1000 = 1000000 by omega, show 1000000000 % 1000 = 0 by omega]
    rfl
  · intro c hc
    have b1 := mn9_bd (Fc (dwOf pl f) (pl 0) s b) c
    have b3 := Hc_bd (ns := pl 0) (s := s + 1) (b := b - c) (dwOf_le pl f) h7 (by omega)
    have b4 := dwOf_le pl f s c
    obtain ⟨r1, r2⟩ := hR (b - c) (by omega)
    have ix : nI 100 * nI (s + 1) + nI b - nI c = nI (100 * (s + 1) + (b - c)) := by
      rw [pk_mul, nI_add, pk_sub (by omega)]
      congr 1
      omega
    have eF : Fc (dwOf pl f) (pl 0) s b c = dwOf pl f s c * 1000 + c + Hc (dwOf pl f) (pl 0) (s + 1) (b - c) := rfl
    have q1 : Fc (dwOf pl f) (pl 0) s b c / 1000 = dwOf pl f s c + Hc (dwOf pl f) (pl 0) (s + 1) (b - c) / 1000 := by omega
    have q2 : Fc (dwOf pl f) (pl 0) s b c % 1000 = c + Hc (dwOf pl f) (pl 0) (s + 1) (b - c) % 1000 := by omega
    unfold f_X9_coins_b108
    dsimp only
    rw [if_neg (nI_nlt (by omega) (by omega)), dueBy_ok hP hM (by omega) hf hD h9 (by omega), ← dwOf_eq hf, Option.bind_some, nI_1, show (100 : Int32) = nI 100 from rfl, ix, ldA_nI (by omega) (by omega), r1, Option.bind_some, ldA_nI (by omega) (by omega), r2, Option.bind_some, nI_add, nI_add, ← q1, ← q2]
    have hE : mn9 (Fc (dwOf pl f) (pl 0) s b) (c + 1) = min (mn9 (Fc (dwOf pl f) (pl 0) s b) c) (Fc (dwOf pl f) (pl 0) s b c) := rfl
    have hFb := Fc_bd (ns := pl 0) (s := s) (b := b) (c := c) (dwOf_le pl f) h7 (by omega) (by omega)
    rw [hE]
    generalize mn9 (Fc (dwOf pl f) (pl 0) s b) c = M at *
    generalize Fc (dwOf pl f) (pl 0) s b c = F at *
    have yes : ∀ M' : Nat, M' = F → f_X9_coins_j179 m x y (nI s) (nI b) (nI (M / 1000)) (nI (M % 1000)) (nI c) (nI (F / 1000)) (nI (F % 1000)) = some (.inl (nI (M' / 1000), nI (M' % 1000), nI (c + 1))) := by
      intro M' e
      unfold f_X9_coins_j179 f_X9_coins_j184
      rw [if_neg (by decide)]
      unfold f_X9_coins_j198
      rw [if_neg (by decide), nI_1, e]
    have no : ∀ M' : Nat, M' = M → f_X9_coins_j183 m x y (nI s) (nI b) (nI (M / 1000)) (nI (M % 1000)) (nI c) (nI (F / 1000)) (nI (F % 1000)) = some (.inl (nI (M' / 1000), nI (M' % 1000), nI (c + 1))) := by
      intro M' e
      unfold f_X9_coins_j183 f_X9_coins_j184
      rw [if_pos rfl]
      unfold f_X9_coins_j198
      rw [if_pos rfl, nI_1, e]
    by_cases w1 : F / 1000 < M / 1000
    · rw [if_pos (nI_lt w1 (by omega))]
      exact yes _ (by omega)
    · rw [if_neg (nI_nlt (by omega) (by omega))]
      by_cases w2 : F / 1000 = M / 1000
      · rw [if_pos (by rw [w2])]
        by_cases w3 : M % 1000 ≤ F % 1000
        · rw [if_pos (nI_le w3 (by omega))]
          exact no _ (by omega)
        · rw [if_neg (nI_ge (by omega) (by omega))]
          exact yes _ (by omega)
      · rw [if_neg (fun z => w2 ((nI_eq (by omega) (by omega)).mp z))]
        exact no _ (by omega)
  · unfold f_X9_coins_b108
    dsimp only
    rw [if_pos (nI_lt (by omega) (by omega))]
theorem ref92 {μ m : Mem} {pl f : Nat → Nat} {n s : Nat} (x : Int32) (hP : PlM μ pl) (hM : ∀ k, k < 65 → ga μ 190 k = nI (f k)) (h7 : pl 0 ≤ 7) (h9 : pl 2 ≤ 9) (hs : s < pl 0) (hf : f s ≤ 999) (hD : f (7 + s) ≤ pl 2) (hF : Fr S2 μ m) (hR : ∀ s2, s < s2 → s2 ≤ pl 0 → RowR m (dwOf pl f) (pl 0) (n + 1) s2) (hn : n ≤ 99) : ∃ m2, iter gFU (f_X9_coins_b92 (nI n) x (nI s)) (0, m) = some m2 ∧ Fr S2 μ m2 ∧ ∀ s2, s ≤ s2 → s2 ≤ pl 0 → RowR m2 (dwOf pl f) (pl 0) (n + 1) s2 := by
  refine iter_rule (fun t v => v.1 = nI t ∧ Fr S2 μ v.2 ∧ (∀ s2, s < s2 → s2 ≤ pl 0 → RowR v.2 (dwOf pl f) (pl 0) (n + 1) s2) ∧ RowR v.2 (dwOf pl f) (pl 0) t s) _ (n + 1) (by omega) ?_ ⟨rfl, hF, hR, fun b hb => by omega⟩
  rintro t ⟨v1, m⟩ ht ⟨i1, i2, i3, i4⟩
  dsimp only at i1 i2 i3 i4
  subst i1
  unfold f_X9_coins_b92
  dsimp only
  by_cases e : t = n + 1
  · rw [if_pos (nI_lt (by omega) (by omega))]
    refine Or.inr ⟨m, rfl, i2, fun s2 h1 h2 => ?_⟩
    by_cases w : s2 = s
    · rw [w]; rw [e] at i4; exact i4
    · exact i3 s2 (by omega) h2
  · rw [if_neg (nI_nlt (by omega) (by omega)), ref108 (n := n) _ _ (hP.fr i2 (by unfold S2; omega)) (fun k hk => by rw [(i2.2.2.2 190 (by unfold S2; omega)).2]; exact hM k hk) h7 h9 hs hf hD (i3 (s + 1) (by omega) (by omega)) (by omega) hn, Option.bind_some]
    dsimp only
    rw [show (100 : Int32) = nI 100 from rfl, pk_mul, nI_add, stA_nI (by omega) (by omega), Option.bind_some, stA_nI (by omega) (by omega), Option.bind_some, nI_1]
    refine Or.inl ⟨by omega, _, rfl, rfl, (i2.tr (Fr.sA (Or.inl rfl))).tr (Fr.sA (Or.inr rfl)), ?_, ?_⟩
    · intro s2 h1 h2 b hb
      have := i3 s2 h1 h2 b hb
      rw [ga_ne (by omega), ga_at, ga_at, ga_ne (by omega), upd_at, upd_at, if_neg (by omega), if_neg (by omega)]
      exact this
    · intro b hb
      rw [ga_ne (by omega), ga_at, ga_at, ga_ne (by omega), upd_at, upd_at]
      by_cases w : b = t
      · rw [if_pos (by omega), if_pos (by omega), w]
        exact ⟨rfl, rfl⟩
      · rw [if_neg (by omega), if_neg (by omega)]
        exact i4 b (by omega)
theorem ref85 {μ m : Mem} {pl f : Nat → Nat} {n : Nat} (x : Int32) (hP : PlM μ pl) (hM : ∀ k, k < 65 → ga μ 190 k = nI (f k)) (h7 : pl 0 ≤ 7) (h9 : pl 2 ≤ 9) (hf : ∀ s, s < 7 → f s ≤ 999) (hD : ∀ s, s < 7 → f (7 + s) ≤ pl 2) (hF : Fr S2 μ m) (hR : RowR m (dwOf pl f) (pl 0) (n + 1) (pl 0)) (hn : n ≤ 99) : ∃ m2, iter gFU (f_X9_coins_b85 (nI n) x) (nI (pl 0) - 1, m) = some m2 ∧ Fr S2 μ m2 ∧ ∀ s2, s2 ≤ pl 0 → RowR m2 (dwOf pl f) (pl 0) (n + 1) s2 := by
  refine iter_rule (fun t v => v.1 = nI (pl 0) - nI (t + 1) ∧ Fr S2 μ v.2 ∧ ∀ s2, pl 0 - t ≤ s2 → s2 ≤ pl 0 → RowR v.2 (dwOf pl f) (pl 0) (n + 1) s2) _ (pl 0) (by omega) ?_ ⟨rfl, hF, fun s2 h1 h2 => by rw [show s2 = pl 0 by omega]; exact hR⟩
  rintro t ⟨v1, m⟩ ht ⟨i1, i2, i3⟩
  dsimp only at i1 i2 i3
  subst i1
  unfold f_X9_coins_b85
  dsimp only
  by_cases e : t = pl 0
  · rw [if_pos (show nI (pl 0) - nI (t + 1) < 0 from pk_sneg (by omega) (by omega))]
    exact Or.inr ⟨m, rfl, i2, fun s hs => i3 s (by omega) hs⟩
  · have es : nI (pl 0) - nI (t + 1) = nI (pl 0 - (t + 1)) := pk_sub (by omega)
    have es1 : nI (pl 0) - nI (t + 1) + -1 = nI (pl 0) - nI (t + 1 + 1) := by
      rw [← nI_1 (t + 1), ← Int32.sub_sub, Int32.sub_eq_add_neg (nI (pl 0) - nI (t + 1)) 1]
    rw [es1, es, if_neg (nI_pos (by omega))]
    generalize hs : pl 0 - (t + 1) = s at *
    obtain ⟨m2, k1, k2, k3⟩ := ref92 x hP hM h7 h9 (show s < pl 0 by omega) (hf s (by omega)) (hD s (by omega)) i2 (fun s2 h1 h2 => i3 s2 (by omega) h2) hn
    rw [k1, Option.bind_some]
    exact Or.inl ⟨by omega, _, rfl, rfl, k2, fun s2 h1 h2 => k3 s2 (by omega) h2⟩
theorem ref305 {m : Mem} {pl f : Nat → Nat} {n s b : Nat} (x : Int32) (hP : PlM m pl) (hM : ∀ k, k < 65 → ga m 190 k = nI (f k)) (h7 : pl 0 ≤ 7) (h9 : pl 2 ≤ 9) (hs : s < pl 0) (hf : f s ≤ 999) (hD : f (7 + s) ≤ pl 2) (hR : RowR m (dwOf pl f) (pl 0) (n + 1) (s + 1)) (hR0 : RowR m (dwOf pl f) (pl 0) (n + 1) s) (hb : b ≤ n) (hn : n ≤ 99) : iter gFU (f_X9_coins_b305 m x (nI b) (nI s)) (-1, 0) = some (nI (fcc (dwOf pl f) (pl 0) s b)) := by
  obtain ⟨f1, f2, f3, f4⟩ := fcc_ok (ns := pl 0) (s := s) (b := b) (dwOf_le pl f) h7 (by omega) hs
  have hb0 := Hc_bd (ns := pl 0) (s := s) (b := b) (dwOf_le pl f) h7 (by omega)
  have stp : ∀ c, c ≤ fcc (dwOf pl f) (pl 0) s b → f_X9_coins_b305 m x (nI b) (nI s) (-1, nI c) = if Fc (dwOf pl f) (pl 0) s b c = Hc (dwOf pl f) (pl 0) s b then some (.inl (nI c, nI (c + 1))) else some (.inl (-1, nI (c + 1))) := by
    intro c hc
    have b3 := Hc_bd (ns := pl 0) (s := s + 1) (b := b - c) (dwOf_le pl f) h7 (by omega)
    have b4 := dwOf_le pl f s c
    obtain ⟨r1, r2⟩ := hR (b - c) (by omega)
    obtain ⟨r3, r4⟩ := hR0 b (by omega)
    have ix : nI 100 * nI (s + 1) + nI b - nI c = nI (100 * (s + 1) + (b - c)) := by
      rw [pk_mul, nI_add, pk_sub (by omega)]
      congr 1
      omega
    have ix0 : nI 100 * nI s + nI b = nI (100 * s + b) := by rw [pk_mul, nI_add]
    have eF : Fc (dwOf pl f) (pl 0) s b c = dwOf pl f s c * 1000 + c + Hc (dwOf pl f) (pl 0) (s + 1) (b - c) := rfl
    have hFb := Fc_bd (ns := pl 0) (s := s) (b := b) (c := c) (dwOf_le pl f) h7 (by omega) (by omega)
    have q1 : Fc (dwOf pl f) (pl 0) s b c / 1000 = dwOf pl f s c + Hc (dwOf pl f) (pl 0) (s + 1) (b - c) / 1000 := by omega
    have q2 : Fc (dwOf pl f) (pl 0) s b c % 1000 = c + Hc (dwOf pl f) (pl 0) (s + 1) (b - c) % 1000 := by omega
    unfold f_X9_coins_b305
    dsimp only
    rw [if_neg (nI_nlt (by omega) (by omega)), if_neg (by decide), dueBy_ok hP hM (by omega) hf hD h9 (by omega), ← dwOf_eq hf, Option.bind_some, nI_1, show (100 : Int32) = nI 100 from rfl, ix, ix0, ldA_nI (show 100 * (s + 1) + (b - c) < 800 by omega) (by omega), r1, Option.bind_some, ldA_nI (show 100 * s + b < 800 by omega) (by omega), r3, Option.bind_some, nI_add, ← q1, ldA_nI (show 100 * (s + 1) + (b - c) < 800 by omega) (by omega), r2, Option.bind_some, ldA_nI (show 100 * s + b < 800 by omega) (by omega), r4, Option.bind_some, nI_add, ← q2]
    generalize Fc (dwOf pl f) (pl 0) s b c = F at *
    generalize Hc (dwOf pl f) (pl 0) s b = H at *
    have no : f_X9_coins_j390 m x (nI b) (nI s) (-1) (nI c) = some (.inl (-1, nI (c + 1))) := by
      unfold f_X9_coins_j390 f_X9_coins_j391
      rw [if_pos rfl, nI_1]
    have yes : f_X9_coins_j391 m x (nI b) (nI s) (-1) (nI c) 1 = some (.inl (nI c, nI (c + 1))) := by
      unfold f_X9_coins_j391
      rw [if_neg (by decide), nI_1]
    rw [no, yes]
    by_cases w : F = H
    · rw [if_pos w, if_pos (by rw [w]), if_pos (by rw [w])]
    · rw [if_neg w]
      by_cases w1 : F / 1000 = H / 1000
      · rw [if_pos (by rw [w1]), if_neg (fun z => w (by have := (nI_eq (by omega) (by omega)).mp z; omega))]
      · rw [if_neg (fun z => w1 ((nI_eq (by omega) (by omega)).mp z))]
  refine iter_forU (fun c => if c ≤ fcc (dwOf pl f) (pl 0) s b then (-1, nI c) else (nI (fcc (dwOf pl f) (pl 0) s b), nI c)) (fcc (dwOf pl f) (pl 0) s b + 1) _ ?_ (by omega) ?_ ?_
  · rw [if_pos (by omega)]
    rfl
  · intro c hc
    rw [if_pos (by omega), stp c (by omega)]
    by_cases w : c = fcc (dwOf pl f) (pl 0) s b
    · rw [if_pos (by rw [w]; exact f3), if_neg (by omega), w]
    · rw [if_neg (f4 c (by omega)), if_pos (by omega)]
  · rw [if_neg (by omega)]
    unfold f_X9_coins_b305
    dsimp only
    by_cases w : nI b < nI (fcc (dwOf pl f) (pl 0) s b + 1)
    · rw [if_pos w]
    · rw [if_neg w, if_pos (nI_pos' (by omega))]
theorem ref293 {m : Mem} {pl f : Nat → Nat} {n k : Nat} (hP : PlM m pl) (hM : ∀ k, k < 65 → ga m 190 k = nI (f k)) (h7 : pl 0 ≤ 7) (h9 : pl 2 ≤ 9) (hk : k < pl 0) (hf : ∀ s, s < 7 → f s ≤ 999) (hD : ∀ s, s < 7 → f (7 + s) ≤ pl 2) (hR : ∀ s, s ≤ pl 0 → RowR m (dwOf pl f) (pl 0) (n + 1) s) (hn : n ≤ 99) : iter gFU (f_X9_coins_b293 m (nI k)) (nI n, 0, 0) = some (nI (fcc (dwOf pl f) (pl 0) k (bud (dwOf pl f) (pl 0) n k))) := by
  refine iter_forU (fun i => (nI (bud (dwOf pl f) (pl 0) n i), (if i = 0 then 0 else nI (fcc (dwOf pl f) (pl 0) (i - 1) (bud (dwOf pl f) (pl 0) n (i - 1)))), nI i)) (k + 1) _ rfl (by omega) ?_ ?_
  · intro i hi
    have b1 := bud_le (dwOf pl f) (pl 0) n i
    obtain ⟨f1, f2, f3, f4⟩ := fcc_ok (ns := pl 0) (s := i) (b := bud (dwOf pl f) (pl 0) n i) (dwOf_le pl f) h7 (by omega) (by omega)
    unfold f_X9_coins_b293
    dsimp only
    rw [if_neg (nI_nlt (by omega) (by omega)), ref305 (n := n) _ hP hM h7 h9 (by omega) (hf i (by omega)) (hD i (by omega)) (hR (i + 1) (by omega)) (hR i (by omega)) b1 hn, Option.bind_some, pk_sub f2, nI_1, if_neg (show ¬ i + 1 = 0 by omega)]
    rfl
  · unfold f_X9_coins_b293
    dsimp only
    rw [if_pos (nI_lt (by omega) (by omega)), if_neg (show ¬ k + 1 = 0 by omega)]
    rfl
theorem inm2 {m : Mem} {ns : Nat} (a : Int32) (hn : ns ≤ 7) : f_X9_in m a (-2) (nI ns - 1) = some (bi (decide (a = -1) || decide (a = -2) || ck a ns)) := by
  have h1 : (nI ns - 1).toInt = (ns : Int) - 1 := pk_sub_toInt (a := ns) (b := 1) (by omega) (by omega)
  unfold f_X9_in
  have hm1 : a = -1 ↔ a.toInt = -1 := by rw [← Int32.toInt_inj]; rfl
  have hm2 : a = -2 ↔ a.toInt = -2 := by rw [← Int32.toInt_inj]; rfl
  have hlt : a < -2 ↔ a.toInt < -2 := by rw [Int32.lt_iff_toInt_lt]; rfl
  have hgt : nI ns - 1 < a ↔ (ns : Int) - 1 < a.toInt := by rw [Int32.lt_iff_toInt_lt, h1]
  rcases int_range a (n := ns) (by omega) with ⟨e1, e2⟩ | ⟨e1, e2, e3⟩ | ⟨j, e1, rfl, e3⟩
  · rw [e2]
    have e1' : a.toInt < 0 := by rw [Int32.lt_iff_toInt_lt] at e1; exact e1
    by_cases q1 : a = -1
    · rw [if_neg (by rw [hlt]; have := hm1.mp q1; omega), if_neg (by rw [hgt]; have := hm1.mp q1; omega)]
      simp [q1, bi]
    · by_cases q2 : a = -2
      · rw [if_neg (by rw [hlt]; have := hm2.mp q2; omega), if_neg (by rw [hgt]; have := hm2.mp q2; omega)]
        simp [q2, bi]
      · have n1 : a.toInt ≠ -1 := fun z => q1 (hm1.mpr z)
        have n2 : a.toInt ≠ -2 := fun z => q2 (hm2.mpr z)
        rw [if_pos (by rw [hlt]; omega)]
        simp [q1, q2, bi]
  · have e1' : 0 ≤ a.toInt := by
      have := Int32.not_lt.mp e1
      rw [Int32.le_iff_toInt_le] at this
      exact this
    have e2' : (ns : Int) ≤ a.toInt := by
      rw [Int32.le_iff_toInt_le, nI_toInt (by omega)] at e2
      exact e2
    have q1 : ¬ a = -1 := fun z => by have := hm1.mp z; omega
    have q2 : ¬ a = -2 := fun z => by have := hm2.mp z; omega
    rw [e3, if_neg (by rw [hlt]; omega), if_pos (by rw [hgt]; omega)]
    simp [q1, q2, bi]
  · have t : (nI j).toInt = j := nI_toInt (by omega)
    rw [e3, if_neg (by rw [hlt, t]; omega), if_neg (by rw [hgt, t]; omega)]
    simp [bi]
theorem sp_coins : Sp_coins Inv := by
  intro c μ a1 a2 hc hI
  obtain ⟨tx, len, pl, f, kn, ps, b, gf, gk, gp, tr, h1, h2, h3⟩ := id hI
  have hq := h1.1.1
  have hO := h3.2.1
  have h7 := hO.1
  have h9 := hO.2.2.1
  have hMo := h3.2.2.1.1
  have hf := hMo.1
  have hD := hMo.2.1
  have hC := h1.2.2.2.1.1
  have ld0 : ∀ {m : Mem}, PlM m pl → ldA m 188 49 0 = some (nI (pl 0)) := fun {m} h => (ldA_nI (i := 0) (by omega) (by omega)).trans (by rw [h 0 (by omega)])
  have triv : f_X8_coins μ a1 a2 = some (-1, μ) → f_X9_coins μ a1 a2 = some (-1, μ) → ∃ (r : Int32) (μ1 μ2 : Mem), (f_X8_coins μ a1 a2 = some (r, μ1)) ∧ (f_X9_coins μ1 a1 a2 = some (r, μ2)) ∧ Inv (c + 1) μ2 := fun q1 q2 => ⟨-1, μ, μ, q1, q2, hI.up⟩
  have c8 : f_X8_coins μ a1 a2 = if ck a1 100 && (decide (a2 = -1) || decide (a2 = -2) || ck a2 (pl 0)) then f_X8_coins_j41 μ a1 a2 else some (-1, μ) := by
    unfold f_X8_coins f_X8_coins_j11 f_X8_coins_j16
    rw [isAsked_eq, Option.bind_some, rfG_eq hq, Option.bind_some, hasStair_eq h1.2.2.1.1 h7, Option.bind_some]
    cases hk1 : ck a1 100 with
    | false =>
      simp [bi]
    | true =>
      by_cases q1 : a2 = -1
      · simp [q1, bi]
      · by_cases q2 : a2 = -2
        · simp [q2, bi]
        · cases hk2 : ck a2 (pl 0) <;> simp [q1, q2, bi]
  have c9 : ∀ m, PlM m pl → f_X9_coins m a1 a2 = if ck a1 100 && (decide (a2 = -1) || decide (a2 = -2) || ck a2 (pl 0)) then (iter gFU (f_X9_coins_b31 a1 a2) (0, m)).bind fun z10 => (ldA z10 188 49 0).bind fun y11 => (iter gFU (f_X9_coins_b85 a1 a2) (y11 - 1, z10)).bind fun z71 => if (0 : Int32) ≤ a2 then (iter gFU (f_X9_coins_b293 z71 a2) (a1, 0, 0)).bind fun z94 => some (z94, z71) else if a2 = -1 then (ldA z71 197 800 a1).bind fun y96 => some (y96, z71) else (ldA z71 198 800 a1).bind fun y95 => some (y95, z71) else some (-1, m) := by
    intro m hm
    unfold f_X9_coins
    rw [in99_eq, Option.bind_some, ld0 hm, Option.bind_some, inm2 _ h7, Option.bind_some]
    cases hk1 : ck a1 100 with
    | false => rfl
    | true =>
      cases hk2 : (decide (a2 = -1) || decide (a2 = -2) || ck a2 (pl 0)) with
      | false => rfl
      | true => rfl
  cases hg : (ck a1 100 && (decide (a2 = -1) || decide (a2 = -2) || ck a2 (pl 0))) with
  | false =>
    refine triv ?_ ?_
    · rw [c8, hg]; rfl
    · rw [c9 μ h2.2.1, hg]; rfl
  | true =>
    have hk1 : ck a1 100 = true := by
      cases q : ck a1 100 with
      | false => rw [q] at hg; cases hg
      | true => rfl
    obtain ⟨n, hn, rfl⟩ := ck_nat hk1 (by omega)
    obtain ⟨m, e1, e2, e3, e4⟩ := spend_ok (n := n) hq h1.2.2.1 hO hC hf hD (by omega)
    have sC : SameC μ m := e2.sameC (fun k hk => by omega)
    have sM : SameM μ m := e2.sameM (fun k hk => by omega)
    have i2 := h2.same sM
    have gM : ∀ k, k < 65 → ga m 190 k = nI (f k) := fun k hk => by have := i2.2.2.1.1 k hk; rw [Nat.zero_add] at this; exact this
    obtain ⟨m1, r1, r2, r3⟩ := ref31 (dw := dwOf pl f) a2 i2.2.1 h7 (show n ≤ 99 by omega)
    have r4 := i2.2.1.fr r2 (by unfold S2; omega)
    obtain ⟨m2, t1, t2, t3⟩ := ref85 (n := n) a2 i2.2.1 gM h7 h9 hf hD r2 r3 (by omega)
    have sC2 : SameC μ m2 := sC.tr (t2.sameC (fun k hk => by unfold S2 at hk; omega))
    have sM2 : SameM μ m2 := sM.tr ⟨t2.2.2.1 186, by rw [(t2.2.2.2 186 (by unfold S2; omega)).1], (t2.2.2.2 187 (by unfold S2; omega)).2, (t2.2.2.2 188 (by unfold S2; omega)).2, (t2.2.2.2 190 (by unfold S2; omega)).2, (t2.2.2.2 191 (by unfold S2; omega)).2, (t2.2.2.2 192 (by unfold S2; omega)).2, by rw [(t2.2.2.2 196 (by unfold S2; omega)).2]⟩
    have inv2 := hI.same sC2 sM2
    have c8' : f_X8_coins μ (nI n) a2 = if a2 = -1 then (f_X2_leastDue m (nI n)).bind fun y17 => some (y17, m) else if a2 = -2 then (f_X2_fewestCoins m (nI n)).bind fun y16 => some (y16, m) else (f_X2_coinsFor m a2 (nI n)).bind fun y15 => some (y15, m) := by
      rw [c8, hg, if_pos rfl]
      unfold f_X8_coins_j41
      rw [rfG_eq hq, Option.bind_some, e1, Option.bind_some]
    have c9' : f_X9_coins m (nI n) a2 = if (0 : Int32) ≤ a2 then (iter gFU (f_X9_coins_b293 m2 a2) (nI n, 0, 0)).bind fun z94 => some (z94, m2) else if a2 = -1 then (ldA m2 197 800 (nI n)).bind fun y96 => some (y96, m2) else (ldA m2 198 800 (nI n)).bind fun y95 => some (y95, m2) := by
      rw [c9 m i2.2.1, hg, if_pos rfl, r1, Option.bind_some, ld0 r4, Option.bind_some, t1, Option.bind_some]
    have hH := Hc_bd (ns := pl 0) (s := 0) (b := n) (dwOf_le pl f) h7 (by omega)
    have rr := t3 0 (by omega) n (by omega)
    rw [show 100 * 0 + n = n by omega] at rr
    by_cases q1 : a2 = -1
    · subst q1
      refine ⟨nI (Hc (dwOf pl f) (pl 0) 0 n / 1000), m, m2, ?_, ?_, inv2⟩
      · rw [c8', if_pos rfl]
        unfold f_X2_leastDue
        rw [show rfA 156 8 1 0 isAny = some (157 + 0) from rf156 (s := 0) (by omega), Option.bind_some, ldA_nI (by omega) (by omega), e4 0 (by omega) n (Nat.le_refl _), Option.bind_some, show (1000 : Int32) = nI 1000 from rfl, dv_nI (by omega) (by omega) (by omega), Option.bind_some, Option.bind_some]
      · rw [c9', if_neg (by decide), if_pos rfl, ldA_nI (by omega) (by omega), rr.1, Option.bind_some]
    · by_cases q2 : a2 = -2
      · subst q2
        refine ⟨nI (Hc (dwOf pl f) (pl 0) 0 n % 1000), m, m2, ?_, ?_, inv2⟩
        · rw [c8', if_neg (by decide), if_pos rfl]
          unfold f_X2_fewestCoins
          rw [show rfA 156 8 1 0 isAny = some (157 + 0) from rf156 (s := 0) (by omega), Option.bind_some, ldA_nI (by omega) (by omega), e4 0 (by omega) n (Nat.le_refl _), Option.bind_some, show (1000 : Int32) = nI 1000 from rfl, rm_nI (by omega) (by omega) (by omega), Option.bind_some, Option.bind_some]
        · rw [c9', if_neg (by decide), if_neg (by decide), ldA_nI (by omega) (by omega), rr.2, Option.bind_some]
      · have hk2 : ck a2 (pl 0) = true := by
          cases q : ck a2 (pl 0) with
          | false => rw [q] at hg; simp [q1, q2] at hg
          | true => rfl
        obtain ⟨k, hk, rfl⟩ := ck_nat hk2 (by omega)
        refine ⟨nI (fcc (dwOf pl f) (pl 0) k (bud (dwOf pl f) (pl 0) n k)), m, m2, ?_, ?_, inv2⟩
        · rw [c8', if_neg q1, if_neg q2, coinsFor_ok (dwOf_le pl f) h7 hk e3 e4 (by omega), Option.bind_some]
        · rw [c9', if_pos (nI_pos' (by omega)), ref293 (n := n) (i2.2.1.fr t2 (by unfold S2; omega)) (fun k hk => by rw [(t2.2.2.2 190 (by unfold S2; omega)).2]; exact gM k hk) h7 h9 hk hf hD t3 (by omega), Option.bind_some]

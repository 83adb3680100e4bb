/-! house: what is told becomes the house -/
theorem begin_ok {m : Mem} {q : Nat} (hq : 8 ≤ q) : ∃ z, f_X0_begin m 3 q = some z ∧ Fr (fun k => 3 ≤ k ∧ k < 8) m z ∧ (∀ k, k < 7 → ga z 5 k = ga m (q + 4) k) ∧ (∀ k, k < 7 → ga z 6 k = nI 0) ∧ (∀ k, k < 49 → ga z 7 k = nI 0) ∧ gi z 4 3 = nI 0 ∧ gi z 4 4 = nI 0 ∧ gi z 3 2 = nI 0 ∧ gi z 3 3 = nI 0 := by
  unfold f_X0_begin f_X1_begin
  rw [show cpA m (q + 4) 7 0 (3 + 1 + 1) 7 0 7 = some (sA m 5 (fun i => if i < 7 then ga m (q + 4) i else ga m 5 i)) from cpA_nI (n := 7) (by omega) (by omega) (by omega), Option.bind_some, fill_ok (by omega), Option.bind_some, fill_ok (by omega), Option.bind_some, stI_eq, Option.bind_some, stI_eq, Option.bind_some, Option.bind_some, stI_eq, Option.bind_some, stI_eq, Option.bind_some]
  refine ⟨_, rfl, ?_, fun k hk => ?_, fun k hk => ?_, fun k hk => ?_, ?_, ?_, ?_, ?_⟩
  · exact ((((((Fr.sA (by omega)).tr (Fr.sA (by omega))).tr (Fr.sA (by omega))).tr (Fr.si (by omega))).tr (Fr.si (by omega))).tr (Fr.si (by omega))).tr (Fr.si (by omega))
  · rw [ga_si, ga_si, ga_si, ga_si, ga_ne (by omega), ga_ne (by omega), ga_at, if_pos hk]
  · rw [ga_si, ga_si, ga_si, ga_si, ga_ne (by omega), ga_sA, if_pos (by omega), if_pos hk]; rfl
  · rw [ga_si, ga_si, ga_si, ga_si, ga_sA, if_pos (by omega), if_pos hk]; rfl
  · rw [gi_si, if_neg (by omega), gi_si, if_neg (by omega), gi_si, if_neg (by omega), gi_si, if_pos ⟨rfl, rfl⟩]; rfl
  · rw [gi_si, if_neg (by omega), gi_si, if_neg (by omega), gi_si, if_pos ⟨rfl, rfl⟩]; rfl
  · rw [gi_si, if_neg (by omega), gi_si, if_pos ⟨rfl, rfl⟩]; rfl
  · rw [gi_si, if_pos ⟨rfl, rfl⟩]; rfl
theorem bool0 : vp_nar .boolean (0 : Int32) = nI 0 := rfl
theorem house56 {m : Mem} (x : Int32) : ∃ z, iter gFU (f_X8_house_b56 x) (0, m) = some z ∧ Fr (fun k => k = 142) m z ∧ ∀ e, e < 2 → ga z 142 e = nI 0 := by
  refine iter_rule (B := f_X8_house_b56 x) (v := (0, m)) (fun (i : Nat) (v : Int32 × Mem) => v.1 = nI i ∧ Fr (fun k => k = 142) m v.2 ∧ ∀ k, k < i → ga v.2 142 k = nI 0) (fun z => Fr (fun k => k = 142) m z ∧ ∀ e, e < 2 → ga z 142 e = nI 0) 2 (by omega) ?_ ⟨rfl, Fr.rf, fun k hk => by omega⟩
  rintro i ⟨a, v⟩ hi ⟨c0, c1, c2⟩
  dsimp only at c0 c1 c2
  subst c0
  unfold f_X8_house_b56
  dsimp only
  by_cases e : i = 2
  · rw [if_pos (show (2 : Int32) ≤ nI i by rw [e]; decide)]
    exact Or.inr ⟨_, rfl, c1, by rw [← e]; exact c2⟩
  · rw [if_neg (show ¬ (2 : Int32) ≤ nI i from nI_ge (b := 2) (by omega) (by omega)), stZ_nI (by omega) (by omega), Option.bind_some, nI_1, bool0]
    refine Or.inl ⟨by omega, _, rfl, rfl, c1.tr (Fr.sA rfl), fun k hk => ?_⟩
    show ga (sA v 142 _) 142 k = _
    rw [ga_at, upd_at]
    by_cases u : k = i
    · rw [if_pos u]
    · rw [if_neg u]; exact c2 k (by omega)
def nowOf (dr : Nat → Nat) : Nat → Nat := fun k => if k < dr 0 then dr (27 + k) else 0
theorem tells_ok {w : Mem} {dr : Nat → Nat} (h : ∀ k, k < 49 → ga w 189 k = nI (dr k)) (h0 : dr 0 ≤ 7) : ∃ z, f_X9_tells w = some z ∧ Fr (fun k => k = 188 ∨ k = 190 ∨ k = 192) w z ∧ PlM z dr ∧ (∀ k, k < 66 → ga z 190 k = nI (nowOf dr k)) ∧ ∀ e, e < 2 → ga z 192 e = nI 0 := by
  obtain ⟨z, z1, z2, z3⟩ := iter_rule (B := f_X9_tells_b2) (v := (0, w)) (fun (i : Nat) (v : Int32 × Mem) => v.1 = nI i ∧ Fr (fun k => k = 188 ∨ k = 190 ∨ k = 192) w v.2 ∧ ∀ k, k < i → ga v.2 188 k = nI (dr k)) (fun z => Fr (fun k => k = 188 ∨ k = 190 ∨ k = 192) w z ∧ ∀ k, k < 49 → ga z 188 k = nI (dr k)) 49 (by omega) (by
    rintro i ⟨a, v⟩ hi ⟨c0, c1, c2⟩
    dsimp only at c0 c1 c2
    subst c0
    unfold f_X9_tells_b2
    dsimp only
    by_cases e : i = 49
    · rw [if_pos (show (49 : Int32) ≤ nI i by rw [e]; decide)]
      exact Or.inr ⟨_, rfl, c1, by rw [← e]; exact c2⟩
    · rw [if_neg (show ¬ (49 : Int32) ≤ nI i from nI_ge (b := 49) (by omega) (by omega)), ldA_nI (by omega) (by omega), (c1.2.2.2 189 (by omega)).2, h i (by omega), Option.bind_some, stA_nI (by omega) (by omega), Option.bind_some, nI_1]
      refine Or.inl ⟨by omega, _, rfl, rfl, c1.tr (Fr.sA (Or.inl rfl)), fun k hk => ?_⟩
      show ga (sA v 188 _) 188 k = _
      rw [ga_at, upd_at]
      by_cases u : k = i
      · rw [if_pos u, u]
      · rw [if_neg u]; exact c2 k (by omega)) ⟨rfl, Fr.rf, fun k hk => by omega⟩
  obtain ⟨y, y1, y2, y3, y4⟩ := iter_rule (B := f_X9_tells_b28) (v := (0, z)) (fun (i : Nat) (v : Int32 × Mem) => v.1 = nI i ∧ Fr (fun k => k = 188 ∨ k = 190 ∨ k = 192) w v.2 ∧ (∀ k, k < 49 → ga v.2 188 k = nI (dr k)) ∧ ∀ k, k < i → ga v.2 190 k = nI (nowOf dr k)) (fun z => Fr (fun k => k = 188 ∨ k = 190 ∨ k = 192) w z ∧ (∀ k, k < 49 → ga z 188 k = nI (dr k)) ∧ ∀ k, k < 66 → ga z 190 k = nI (nowOf dr k)) 66 (by omega) (by
    rintro i ⟨a, v⟩ hi ⟨c0, c1, c2, c3⟩
    dsimp only at c0 c1 c2 c3
    subst c0
    unfold f_X9_tells_b28
    dsimp only
    by_cases e : i = 66
    · rw [if_pos (show (65 : Int32) < nI i by rw [e]; decide)]
      exact Or.inr ⟨_, rfl, c1, c2, by rw [← e]; exact c3⟩
    · have fin : ∀ y, y = nowOf dr i → Fr (fun k => k = 188 ∨ k = 190 ∨ k = 192) w (sA v 190 (upd (ga v 190) i (nI y))) ∧ (∀ k, k < 49 → ga (sA v 190 (upd (ga v 190) i (nI y))) 188 k = nI (dr k)) ∧ ∀ k, k < i + 1 → ga (sA v 190 (upd (ga v 190) i (nI y))) 190 k = nI (nowOf dr k) := by
        intro y hy
        refine ⟨c1.tr (Fr.sA (Or.inr (Or.inl rfl))), fun k hk => ?_, fun k hk => ?_⟩
        · rw [ga_ne (by omega)]; exact c2 k hk
        · rw [ga_at, upd_at]
          by_cases u : k = i
          · rw [if_pos u, u, hy]
          · rw [if_neg u]; exact c3 k (by omega)
      rw [if_neg (show ¬ (65 : Int32) < nI i from nI_nlt (a := 65) (by omega) (by omega)), show ldA v 188 49 0 = some (nI (dr 0)) from (ldA_nI (i := 0) (by omega) (by omega)).trans (congrArg some (c2 0 (by omega))), Option.bind_some]
      by_cases u : i < dr 0
      · rw [if_neg (nI_ge u (by omega)), show (27 : Int32) + nI i = nI (27 + i) from nI_add 27 _, ldA_nI (by omega) (by omega), c2 (27 + i) (by omega), Option.bind_some, stA_nI (by omega) (by omega), Option.bind_some, nI_1]
        exact Or.inl ⟨by omega, _, rfl, rfl, fin _ (by unfold nowOf; rw [if_pos u])⟩
      · rw [if_pos (nI_le (by omega) (by omega)), stA_nI (by omega) (by omega), Option.bind_some, nI_1]
        exact Or.inl ⟨by omega, _, rfl, rfl, fin 0 (by unfold nowOf; rw [if_neg u])⟩) ⟨rfl, z2, z3, fun k hk => by omega⟩
  unfold f_X9_tells
  rw [z1, Option.bind_some, y1, Option.bind_some, show stZ y 192 2 0 0 = some (sA y 192 (upd (ga y 192) 0 (nI 0))) from stZ_nI (i := 0) (by omega) (by omega), Option.bind_some, show stZ (sA y 192 (upd (ga y 192) 0 (nI 0))) 192 2 1 0 = some (sA (sA y 192 (upd (ga y 192) 0 (nI 0))) 192 (upd (ga (sA y 192 (upd (ga y 192) 0 (nI 0))) 192) 1 (nI 0))) from stZ_nI (i := 1) (by omega) (by omega), Option.bind_some]
  refine ⟨_, rfl, y2.tr ((Fr.sA (by omega)).tr (Fr.sA (by omega))), fun k hk => ?_, fun k hk => ?_, fun e he => ?_⟩
  · rw [ga_ne (by omega), ga_ne (by omega)]; exact y3 k hk
  · rw [ga_ne (by omega), ga_ne (by omega)]; exact y4 k hk
  · rw [ga_at, upd_at, ga_at, upd_at]
    by_cases u : e = 1
    · rw [if_pos u]
    · rw [if_neg u, if_pos (by omega)]
theorem now_ok {dr : Nat → Nat} {c : Nat} (h : PlOk dr) : MoOk dr c (nowOf dr) := by
  have h1 := h.1
  have z : ∀ k, 7 ≤ k → nowOf dr k = 0 := fun k hk => by unfold nowOf; rw [if_neg (by omega)]
  refine ⟨fun s hs => ?_, fun s hs => by rw [z _ (by omega)]; omega, fun k hk => by rw [z _ (by omega)]; omega, by rw [z _ (by omega)]; omega, by rw [z _ (by omega)]; omega⟩
  unfold nowOf
  by_cases u : s < dr 0
  · rw [if_pos u]; have := (h.2.2.2.2.1 s u).2.2.2.2.2; omega
  · rw [if_neg u]; omega
/-- a house that has just been told -/
theorem told_inv {c q : Nat} {μ : Mem} {dr : Nat → Nat} (hc : isPl (gpl μ) = true ∧ isPl (gdr μ) = true ∧ gpl μ ≠ gdr μ) (ht : gi μ 1 1 = nI 0) (hP : PlC μ (gpl μ) dr) (hO : PlOk dr) (a5 : ∀ k, k < dr 0 → ga μ 5 k = nI (dr (27 + k))) (a6 : ∀ k, k < 7 → ga μ 6 k = nI 0) (a7 : ∀ k, k < 49 → ga μ 7 k = nI 0) (b1 : gi μ 4 3 = nI 0) (b2 : gi μ 4 4 = nI 0) (b3 : gi μ 3 2 = nI 0) (b4 : gi μ 3 3 = nI 0) (k1 : ∀ e, e < 2 → ga μ 142 e = nI 0) (t9 : gi μ 186 2 = nI 0) (P9 : PlM μ dr) (n9 : ∀ k, k < 66 → ga μ 190 k = nI (nowOf dr k)) (k9 : ∀ e, e < 2 → ga μ 192 e = nI 0) (l9 : gl μ 186 = gl μ 0) (s9 : ga μ 196 0 = nI 0) : Inv c μ := by
  have h1 := hO.1
  have z : ∀ k, 7 ≤ k → nowOf dr k = 0 := fun k hk => by unfold nowOf; rw [if_neg (by omega)]
  refine ⟨fun _ => 0, 0, dr, nowOf dr, 0, fun _ _ => 0, fun _ => 0, fun _ _ => 0, fun _ => 0, fun _ _ _ => 0, gl μ 0, ⟨hc, ⟨ht, fun i hi => by omega⟩, hP, ⟨⟨fun s hs => ?_, fun s hs => ?_, fun k hk => ?_, ?_, ?_⟩, b3, 0, by omega, b4, fun j hj => by omega⟩, fun e he => ⟨k1 e he, fun hb => by cases hb⟩, rfl⟩, ⟨⟨t9, fun i hi => by omega⟩, P9, ⟨fun k hk => ?_, ?_, fun j hj => by omega⟩, fun e he => ⟨k9 e he, fun hb => by cases hb⟩, l9, s9⟩, ⟨⟨by omega, fun i hi => by omega⟩, hO, ⟨now_ok hO, by omega, fun j hj => by omega⟩, fun e he => ⟨Nat.zero_le _, fun hb => by cases hb⟩⟩⟩
  · rw [a5 s hs]; unfold nowOf; rw [if_pos hs]
  · rw [z _ (by omega)]; exact a6 s (by omega)
  · rw [z _ (by omega)]; exact a7 k hk
  · rw [z _ (by omega)]; exact b1
  · rw [z _ (by omega)]; exact b2
  · rw [Nat.zero_add]; exact n9 k (by omega)
  · rw [Nat.zero_add, n9 65 (by omega), z _ (by omega)]
theorem neg10 {n s : Nat} (hn : n ≤ 200) (hs : s ≤ 200) : ¬ nI n = -10 - nI s := by
  intro h
  have h1 : (nI n).toInt = n := nI_toInt (by omega)
  have h2 : ((-10 : Int32) - nI s).toInt = -10 - (s : Int) := by
    rw [Int32.toInt_sub, nI_toInt (by omega)]
    show Int.bmod (-10 - (s : Int)) _ = _
    rw [Int.bmod_eq_of_le] <;> omega
  rw [h, h2] at h1
  omega
theorem neg10' {s : Nat} (hs : s ≤ 200) : ¬ (0 : Int32) ≤ -10 - nI s := by
  intro h
  have h2 : ((-10 : Int32) - nI s).toInt = -10 - (s : Int) := by
    rw [Int32.toInt_sub, nI_toInt (by omega)]
    show Int.bmod (-10 - (s : Int)) _ = _
    rw [Int.bmod_eq_of_le] <;> omega
  rw [Int32.le_iff_toInt_le, h2] at h
  have : (0 : Int32).toInt = 0 := rfl
  omega
theorem sp_house : Sp_house Inv := by
  intro c μ hc hI
  obtain ⟨tx, len, pl, f, kn, ps, b, gf, gk, gp, tr, h1, h2, h3⟩ := id hI
  obtain ⟨⟨p1, p2, p3⟩, tx1, c1, c2, c3, c4⟩ := id h1
  have hT : Tx1 μ tx len := tx1
  have hT9 : Tx9 μ tx len := h2.1
  have hl := h3.1.1
  have hb := h3.1.2
  have q1 := isPl_cases p1
  have q2 := isPl_cases p2
  unfold f_X8_house
  rw [rfG_eq p2, Option.bind_some]
  rcases read_ex (q := gdr μ) (by omega) hT hT9 hl hb with ⟨dr, z, z9, r1, r9, E, D, R, it⟩ | ⟨s, z, z9, s1, r1, r9, E, D, g10⟩
  · -- it is told
    have gp2 : gpl z = gpl μ := E.1.1
    have gd2 : gdr z = gdr μ := E.1.2.1
    rw [r1, Option.bind_some]
    dsimp only
    rw [if_pos (nI_pos' (by omega)), gd2, gp2, rfG_eq p2, Option.bind_some, rfG_eq p1, Option.bind_some]
    unfold f_X4_empty
    rw [stI_eq, Option.bind_some, Option.bind_some]
    generalize hm8 : si (spl (sdr z (gpl μ)) (gdr μ)) 1 1 0 = m8
    have gp8 : gpl m8 = gdr μ := by rw [← hm8]; rfl
    have gd8 : gdr m8 = gpl μ := by rw [← hm8]; rfl
    rw [gp8, rfG_eq p2, Option.bind_some]
    obtain ⟨zb, b1, b2, b3, b4, b5, b6, b7, b8, b9⟩ := begin_ok (m := m8) (q := gdr μ) (by omega)
    rw [b1, Option.bind_some]
    obtain ⟨μ1, e1, e2, e3⟩ := house56 (m := zb) (nI (dr 4))
    rw [e1, Option.bind_some]
    have g8 : ∀ k, gl m8 k = gl μ k := fun k => by rw [← hm8]; exact E.1.2.2.1 k
    have T9 : Tx9 μ1 tx len := by
      have F : ∀ k, 186 ≤ k → gi μ1 k = gi μ k ∧ ga μ1 k = ga μ k := by
        intro k hk
        have a1 := e2.2.2.2 k (by omega)
        have a2 := b2.2.2.2 k (by omega)
        have a3 := E.1.2.2.2 k (by omega)
        refine ⟨a1.1.trans (a2.1.trans ?_), a1.2.trans (a2.2.trans ?_)⟩
        · rw [← hm8, ← a3.1]; funext j; rw [gi_si, if_neg (by omega)]; rfl
        · rw [← hm8, ← a3.2]; rfl
      exact ⟨by rw [(F 186 (by omega)).1]; exact hT9.1, fun i hi => by rw [(F 187 (by omega)).2]; exact hT9.2 i hi⟩
    rcases read_ex (q := gdr μ) (by omega) hT T9 hl hb with ⟨dr2, z', w9, r1', r9', E', D', R', it'⟩ | ⟨s', z', w9, s1', r1', r9', E', D', g10'⟩
    · have eq := Option.some.inj (r1.symm.trans r1')
      have ez : z' = z := (Prod.mk.inj eq).2.symm
      have ed : nI (dr 4) = nI (dr2 4) := (Prod.mk.inj eq).1
      rw [ez] at R'
      refine ⟨nI (dr 4), μ1, ?_⟩
      unfold f_X9_house
      rw [r9', Option.bind_some]
      dsimp only
      obtain ⟨m3, t1, t2, t3, t4, t5⟩ := tells_ok (w := w9) R'.2.2.2.2.2 R'.2.1.1
      rw [if_neg (by decide), t1, Option.bind_some, stI_eq, Option.bind_some]
      have P4 : ga (si m3 186 2 0) 188 4 = nI (dr2 4) := t3 4 (by omega)
      rw [show ldA (si m3 186 2 0) 188 49 4 = some (nI (dr2 4)) from (ldA_nI (i := 4) (by omega) (by omega)).trans (congrArg some P4), Option.bind_some, ← ed]
      refine ⟨si m3 186 2 0, rfl, rfl, ?_⟩
      -- from behind the beginning to the end
      have F : Fr (fun k => k = 142 ∨ 186 ≤ k) zb (si m3 186 2 0) := (((e2.mono (fun k hk => Or.inl hk)).tr (D'.1.mono (fun k hk => by omega))).tr (t2.mono (fun k hk => by omega))).tr (Fr.si (by omega))
      have F8 : Fr (fun k => 3 ≤ k ∧ k < 8 ∨ k = 142 ∨ 186 ≤ k) m8 (si m3 186 2 0) := (b2.mono (fun k hk => Or.inl hk)).tr (F.mono (fun k hk => Or.inr hk))
      have G : gpl (si m3 186 2 0) = gdr μ := F8.1.trans gp8
      have GD : gdr (si m3 186 2 0) = gpl μ := F8.2.1.trans gd8
      have M : ∀ k, 186 ≤ k → k ≠ 186 → k ≠ 189 → k ≠ 188 → k ≠ 190 → k ≠ 192 → ga (si m3 186 2 0) k = ga μ k := by
        intro k h0 h1 h2 h3 h4 h5
        rw [ga_si, (t2.2.2.2 k (by omega)).2, (D'.1.2.2.2 k (by omega)).2, (e2.2.2.2 k (by omega)).2, (b2.2.2.2 k (by omega)).2, ← hm8]
        exact (E.1.2.2.2 k (by omega)).2
      have PC : PlC m8 (gdr μ) dr2 := by
        rw [← hm8]
        have a : PlC (spl (sdr z (gpl μ)) (gdr μ)) (gdr μ) dr2 := R'.1
        exact a.fr (S := fun k => k = 1) (Fr.si rfl) (fun k hk _ => by omega)
      refine told_inv (q := 0) (dr := dr2) (by rw [G, GD]; exact ⟨p2, p1, fun e => p3 e.symm⟩) ?_ (by rw [G]; exact PC.fr F8 (fun k hk hk2 => by omega)) R'.2.1 (fun k hk => ?_) (fun k hk => ?_) (fun k hk => ?_) ?_ ?_ ?_ ?_ (fun e he => ?_) ?_ t3 t4 t5 ?_ ?_
      · rw [(F8.2.2.2 1 (by omega)).1, ← hm8, gi_si, if_pos ⟨rfl, rfl⟩]; rfl
      · have h7 := R'.2.1.1
        rw [(F.2.2.2 5 (by omega)).2, b3 k (by omega), ← hm8]
        exact (R'.1.2.2.2.2.1 k hk).2.2.2
      · rw [(F.2.2.2 6 (by omega)).2]; exact b4 k hk
      · rw [(F.2.2.2 7 (by omega)).2]; exact b5 k hk
      · rw [(F.2.2.2 4 (by omega)).1]; exact b6
      · rw [(F.2.2.2 4 (by omega)).1]; exact b7
      · rw [(F.2.2.2 3 (by omega)).1]; exact b8
      · rw [(F.2.2.2 3 (by omega)).1]; exact b9
      · rw [ga_si, (t2.2.2.2 142 (by omega)).2, (D'.1.2.2.2 142 (by omega)).2]; exact e3 e he
      · rw [gi_si, if_pos ⟨rfl, rfl⟩]; rfl
      · rw [F8.2.2.1, F8.2.2.1, g8, g8, c4]; exact h2.2.2.2.2.1
      · rw [M 196 (by omega) (by omega) (by omega) (by omega) (by omega) (by omega)]; exact h2.2.2.2.2.2
    · exact absurd (Prod.mk.inj (Option.some.inj (r1.symm.trans r1'))).1 (neg10 it s1')
  · -- a text that tells no house
    rw [r1, Option.bind_some]
    dsimp only
    rw [if_neg (neg10' s1)]
    have T9 : Tx9 z tx len := ⟨by rw [(E.1.2.2.2 186 (by omega)).1]; exact hT9.1, fun i hi => by rw [(E.1.2.2.2 187 (by omega)).2]; exact hT9.2 i hi⟩
    rcases read_ex (q := gdr μ) (by omega) hT T9 hl hb with ⟨dr2, z', w9, r1', r9', E', D', R', it'⟩ | ⟨s', z', w9, s1', r1', r9', E', D', g10'⟩
    · exact absurd (Prod.mk.inj (Option.some.inj (r1'.symm.trans r1))).1 (neg10 it' s1)
    · have eq := (Prod.mk.inj (Option.some.inj (r1.symm.trans r1'))).1
      refine ⟨-10 - nI s, z, w9, rfl, ?_, ?_⟩
      · unfold f_X9_house
        rw [r9', Option.bind_some]
        dsimp only
        rw [if_pos rfl, g10', ← eq]
      · have i1 : InvC z tx len pl f kn ps b gf gk gp tr := by
          refine ⟨by rw [E.1.1, E.1.2.1]; exact ⟨p1, p2, p3⟩, E.tx (by omega) hT, by rw [E.1.1]; exact c1.fr E.1 (fun k hk hk2 => by omega), c2.fr E.1 (fun k hk hk2 => by omega), fun e he => ?_, by rw [E.1.2.2.1]; exact c4⟩
          rw [(E.1.2.2.2 142 (by omega)).2]
          exact ⟨(c3 e he).1, fun hb => ((c3 e he).2 hb).fr E.1 (fun k hk hk2 => by omega)⟩
        have i2 : InvM z tx len pl f kn ps b gf gk gp tr := h2.same (E.1.sameM (fun k hk => by omega))
        have s9 : SameM z w9 := ⟨D'.1.2.2.1 _, D'.2 2 (by omega), (D'.1.2.2.2 187 (by omega)).2, (D'.1.2.2.2 188 (by omega)).2, (D'.1.2.2.2 190 (by omega)).2, (D'.1.2.2.2 191 (by omega)).2, (D'.1.2.2.2 192 (by omega)).2, by rw [(D'.1.2.2.2 196 (by omega)).2]⟩
        exact ⟨tx, len, pl, f, kn, ps, b, gf, gk, gp, tr, i1.same (D'.1.sameC (fun k hk => by omega)), i2.same s9, h3.up⟩

/-! surest -/
def qk (pl f c : Nat → Nat) (fr t k : Nat) : Bool := decide (fr ≠ t) && (decide (pl (6 + k) = fr ∧ c (pl (13 + k)) + wtf pl f k = c fr) || decide (pl (13 + k) = fr ∧ c (pl (6 + k)) + wtf pl f k = c fr))
def gq (q : Nat → Bool) (ns : Nat) : Nat → Int32
  | 0 => -9
  | t + 1 => if q (ns - (t + 1)) then nI (ns - (t + 1)) else gq q ns t
theorem gq_none (ns : Nat) : ∀ t, gq (fun _ => false) ns t = -9
  | 0 => rfl
  | t + 1 => gq_none ns t
theorem eq_sub {x y w : Nat} (hx : x < 1073741824) (hy : y < 1073741824) (hw : w < 1073741824) : nI x = nI y - nI w ↔ x + w = y := by
  have h1 : (nI y - nI w).toInt = (y : Int) - w := pk_sub_toInt hy hw
  have h2 : (nI x).toInt = (x : Int) := nI_toInt (by omega)
  rw [← Int32.toInt_inj, h1, h2]
  omega
theorem first_ok {m : Mem} {pl f c : Nat → Nat} {q fr t : Nat} (hP : PlC m q pl) (hO : PlOk pl) (h5 : ∀ k, k < pl 0 → ga m 5 k = nI (f k)) (hf : ∀ s, s < 7 → f s ≤ 999) (hC : ∀ v, v < 7 → ga m 144 v = nI (c v)) (hc : ∀ v, c v ≤ 1000000000) (hfr : fr < 7) (hcf : c fr ≠ 0) (hne : fr ≠ t) : ∀ j n, j ≤ pl 0 → j < n → ∃ z, iter n (f_X7_firstFrom_b26 m q 4 (nI fr)) (nI (pl 0 - j)) = some z ∧ (Sum.elim (fun w20 => some w20) (fun w21 => Sum.elim (fun w22 => some w22) (fun _ => some (-9 : Int32)) w21) z) = some (gq (qk pl f c fr t) (pl 0) j)
  | 0, n, hj, hn => by
    obtain ⟨n, rfl⟩ : ∃ n', n = n' + 1 := ⟨n - 1, by omega⟩
    have h7 := hO.1
    refine ⟨_, iter_end (e := .inr (.inr ())) ?_, rfl⟩
    unfold f_X7_firstFrom_b26
    rw [hP.1, if_pos (nI_le (by omega) (by omega))]
  | j + 1, n, hj, hn => by
    obtain ⟨n, rfl⟩ : ∃ n', n = n' + 1 := ⟨n - 1, by omega⟩
    have h7 := hO.1
    obtain ⟨z, z1, z2⟩ := first_ok (t := t) hP hO h5 hf hC hc hfr hcf hne j n (by omega) (by omega)
    generalize hk : pl 0 - (j + 1) = k at *
    have hk' : pl 0 - j = k + 1 := by omega
    rw [hk'] at z1
    have hk7 : k < pl 0 := by omega
    have b := hO.2.2.2.2.1 k hk7
    have hw := wtf_le hO hf hk7
    have pA := (hP.2.2.2.2.1 k hk7).1
    have pB := (hP.2.2.2.2.1 k hk7).2.1
    have cA7 := hC (pl (6 + k)) (by omega)
    have cB7 := hC (pl (13 + k)) (by omega)
    have hg : gq (qk pl f c fr t) (pl 0) (j + 1) = if qk pl f c fr t k then nI k else gq (qk pl f c fr t) (pl 0) j := by
      show (if qk pl f c fr t (pl 0 - (j + 1)) then nI (pl 0 - (j + 1)) else _) = _
      rw [hk]
    have b0 := hc fr
    have bA := hc (pl (6 + k))
    have bB := hc (pl (13 + k))
    have sA' : nI (c (pl (6 + k))) = nI (c fr) - nI (wtf pl f k) ↔ c (pl (6 + k)) + wtf pl f k = c fr := eq_sub (by omega) (by omega) (by omega)
    have sB' : nI (c (pl (13 + k))) = nI (c fr) - nI (wtf pl f k) ↔ c (pl (13 + k)) + wtf pl f k = c fr := eq_sub (by omega) (by omega) (by omega)
    have eA : nI (pl (6 + k)) = nI fr ↔ pl (6 + k) = fr := nI_eq (by omega) (by omega)
    have eB : nI (pl (13 + k)) = nI fr ↔ pl (13 + k) = fr := nI_eq (by omega) (by omega)
    have hb : f_X7_firstFrom_b26 m q 4 (nI fr) (nI k) = if pl (6 + k) = fr ∧ c (pl (13 + k)) + wtf pl f k = c fr then some (.inr (.inl (nI k))) else f_X7_firstFrom_j82 m q 4 (nI fr) (nI k) (nI (c fr) - nI (wtf pl f k)) := by
      unfold f_X7_firstFrom_b26
      rw [hP.1, if_neg (nI_ge hk7 (by omega)), ldA_nI hfr (by omega), hC fr hfr, Option.bind_some, wt7_ok hP (h5 k hk7) hk7 h7, Option.bind_some, ldA_nI (show k < 7 by omega) (by omega), pA, Option.bind_some, ldA_nI (show k < 7 by omega) (by omega), pB, Option.bind_some, ldA_nI (show pl (13 + k) < 7 by omega) (by omega), cB7, Option.bind_some]
      by_cases e1 : pl (6 + k) = fr
      · rw [if_pos (eA.mpr e1)]
        by_cases e2 : c (pl (13 + k)) + wtf pl f k = c fr
        · rw [if_pos (sB'.mpr e2), if_pos ⟨e1, e2⟩]
        · rw [if_neg (fun z => e2 (sB'.mp z)), if_neg (fun z => e2 z.2)]
      · rw [if_neg (fun z => e1 (eA.mp z)), if_neg (fun z => e1 z.1)]
    have hj82 : f_X7_firstFrom_j82 m q 4 (nI fr) (nI k) (nI (c fr) - nI (wtf pl f k)) = if pl (13 + k) = fr ∧ c (pl (6 + k)) + wtf pl f k = c fr then some (.inr (.inr (.inl (nI k)))) else some (.inl (nI (k + 1))) := by
      unfold f_X7_firstFrom_j82
      rw [ldA_nI (show k < 7 by omega) (by omega), pB, Option.bind_some, ldA_nI (show k < 7 by omega) (by omega), pA, Option.bind_some, ldA_nI (show pl (6 + k) < 7 by omega) (by omega), cA7, Option.bind_some, nI_1]
      by_cases e1 : pl (13 + k) = fr
      · rw [if_pos (eB.mpr e1)]
        by_cases e2 : c (pl (6 + k)) + wtf pl f k = c fr
        · rw [if_pos (sA'.mpr e2), if_pos ⟨e1, e2⟩]
        · rw [if_neg (fun z => e2 (sA'.mp z)), if_neg (fun z => e2 z.2)]
      · rw [if_neg (fun z => e1 (eB.mp z)), if_neg (fun z => e1 z.1)]
    rw [hj82] at hb
    by_cases w1 : pl (6 + k) = fr ∧ c (pl (13 + k)) + wtf pl f k = c fr
    · rw [if_pos w1] at hb
      have hq : qk pl f c fr t k = true := by unfold qk; simp [hne, w1]
      rw [hg, hq, if_pos rfl]
      exact ⟨_, iter_end hb, rfl⟩
    · rw [if_neg w1] at hb
      by_cases w2 : pl (13 + k) = fr ∧ c (pl (6 + k)) + wtf pl f k = c fr
      · rw [if_pos w2] at hb
        have hq : qk pl f c fr t k = true := by unfold qk; simp [hne, w2]
        rw [hg, hq, if_pos rfl]
        exact ⟨_, iter_end hb, rfl⟩
      · rw [if_neg w2] at hb
        have hq : qk pl f c fr t k = false := by
          unfold qk
          rw [decide_eq_false w1, decide_eq_false w2]
          simp
        rw [hg, hq, if_neg (by decide)]
        exact ⟨z, by rw [iter_go hb]; exact z1, z2⟩
theorem other_ok {m : Mem} {pl : Nat → Nat} {k fr : Nat} (hP : PlM m pl) (hk : k < 7) (hA : pl (6 + k) ≤ 6) (hB : pl (13 + k) ≤ 6) (hfr : fr < 7) : f_X9_other m (nI k) (nI fr) = some (if pl (6 + k) = fr then nI (pl (13 + k)) else if pl (13 + k) = fr then nI (pl (6 + k)) else -1) := by
  unfold f_X9_other
  have eA : nI (pl (6 + k)) = nI fr ↔ pl (6 + k) = fr := nI_eq (by omega) (by omega)
  have eB : nI (pl (13 + k)) = nI fr ↔ pl (13 + k) = fr := nI_eq (by omega) (by omega)
  rw [show (6 : Int32) = nI 6 from rfl, show (13 : Int32) = nI 13 from rfl, nI_add, nI_add, ldA_nI (by omega) (by omega), hP (6 + k) (by omega), Option.bind_some, ldA_nI (by omega) (by omega), hP (13 + k) (by omega), Option.bind_some, Option.bind_some, Option.bind_some]
  by_cases e1 : pl (6 + k) = fr
  · rw [if_pos (eA.mpr e1), if_pos e1]
  · rw [if_neg (fun z => e1 (eA.mp z)), if_neg e1]
    by_cases e2 : pl (13 + k) = fr
    · rw [if_pos (eB.mpr e2), if_pos e2]
    · rw [if_neg (fun z => e2 (eB.mp z)), if_neg e2]
theorem ref56s {m : Mem} {pl f c : Nat → Nat} {fr t : Nat} (x : Int32) (hP : PlM m pl) (hM : ∀ k, k < 65 → ga m 190 k = nI (f k)) (hO : PlOk pl) (hf : ∀ s, s < 7 → f s ≤ 999) (hC : ∀ v, v < 7 → ga m 195 v = eN (c v)) (hc : ∀ v, c v ≤ 1000000000) (hfr : fr < 7) (ht : t < 7) (hcf : c fr < 1000000000) : iter gFU (f_X9_surest_b56 m (nI fr) (nI t) x) (-9, nI (pl 0) - 1) = some (gq (qk pl f c fr t) (pl 0) (pl 0)) := by
  have h7 := hO.1
  refine iter_forU (fun j => (gq (qk pl f c fr t) (pl 0) j, nI (pl 0) - nI (j + 1))) (pl 0) _ rfl (by omega) ?_ ?_
  · intro j hj
    have es : nI (pl 0) - nI (j + 1) = nI (pl 0 - (j + 1)) := pk_sub (by omega)
    have es1 : nI (pl 0) - nI (j + 1) + -1 = nI (pl 0) - nI (j + 1 + 1) := by
      rw [← nI_1 (j + 1), ← Int32.sub_sub, Int32.sub_eq_add_neg (nI (pl 0) - nI (j + 1)) 1]
    have hg : gq (qk pl f c fr t) (pl 0) (j + 1) = if qk pl f c fr t (pl 0 - (j + 1)) then nI (pl 0 - (j + 1)) else gq (qk pl f c fr t) (pl 0) j := rfl
    rw [hg, ← es1]
    generalize gq (qk pl f c fr t) (pl 0) j = G
    have hj117 : f_X9_surest_j117 m (nI fr) (nI t) x G (nI (pl 0) - nI (j + 1)) = some (.inl (G, nI (pl 0) - nI (j + 1) + -1)) := by
      unfold f_X9_surest_j117 f_X9_surest_j118
      rw [if_pos rfl]
    have hj118 : f_X9_surest_j118 m (nI fr) (nI t) x G (nI (pl 0) - nI (j + 1)) 1 = some (.inl (nI (pl 0) - nI (j + 1), nI (pl 0) - nI (j + 1) + -1)) := by
      unfold f_X9_surest_j118
      rw [if_neg (by decide)]
    unfold f_X9_surest_b56
    dsimp only
    rw [hj117, hj118, es, if_neg (nI_pos (by omega))]
    generalize hkx : pl 0 - (j + 1) = k at *
    by_cases hkk : k < pl 0
    · have b := hO.2.2.2.2.1 k hkk
      have hw := wtf_le hO hf hkk
      rw [other_ok hP (by omega) b.1 b.2.1 hfr, Option.bind_some]
      have eft : nI fr = nI t ↔ fr = t := nI_eq (by omega) (by omega)
      have nxt : ∀ u, u < 7 → (if nI u < 0 then some (Sum.inl (G, nI k + -1)) else (ldA m 195 7 (nI u)).bind fun y18 => if y18 < 0 then some (Sum.inl (G, nI k + -1)) else if nI fr = nI t then some (Sum.inl (G, nI k + -1)) else (ldA m 195 7 (nI u)).bind fun y23 => (f_X9_weight m (nI k)).bind fun y24 => (ldA m 195 7 (nI fr)).bind fun y25 => if y23 + y24 = y25 then some (Sum.inl (nI k, nI k + -1)) else some (Sum.inl (G, nI k + -1))) = (some (Sum.inl (if decide (fr ≠ t) && decide (c u + wtf pl f k = c fr) then nI k else G, nI k + -1)) : Option ((Int32 × Int32) ⊕ Int32)) := by
        intro u hu
        have bu := hc u
        rw [if_neg (nI_pos (by omega)), ldA_nI hu (by omega), hC u hu, Option.bind_some, Option.bind_some]
        by_cases w1 : c u = 1000000000
        · rw [w1, if_pos (show eN 1000000000 < 0 by decide), if_neg]
          simp
          omega
        · rw [eN_ne w1, if_neg (nI_pos (by omega))]
          by_cases w2 : fr = t
          · rw [if_pos (eft.mpr w2), if_neg]
            simp [w2]
          · rw [if_neg (fun z => w2 (eft.mp z)), wt9_ok hP hM (by omega), Option.bind_some, ldA_nI hfr (by omega), hC fr hfr, eN_ne (by omega), Option.bind_some, nI_add]
            by_cases w3 : c u + wtf pl f k = c fr
            · rw [if_pos (by rw [w3]), if_pos]
              simp [w2, w3]
            · rw [if_neg (fun z => w3 ((nI_eq (by omega) (by omega)).mp z)), if_neg]
              simp [w3]
      by_cases e1 : pl (6 + k) = fr
      · rw [if_pos e1, nxt _ (by omega)]
        have hq : qk pl f c fr t k = (decide (fr ≠ t) && decide (c (pl (13 + k)) + wtf pl f k = c fr)) := by
          unfold qk
          have n2 : ¬ (pl (13 + k) = fr ∧ c (pl (6 + k)) + wtf pl f k = c fr) := fun z => b.2.2.1 (e1.trans z.1.symm)
          rw [decide_eq_false n2]
          simp [e1]
        rw [hq]
      · rw [if_neg e1]
        by_cases e2 : pl (13 + k) = fr
        · rw [if_pos e2, nxt _ (by omega)]
          have hq : qk pl f c fr t k = (decide (fr ≠ t) && decide (c (pl (6 + k)) + wtf pl f k = c fr)) := by
            unfold qk
            have n2 : ¬ (pl (6 + k) = fr ∧ c (pl (13 + k)) + wtf pl f k = c fr) := fun z => e1 z.1
            rw [decide_eq_false n2]
            simp [e2]
          rw [hq]
        · rw [if_neg e2, if_pos (by decide)]
          have hq : qk pl f c fr t k = false := by
            unfold qk
            simp [e1, e2]
          rw [hq]
          rfl
    · omega
  · unfold f_X9_surest_b56
    dsimp only
    rw [if_pos (show nI (pl 0) - nI (pl 0 + 1) < 0 from pk_sneg (by omega) (by omega))]
theorem sp_surest : Sp_surest Inv := by
  intro c μ a1 a2 a3 hc hI
  obtain ⟨tx, len, pl, f, kn, ps, b, gf, gk, gp, tr, h1, h2, h3⟩ := id hI
  have hq := h1.1.1
  have hO := h3.2.1
  have h7 := hO.1
  have hf := h3.2.2.1.1.1
  have hC := h1.2.2.2.1.1
  have triv : f_X8_surest μ a1 a2 a3 = some (-1, μ) → f_X9_surest μ a1 a2 a3 = some (-1, μ) → ∃ (r : Int32) (μ1 μ2 : Mem), (f_X8_surest μ a1 a2 a3 = some (r, μ1)) ∧ (f_X9_surest μ1 a1 a2 a3 = some (r, μ2)) ∧ Inv (c + 1) μ2 := fun q1 q2 => ⟨-1, μ, μ, q1, q2, hI.up⟩
  have in2 : ∀ m : Mem, f_X9_in m a3 0 2 = some (bi (ck a3 3)) := fun m => in_eq (N := 3) (by omega) a3 2 rfl (by decide)
  have k3 : ∀ {α : Type} (x y : α), (if a3 < 0 then x else if a3 ≤ (2 : Int32) then y else x) = if ck a3 3 then y else x := by
    intro α x y
    rcases int_range a3 (n := 3) (by omega) with ⟨e1, e2⟩ | ⟨e1, e2, e3⟩ | ⟨j, e1, rfl, e3⟩
    · rw [if_pos e1, e2]; rfl
    · rw [if_neg e1, if_neg (fun q => absurd (Int32.le_trans e2 q) (by decide)), e3]; rfl
    · rw [if_neg (nI_pos (by omega)), if_pos (show nI j ≤ (2 : Int32) from nI_le (b := 2) (by omega) (by omega)), e3]; rfl
  cases hk1 : ck a1 7 with
  | false =>
    refine triv ?_ ?_
    · unfold f_X8_surest
      rw [isFloor8, Option.bind_some, hk1, if_pos bi0]
    · unfold f_X9_surest
      rw [isFloor9, Option.bind_some, hk1, if_pos bi0]
  | true =>
    cases hk2 : ck a2 7 with
    | false =>
      refine triv ?_ ?_
      · unfold f_X8_surest
        rw [isFloor8, Option.bind_some, hk1, if_neg bi1, isFloor8, Option.bind_some, hk2, if_pos bi0]
      · unfold f_X9_surest
        rw [isFloor9, Option.bind_some, hk1, if_neg bi1, isFloor9, Option.bind_some, hk2, if_pos bi0]
    | true =>
      cases hk3 : ck a3 3 with
      | false =>
        refine triv ?_ ?_
        · unfold f_X8_surest
          rw [isFloor8, Option.bind_some, hk1, if_neg bi1, isFloor8, Option.bind_some, hk2, if_neg bi1, k3, hk3]; rfl
        · unfold f_X9_surest
          rw [isFloor9, Option.bind_some, hk1, if_neg bi1, isFloor9, Option.bind_some, hk2, if_neg bi1, in2, Option.bind_some, hk3, if_pos bi0]
      | true =>
        obtain ⟨fr, hfr, rfl⟩ := ck_nat hk1 (by omega)
        obtain ⟨t, ht, rfl⟩ := ck_nat hk2 (by omega)
        obtain ⟨w, hw, rfl⟩ := ck_nat hk3 (by omega)
        have m1 := measure_ok (-9) hq h1.2.2.1 hO hC hf ht
        have hEok := edg_ok (X := -9) hO hf
        have hT := rr_Ti hEok t 6
        have hBd := Bd_rr (fun e he => (hEok e he).2.2.2.2) (c0_Bd t) 6
        have htop := rr_top (edg pl f (-9) (pl 0)) t 6
        have hlen : 6 * (edg pl f (-9) (pl 0)).length * 1000000 ≤ 84000000 := by
          have := edg_len (pl := pl) (f := f) (X := -9) (pl 0)
          have : 6 * (edg pl f (-9) (pl 0)).length * 1000000 ≤ 6 * 14 * 1000000 := Nat.mul_le_mul_right _ (Nat.mul_le_mul_left _ (by omega))
          omega
        have ht0 : rr (edg pl f (-9) (pl 0)) (c0 t) 6 t = 0 := by
          have := rr_le (edg pl f (-9) (pl 0)) (c0 t) 6 t
          have e : c0 t t = 0 := if_pos rfl
          omega
        have sC : SameC μ (sA μ 144 (cA (rr (edg pl f (-9) (pl 0)) (c0 t) 6) (ga μ 144))) := SameC.sA (by omega) (by omega)
        have sM : SameM μ (sA μ 144 (cA (rr (edg pl f (-9) (pl 0)) (c0 t) 6) (ga μ 144))) := SameM.sA (by omega)
        have hpos : fr ≠ t → rr (edg pl f (-9) (pl 0)) (c0 t) 6 fr ≠ 0 := by
          intro hne h0
          rcases hT fr (by omega) with z | ⟨e, e1, e2, e3, e4⟩
          · exact hne z
          · have := (hEok e e1).2.2.2.1
            omega
        generalize hX : rr (edg pl f (-9) (pl 0)) (c0 t) 6 = C at *
        generalize hA : sA μ 144 (cA C (ga μ 144)) = μ1 at *
        have i1 := h1.same sC
        have i2 := h2.same sM
        have gM : ∀ k, k < 65 → ga μ1 190 k = nI (f k) := fun k hk => by have := i2.2.2.1.1 k hk; rw [Nat.zero_add] at this; exact this
        have m2 := lays_ok i2.2.1 gM hO hf ht
        rw [hX] at m2
        have sC2 : SameC μ1 (sA μ1 195 (lA C (ga μ1 195))) := SameC.sA (by omega) (by omega)
        have sM2 : SameM μ1 (sA μ1 195 (lA C (ga μ1 195))) := ⟨rfl, rfl, ga_ne (by omega), ga_ne (by omega), ga_ne (by omega), ga_ne (by omega), ga_ne (by omega), by rw [ga_ne (by omega)]⟩
        have inv2 := hI.same (sC.tr sC2) (sM.tr sM2)
        have i3 := i2.same sM2
        have gM2 : ∀ k, k < 65 → ga (sA μ1 195 (lA C (ga μ1 195))) 190 k = nI (f k) := fun k hk => by have := i3.2.2.1.1 k hk; rw [Nat.zero_add] at this; exact this
        have l144 : ∀ v, v < 7 → ga μ1 144 v = nI (C v) := fun v hv => by rw [← hA, ga_at]; exact cA_lt hv
        have l195 : ∀ v, v < 7 → ga (sA μ1 195 (lA C (ga μ1 195))) 195 v = eN (C v) := fun v hv => by rw [ga_at]; exact lA_lt hv
        have hCf := htop fr
        have c8 : f_X8_surest μ (nI fr) (nI t) (nI w) = if nI w = 0 then (f_X7_dueFrom μ1 (nI fr)).bind fun y7 => some (y7, μ1) else if nI w = 1 then (f_X7_stepsFrom μ1 (nI fr)).bind fun y9 => some (y9, μ1) else (f_X7_firstFrom μ1 (gpl μ1) 4 (nI fr)).bind fun y11 => some (y11, μ1) := by
          unfold f_X8_surest
          rw [isFloor8, Option.bind_some, hk1, if_neg bi1, isFloor8, Option.bind_some, hk2, if_neg bi1, k3, hk3, if_pos rfl, rfG_eq hq, Option.bind_some, m1, Option.bind_some, rfG_eq i1.1.1, Option.bind_some]
        have c9 : f_X9_surest μ1 (nI fr) (nI t) (nI w) = (ldA (sA μ1 195 (lA C (ga μ1 195))) 195 7 (nI fr)).bind fun y6 => if (0 : Int32) ≤ y6 then ((ldA (sA μ1 195 (lA C (ga μ1 195))) 188 49 0).bind fun y7 => (iter gFU (f_X9_surest_b56 (sA μ1 195 (lA C (ga μ1 195))) (nI fr) (nI t) (nI w)) (-9, y7 - 1)).bind fun z31 => if nI w = 0 then ((ldA (sA μ1 195 (lA C (ga μ1 195))) 195 7 (nI fr)).bind fun y34 => (dvI y34 1000).bind fun y35 => some (y35, sA μ1 195 (lA C (ga μ1 195)))) else if nI w = 1 then ((ldA (sA μ1 195 (lA C (ga μ1 195))) 195 7 (nI fr)).bind fun y32 => (rmI y32 1000).bind fun y33 => some (y33, sA μ1 195 (lA C (ga μ1 195)))) else some (z31, sA μ1 195 (lA C (ga μ1 195)))) else some (-9, sA μ1 195 (lA C (ga μ1 195))) := by
          unfold f_X9_surest
          rw [isFloor9, Option.bind_some, hk1, if_neg bi1, isFloor9, Option.bind_some, hk2, if_neg bi1, in2, Option.bind_some, hk3, if_neg bi1, m2, Option.bind_some]
        rw [ldA_nI hfr (by omega), l195 fr hfr, Option.bind_some] at c9
        by_cases hinf : C fr = 1000000000
        · refine ⟨-9, μ1, _, ?_, by rw [c9, hinf, if_neg (show ¬ (0 : Int32) ≤ eN 1000000000 by decide)], inv2⟩
          have yes : nI 1000000000 = 1000000000 := rfl
          have d8 : f_X7_dueFrom μ1 (nI fr) = some (-9) := by
            unfold f_X7_dueFrom
            rw [ldA_nI hfr (by omega), l144 fr hfr, Option.bind_some, hinf, if_pos yes]
          have s8 : f_X7_stepsFrom μ1 (nI fr) = some (-9) := by
            unfold f_X7_stepsFrom
            rw [ldA_nI hfr (by omega), l144 fr hfr, Option.bind_some, hinf, if_pos yes]
          have f8 : f_X7_firstFrom μ1 (gpl μ1) 4 (nI fr) = some (-9) := by
            unfold f_X7_firstFrom
            rw [ldA_nI hfr (by omega), l144 fr hfr, Option.bind_some, hinf, if_pos yes]
          rw [c8, d8, s8, f8]
          split
          · rfl
          · split <;> rfl
        · have hCs : C fr ≤ 84000000 := by
            rcases hBd fr with z | z
            · exact absurd z hinf
            · omega
          rw [eN_ne hinf, if_pos (nI_pos' (by omega)), show ldA (sA μ1 195 (lA C (ga μ1 195))) 188 49 0 = some (nI (pl 0)) from (ldA_nI (i := 0) (by omega) (by omega)).trans (by rw [i3.2.1 0 (by omega)]), Option.bind_some, ref56s (nI w) i3.2.1 gM2 hO hf l195 htop hfr ht (by omega), Option.bind_some, Option.bind_some, Option.bind_some, show (1000 : Int32) = nI 1000 from rfl, dv_nI (by omega) (by omega) (by omega), Option.bind_some, rm_nI (by omega) (by omega) (by omega), Option.bind_some] at c9
          have nn : ¬ nI (C fr) = 1000000000 := fun z => hinf ((nI_eq (b := 1000000000) (by omega) (by omega)).mp z)
          have d8 : f_X7_dueFrom μ1 (nI fr) = some (nI (C fr / 1000)) := by
            unfold f_X7_dueFrom
            rw [ldA_nI hfr (by omega), l144 fr hfr, Option.bind_some, if_neg nn, Option.bind_some, show (1000 : Int32) = nI 1000 from rfl, dv_nI (by omega) (by omega) (by omega), Option.bind_some]
          have s8 : f_X7_stepsFrom μ1 (nI fr) = some (nI (C fr % 1000)) := by
            unfold f_X7_stepsFrom
            rw [ldA_nI hfr (by omega), l144 fr hfr, Option.bind_some, if_neg nn, Option.bind_some, show (1000 : Int32) = nI 1000 from rfl, rm_nI (by omega) (by omega) (by omega), Option.bind_some]
          have f8 : f_X7_firstFrom μ1 (gpl μ1) 4 (nI fr) = some (gq (qk pl f C fr t) (pl 0) (pl 0)) := by
            unfold f_X7_firstFrom
            rw [ldA_nI hfr (by omega), l144 fr hfr, Option.bind_some, if_neg nn, Option.bind_some]
            by_cases e : fr = t
            · rw [e, ht0, if_pos (show nI 0 = 0 from rfl)]
              have : qk pl f C t t = fun _ => false := by
                funext k
                unfold qk
                simp
              rw [this, gq_none]
            · obtain ⟨z, z1, z2⟩ := first_ok (t := t) i1.2.2.1 hO (fun k hk => i1.2.2.2.1.1.1 k hk) hf l144 htop hfr (hpos e) e (pl 0) gFU (Nat.le_refl _) (by show pl 0 < 1000000000000; omega)
              rw [Nat.sub_self] at z1
              rw [if_neg (nI_ne0 (by have := hpos e; omega) (by omega)), show iter gFU (f_X7_firstFrom_b26 μ1 (gpl μ1) 4 (nI fr)) 0 = some z from z1, Option.bind_some]
              exact z2
          rw [d8, s8, f8, Option.bind_some, Option.bind_some, Option.bind_some] at c8
          by_cases e0 : nI w = 0
          · rw [if_pos e0] at c8 c9
            exact ⟨_, _, _, c8, c9, inv2⟩
          · rw [if_neg e0] at c8 c9
            by_cases e1 : nI w = 1
            · rw [if_pos e1] at c8 c9
              exact ⟨_, _, _, c8, c9, inv2⟩
            · rw [if_neg e1] at c8 c9
              exact ⟨_, _, _, c8, c9, inv2⟩

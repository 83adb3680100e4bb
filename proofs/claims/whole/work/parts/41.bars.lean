/-! bars -/
theorem rx_fin {e : Ed} {c : Nat → Nat} {v : Nat} (hb : c e.2.1 = 1000000000 ∨ c e.2.1 + e.2.2 < 1000000000) : rx e c v ≠ 1000000000 ↔ (c v ≠ 1000000000 ∨ (v = e.1 ∧ c e.2.1 ≠ 1000000000)) := by
  by_cases w : v = e.1 ∧ c e.2.1 ≠ 1000000000 ∧ c e.2.1 + e.2.2 < c e.1
  · have e1 : rx e c v = c e.2.1 + e.2.2 := if_pos w
    rw [e1]
    refine ⟨fun _ => Or.inr ⟨w.1, w.2.1⟩, fun _ => ?_⟩
    rcases hb with z | z
    · exact absurd z w.2.1
    · omega
  · have e1 : rx e c v = c v := if_neg w
    rw [e1]
    refine ⟨Or.inl, fun h => ?_⟩
    rcases h with z | ⟨z1, z2⟩
    · exact z
    · intro q
      rcases hb with y | y
      · exact z2 y
      · exact w ⟨z1, z2, by rw [← z1, q]; exact y⟩
def Msk (x : Int32) (c : Nat → Nat) : Prop := ∃ M, M < 128 ∧ x = nI M ∧ ∀ v, v < 7 → (M.testBit v = true ↔ c v ≠ 1000000000)
theorem bitM : ∀ M, M < 128 → ∀ a, a < 7 → ∀ b, b < 7 → (((nI M >>> (nI a &&& 31)) ||| (nI M >>> (nI b &&& 31))) &&& 1 = 1 ↔ (M.testBit a || M.testBit b) = true) := by decide +kernel
theorem orM : ∀ M, M < 128 → ∀ a, a < 7 → ∀ b, b < 7 → nI M ||| (((1 : Int32) <<< (nI a &&& 31)) ||| ((1 : Int32) <<< (nI b &&& 31))) = nI (M ||| (2 ^ a ||| 2 ^ b)) ∧ M ||| (2 ^ a ||| 2 ^ b) < 128 := by decide +kernel
theorem tbP : ∀ a, a < 7 → ∀ v, v < 7 → (2 ^ a).testBit v = decide (v = a) := by decide +kernel
theorem bit1 : ∀ M, M < 128 → ∀ a, a < 7 → ((nI M >>> (nI a &&& 31)) &&& 1 = 1 ↔ M.testBit a = true) := by decide +kernel
theorem shl1 : ∀ a, a < 7 → (1 : Int32) <<< (nI a &&& 31) = nI (2 ^ a) ∧ 2 ^ a < 128 := by decide +kernel
theorem way18 {m : Mem} {c pl f : Nat → Nat} {mm : Nat} {x : Int32} (t X r : Int32) (hP : PlM m pl) (hO : PlOk pl) (hf : ∀ s, s < 7 → f s ≤ 999) (hb : Bd mm c) (hm : mm ≤ 84) (hx : Msk x c) : ∃ y, iter gFU (f_X9_isWay_b18 m t X r) (x, 0) = some y ∧ Msk y (rdL (edg pl f X (pl 0)) c) := by
  have h7 := hO.1
  have ld : ∀ j, j < 49 → ldA m 188 49 (nI j) = some (nI (pl j)) := fun j hj => (ldA_nI hj (by omega)).trans (by rw [hP j hj])
  refine iter_rule (fun k v => ∃ x, v = (x, nI k) ∧ Msk x (rdL (edg pl f X k) c)) _ (pl 0) (by omega) ?_ ⟨x, rfl, hx⟩
  rintro k v hk ⟨x, rfl, M, hM, rfl, hbit⟩
  unfold f_X9_isWay_b18
  dsimp only
  rw [show ldA m 188 49 0 = some (nI (pl 0)) from ld 0 (by omega), Option.bind_some]
  by_cases e : k = pl 0
  · rw [if_pos (nI_le (by omega) (by omega))]
    subst e
    exact Or.inr ⟨_, rfl, M, hM, rfl, hbit⟩
  · have hk7 : k < pl 0 := by omega
    have b := hO.2.2.2.2.1 k hk7
    have hw := wtf_le hO hf hk7
    have hl := edg_len (pl := pl) (f := f) (X := X) k
    have hB : Bd 96 (rdL (edg pl f X k) c) := Bd_up (Bd_rdL (edg pl f X k) mm c (fun e he => by
      obtain ⟨j, hj, h⟩ := edg_mem _ he
      have hwj := wtf_le hO hf (show j < pl 0 by omega)
      rcases h with rfl | rfl <;> exact hwj) hb) (by omega)
    have hE : edg pl f X (k + 1) = edg pl f X k ++ if nI k = X then [] else [(pl (6 + k), pl (13 + k), wtf pl f k), (pl (13 + k), pl (6 + k), wtf pl f k)] := rfl
    rw [if_neg (nI_ge hk7 (by omega)), show (6 : Int32) = nI 6 from rfl, nI_add, ld _ (by omega), Option.bind_some, show (13 : Int32) = nI 13 from rfl, nI_add, ld _ (by omega), Option.bind_some, hE, rdL_app]
    generalize rdL (edg pl f X k) c = C at *
    refine Or.inl ⟨hk7, ?_⟩
    have no : f_X9_isWay_j80 m t X r (nI M) (nI k) (nI (pl (6 + k))) (nI (pl (13 + k))) = some (.inl (nI M, nI (k + 1))) := by
      unfold f_X9_isWay_j80 f_X9_isWay_j81
      rw [if_pos rfl, nI_1, Int32.or_zero]
    have yes : f_X9_isWay_j81 m t X r (nI M) (nI k) (nI (pl (6 + k))) (nI (pl (13 + k))) 1 = some (.inl (nI (M ||| (2 ^ pl (6 + k) ||| 2 ^ pl (13 + k))), nI (k + 1))) := by
      unfold f_X9_isWay_j81
      rw [if_neg (by decide), nI_1, (orM M hM _ (by omega) _ (by omega)).1]
    rw [no, yes]
    by_cases eX : nI k = X
    · rw [if_pos eX, if_pos eX]
      exact ⟨_, rfl, _, rfl, M, hM, rfl, hbit⟩
    · rw [if_neg eX, if_neg eX]
      have hB2 : Bd 97 (rx (pl (6 + k), pl (13 + k), wtf pl f k) C) := Bd_rx hw hB
      have sm : ∀ {n : Nat} {D : Nat → Nat} {u : Nat}, n ≤ 97 → Bd n D → D u = 1000000000 ∨ D u + wtf pl f k < 1000000000 := by
        intro n D u hn hD
        rcases hD u with z | z
        · exact Or.inl z
        · have := Nat.mul_le_mul_right 1000000 hn
          exact Or.inr (by omega)
      have fin2 : ∀ v, rdL [(pl (6 + k), pl (13 + k), wtf pl f k), (pl (13 + k), pl (6 + k), wtf pl f k)] C v ≠ 1000000000 ↔ (C v ≠ 1000000000 ∨ (v = pl (6 + k) ∧ C (pl (13 + k)) ≠ 1000000000)) ∨ (v = pl (13 + k) ∧ (C (pl (6 + k)) ≠ 1000000000 ∨ C (pl (13 + k)) ≠ 1000000000)) := by
        intro v
        show rx (pl (13 + k), pl (6 + k), wtf pl f k) (rx (pl (6 + k), pl (13 + k), wtf pl f k) C) v ≠ 1000000000 ↔ _
        rw [rx_fin (sm (by omega) hB2), rx_fin (sm (by omega) hB), rx_fin (sm (by omega) hB)]
        dsimp only
        constructor
        · rintro (h | ⟨h1, h2 | h2⟩)
          · exact Or.inl h
          · exact Or.inr ⟨h1, Or.inl h2⟩
          · exact Or.inr ⟨h1, Or.inr h2.2⟩
        · rintro (h | ⟨h1, h2 | h2⟩)
          · exact Or.inl h
          · exact Or.inr ⟨h1, Or.inl h2⟩
          · exact Or.inr ⟨h1, Or.inr ⟨rfl, h2⟩⟩
      have qa := hbit (pl (6 + k)) (by omega)
      have qb := hbit (pl (13 + k)) (by omega)
      by_cases w : (M.testBit (pl (6 + k)) || M.testBit (pl (13 + k))) = true
      · rw [if_pos ((bitM M hM _ (by omega) _ (by omega)).mpr w)]
        refine ⟨_, rfl, _, rfl, _, (orM M hM _ (by omega) _ (by omega)).2, rfl, fun v hv => ?_⟩
        rw [fin2 v, Nat.testBit_or, Nat.testBit_or, tbP _ (by omega) v hv, tbP _ (by omega) v hv]
        have hv' := hbit v hv
        rw [Bool.or_eq_true] at w
        rw [qa, qb] at w
        simp only [Bool.or_eq_true, decide_eq_true_eq]
        rw [hv']
        constructor
        · rintro (h | h | h)
          · exact Or.inl (Or.inl h)
          · rcases w with w | w
            · exact Or.inl (Or.inl (by rw [h]; exact w))
            · exact Or.inl (Or.inr ⟨h, w⟩)
          · exact Or.inr ⟨h, w⟩
        · rintro ((h | h) | h)
          · exact Or.inl h
          · exact Or.inr (Or.inl h.1)
          · exact Or.inr (Or.inr h.1)
      · rw [if_neg (fun z => w ((bitM M hM _ (by omega) _ (by omega)).mp z))]
        refine ⟨_, rfl, _, rfl, M, hM, rfl, fun v hv => ?_⟩
        rw [fin2 v, hbit v hv]
        rw [Bool.or_eq_true, qa, qb] at w
        constructor
        · exact fun h => Or.inl (Or.inl h)
        · rintro ((h | h) | h)
          · exact h
          · exact absurd (Or.inr h.2) w
          · exact absurd h.2 w
theorem isWay_ok {m : Mem} {pl f : Nat → Nat} {fr t : Nat} (X : Int32) (hP : PlM m pl) (hO : PlOk pl) (hf : ∀ s, s < 7 → f s ≤ 999) (hfr : fr < 7) (ht : t < 7) : f_X9_isWay m (nI fr) (nI t) X = some (bi (decide (rr (edg pl f X (pl 0)) (c0 fr) 6 t ≠ 1000000000))) := by
  have h7 := hO.1
  have hEok := edg_ok (X := X) hO hf
  unfold f_X9_isWay
  obtain ⟨y, y1, M, hM, rfl, hbit⟩ := iter_rule (B := f_X9_isWay_b8 m (nI t) X) (fun r v => ∃ x, v = (x, nI r) ∧ Msk x (rr (edg pl f X (pl 0)) (c0 fr) r)) (fun y => Msk y (rr (edg pl f X (pl 0)) (c0 fr) 7)) 7 (by omega) (by
    rintro r v hr ⟨x, rfl, hx⟩
    unfold f_X9_isWay_b8
    dsimp only
    by_cases e : r = 7
    · subst e
      rw [if_pos (by decide)]
      exact Or.inr ⟨x, rfl, hx⟩
    · have hl := edg_len (pl := pl) (f := f) (X := X) (pl 0)
      have hB := Bd_rr (E := edg pl f X (pl 0)) (fun e he => (hEok e he).2.2.2.2) (c0_Bd fr) r
      obtain ⟨y, y1, y2⟩ := way18 (f := f) (nI t) X (nI r) hP hO hf hB (by
        have : r * (edg pl f X (pl 0)).length ≤ 6 * 14 := Nat.mul_le_mul (by omega) (by omega)
        omega) hx
      rw [if_neg (show ¬ (7 : Int32) ≤ nI r from nI_ge (b := 7) (by omega) (by omega)), y1, Option.bind_some, nI_1]
      exact Or.inl ⟨by omega, _, rfl, y, rfl, y2⟩) (v := ((1 : Int32) <<< (nI fr &&& 31), 0)) ⟨_, rfl, 2 ^ fr, (shl1 fr hfr).2, (shl1 fr hfr).1, fun v hv => by
        rw [tbP fr hfr v hv, decide_eq_true_eq]
        show v = fr ↔ (if v = fr then 0 else 1000000000) ≠ 1000000000
        by_cases e : v = fr
        · rw [if_pos e]
          exact ⟨fun _ => by omega, fun _ => e⟩
        · rw [if_neg e]
          exact ⟨fun z => absurd z e, fun z => absurd rfl z⟩⟩
  have h67 : rr (edg pl f X (pl 0)) (c0 fr) 7 t = rr (edg pl f X (pl 0)) (c0 fr) 6 t := conv hEok hfr t ht
  have hb := hbit t ht
  rw [h67] at hb
  rw [y1, Option.bind_some]
  by_cases w : M.testBit t = true
  · rw [if_pos ((bit1 M hM t ht).mpr w), decide_eq_true (hb.mp w)]
    rfl
  · rw [if_neg (fun z => w ((bit1 M hM t ht).mp z)), decide_eq_false (fun z => w (hb.mpr z))]
    rfl
def Bt (q : Nat → Bool) : Nat → Int32
  | 0 => 0
  | s + 1 => if q s then Bt q s else Bt q s ||| sh s
theorem cA_cA {c d : Nat → Nat} {a : Nat → Int32} : cA c (cA d a) = cA c a := by
  funext v
  unfold cA
  by_cases h : v < 7
  · rw [if_pos h, if_pos h]
  · rw [if_neg h, if_neg h, if_neg h]
theorem sp_bars : Sp_bars Inv := by
  intro c μ a1 a2 hc hI
  obtain ⟨tx, len, pl, f, kn, ps, b, gf, gk, gp, tr, h1, h2, h3⟩ := id hI
  have hq := h1.1.1
  have hO := h3.2.1
  have h7 := hO.1
  have hf := h3.2.2.1.1.1
  have hC := h1.2.2.2.1.1
  have hqc := isPl_cases hq
  have triv : f_X8_bars μ a1 a2 = some (-1, μ) → f_X9_bars μ a1 a2 = some (-1) → ∃ (r : Int32) (μ1 μ2 : Mem), (f_X8_bars μ a1 a2 = some (r, μ1)) ∧ (f_X9_bars μ1 a1 a2 = some r ∧ μ2 = μ1) ∧ Inv (c + 1) μ2 := fun q1 q2 => ⟨-1, μ, μ, q1, ⟨q2, rfl⟩, hI.up⟩
  cases hk1 : ck a1 7 with
  | false =>
    refine triv ?_ ?_
    · unfold f_X8_bars
      rw [isFloor8, Option.bind_some, hk1, if_pos bi0]
    · unfold f_X9_bars
      rw [isFloor9, Option.bind_some, hk1, if_pos bi0]
  | true =>
    cases hk2 : ck a2 7 with
    | false =>
      refine triv ?_ ?_
      · unfold f_X8_bars
        rw [isFloor8, Option.bind_some, hk1, if_neg bi1, isFloor8, Option.bind_some, hk2, if_pos bi0]
      · unfold f_X9_bars
        rw [isFloor9, Option.bind_some, hk1, if_neg bi1, isFloor9, Option.bind_some, hk2, if_pos bi0]
    | true =>
      obtain ⟨fr, hfr, rfl⟩ := ck_nat hk1 (by omega)
      obtain ⟨t, ht, rfl⟩ := ck_nat hk2 (by omega)
      have hP' : ∀ C, PlC (sA μ 144 (cA C (ga μ 144))) (gpl μ) pl := fun C => h1.2.2.1.fr (S := fun k => k = 144) (Fr.sA rfl) (fun k h1 h2 h3 => by omega)
      have hC' : ∀ C, MoC (sA μ 144 (cA C (ga μ 144))) (pl 0) 4 f := fun C => hC.fr (S := fun k => k = 144) (Fr.sA rfl) (by omega) (by omega) (by omega) (by omega)
      have sym : ∀ X : Int32, rr (edg pl f X (pl 0)) (c0 t) 6 fr ≠ 1000000000 ↔ rr (edg pl f X (pl 0)) (c0 fr) 6 t ≠ 1000000000 := by
        intro X
        have hl := edg_len (pl := pl) (f := f) (X := X) (pl 0)
        exact ⟨rr_sym (edg_ok hO hf) (by omega) (fun a b w => edg_sym (pl 0)) ht hfr, rr_sym (edg_ok hO hf) (by omega) (fun a b w => edg_sym (pl 0)) hfr ht⟩
      have inv : ∀ C, Inv (c + 1) (sA μ 144 (cA C (ga μ 144))) := fun C => hI.same (SameC.sA (by omega) (by omega)) (SameM.sA (by omega))
      have c8 : f_X8_bars μ (nI fr) (nI t) = (f_X7_barsBetween μ (gpl μ) 4 (nI fr) (nI t)).bind fun z4 => some (z4.1, z4.2) := by
        unfold f_X8_bars
        rw [isFloor8, Option.bind_some, hk1, if_neg bi1, isFloor8, Option.bind_some, hk2, if_neg bi1, rfG_eq hq, Option.bind_some]
      have ref : ∀ m, PlM m pl → ∀ B : Nat → Int32, B 0 = 0 → (∀ k, k < pl 0 → B (k + 1) = if rr (edg pl f (-9) (pl 0)) (c0 t) 6 fr ≠ 1000000000 ∧ rr (edg pl f (nI k) (pl 0)) (c0 t) 6 fr = 1000000000 then B k ||| sh k else B k) → f_X9_bars m (nI fr) (nI t) = some (B (pl 0)) := by
        intro m hm B hB0 hB
        unfold f_X9_bars
        rw [isFloor9, Option.bind_some, hk1, if_neg bi1, isFloor9, Option.bind_some, hk2, if_neg bi1]
        have ld : ldA m 188 49 0 = some (nI (pl 0)) := (ldA_nI (i := 0) (by omega) (by omega)).trans (by rw [hm 0 (by omega)])
        have hl : iter gFU (f_X9_bars_b21 m (nI fr) (nI t)) (0, 0) = some (B (pl 0)) := by
          refine iter_forU (fun k => (B k, nI k)) (pl 0) _ (by rw [hB0]; rfl) (by omega) ?_ ?_
          · intro k hk
            unfold f_X9_bars_b21
            dsimp only
            rw [ld, Option.bind_some, if_neg (nI_ge hk (by omega)), isWay_ok (-1) hm hO hf hfr ht, Option.bind_some, isWay_ok (nI k) hm hO hf hfr ht, Option.bind_some, nI_1, Int32.or_zero, edg_none (X := -1) (pl 0) (by omega) n1, hB k hk]
            by_cases w1 : rr (edg pl f (-9) (pl 0)) (c0 t) 6 fr ≠ 1000000000
            · rw [decide_eq_true ((sym _).mp w1), if_neg bi1]
              by_cases w2 : rr (edg pl f (nI k) (pl 0)) (c0 t) 6 fr ≠ 1000000000
              · rw [decide_eq_true ((sym _).mp w2), if_neg bi1, if_neg (fun z => w2 z.2)]
              · rw [decide_eq_false (fun z => w2 ((sym _).mpr z)), if_pos bi0, if_pos ⟨w1, Classical.not_not.mp w2⟩]
                rfl
            · rw [decide_eq_false (fun z => w1 ((sym _).mpr z)), if_pos bi0, if_neg (fun z => w1 z.1)]
          · unfold f_X9_bars_b21
            dsimp only
            rw [ld, Option.bind_some, if_pos (nI_le (Nat.le_refl _) (by omega))]
        rw [hl, Option.bind_some]
      have pm : ∀ C, PlM (sA μ 144 (cA C (ga μ 144))) pl := fun C k hk => by rw [ga_ne (by omega)]; exact h2.2.1 k hk
      by_cases w : rr (edg pl f (-9) (pl 0)) (c0 t) 6 fr = 1000000000
      · refine ⟨0, sA μ 144 (cA (rr (edg pl f (-9) (pl 0)) (c0 t) 6) (ga μ 144)), _, ?_, ⟨?_, rfl⟩, inv _⟩
        · rw [c8]
          unfold f_X7_barsBetween
          rw [measure_ok (-9) hq h1.2.2.1 hO hC hf ht, Option.bind_some, ldA_nI hfr (by omega), ga_at, cA_lt hfr, w, Option.bind_some, if_pos (show nI 1000000000 = 1000000000 from rfl), Option.bind_some]
        · exact ref _ (pm _) (fun _ => 0) rfl (fun k hk => by rw [if_neg (fun z => z.1 w)])
      · have e1 : iter gFU (f_X7_barsBetween_b29 (gpl μ) 4 (nI fr) (nI t)) (0, 0, sA μ 144 (cA (rr (edg pl f (-9) (pl 0)) (c0 t) 6) (ga μ 144))) = some (Bt (fun s => decide (rr (edg pl f (nI s) (pl 0)) (c0 t) 6 fr ≠ 1000000000)) (pl 0), sA μ 144 (cA (if pl 0 = 0 then rr (edg pl f (-9) (pl 0)) (c0 t) 6 else rr (edg pl f (nI (pl 0 - 1)) (pl 0)) (c0 t) 6) (ga μ 144))) := by
          refine iter_forU (fun s => (Bt (fun s => decide (rr (edg pl f (nI s) (pl 0)) (c0 t) 6 fr ≠ 1000000000)) s, nI s, sA μ 144 (cA (if s = 0 then rr (edg pl f (-9) (pl 0)) (c0 t) 6 else rr (edg pl f (nI (s - 1)) (pl 0)) (c0 t) 6) (ga μ 144)))) (pl 0) _ rfl (by omega) ?_ ?_
          · intro s hs
            unfold f_X7_barsBetween_b29
            dsimp only
            rw [(hP' _).1, if_neg (nI_ge hs (by omega)), measure_ok (nI s) hq (hP' _) hO (hC' _) hf ht, Option.bind_some, sA_sA, ga_at, cA_cA, ldA_nI hfr (by omega), ga_at, cA_lt hfr, Option.bind_some, nI_1, if_neg (show ¬ s + 1 = 0 by omega), Nat.add_sub_cancel]
            have hbt : Bt (fun s => decide (rr (edg pl f (nI s) (pl 0)) (c0 t) 6 fr ≠ 1000000000)) (s + 1) = if decide (rr (edg pl f (nI s) (pl 0)) (c0 t) 6 fr ≠ 1000000000) then Bt (fun s => decide (rr (edg pl f (nI s) (pl 0)) (c0 t) 6 fr ≠ 1000000000)) s else Bt (fun s => decide (rr (edg pl f (nI s) (pl 0)) (c0 t) 6 fr ≠ 1000000000)) s ||| sh s := rfl
            have htop := rr_top (edg pl f (nI s) (pl 0)) t 6 fr
            rw [hbt]
            by_cases z : rr (edg pl f (nI s) (pl 0)) (c0 t) 6 fr = 1000000000
            · rw [if_pos (show nI (rr (edg pl f (nI s) (pl 0)) (c0 t) 6 fr) = 1000000000 by rw [z]; rfl), if_neg (by simp [z])]
              rfl
            · rw [if_neg (show ¬ nI (rr (edg pl f (nI s) (pl 0)) (c0 t) 6 fr) = 1000000000 from fun q => z ((nI_eq (b := 1000000000) (by omega) (by omega)).mp q)), if_pos (by simp [z])]
          · unfold f_X7_barsBetween_b29
            dsimp only
            rw [(hP' _).1, if_pos (nI_le (Nat.le_refl _) (by omega))]
        have htop := rr_top (edg pl f (-9) (pl 0)) t 6 fr
        refine ⟨Bt (fun s => decide (rr (edg pl f (nI s) (pl 0)) (c0 t) 6 fr ≠ 1000000000)) (pl 0), _, _, ?_, ⟨?_, rfl⟩, inv (if pl 0 = 0 then rr (edg pl f (-9) (pl 0)) (c0 t) 6 else rr (edg pl f (nI (pl 0 - 1)) (pl 0)) (c0 t) 6)⟩
        · rw [c8]
          unfold f_X7_barsBetween
          rw [measure_ok (-9) hq h1.2.2.1 hO hC hf ht, Option.bind_some, ldA_nI hfr (by omega), ga_at, cA_lt hfr, Option.bind_some, if_neg (show ¬ nI (rr (edg pl f (-9) (pl 0)) (c0 t) 6 fr) = 1000000000 from fun q => w ((nI_eq (b := 1000000000) (by omega) (by omega)).mp q)), e1, Option.bind_some, Option.bind_some]
        · refine ref _ (pm _) (Bt (fun s => decide (rr (edg pl f (nI s) (pl 0)) (c0 t) 6 fr ≠ 1000000000))) rfl (fun k hk => ?_)
          show (if decide (rr (edg pl f (nI k) (pl 0)) (c0 t) 6 fr ≠ 1000000000) then _ else _) = _
          by_cases z : rr (edg pl f (nI k) (pl 0)) (c0 t) 6 fr = 1000000000
          · rw [if_neg (by simp [z]), if_pos ⟨w, z⟩]
          · rw [if_pos (by simp [z]), if_neg (fun q => z q.2)]

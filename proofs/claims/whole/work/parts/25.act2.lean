/-! falls, together, throwsDoll, sells, redeems -/
theorem bi1 : ¬ bi true = 0 := by decide
theorem bi0 : bi false = 0 := rfl
theorem act_done {c : Nat} {μ μc : Mem} {a3 : Nat → Int32} {tx : Nat → Nat} {len : Nat} {pl f f2 : Nat → Nat} {kn : Nat} {ps : Nat → Nat → Nat} {b : Nat → Nat} {gf : Nat → Nat → Nat} {gk : Nat → Nat} {gp : Nat → Nat → Nat → Nat} {tr : Int64} (h1 : InvC μ tx len pl f kn ps b gf gk gp tr) (h2 : InvM μ tx len pl f kn ps b gf gk gp tr) (h3 : InvO c tx len pl f kn ps b gf gk gp)
    (hF : Fr (fun k => 3 ≤ k ∧ k < 49) μ μc) (hC : LeC μc (pl 0) 3 f2 (pk2 kn) (pp2 kn ps f)) (hM : LeM a3 0 f2 (pk2 kn) (pp2 kn ps f)) (hO : MoOk pl (c + 1) f2) : Inv (c + 1) (sA μc 190 a3) :=
  ⟨tx, len, pl, f2, pk2 kn, pp2 kn ps f, b, gf, gk, gp, tr, (h1.led hF hC).same (SameC.sA (by omega) (by omega)), (h2.same (hF.sameM (fun k hk => by omega))).led hM, h3.led hO⟩
/-- how many halves a person counts -/
def hvs (pl : Nat → Nat) (p : Nat) : Nat := if pl (34 + p) = 1 then 1 else 2
theorem hvs_le (pl : Nat → Nat) (p : Nat) : hvs pl p ≤ 2 := by unfold hvs; split <;> omega
theorem halvesOf_ok {μ : Mem} {q p : Nat} {pl : Nat → Nat} (h : PlC μ q pl) (hp : p < pl 1) (hnp : pl 1 ≤ 5) (h1 : pl (34 + p) ≤ 1) : f_X3_halvesOf μ q (nI p) = some (nI (hvs pl p)) := by
  unfold f_X3_halvesOf hvs
  rw [ldA_nI (by omega) (by omega), Option.bind_some, (h.2.2.2.2.2 p hp).1]
  by_cases e : pl (34 + p) = 1
  · rw [if_pos e, e]; rfl
  · rw [if_neg e, if_neg (show ¬ nI (pl (34 + p)) = 1 from fun q => e ((nI_eq (b := 1) (by omega) (by omega)).mp q))]; rfl
theorem counts_ok {μ : Mem} {p : Nat} {pl : Nat → Nat} (h : PlM μ pl) (hp : p < 5) (h1 : pl (34 + p) < 2147483648) : f_X9_counts μ (nI p) = some (nI (hvs pl p)) := by
  unfold f_X9_counts hvs
  rw [show (34 : Int32) = nI 34 from rfl, nI_add, ldA_nI (by omega) (by omega), Option.bind_some, h (34 + p) (by omega)]
  by_cases e : pl (34 + p) = 1
  · rw [if_pos e, e]; rfl
  · rw [if_neg e, if_neg (show ¬ nI (pl (34 + p)) = 1 from fun q => e ((nI_eq (b := 1) (by omega) (by omega)).mp q))]; rfl
/-- behind 'remember': hurt is added, and the stair's debt is less -/
theorem pay_class {μ μ1 : Mem} {ns s h u kn : Nat} {f : Nat → Nat} {ps : Nat → Nat → Nat} (hns : ns ≤ 7) (hs : s < ns) (hf : f s ≤ 999) (hf2 : f 63 ≤ 999999) (hh : h ≤ 999) (hu : u ≤ 999) (hF : Fr (fun k => k = 3 ∨ 3 + 6 ≤ k ∧ k < 3 + 46) μ μ1) (hL : LeC μ1 ns 3 f kn ps) :
    f_X1_addHurt μ1 4 (nI u) = some (si μ1 4 3 (nI (min 999999 (f 63 + u)))) ∧ ∃ μ3, f_X1_lessen (si μ1 4 3 (nI (min 999999 (f 63 + u)))) 4 (nI s) (nI h) = some (nI (f s - h), μ3) ∧ Fr (fun k => 3 ≤ k ∧ k < 49) μ μ3 ∧ LeC μ3 ns 3 (apay f s h u) kn ps := by
  have hm := hL.1
  refine ⟨addHurt_ok hm hf2 hu, ?_⟩
  have hm2 := hm.hurt hns (min 999999 (f 63 + u))
  have e : (if s = 63 then min 999999 (f 63 + u) else f s) = f s := if_neg (by omega)
  have hl := lessen_ok (h := h) hm2 hs hns (by rw [e]; exact hf) hh
  rw [e] at hl
  refine ⟨_, hl, ?_, hL.now (f2 := apay f s h u) ?_ (hm2.lessen (h := h) hs hns (f s - h))⟩
  · exact ((hF.mono (fun k hk => by omega)).tr (Fr.si (by omega))).tr (Fr.sA (by omega))
  · exact (Fr.si (by omega)).tr (Fr.sA (by omega))
theorem sp_falls : Sp_falls Inv := by
  intro c μ a1 a2 hc hI
  obtain ⟨tx, len, pl, f, kn, ps, b, gf, gk, gp, tr, h1, h2, h3⟩ := id hI
  have hq := h1.1.1
  have hns := h3.2.1.1
  have hnp := h3.2.1.2.1
  have b8 : f_X8_falls μ a1 a2 = _ := rfl
  cases hk1 : ck a1 (pl 1) with
  | false =>
    refine ⟨-1, μ, μ, ?_, ?_, hI.up⟩
    · unfold f_X8_falls
      simp only [rfG_eq hq, Option.bind_some, hasPerson_eq h1.2.2.1.2.1 (show pl 1 ≤ 7 by omega), hk1, if_pos bi0]
    · unfold f_X9_falls
      simp only [isPerson_eq h2.2.1 (show pl 1 ≤ 7 by omega), hk1, Option.bind_some, if_pos bi0]
  | true =>
    cases hk2 : ck a2 (pl 0) with
    | false =>
      refine ⟨-1, μ, μ, ?_, ?_, hI.up⟩
      · unfold f_X8_falls
        simp only [rfG_eq hq, Option.bind_some, hasPerson_eq h1.2.2.1.2.1 (show pl 1 ≤ 7 by omega), hasStair_eq h1.2.2.1.1 hns, hk1, hk2, if_pos bi0, if_neg bi1]
      · unfold f_X9_falls
        simp only [isPerson_eq h2.2.1 (show pl 1 ≤ 7 by omega), isStair_eq h2.2.1 hns, hk1, hk2, Option.bind_some, if_pos bi0, if_neg bi1]
    | true =>
      obtain ⟨p, hp, rfl⟩ := ck_nat hk1 (by omega)
      obtain ⟨s, hs, rfl⟩ := ck_nat hk2 (by omega)
      have hO := h3.2.2.1.1
      have hP := h3.2.1.2.2.2.2.2 p hp
      obtain ⟨μ1, e1, e2, e3⟩ := remember_ok (o := 3) rfl hns h3.2.2.1.2.1 h1.2.2.2.1
      have hc' := isPl_cases hq
      have hPl : PlC μ1 (gpl μ) pl := h1.2.2.1.fr e2 (fun k k1 k2 => by omega)
      have hv := hvs_le pl p
      obtain ⟨e4, μ3, e5, e6, e7⟩ := pay_class (s := s) (h := hvs pl p) (u := pl (44 + p)) hns hs (hO.1 s (by omega)) hO.2.2.2.1 (by omega) (by omega) e2 e3
      have hPl2 : PlC (si μ1 4 3 (nI (min 999999 (f 63 + pl (44 + p))))) (gpl μ) pl := hPl.fr (S := fun k => k = 4) (Fr.si rfl) (fun k k1 k2 => by omega)
      obtain ⟨a2, k1, k2⟩ := keeps_ok (μ := μ3) h3.2.2.1.2.1 ((h2.same (e6.sameM (fun k hk => by omega))).2.2.1)
      have hM3 := (h2.same (e6.sameM (fun k hk => by omega)))
      have k2' : LeM (ga (sA μ3 190 a2) 190) 0 f (pk2 kn) (pp2 kn ps f) := by rw [ga_sA, if_pos rfl]; exact k2
      obtain ⟨a3, l1, l2⟩ := pays_ok (μ := sA μ3 190 a2) (s := s) (h := hvs pl p) (u := pl (44 + p)) k2' (by omega) (hO.1 s (by omega)) (by omega) hO.2.2.2.1 (by omega)
      have hM4 : PlM (sA μ3 190 a2) pl := hM3.2.1
      refine ⟨nI (f s - hvs pl p), μ3, sA μ3 190 a3, ?_, ?_, act_done h1 h2 h3 e6 e7 l2 (apay_ok (by omega) hO.up)⟩
      · unfold f_X8_falls
        simp only [rfG_eq hq, Option.bind_some, hasPerson_eq h1.2.2.1.2.1 (show pl 1 ≤ 7 by omega), hasStair_eq h1.2.2.1.1 hns, hk1, hk2, if_neg bi1, e1, e2.1]
        rw [ldA_nI (by omega) (by omega), (hPl.2.2.2.2.2 p hp).2.2]
        simp only [Option.bind_some, e4, gpl_si, e2.1, rfG_eq hq, halvesOf_ok hPl2 hp hnp hP.1, e5]
      · unfold f_X9_falls
        simp only [isPerson_eq hM3.2.1 (show pl 1 ≤ 7 by omega), isStair_eq hM3.2.1 hns, hk1, hk2, Option.bind_some, if_neg bi1, k1, counts_ok hM4 (show p < 5 by omega) (show pl (34 + p) < 2147483648 by omega)]
        rw [show (44 : Int32) = nI 44 from rfl, nI_add, ldA_nI (by omega) (by omega), hM4 (44 + p) (by omega)]
        simp only [Option.bind_some, l1, sA_sA]

theorem sp_together : Sp_together Inv := by
  intro c μ a1 a2 a3 hc hI
  obtain ⟨tx, len, pl, f, kn, ps, b, gf, gk, gp, tr, h1, h2, h3⟩ := id hI
  have hq := h1.1.1
  have hns := h3.2.1.1
  have hnp := h3.2.1.2.1
  have hp8 := hasPerson_eq h1.2.2.1.2.1 (show pl 1 ≤ 7 by omega)
  have hs8 := hasStair_eq h1.2.2.1.1 hns
  have hp9 := isPerson_eq h2.2.1 (show pl 1 ≤ 7 by omega)
  have hs9 := isStair_eq h2.2.1 hns
  have bad : (f_X8_together μ a1 a2 a3 = some (-1, μ) ∧ f_X9_together μ a1 a2 a3 = some (-1, μ)) → ∃ (r : Int32) (μ1 μ2 : Mem), (f_X8_together μ a1 a2 a3 = some (r, μ1)) ∧ (f_X9_together μ1 a1 a2 a3 = some (r, μ2)) ∧ Inv (c + 1) μ2 := fun q => ⟨-1, μ, μ, q.1, q.2, hI.up⟩
  cases hk1 : ck a1 (pl 1) with
  | false =>
    refine bad ⟨?_, ?_⟩
    · unfold f_X8_together
      simp only [rfG_eq hq, Option.bind_some, hp8, hk1, if_pos bi0]
    · unfold f_X9_together
      simp only [hp9, hk1, Option.bind_some, if_pos bi0]
  | true =>
  cases hk2 : ck a2 (pl 1) with
  | false =>
    refine bad ⟨?_, ?_⟩
    · unfold f_X8_together
      simp only [rfG_eq hq, Option.bind_some, hp8, hk1, hk2, if_pos bi0, if_neg bi1]
    · unfold f_X9_together
      simp only [hp9, hk1, hk2, Option.bind_some, if_pos bi0, if_neg bi1]
  | true =>
  by_cases hpp : a1 = a2
  · refine bad ⟨?_, ?_⟩
    · unfold f_X8_together
      simp only [rfG_eq hq, Option.bind_some, hp8, hk1, hk2, if_neg bi1, if_pos hpp]
    · unfold f_X9_together
      simp only [hp9, hk1, hk2, Option.bind_some, if_neg bi1, if_pos hpp]
  cases hk3 : ck a3 (pl 0) with
  | false =>
    refine bad ⟨?_, ?_⟩
    · unfold f_X8_together
      simp only [rfG_eq hq, Option.bind_some, hp8, hs8, hk1, hk2, hk3, if_pos bi0, if_neg bi1, if_neg hpp]
    · unfold f_X9_together
      simp only [hp9, hs9, hk1, hk2, hk3, Option.bind_some, if_pos bi0, if_neg bi1, if_neg hpp]
  | true =>
    clear bad
    obtain ⟨p, hp, rfl⟩ := ck_nat hk1 (by omega)
    obtain ⟨p', hp', rfl⟩ := ck_nat hk2 (by omega)
    obtain ⟨s, hs, rfl⟩ := ck_nat hk3 (by omega)
    have hO := h3.2.2.1.1
    have hP := h3.2.1.2.2.2.2.2 p hp
    have hP' := h3.2.1.2.2.2.2.2 p' hp'
    have hpr := h3.2.1.2.2.2.1
    obtain ⟨μ1, e1, e2, e3⟩ := remember_ok (o := 3) rfl hns h3.2.2.1.2.1 h1.2.2.2.1
    have hc' := isPl_cases hq
    have hPl : PlC μ1 (gpl μ) pl := h1.2.2.1.fr e2 (fun k k1 k2 => by omega)
    obtain ⟨e4, μ3, e5, e6, e7⟩ := pay_class (s := s) (h := pl 3) (u := pl (44 + p) + pl (44 + p')) hns hs (hO.1 s (by omega)) hO.2.2.2.1 (by omega) (by omega) e2 e3
    have hPl2 : PlC (si μ1 4 3 (nI (min 999999 (f 63 + (pl (44 + p) + pl (44 + p')))))) (gpl μ) pl := hPl.fr (S := fun k => k = 4) (Fr.si rfl) (fun k k1 k2 => by omega)
    obtain ⟨a2, k1, k2⟩ := keeps_ok (μ := μ3) h3.2.2.1.2.1 ((h2.same (e6.sameM (fun k hk => by omega))).2.2.1)
    have hM3 := (h2.same (e6.sameM (fun k hk => by omega)))
    have k2' : LeM (ga (sA μ3 190 a2) 190) 0 f (pk2 kn) (pp2 kn ps f) := by rw [ga_sA, if_pos rfl]; exact k2
    obtain ⟨a3, l1, l2⟩ := pays_ok (μ := sA μ3 190 a2) (s := s) (h := pl 3) (u := pl (44 + p) + pl (44 + p')) k2' (by omega) (hO.1 s (by omega)) (by omega) hO.2.2.2.1 (by omega)
    have hM4 : PlM (sA μ3 190 a2) pl := hM3.2.1
    have hp9' := isPerson_eq hM3.2.1 (show pl 1 ≤ 7 by omega)
    have hs9' := isStair_eq hM3.2.1 hns
    refine ⟨nI (f s - pl 3), μ3, sA μ3 190 a3, ?_, ?_, act_done h1 h2 h3 e6 e7 l2 (apay_ok (by omega) hO.up)⟩
    · unfold f_X8_together
      simp only [rfG_eq hq, Option.bind_some, hp8, hs8, hk1, hk2, hk3, if_neg bi1, if_neg hpp, e1, e2.1]
      rw [ldA_nI (show p < 5 by omega) (by omega), (hPl.2.2.2.2.2 p hp).2.2, ldA_nI (show p' < 5 by omega) (by omega), (hPl.2.2.2.2.2 p' hp').2.2]
      simp only [Option.bind_some, nI_add, e4, gpl_si, e2.1, rfG_eq hq, hPl2.2.2.2.1, e5]
    · unfold f_X9_together
      simp only [hp9', hs9', hk1, hk2, hk3, Option.bind_some, if_neg bi1, if_neg hpp, k1]
      rw [show (44 : Int32) = nI 44 from rfl, show (3 : Int32) = nI 3 from rfl, nI_add, nI_add, ldA_nI (show 3 < 49 by omega) (by omega), ldA_nI (show 44 + p < 49 by omega) (by omega), ldA_nI (show 44 + p' < 49 by omega) (by omega), hM4 (44 + p) (by omega), hM4 (44 + p') (by omega), hM4 3 (by omega)]
      simp only [Option.bind_some, nI_add, l1, sA_sA]
/-- a doll is thrown -/
def adoll (f : Nat → Nat) (s : Nat) : Nat → Nat := fun k => if k = 7 + s then f (7 + s) + 1 else f k
theorem sp_throwsDoll : Sp_throwsDoll Inv := by
  intro c μ a1 hc hI
  obtain ⟨tx, len, pl, f, kn, ps, b, gf, gk, gp, tr, h1, h2, h3⟩ := id hI
  have hq := h1.1.1
  have hns := h3.2.1.1
  have hs8 := hasStair_eq h1.2.2.1.1 hns
  have hs9 := isStair_eq h2.2.1 hns
  have hdl := h3.2.1.2.2.1
  cases hk1 : ck a1 (pl 0) with
  | false =>
    refine ⟨-1, μ, μ, ?_, ?_, hI.up⟩
    · unfold f_X8_throwsDoll
      simp only [rfG_eq hq, Option.bind_some, hs8, hk1, if_pos bi0]
    · unfold f_X9_throwsDoll
      simp only [hs9, hk1, Option.bind_some, if_pos bi0]
  | true =>
    obtain ⟨s, hs, rfl⟩ := ck_nat hk1 (by omega)
    have hO := h3.2.2.1.1
    have hth := hO.2.1 s (by omega)
    have hC := h1.2.2.2.1.1
    have i7 : (7 : Int32) + nI s = nI (7 + s) := nI_add 7 s
    have gM : ∀ k, k < 65 → ga μ 190 k = nI (f k) := fun k hk => by have := h2.2.2.1.1 k hk; rw [Nat.zero_add] at this; exact this
    by_cases hd : f (7 + s) < pl 2
    · obtain ⟨μ1, e1, e2, e3⟩ := remember_ok (o := 3) rfl hns h3.2.2.1.2.1 h1.2.2.2.1
      have hm := e3.1
      -- the doll
      have hm2 : MoC (sA μ1 6 (upd (ga μ1 6) s (nI (f (7 + s) + 1)))) (pl 0) 4 (adoll f s) := by
        obtain ⟨m1, m2, m3, m4, m5⟩ := hm
        refine ⟨fun t ht => ?_, fun t ht => ?_, fun k hk => ?_, ?_, ?_⟩
        · rw [ga_sA, if_neg (by omega)]
          show _ = nI (if t = 7 + s then f (7 + s) + 1 else f t)
          rw [if_neg (by omega)]; exact m1 t ht
        · rw [ga_sA, if_pos (by omega), upd_at]
          show _ = nI (if 7 + t = 7 + s then f (7 + s) + 1 else f (7 + t))
          by_cases e : t = s
          · rw [if_pos e, if_pos (by omega)]
          · rw [if_neg e, if_neg (by omega)]; exact m2 t ht
        · rw [ga_sA, if_neg (by omega)]
          show _ = nI (if 14 + k = 7 + s then f (7 + s) + 1 else f (14 + k))
          rw [if_neg (by omega)]; exact m3 k hk
        · show _ = nI (if 63 = 7 + s then f (7 + s) + 1 else f 63)
          rw [if_neg (by omega)]; exact m4
        · show _ = nI (if 64 = 7 + s then f (7 + s) + 1 else f 64)
          rw [if_neg (by omega)]; exact m5
      have ead : adoll f s s = f s := by unfold adoll; rw [if_neg (by omega)]
      have ead63 : adoll f s 63 = f 63 := by unfold adoll; rw [if_neg (by omega)]
      have hl := lessen_ok (h := 1) hm2 hs hns (by rw [ead]; exact hO.1 s (by omega)) (by omega)
      rw [ead] at hl
      have hm3 := hm2.lessen (h := 1) hs hns (f s - 1)
      have hF : Fr (fun k => 3 ≤ k ∧ k < 49) μ (sA (sA μ1 6 (upd (ga μ1 6) s (nI (f (7 + s) + 1)))) (4 + 1) (upd (ga (sA μ1 6 (upd (ga μ1 6) s (nI (f (7 + s) + 1)))) (4 + 1)) s (nI (f s - 1)))) := ((e2.mono (fun k hk => by omega)).tr (Fr.sA (by omega))).tr (Fr.sA (by omega))
      have hL3 := e3.now (f2 := fun k => if k = s then f s - 1 else adoll f s k) ((Fr.sA (by omega)).tr (Fr.sA (by omega))) hm3
      generalize hμ3 : (sA (sA μ1 6 (upd (ga μ1 6) s (nI (f (7 + s) + 1)))) (4 + 1) (upd (ga (sA μ1 6 (upd (ga μ1 6) s (nI (f (7 + s) + 1)))) (4 + 1)) s (nI (f s - 1)))) = μ3 at hl hF hL3
      have hM3 := (h2.same (hF.sameM (fun k hk => by omega)))
      obtain ⟨a2, k1, k2⟩ := keeps_ok (μ := μ3) h3.2.2.1.2.1 hM3.2.2.1
      have g2 : ∀ k, k < 65 → a2 k = nI (f k) := fun k hk => by have := k2.1 k hk; rw [Nat.zero_add] at this; exact this
      have k3 : LeM (ga (sA μ3 190 (upd a2 (7 + s) (nI (f (7 + s) + 1)))) 190) 0 (adoll f s) (pk2 kn) (pp2 kn ps f) := by
        rw [ga_sA, if_pos rfl]
        refine k2.now (fun k hk => ?_) (fun k hk => ?_)
        · rw [upd_at, if_neg (by omega)]
        · rw [upd_at, Nat.zero_add]
          unfold adoll
          by_cases e : k = 7 + s
          · rw [if_pos e, if_pos e]
          · rw [if_neg e, if_neg e]; exact g2 k hk
      obtain ⟨a3, l1, l2⟩ := pays_ok (μ := sA μ3 190 (upd a2 (7 + s) (nI (f (7 + s) + 1)))) (s := s) (h := 1) (u := 0) k3 (by omega) (by rw [ead]; exact hO.1 s (by omega)) (by omega) (by rw [ead63]; exact hO.2.2.2.1) (by omega)
      rw [ead] at l1
      have hfe : (fun k => if k = s then f s - 1 else adoll f s k) = apay (adoll f s) s 1 0 := by
        funext k
        unfold apay
        rw [ead, ead63]
        have := hO.2.2.2.1
        by_cases e : k = s
        · rw [if_pos e, if_pos e]
        · rw [if_neg e, if_neg e]
          by_cases e2 : k = 63
          · rw [if_pos e2, e2, ead63]; omega
          · rw [if_neg e2]
      rw [hfe] at hL3
      have hs9' := isStair_eq hM3.2.1 hns
      have gM3 : ∀ k, k < 65 → ga μ3 190 k = nI (f k) := fun k hk => by have := hM3.2.2.1.1 k hk; rw [Nat.zero_add] at this; exact this
      refine ⟨nI (f s - 1), μ3, sA μ3 190 a3, ?_, ?_, act_done h1 h2 h3 hF hL3 l2 (apay_ok (by omega) ?_)⟩
      · unfold f_X8_throwsDoll
        simp only [rfG_eq hq, Option.bind_some, hs8, hk1, if_neg bi1]
        rw [ldA_nI (by omega) (by omega), hC.2.1 s hs]
        simp only [Option.bind_some, h1.2.2.1.2.2.1]
        rw [if_pos (nI_lt hd (by omega)), e1, Option.bind_some, ldA_nI (by omega) (by omega), Option.bind_some, show ga μ1 6 s = nI (f (7 + s)) from hm.2.1 s hs, nI_1, stA_nI (by omega) (by omega), Option.bind_some, show (1 : Int32) = nI 1 from rfl, hl]
        rfl
      · unfold f_X9_throwsDoll
        simp only [hs9', hk1, Option.bind_some, if_neg bi1, i7]
        rw [ldA_nI (show 7 + s < 716 by omega) (by omega), gM3 (7 + s) (by omega), show (2 : Int32) = nI 2 from rfl, ldA_nI (show 2 < 49 by omega) (by omega), hM3.2.1 2 (by omega), Option.bind_some, Option.bind_some, if_pos (nI_lt hd (by omega)), k1, Option.bind_some, ldA_nI (by omega) (by omega), Option.bind_some, ga_sA, if_pos rfl, g2 (7 + s) (by omega), nI_1, stA_nI (by omega) (by omega), Option.bind_some, sA_sA, ga_sA, if_pos rfl, show (1 : Int32) = nI 1 from rfl, show (0 : Int32) = nI 0 from rfl, l1]
        simp only [Option.bind_some, sA_sA]
      · obtain ⟨o1, o2, o3, o4, o5⟩ := hO.up
        unfold adoll
        refine ⟨fun t ht => ?_, fun t ht => ?_, fun k hk => ?_, ?_, ?_⟩
        · show (if t = 7 + s then _ else f t) ≤ 999
          rw [if_neg (by omega)]; exact o1 t ht
        · show (if 7 + t = 7 + s then f (7 + s) + 1 else f (7 + t)) ≤ pl 2
          split
          · omega
          · exact o2 t ht
        · show (if 14 + k = 7 + s then _ else f (14 + k)) ≤ 99 * (c + 1)
          rw [if_neg (by omega)]; exact o3 k hk
        · show (if 63 = 7 + s then _ else f 63) ≤ 999999
          rw [if_neg (by omega)]; exact o4
        · show (if 64 = 7 + s then _ else f 64) ≤ 99
          rw [if_neg (by omega)]; exact o5
    · refine ⟨-2, μ, μ, ?_, ?_, hI.up⟩
      · unfold f_X8_throwsDoll
        simp only [rfG_eq hq, Option.bind_some, hs8, hk1, if_neg bi1]
        rw [ldA_nI (by omega) (by omega), hC.2.1 s hs]
        simp only [Option.bind_some, h1.2.2.1.2.2.1]
        rw [if_neg (nI_nlt (by omega) (by omega))]
      · unfold f_X9_throwsDoll
        simp only [hs9, hk1, Option.bind_some, if_neg bi1, i7]
        rw [ldA_nI (show 7 + s < 716 by omega) (by omega), gM (7 + s) (by omega), show (2 : Int32) = nI 2 from rfl, ldA_nI (show 2 < 49 by omega) (by omega), h2.2.1 2 (by omega), Option.bind_some, Option.bind_some, if_neg (nI_nlt (by omega) (by omega))]
theorem sp_redeems : Sp_redeems Inv := by
  intro c μ a1 hc hI
  obtain ⟨tx, len, pl, f, kn, ps, b, gf, gk, gp, tr, h1, h2, h3⟩ := id hI
  have hq := h1.1.1
  have hns := h3.2.1.1
  have hs8 := hasStair_eq h1.2.2.1.1 hns
  have hs9 := isStair_eq h2.2.1 hns
  cases hk1 : ck a1 (pl 0) with
  | false =>
    refine ⟨-1, μ, μ, ?_, ?_, hI.up⟩
    · unfold f_X8_redeems
      simp only [rfG_eq hq, Option.bind_some, hs8, hk1, if_pos bi0]
    · unfold f_X9_redeems
      simp only [hs9, hk1, Option.bind_some, if_pos bi0]
  | true =>
    obtain ⟨s, hs, rfl⟩ := ck_nat hk1 (by omega)
    have hO := h3.2.2.1.1
    have hds := hO.1 s (by omega)
    have hC := h1.2.2.2.1.1
    have gM : ∀ k, k < 65 → ga μ 190 k = nI (f k) := fun k hk => by have := h2.2.2.1.1 k hk; rw [Nat.zero_add] at this; exact this
    by_cases hz : f s = 0
    · refine ⟨-2, μ, μ, ?_, ?_, hI.up⟩
      · unfold f_X8_redeems
        simp only [rfG_eq hq, Option.bind_some, hs8, hk1, if_neg bi1]
        rw [ldA_nI (by omega) (by omega), hC.1 s hs, hz]
        rfl
      · unfold f_X9_redeems
        simp only [hs9, hk1, Option.bind_some, if_neg bi1]
        rw [ldA_nI (by omega) (by omega), gM s (by omega), hz]
        rfl
    · obtain ⟨μ1, e1, e2, e3⟩ := remember_ok (o := 3) rfl hns h3.2.2.1.2.1 h1.2.2.2.1
      have hm3 := e3.1.lessen (h := 0) hs hns 0
      have hF : Fr (fun k => 3 ≤ k ∧ k < 49) μ (sA μ1 5 (upd (ga μ1 5) s (nI 0))) := (e2.mono (fun k hk => by omega)).tr (Fr.sA (by omega))
      have hL3 := e3.now (f2 := fun k => if k = s then 0 else f k) (Fr.sA (by omega)) hm3
      have hL3 : LeC (sA μ1 5 (upd (ga μ1 5) s (nI 0))) (pl 0) 3 (fun k => if k = s then 0 else f k) (pk2 kn) (pp2 kn ps f) := hL3
      generalize hμ3 : sA μ1 5 (upd (ga μ1 5) s (nI 0)) = μ3 at hF hL3
      have hM3 := (h2.same (hF.sameM (fun k hk => by omega)))
      obtain ⟨a2, k1, k2⟩ := keeps_ok (μ := μ3) h3.2.2.1.2.1 hM3.2.2.1
      have g2 : ∀ k, k < 65 → a2 k = nI (f k) := fun k hk => by have := k2.1 k hk; rw [Nat.zero_add] at this; exact this
      have gM3 : ∀ k, k < 65 → ga μ3 190 k = nI (f k) := fun k hk => by have := hM3.2.2.1.1 k hk; rw [Nat.zero_add] at this; exact this
      have hs9' := isStair_eq hM3.2.1 hns
      have hne : ¬ nI (f s) = 0 := fun q => hz ((nI_eq (b := 0) (by omega) (by omega)).mp q)
      have l2 : LeM (upd a2 s (nI 0)) 0 (fun k => if k = s then 0 else f k) (pk2 kn) (pp2 kn ps f) := by
        refine k2.now (fun k hk => ?_) (fun k hk => ?_)
        · rw [upd_at, if_neg (by omega)]
        · rw [upd_at, Nat.zero_add]
          show _ = nI (if k = s then 0 else f k)
          by_cases e : k = s
          · rw [if_pos e, if_pos e]
          · rw [if_neg e, if_neg e]; exact g2 k hk
      refine ⟨nI (f s), μ3, sA μ3 190 (upd a2 s (nI 0)), ?_, ?_, act_done h1 h2 h3 hF hL3 l2 ?_⟩
      · unfold f_X8_redeems
        simp only [rfG_eq hq, Option.bind_some, hs8, hk1, if_neg bi1]
        rw [ldA_nI (by omega) (by omega), hC.1 s hs, Option.bind_some, if_neg hne, e1, Option.bind_some, show (0 : Int32) = nI 0 from rfl, stA_nI (by omega) (by omega), Option.bind_some, hμ3]
      · unfold f_X9_redeems
        simp only [hs9', hk1, Option.bind_some, if_neg bi1]
        rw [ldA_nI (by omega) (by omega), gM3 s (by omega), Option.bind_some, if_neg hne, k1, Option.bind_some, ldA_nI (by omega) (by omega), Option.bind_some, show (0 : Int32) = nI 0 from rfl, stA_nI (by omega) (by omega), Option.bind_some, sA_sA, ga_sA, if_pos rfl, g2 s (by omega)]
      · obtain ⟨o1, o2, o3, o4, o5⟩ := hO.up
        refine ⟨fun t ht => ?_, fun t ht => ?_, fun k hk => ?_, ?_, ?_⟩
        · show (if t = s then 0 else f t) ≤ 999
          split
          · omega
          · exact o1 t ht
        · show (if 7 + t = s then 0 else f (7 + t)) ≤ pl 2
          rw [if_neg (by omega)]; exact o2 t ht
        · show (if 14 + k = s then 0 else f (14 + k)) ≤ 99 * (c + 1)
          rw [if_neg (by omega)]; exact o3 k hk
        · show (if 63 = s then 0 else f 63) ≤ 999999
          rw [if_neg (by omega)]; exact o4
        · show (if 64 = s then 0 else f 64) ≤ 99
          rw [if_neg (by omega)]; exact o5

/-! sells, ends -/
theorem MoC.bond {μ : Mem} {ns q i : Nat} {f : Nat → Nat} (hm : MoC μ ns q f) (hns : ns ≤ 7) (hi : i < 49) (v : Nat) : MoC (sA μ (q + 3) (upd (ga μ (q + 3)) i (nI v))) ns q (fun k => if k = 14 + i then v else f k) := by
  obtain ⟨m1, m2, m3, m4, m5⟩ := hm
  refine ⟨fun t ht => ?_, fun t ht => ?_, fun k hk => ?_, ?_, ?_⟩
  · rw [ga_sA, if_neg (by omega)]
    show _ = nI (if t = 14 + i then v else f t)
    rw [if_neg (by omega)]; exact m1 t ht
  · rw [ga_sA, if_neg (by omega)]
    show _ = nI (if 7 + t = 14 + i then v else f (7 + t))
    rw [if_neg (by omega)]; exact m2 t ht
  · rw [ga_sA, if_pos rfl, upd_at]
    show _ = nI (if 14 + k = 14 + i then v else f (14 + k))
    by_cases e : k = i
    · rw [if_pos e, if_pos (by omega)]
    · rw [if_neg e, if_neg (by omega)]; exact m3 k hk
  · show _ = nI (if 63 = 14 + i then v else f 63)
    rw [if_neg (by omega)]; exact m4
  · show _ = nI (if 64 = 14 + i then v else f 64)
    rw [if_neg (by omega)]; exact m5
theorem sp_sells : Sp_sells Inv := by
  intro c μ a1 a2 a3 hc hI
  obtain ⟨tx, len, pl, f, kn, ps, b, gf, gk, gp, tr, h1, h2, h3⟩ := id hI
  have hq := h1.1.1
  have hns := h3.2.1.1
  have ht8 := hasTwo_eq h1.2.2.1.1 hns
  have hs9 := isStair_eq h2.2.1 hns
  have bad : (f_X8_sells μ a1 a2 a3 = some (-1, μ) ∧ f_X9_sells μ a1 a2 a3 = some (-1, μ)) → ∃ (r : Int32) (μ1 μ2 : Mem), (f_X8_sells μ a1 a2 a3 = some (r, μ1)) ∧ (f_X9_sells μ1 a1 a2 a3 = some (r, μ2)) ∧ Inv (c + 1) μ2 := fun q => ⟨-1, μ, μ, q.1, q.2, hI.up⟩
  cases hk1 : ck a1 (pl 0) with
  | false =>
    refine bad ⟨?_, ?_⟩
    · unfold f_X8_sells
      simp only [rfG_eq hq, Option.bind_some, ht8, hk1, Bool.false_and, if_pos bi0]
    · unfold f_X9_sells
      simp only [hs9, hk1, Option.bind_some, if_pos bi0]
  | true =>
  cases hk2 : ck a2 (pl 0) with
  | false =>
    refine bad ⟨?_, ?_⟩
    · unfold f_X8_sells
      simp only [rfG_eq hq, Option.bind_some, ht8, hk1, hk2, Bool.true_and, Bool.false_and, if_pos bi0]
    · unfold f_X9_sells
      simp only [hs9, hk1, hk2, Option.bind_some, if_pos bi0, if_neg bi1]
  | true =>
  by_cases hpp : a1 = a2
  · refine bad ⟨?_, ?_⟩
    · unfold f_X8_sells
      have e : bi (true && true && decide (a1 ≠ a2)) = 0 := by simp [hpp, bi]
      simp only [rfG_eq hq, Option.bind_some, ht8, hk1, hk2, if_pos e]
    · unfold f_X9_sells
      simp only [hs9, hk1, hk2, Option.bind_some, if_neg bi1, if_pos hpp]
  have ebt : ¬ bi (true && true && decide (a1 ≠ a2)) = 0 := by simp [hpp, bi]
  by_cases hn1 : a3 < 1
  · refine bad ⟨?_, ?_⟩
    · unfold f_X8_sells
      simp only [rfG_eq hq, Option.bind_some, ht8, hk1, hk2, if_neg ebt, if_pos hn1]
    · unfold f_X9_sells f_X9_in
      simp only [hs9, hk1, hk2, Option.bind_some, if_neg bi1, if_neg hpp, if_pos hn1, if_true]
  by_cases hn2 : a3 ≤ 99
  · clear bad
    obtain ⟨s, hs, rfl⟩ := ck_nat hk1 (by omega)
    obtain ⟨t, ht, rfl⟩ := ck_nat hk2 (by omega)
    obtain ⟨n, hn, rfl⟩ : ∃ n, (1 ≤ n ∧ n ≤ 99) ∧ a3 = nI n := by
      have h0 : ¬ a3 < 0 := fun q => hn1 (Int32.lt_trans q (by decide))
      obtain ⟨n, hn, rfl⟩ := nI_of h0
      refine ⟨n, ⟨?_, ?_⟩, rfl⟩
      · rcases Nat.eq_zero_or_pos n with rfl | q
        · exact absurd (by decide) hn1
        · exact q
      · exact (nI_leI (b := 99) (by omega) (by omega)).mp hn2
    have hst : s ≠ t := fun e => hpp (by rw [e])
    have hO := h3.2.2.1.1
    have hC := h1.2.2.2.1.1
    have hds := hO.1 s (by omega)
    have hdt := hO.1 t (by omega)
    have hin : ∀ m, f_X9_in m (nI n) 1 99 = some 1 := by
      intro m
      unfold f_X9_in
      rw [if_neg hn1, if_neg (Int32.not_lt.mpr hn2)]
    have gM : ∀ k, k < 65 → ga μ 190 k = nI (f k) := fun k hk => by have := h2.2.2.1.1 k hk; rw [Nat.zero_add] at this; exact this
    have one0 : ¬ (1 : Int32) = 0 := by decide
    by_cases hd : n ≤ f s
    · by_cases hfu : f t + n ≤ 999
      · obtain ⟨μ1, e1, e2, e3⟩ := remember_ok (o := 3) rfl hns h3.2.2.1.2.1 h1.2.2.2.1
        have hm := e3.1
        have hb0 := hO.2.2.1 (s * 7 + t) (by omega)
        have hm2 := hm.lessen (h := 0) ht hns (f t + n)
        have hm3 := hm2.bond hns (show s * 7 + t < 49 by omega) (f (14 + (s * 7 + t)) + n)
        have fs3 : (if s = 14 + (s * 7 + t) then f (14 + (s * 7 + t)) + n else if s = t then f t + n else f s) = f s := by
          rw [if_neg (by omega), if_neg hst]
        have hl := lessen_ok (h := n) hm3 hs hns (by rw [fs3]; exact hds) (by omega)
        rw [fs3] at hl
        have hm4 := hm3.lessen (h := 0) hs hns (f s - n)
        generalize hma : sA μ1 (3 + 1 + 1) (upd (ga μ1 (3 + 1 + 1)) t (nI (f t + n))) = ma at hm2 hm3 hl hm4
        generalize hmb : sA ma (3 + 1 + 3) (upd (ga ma (3 + 1 + 3)) (s * 7 + t) (nI (f (14 + (s * 7 + t)) + n))) = mb at hm3 hl hm4
        have fa : Fr (fun k => 3 + 1 ≤ k ∧ k < 3 + 5) μ1 ma := by rw [← hma]; exact Fr.sA (by omega)
        have fb : Fr (fun k => 3 + 1 ≤ k ∧ k < 3 + 5) ma mb := by rw [← hmb]; exact Fr.sA (by omega)
        have fc := (fa.tr fb).tr (Fr.sA (S := fun k => 3 + 1 ≤ k ∧ k < 3 + 5) (μ := mb) (k := 3 + 1 + 1) (f := upd (ga mb (3 + 1 + 1)) s (nI (f s - n))) (by omega))
        have hL3 := e3.now fc hm4
        generalize hmc : sA mb (3 + 1 + 1) (upd (ga mb (3 + 1 + 1)) s (nI (f s - n))) = μ3 at hl fc hL3
        have hF : Fr (fun k => 3 ≤ k ∧ k < 49) μ μ3 := (e2.mono (fun k hk => by omega)).tr (fc.mono (fun k hk => by omega))
        have hM3 := (h2.same (hF.sameM (fun k hk => by omega)))
        obtain ⟨a2, k1, k2⟩ := keeps_ok (μ := μ3) h3.2.2.1.2.1 hM3.2.2.1
        have g2 : ∀ k, k < 65 → a2 k = nI (f k) := fun k hk => by have := k2.1 k hk; rw [Nat.zero_add] at this; exact this
        have gM3 : ∀ k, k < 65 → ga μ3 190 k = nI (f k) := fun k hk => by have := hM3.2.2.1.1 k hk; rw [Nat.zero_add] at this; exact this
        have hs9' := isStair_eq hM3.2.1 hns
        have l2 : LeM (upd (upd (upd a2 s (nI (f s - n))) t (nI (f t + n))) (14 + (s * 7 + t)) (nI (f (14 + (s * 7 + t)) + n))) 0 (fun k => if k = s then f s - n else (fun k => if k = 14 + (s * 7 + t) then f (14 + (s * 7 + t)) + n else (fun k => if k = t then f t + n else f k) k) k) (pk2 kn) (pp2 kn ps f) := by
          refine k2.now (fun k hk => ?_) (fun k hk => ?_)
          · rw [upd_at, if_neg (by omega), upd_at, if_neg (by omega), upd_at, if_neg (by omega)]
          · rw [upd_at, upd_at, upd_at, Nat.zero_add]
            show _ = nI (if k = s then f s - n else if k = 14 + (s * 7 + t) then f (14 + (s * 7 + t)) + n else if k = t then f t + n else f k)
            by_cases x1 : k = 14 + (s * 7 + t)
            · rw [if_pos x1, if_neg (by omega), if_pos x1]
            · rw [if_neg x1, if_neg x1]
              by_cases x2 : k = t
              · rw [if_pos x2, if_neg (by omega), if_pos x2]
              · rw [if_neg x2, if_neg x2]
                by_cases x3 : k = s
                · rw [if_pos x3, if_pos x3]
                · rw [if_neg x3, if_neg x3]; exact g2 k hk
        refine ⟨nI (f s - n), μ3, sA μ3 190 _, ?_, ?_, act_done h1 h2 h3 hF hL3 l2 ?_⟩
        · unfold f_X8_sells
          simp only [rfG_eq hq, Option.bind_some, ht8, hk1, hk2, if_neg ebt, if_neg hn1, if_pos hn2]
          rw [ldA_nI (show s < 7 by omega) (by omega), hC.1 s hs, Option.bind_some, if_pos (nI_le hd (by omega)), ldA_nI (show t < 7 by omega) (by omega), hC.1 t ht, Option.bind_some, nI_add, if_pos (show nI (f t + n) ≤ 999 from nI_le (b := 999) hfu (by omega)), e1, Option.bind_some, ldA_nI (show t < 7 by omega) (by omega), Option.bind_some, show ga μ1 5 t = nI (f t) from hm.1 t ht, nI_add, stA_nI (by omega) (by omega), Option.bind_some]
          unfold f_X8_bondAt
          rw [show sA μ1 5 (upd (ga μ1 5) t (nI (f t + n))) = ma from hma, Option.bind_some, show (7 : Int32) = nI 7 from rfl, pk_mul, nI_add, ldA_nI (show s * 7 + t < 49 by omega) (by omega), Option.bind_some, show ga ma 7 (s * 7 + t) = nI (f (14 + (s * 7 + t))) from (hm2.2.2.1 (s * 7 + t) (by omega)).trans (by show nI (if 14 + (s * 7 + t) = t then _ else _) = _; rw [if_neg (by omega)]), nI_add, stA_nI (show s * 7 + t < 49 by omega) (by omega), Option.bind_some, show sA ma 7 (upd (ga ma 7) (s * 7 + t) (nI (f (14 + (s * 7 + t)) + n))) = mb from hmb, show (4 : Nat) = 3 + 1 from rfl, hl]
          rfl
        · unfold f_X9_sells
          simp only [hs9', hk1, hk2, Option.bind_some, if_neg bi1, if_neg hpp, hin, if_neg one0]
          rw [ldA_nI (show s < 716 by omega) (by omega), gM3 s (by omega), Option.bind_some, if_pos (nI_le hd (by omega)), ldA_nI (show t < 716 by omega) (by omega), gM3 t (by omega), Option.bind_some, nI_add, if_pos (show nI (f t + n) ≤ 999 from nI_le (b := 999) hfu (by omega)), k1, Option.bind_some, ldA_nI (show s < 716 by omega) (by omega), Option.bind_some, ga_sA, if_pos rfl, g2 s (by omega), pk_sub hd, stA_nI (show s < 716 by omega) (by omega), Option.bind_some, sA_sA, ga_sA, if_pos rfl, ldA_nI (show t < 716 by omega) (by omega), Option.bind_some, ga_sA, if_pos rfl, upd_at, if_neg (show ¬ t = s from fun e => hst e.symm), g2 t (by omega), nI_add, stA_nI (show t < 716 by omega) (by omega), Option.bind_some, sA_sA, ga_sA, if_pos rfl, show (14 : Int32) = nI 14 from rfl, show (7 : Int32) = nI 7 from rfl, pk_mul, nI_add, nI_add, show 14 + 7 * s + t = 14 + (s * 7 + t) by omega, ldA_nI (show 14 + (s * 7 + t) < 716 by omega) (by omega), Option.bind_some, ga_sA, if_pos rfl, upd_at, if_neg (show ¬ 14 + (s * 7 + t) = t by omega), upd_at, if_neg (show ¬ 14 + (s * 7 + t) = s by omega), g2 (14 + (s * 7 + t)) (by omega), nI_add, stA_nI (show 14 + (s * 7 + t) < 716 by omega) (by omega), Option.bind_some, sA_sA, ga_sA, if_pos rfl, ldA_nI (show s < 716 by omega) (by omega), Option.bind_some, ga_sA, if_pos rfl, upd_at, if_neg (show ¬ s = 14 + (s * 7 + t) by omega), upd_at, if_neg hst, upd_at, if_pos rfl]
        · obtain ⟨o1, o2, o3, o4, o5⟩ := hO.up
          refine ⟨fun x hx => ?_, fun x hx => ?_, fun k hk => ?_, ?_, ?_⟩
          · show (if x = s then f s - n else if x = 14 + (s * 7 + t) then f (14 + (s * 7 + t)) + n else if x = t then f t + n else f x) ≤ 999
            split
            · omega
            · rw [if_neg (by omega)]
              split
              · omega
              · exact o1 x hx
          · show (if 7 + x = s then f s - n else if 7 + x = 14 + (s * 7 + t) then f (14 + (s * 7 + t)) + n else if 7 + x = t then f t + n else f (7 + x)) ≤ pl 2
            rw [if_neg (by omega), if_neg (by omega), if_neg (by omega)]; exact o2 x hx
          · show (if 14 + k = s then f s - n else if 14 + k = 14 + (s * 7 + t) then f (14 + (s * 7 + t)) + n else if 14 + k = t then f t + n else f (14 + k)) ≤ 99 * (c + 1)
            rw [if_neg (by omega)]
            split
            · omega
            · rw [if_neg (by omega)]; exact o3 k hk
          · show (if 63 = s then f s - n else if 63 = 14 + (s * 7 + t) then f (14 + (s * 7 + t)) + n else if 63 = t then f t + n else f 63) ≤ 999999
            rw [if_neg (by omega), if_neg (by omega), if_neg (by omega)]; exact o4
          · show (if 64 = s then f s - n else if 64 = 14 + (s * 7 + t) then f (14 + (s * 7 + t)) + n else if 64 = t then f t + n else f 64) ≤ 99
            rw [if_neg (by omega), if_neg (by omega), if_neg (by omega)]; exact o5
      · refine ⟨-3, μ, μ, ?_, ?_, hI.up⟩
        · unfold f_X8_sells
          simp only [rfG_eq hq, Option.bind_some, ht8, hk1, hk2, if_neg ebt, if_neg hn1, if_pos hn2]
          rw [ldA_nI (show s < 7 by omega) (by omega), hC.1 s hs, Option.bind_some, if_pos (nI_le hd (by omega)), ldA_nI (show t < 7 by omega) (by omega), hC.1 t ht, Option.bind_some, nI_add, if_neg (show ¬ nI (f t + n) ≤ 999 from nI_ge (a := 999) (by omega) (by omega))]
        · unfold f_X9_sells
          simp only [hs9, hk1, hk2, Option.bind_some, if_neg bi1, if_neg hpp, hin, if_neg one0]
          rw [ldA_nI (show s < 716 by omega) (by omega), gM s (by omega), Option.bind_some, if_pos (nI_le hd (by omega)), ldA_nI (show t < 716 by omega) (by omega), gM t (by omega), Option.bind_some, nI_add, if_neg (show ¬ nI (f t + n) ≤ 999 from nI_ge (a := 999) (by omega) (by omega))]
    · refine ⟨-2, μ, μ, ?_, ?_, hI.up⟩
      · unfold f_X8_sells
        simp only [rfG_eq hq, Option.bind_some, ht8, hk1, hk2, if_neg ebt, if_neg hn1, if_pos hn2]
        rw [ldA_nI (show s < 7 by omega) (by omega), hC.1 s hs, Option.bind_some, if_neg (nI_ge (by omega) (by omega))]
      · unfold f_X9_sells
        simp only [hs9, hk1, hk2, Option.bind_some, if_neg bi1, if_neg hpp, hin, if_neg one0]
        rw [ldA_nI (show s < 716 by omega) (by omega), gM s (by omega), Option.bind_some, if_neg (nI_ge (by omega) (by omega))]
  · refine bad ⟨?_, ?_⟩
    · unfold f_X8_sells
      simp only [rfG_eq hq, Option.bind_some, ht8, hk1, hk2, if_neg ebt, if_neg hn1, if_neg hn2]
    · unfold f_X9_sells f_X9_in
      simp only [hs9, hk1, hk2, Option.bind_some, if_neg bi1, if_neg hpp, if_neg hn1, if_pos (Int32.not_le.mp hn2), if_true]

/-! sums, fills, the year's end -/
def sumN (f : Nat → Nat) : Nat → Nat
  | 0 => 0
  | n + 1 => sumN f n + f n
theorem sumN_le {f : Nat → Nat} {M : Nat} : ∀ {n : Nat}, (∀ k, k < n → f k ≤ M) → sumN f n ≤ M * n
  | 0, _ => Nat.zero_le _
  | n + 1, h => by
    have h1 := sumN_le (n := n) (fun k hk => h k (by omega))
    have h2 := h n (by omega)
    show sumN f n + f n ≤ M * (n + 1)
    rw [Nat.mul_succ]
    omega
theorem dueOfAll_ok {μ : Mem} {ns q : Nat} {f : Nat → Nat} (hm : MoC μ ns q f) (hns : ns ≤ 7) (hf : ∀ s, s < 7 → f s ≤ 999) : f_X1_dueOfAll μ q (nI ns) = some (nI (sumN f ns)) := by
  unfold f_X1_dueOfAll
  have h : iter gFU (f_X1_dueOfAll_b4 μ q (nI ns)) (0, 0) = some (nI (sumN f ns)) := by
    refine iter_forU (fun i => (nI (sumN f i), nI i)) ns _ rfl (by omega) ?_ ?_
    · intro i hi
      unfold f_X1_dueOfAll_b4
      show (if nI ns ≤ nI i then _ else (ldA μ (q + 1) 7 (nI i)).bind fun y4 => some (Sum.inl (nI (sumN f i) + y4, nI i + 1))) = _
      rw [if_neg (nI_ge hi (by omega)), ldA_nI (by omega) (by omega), Option.bind_some, hm.1 i hi, nI_add, nI_1]
      rfl
    · unfold f_X1_dueOfAll_b4
      show (if nI ns ≤ nI ns then some (Sum.inr (nI (sumN f ns))) else _) = _
      rw [if_pos (nI_le (Nat.le_refl _) (by omega))]
  rw [h, Option.bind_some]
theorem all_ok {μ : Mem} {pl f : Nat → Nat} (hP : PlM μ pl) (hM : ∀ k, k < 65 → ga μ 190 k = nI (f k)) (hns : pl 0 ≤ 7) : f_X9_all μ = some (nI (sumN f (pl 0))) := by
  unfold f_X9_all
  have h : iter gFU (f_X9_all_b4 μ) (0, 0) = some (nI (sumN f (pl 0))) := by
    refine iter_forU (fun i => (nI (sumN f i), nI i)) (pl 0) _ rfl (by omega) ?_ ?_
    · intro i hi
      unfold f_X9_all_b4
      show ((ldA μ 188 49 (nI 0)).bind fun y2 => if y2 ≤ nI i then some (Sum.inr (nI (sumN f i))) else (ldA μ 190 716 (nI i)).bind fun y3 => some (Sum.inl (nI (sumN f i) + y3, nI i + 1))) = _
      rw [ldA_nI (by omega) (by omega), Option.bind_some, hP 0 (by omega), if_neg (nI_ge hi (by omega)), ldA_nI (by omega) (by omega), Option.bind_some, hM i (by omega), nI_add, nI_1]
      rfl
    · unfold f_X9_all_b4
      show ((ldA μ 188 49 (nI 0)).bind fun y2 => if y2 ≤ nI (pl 0) then some (Sum.inr (nI (sumN f (pl 0)))) else _) = _
      rw [ldA_nI (by omega) (by omega), Option.bind_some, hP 0 (by omega), if_pos (nI_le (Nat.le_refl _) (by omega))]
  rw [h, Option.bind_some]
theorem fill_ok {μ : Mem} {q n : Nat} {v : Int32} (hn : n ≤ 100000) : f_J7_fill_53178 μ q n v = some (sA μ q (fun k => if k < n then v else ga μ q k)) := by
  unfold f_J7_fill_53178
  have h : iter gFU (f_J7_fill_53178_b5 q n v (Int32.ofNat n)) (0, μ) = some (sA μ q (fun k => if k < n then v else ga μ q k)) := by
    refine iter_forU (fun i => (nI i, sA μ q (fun k => if k < i then v else ga μ q k))) n _ ?_ (by omega) ?_ ?_
    · refine Prod.ext rfl ?_
      show μ = sA μ q _
      have : (fun k => if k < 0 then v else ga μ q k) = ga μ q := by funext k; rw [if_neg (by omega)]
      rw [this]
      exact (sA_self μ q).symm
    · intro i hi
      unfold f_J7_fill_53178_b5
      show (if nI n ≤ nI i then _ else (stA (sA μ q (fun k => if k < i then v else ga μ q k)) q n (nI i) v).bind fun m5 => some (Sum.inl (nI i + 1, m5))) = _
      rw [if_neg (nI_ge hi (by omega)), stA_nI hi (by omega), Option.bind_some, nI_1, ga_sA, if_pos rfl, sA_sA]
      congr 4
      funext k
      rw [upd_at]
      by_cases e : k = i
      · rw [if_pos e, if_pos (by omega)]
      · rw [if_neg e]
        by_cases e2 : k < i
        · rw [if_pos e2, if_pos (by omega)]
        · rw [if_neg e2, if_neg (by omega)]
    · unfold f_J7_fill_53178_b5
      show (if nI n ≤ nI n then some (Sum.inr (sA μ q (fun k => if k < n then v else ga μ q k))) else _) = _
      rw [if_pos (nI_le (Nat.le_refl _) (by omega))]
  rw [h, Option.bind_some]
/-- a year ends -/
def aend (pl f : Nat → Nat) : Nat → Nat := fun k => if k < 7 then (if k < pl 0 then min 999 (f k + pl (27 + k)) else f k) else if k < 14 then (if k < 7 + pl 0 then 0 else f k) else if k < 63 then 0 else if k = 63 then f 63 else if k = 64 then f 64 + 1 else f k
theorem endYear_ok {μ : Mem} {q o : Nat} {pl f : Nat → Nat} (hm : MoC μ (pl 0) o f) (hP : PlC μ q pl) (hns : pl 0 ≤ 7) (hf : ∀ s, s < 7 → f s ≤ 999) (hpl : ∀ s, s < pl 0 → pl (27 + s) ≤ 40) (hqo : q + 8 ≤ o ∨ o + 4 ≤ q) (hy : f 64 ≤ 98) : ∃ μ2, f_X1_endYear μ o q = some μ2 ∧ Fr (fun k => o ≤ k ∧ k < o + 4) μ μ2 ∧ MoC μ2 (pl 0) o (aend pl f) := by
  unfold f_X1_endYear
  have h : iter gFU (f_X1_endYear_b2 o q) (0, μ) = some (sA μ (o + 1) (fun k => if k < pl 0 then nI (min 999 (f k + pl (27 + k))) else ga μ (o + 1) k)) := by
    refine iter_forU (fun i => (nI i, sA μ (o + 1) (fun k => if k < i then nI (min 999 (f k + pl (27 + k))) else ga μ (o + 1) k))) (pl 0) _ ?_ (by omega) ?_ ?_
    · refine Prod.ext rfl ?_
      show μ = sA μ (o + 1) _
      have : (fun k => if k < 0 then nI (min 999 (f k + pl (27 + k))) else ga μ (o + 1) k) = ga μ (o + 1) := by funext k; rw [if_neg (by omega)]
      rw [this]
      exact (sA_self μ (o + 1)).symm
    · intro i hi
      unfold f_X1_endYear_b2
      show (if gi (sA μ (o + 1) _) q 7 ≤ nI i then _ else (ldA (sA μ (o + 1) (fun k => if k < i then nI (min 999 (f k + pl (27 + k))) else ga μ (o + 1) k)) (o + 1) 7 (nI i)).bind fun y3 => (ldA (sA μ (o + 1) (fun k => if k < i then nI (min 999 (f k + pl (27 + k))) else ga μ (o + 1) k)) (q + 4) 7 (nI i)).bind fun y4 => (stA (sA μ (o + 1) (fun k => if k < i then nI (min 999 (f k + pl (27 + k))) else ga μ (o + 1) k)) (o + 1) 7 (nI i) (mnI 999 (y3 + y4))).bind fun m5 => some (Sum.inl (nI i + 1, m5))) = _
      have := hf i (by omega)
      have := hpl i hi
      rw [gi_sA, hP.1, if_neg (nI_ge hi (by omega)), ldA_nI (by omega) (by omega), Option.bind_some, ldA_nI (by omega) (by omega), Option.bind_some, ga_sA, if_pos rfl, if_neg (by omega), ga_sA, if_neg (by omega), hm.1 i hi, (hP.2.2.2.2.1 i hi).2.2.2, nI_add, show (999 : Int32) = nI 999 from rfl, mn_nI (by omega) (by omega), stA_nI (by omega) (by omega), Option.bind_some, nI_1, ga_sA, if_pos rfl, sA_sA]
      congr 4
      funext k
      rw [upd_at]
      by_cases e : k = i
      · rw [if_pos e, if_pos (by omega), e]
      · rw [if_neg e]
        by_cases e2 : k < i
        · rw [if_pos e2, if_pos (by omega)]
        · rw [if_neg e2, if_neg (by omega)]
    · unfold f_X1_endYear_b2
      show (if gi (sA μ (o + 1) _) q 7 ≤ nI (pl 0) then some (Sum.inr (sA μ (o + 1) (fun k => if k < pl 0 then nI (min 999 (f k + pl (27 + k))) else ga μ (o + 1) k))) else _) = _
      rw [gi_sA, hP.1, if_pos (nI_le (Nat.le_refl _) (by omega))]
  rw [h, Option.bind_some, fill_ok (by omega), Option.bind_some, fill_ok (by omega), Option.bind_some, stI_eq, Option.bind_some]
  refine ⟨_, rfl, ?_, ?_⟩
  · exact (((Fr.sA (by omega)).tr (Fr.sA (by omega))).tr (Fr.sA (by omega))).tr (Fr.si (by omega))
  · obtain ⟨m1, m2, m3, m4, m5⟩ := hm
    refine ⟨fun s hs => ?_, fun s hs => ?_, fun k hk => ?_, ?_, ?_⟩
    · rw [ga_si, ga_sA, if_neg (by omega), ga_sA, if_neg (by omega), ga_sA, if_pos rfl, if_pos hs]
      unfold aend
      rw [if_pos (by omega), if_pos hs]
    · rw [ga_si, ga_sA, if_neg (by omega), ga_sA, if_pos rfl, if_pos (by omega)]
      unfold aend
      rw [if_neg (by omega), if_pos (by omega), if_pos (by omega)]
      rfl
    · rw [ga_si, ga_sA, if_pos rfl, if_pos (by omega)]
      unfold aend
      rw [if_neg (by omega), if_neg (by omega), if_pos (by omega)]
      rfl
    · rw [gi_si, if_neg (by omega), gi_sA, gi_sA, gi_sA, m4]
      unfold aend
      rw [if_neg (by omega), if_neg (by omega), if_neg (by omega), if_pos rfl]
    · rw [gi_si, if_pos ⟨rfl, rfl⟩, gi_sA, gi_sA, gi_sA, m5, nI_1]
      unfold aend
      rw [if_neg (by omega), if_neg (by omega), if_neg (by omega), if_neg (by omega), if_pos rfl]

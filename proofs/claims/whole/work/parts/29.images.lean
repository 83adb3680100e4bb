/-! images -/
def lcp (a b : Nat) : Nat → Mem → Mem
  | 0, μ => μ
  | i + 1, μ => (f_X1_copyFrom (lcp a b i μ) (a + 5 + 1 + 4 * i) (b + 5 + 1 + 4 * i)).getD (lcp a b i μ)
theorem lcp_ok {a b : Nat} (hab : a + 46 ≤ b ∨ b + 46 ≤ a) (μ : Mem) : ∀ i, i ≤ 10 → Fr (fun k => a + 6 ≤ k ∧ k < a + 6 + 4 * i) μ (lcp a b i μ) ∧ ∀ j, j < i → ∀ (ns : Nat) (f : Nat → Nat), ns ≤ 7 → MoC μ ns (b + 6 + 4 * j) f → MoC (lcp a b i μ) ns (a + 6 + 4 * j) f
  | 0, _ => ⟨Fr.rf, fun j hj => absurd hj (by omega)⟩
  | i + 1, hi => by
    obtain ⟨h1, h2⟩ := lcp_ok hab μ i (by omega)
    obtain ⟨μ2, e1, e2, e3⟩ := copyFrom_ok (lcp a b i μ) (a := a + 5 + 1 + 4 * i) (b := b + 5 + 1 + 4 * i) (by omega)
    have e : lcp a b (i + 1) μ = μ2 := by
      show (f_X1_copyFrom (lcp a b i μ) (a + 5 + 1 + 4 * i) (b + 5 + 1 + 4 * i)).getD (lcp a b i μ) = μ2
      rw [e1]; rfl
    rw [e]
    refine ⟨(h1.mono (fun k hk => by omega)).tr (e2.mono (fun k hk => by omega)), fun j hj ns f hns hm => ?_⟩
    by_cases hji : j = i
    · subst hji
      have hm2 : MoC (lcp a b j μ) ns (b + 5 + 1 + 4 * j) f := by
        rw [show b + 5 + 1 + 4 * j = b + 6 + 4 * j by omega]
        exact hm.fr h1 (by omega) (by omega) (by omega) (by omega)
      have h9 := e3 ns f hns hm2
      rw [show a + 5 + 1 + 4 * j = a + 6 + 4 * j by omega] at h9
      exact h9
    · exact (h2 j (by omega) ns f hns hm).fr e2 (by omega) (by omega) (by omega) (by omega)
theorem ledCopy_ok {a b : Nat} (ha : isLe a = true) (hb : isLe b = true) (hab : a + 46 ≤ b ∨ b + 46 ≤ a) (μ : Mem) : ∃ μ2, f_X0_copyFrom μ a b = some μ2 ∧ Fr (fun k => a ≤ k ∧ k < a + 46) μ μ2 ∧ ∀ (ns : Nat) (f : Nat → Nat) (kn : Nat) (ps : Nat → Nat → Nat), ns ≤ 7 → kn ≤ 10 → LeC μ ns b f kn ps → LeC μ2 ns a f kn ps := by
  obtain ⟨μ1, e1, e2, e3⟩ := copyFrom_ok μ (a := a + 1) (b := b + 1) (by omega)
  unfold f_X0_copyFrom
  rw [e1, Option.bind_some]
  have hl : iter gFU (f_X0_copyFrom_b13 a b) (0, μ1) = some (lcp a b 10 μ1) := by
    refine iter_forU (fun i => (nI i, lcp a b i μ1)) 10 _ rfl (by omega) ?_ ?_
    · intro i hi
      obtain ⟨h1, h2⟩ := lcp_ok hab μ1 i (by omega)
      obtain ⟨μ2, x1, x2, x3⟩ := copyFrom_ok (lcp a b i μ1) (a := a + 5 + 1 + 4 * i) (b := b + 5 + 1 + 4 * i) (by omega)
      have e : lcp a b (i + 1) μ1 = μ2 := by
        show (f_X1_copyFrom (lcp a b i μ1) (a + 5 + 1 + 4 * i) (b + 5 + 1 + 4 * i)).getD (lcp a b i μ1) = μ2
        rw [x1]; rfl
      unfold f_X0_copyFrom_b13
      show (if (10 : Int32) ≤ nI i then _ else (rfA (a + 5) 10 4 (nI i) isMo).bind fun q5 => (rfA (b + 5) 10 4 (nI i) isMo).bind fun q6 => (f_X1_copyFrom (lcp a b i μ1) q5 q6).bind fun m8 => some (Sum.inl (nI i + 1, m8))) = _
      rw [if_neg (show ¬ (10 : Int32) ≤ nI i from nI_ge (b := 10) hi (by omega)), rfA_nI hi (by omega) (isMo_past ha hi), Option.bind_some, rfA_nI hi (by omega) (isMo_past hb hi), Option.bind_some, x1, Option.bind_some, nI_1, e]
    · unfold f_X0_copyFrom_b13
      show (if (10 : Int32) ≤ nI 10 then some (Sum.inr (lcp a b 10 μ1)) else _) = _
      rw [if_pos (by decide)]
  obtain ⟨h1, h2⟩ := lcp_ok hab μ1 10 (by omega)
  rw [hl, Option.bind_some, stI_eq, Option.bind_some, stI_eq, Option.bind_some]
  generalize lcp a b 10 μ1 = μ2 at h1 h2
  have f3 : Fr (fun k => k = a) μ2 (si (si μ2 a 2 (gi μ2 b 2)) a 3 (gi (si μ2 a 2 (gi μ2 b 2)) b 3)) := (Fr.si (S := fun k => k = a) rfl).tr (Fr.si (S := fun k => k = a) rfl)
  refine ⟨_, rfl, ((e2.mono (fun k hk => by omega)).tr (h1.mono (fun k hk => by omega))).tr (f3.mono (fun k hk => by omega)), ?_⟩
  intro ns f kn ps hns hkn hm
  obtain ⟨m1, m2, nx, hn, m3, m4⟩ := hm
  have gb : gi μ2 b = gi μ b := ((h1.2.2.2 b (by omega)).1).trans (e2.2.2.2 b (by omega)).1
  refine ⟨((e3 ns f hns m1).fr h1 (by omega) (by omega) (by omega) (by omega)).fr f3 (by omega) (by omega) (by omega) (by omega), ?_, nx, hn, ?_, fun j hj => ?_⟩
  · rw [gi_si, if_neg (by omega), gi_si, if_pos ⟨rfl, rfl⟩, gb]; exact m2
  · rw [gi_si, if_pos ⟨rfl, rfl⟩, gi_si, if_neg (by omega), gb]; exact m3
  · exact (h2 ((nx + 10 - kn + j) % 10) (by omega) ns (ps j) hns ((m4 j hj).fr e2 (by omega) (by omega) (by omega) (by omega))).fr f3 (by omega) (by omega) (by omega) (by omega)
theorem isImage_eq {μ : Mem} (a : Int32) : f_X8_isImage μ a = some (bi (ck a 2)) := by
  unfold f_X8_isImage
  rcases int_range a (n := 2) (by omega) with ⟨h1, h2⟩ | ⟨h1, h2, h3⟩ | ⟨j, h1, rfl, h3⟩
  · rw [if_pos h1, h2]; rfl
  · rw [if_neg h1, if_pos (show (2 : Int32) ≤ a from h2), h3]; rfl
  · rw [if_neg (nI_pos (by omega)), if_neg (show ¬ (2 : Int32) ≤ nI j from nI_ge (b := 2) h1 (by omega)), h3]; rfl
theorem stZ_nI {μ : Mem} {k n i : Nat} {v : Int32} (h : i < n) (hn : n ≤ 2147483647) : stZ μ k n (nI i) v = some (sA μ k (upd (ga μ k) i (vp_nar .boolean v))) := by
  unfold stZ
  rw [ck_nI h hn, nI_clamp (by omega)]
  rfl
theorem isLe_im {e : Nat} (he : e < 2) : isLe (49 + 1 + 46 * e) = true := by
  match e, he with
  | 0, _ => rfl
  | 1, _ => rfl
theorem keep13 {μ : Mem} {e : Nat} (he : e < 2) : iter gFU (f_X9_keep_b13 (nI e)) (0, μ) = some (sA μ 191 (fun k => if 716 * e ≤ k ∧ k < 716 * e + 716 then ga μ 190 (k - 716 * e) else ga μ 191 k)) := by
  refine iter_forU (fun i => (nI i, sA μ 191 (fun k => if 716 * e ≤ k ∧ k < 716 * e + i then ga μ 190 (k - 716 * e) else ga μ 191 k))) 716 _ ?_ (by omega) ?_ ?_
  · refine Prod.ext rfl ?_
    show μ = sA μ 191 _
    have : (fun k => if 716 * e ≤ k ∧ k < 716 * e + 0 then ga μ 190 (k - 716 * e) else ga μ 191 k) = ga μ 191 := by funext k; rw [if_neg (by omega)]
    rw [this]
    exact (sA_self μ 191).symm
  · intro i hi
    unfold f_X9_keep_b13
    show (if (716 : Int32) ≤ nI i then _ else (ldA (sA μ 191 (fun k => if 716 * e ≤ k ∧ k < 716 * e + i then ga μ 190 (k - 716 * e) else ga μ 191 k)) 190 716 (nI i)).bind fun y3 => (stA (sA μ 191 (fun k => if 716 * e ≤ k ∧ k < 716 * e + i then ga μ 190 (k - 716 * e) else ga μ 191 k)) 191 1432 (nI 716 * nI e + nI i) y3).bind fun m4 => some (Sum.inl (nI i + 1, m4))) = _
    rw [if_neg (show ¬ (716 : Int32) ≤ nI i from nI_ge (b := 716) hi (by omega)), ldA_nI hi (by omega), Option.bind_some, pk_mul, nI_add, stA_nI (by omega) (by omega), Option.bind_some, nI_1, sA_sA, ga_sA, if_pos rfl, ga_sA, if_neg (show ¬ 190 = 191 by omega)]
    congr 4
    funext k
    rw [upd_at]
    by_cases x : k = 716 * e + i
    · rw [if_pos x, if_pos (by omega), x, show 716 * e + i - 716 * e = i by omega]
    · rw [if_neg x]
      by_cases x3 : 716 * e ≤ k ∧ k < 716 * e + i
      · rw [if_pos x3, if_pos (by omega)]
      · rw [if_neg x3, if_neg (by omega)]
  · unfold f_X9_keep_b13
    show (if (716 : Int32) ≤ nI 716 then some (Sum.inr (sA μ 191 (fun k => if 716 * e ≤ k ∧ k < 716 * e + 716 then ga μ 190 (k - 716 * e) else ga μ 191 k))) else _) = _
    rw [if_pos (by decide)]
theorem back25 {μ : Mem} {e : Nat} (he : e < 2) : iter gFU (f_X9_back_b25 (nI e)) (0, μ) = some (sA μ 190 (fun k => if k < 716 then ga μ 191 (716 * e + k) else ga μ 190 k)) := by
  refine iter_forU (fun i => (nI i, sA μ 190 (fun k => if k < i then ga μ 191 (716 * e + k) else ga μ 190 k))) 716 _ ?_ (by omega) ?_ ?_
  · refine Prod.ext rfl ?_
    show μ = sA μ 190 _
    have : (fun k => if k < 0 then ga μ 191 (716 * e + k) else ga μ 190 k) = ga μ 190 := by funext k; rw [if_neg (by omega)]
    rw [this]
    exact (sA_self μ 190).symm
  · intro i hi
    unfold f_X9_back_b25
    show (if (716 : Int32) ≤ nI i then _ else (ldA (sA μ 190 (fun k => if k < i then ga μ 191 (716 * e + k) else ga μ 190 k)) 191 1432 (nI 716 * nI e + nI i)).bind fun y4 => (stA (sA μ 190 (fun k => if k < i then ga μ 191 (716 * e + k) else ga μ 190 k)) 190 716 (nI i) y4).bind fun m5 => some (Sum.inl (nI i + 1, m5))) = _
    rw [if_neg (show ¬ (716 : Int32) ≤ nI i from nI_ge (b := 716) hi (by omega)), pk_mul, nI_add, ldA_nI (by omega) (by omega), Option.bind_some, stA_nI hi (by omega), Option.bind_some, nI_1, sA_sA, ga_sA, if_pos rfl, ga_sA, if_neg (show ¬ 191 = 190 by omega)]
    congr 4
    funext k
    rw [upd_at]
    by_cases x : k = i
    · rw [if_pos x, if_pos (by omega), x]
    · rw [if_neg x]
      by_cases x3 : k < i
      · rw [if_pos x3, if_pos (by omega)]
      · rw [if_neg x3, if_neg (by omega)]
  · unfold f_X9_back_b25
    show (if (716 : Int32) ≤ nI 716 then some (Sum.inr (sA μ 190 (fun k => if k < 716 then ga μ 191 (716 * e + k) else ga μ 190 k))) else _) = _
    rw [if_pos (by decide)]
theorem LeM.shift {a a2 : Nat → Int32} {off off2 : Nat} {f : Nat → Nat} {kn : Nat} {ps : Nat → Nat → Nat} (hkn : kn ≤ 10) (h : ∀ k, k < 716 → a2 (off2 + k) = a (off + k)) (hm : LeM a off f kn ps) : LeM a2 off2 f kn ps := by
  obtain ⟨m1, m2, m3⟩ := hm
  refine ⟨fun k hk => by rw [h k (by omega)]; exact m1 k hk, by rw [h 65 (by omega)]; exact m2, fun j hj k hk => ?_⟩
  have := h (66 + 65 * j + k) (by omega)
  rw [show off2 + 66 + 65 * j + k = off2 + (66 + 65 * j + k) by omega, this, show off + (66 + 65 * j + k) = off + 66 + 65 * j + k by omega]
  exact m3 j hj k hk
theorem sp_keep : Sp_keep Inv := by
  intro c μ a1 hc hI
  obtain ⟨tx, len, pl, f, kn, ps, b, gf, gk, gp, tr, h1, h2, h3⟩ := id hI
  have hns := h3.2.1.1
  have hkn := h3.2.2.1.2.1
  cases hk1 : ck a1 2 with
  | false =>
    refine ⟨-1, μ, μ, ?_, ?_, hI.up⟩
    · unfold f_X8_keep
      simp only [isImage_eq, hk1, Option.bind_some, if_pos bi0]
    · unfold f_X9_keep
      rw [in_eq (N := 2) (by omega) a1 1 rfl (by decide), Option.bind_some, hk1, if_pos bi0]
  | true =>
    obtain ⟨e, he, rfl⟩ := ck_nat hk1 (by omega)
    obtain ⟨μ1, e1, e2, e3⟩ := ledCopy_ok (a := 49 + 1 + 46 * e) (b := 3) (isLe_im he) rfl (by omega) μ
    have hL := e3 (pl 0) f kn ps hns hkn h1.2.2.2.1
    have hc' := isPl_cases h1.1.1
    have hnar : vp_nar .boolean 1 = nI 1 := by decide
    generalize hμ2 : sA μ1 142 (upd (ga μ1 142) e (nI 1)) = μ2
    have f2 : Fr (fun k => k = 142) μ1 μ2 := by rw [← hμ2]; exact Fr.sA rfl
    have hF : Fr (fun k => k = 142 ∨ 49 + 1 + 46 * e ≤ k ∧ k < 49 + 1 + 46 * e + 46) μ μ2 := (e2.mono (fun k hk => Or.inr hk)).tr (f2.mono (fun k hk => Or.inl hk))
    have g142 : ga μ1 142 = ga μ 142 := (e2.2.2.2 142 (by omega)).2
    have hC2 : InvC μ2 tx len pl f kn ps (fun x => if x = e then 1 else b x) (fun x => if x = e then f else gf x) (fun x => if x = e then kn else gk x) (fun x => if x = e then ps else gp x) tr := by
      obtain ⟨⟨a1, a2, a3⟩, ⟨b1, b2⟩, c1, d1, i1, f1⟩ := h1
      refine ⟨by rw [hF.1, hF.2.1]; exact ⟨a1, a2, a3⟩, ⟨?_, ?_⟩, ?_, d1.fr hF (fun k k1 k2 => by omega), fun x hx => ?_, by rw [hF.2.2.1]; exact f1⟩
      · rw [(hF.2.2.2 1 (by omega)).1]; exact b1
      · rw [(hF.2.2.2 2 (by omega)).2]; exact b2
      · rw [hF.1]; exact c1.fr hF (fun k k1 k2 => by omega)
      · have e142 : ga μ2 142 x = if x = e then nI 1 else ga μ 142 x := by
          rw [← hμ2, ga_sA, if_pos rfl, upd_at, g142]
        by_cases hx1 : x = e
        · subst hx1
          simp only [if_true]
          refine ⟨by rw [e142, if_pos rfl], fun _ => ?_⟩
          exact hL.fr f2 (fun k k1 k2 => by omega)
        · simp only [if_neg hx1]
          refine ⟨by rw [e142, if_neg hx1]; exact (i1 x hx).1, fun hb => ((i1 x hx).2 hb).fr hF (fun k k1 k2 => by omega)⟩
    have hM2 := h2.same (hF.sameM (fun k hk => by omega))
    have hM3 : InvM (sA (sA μ2 191 (fun k => if 716 * e ≤ k ∧ k < 716 * e + 716 then ga μ2 190 (k - 716 * e) else ga μ2 191 k)) 192 (upd (ga μ2 192) e (nI 1))) tx len pl f kn ps (fun x => if x = e then 1 else b x) (fun x => if x = e then f else gf x) (fun x => if x = e then kn else gk x) (fun x => if x = e then ps else gp x) tr := by
      obtain ⟨⟨b1, b2⟩, c1, d1, i1, f1⟩ := hM2
      refine ⟨⟨b1, b2⟩, c1, d1, fun x hx => ?_, f1⟩
      have q192 : ga (sA (sA μ2 191 (fun k => if 716 * e ≤ k ∧ k < 716 * e + 716 then ga μ2 190 (k - 716 * e) else ga μ2 191 k)) 192 (upd (ga μ2 192) e (nI 1))) 192 x = if x = e then nI 1 else ga μ2 192 x := by rw [ga_sA, if_pos rfl, upd_at]
      have q191 : ga (sA (sA μ2 191 (fun k => if 716 * e ≤ k ∧ k < 716 * e + 716 then ga μ2 190 (k - 716 * e) else ga μ2 191 k)) 192 (upd (ga μ2 192) e (nI 1))) 191 = (fun k => if 716 * e ≤ k ∧ k < 716 * e + 716 then ga μ2 190 (k - 716 * e) else ga μ2 191 k) := by rw [ga_sA, if_neg (by omega), ga_sA, if_pos rfl]
      rw [q192, q191]
      have hgx := (h3.2.2.2 x hx)
      by_cases hx1 : x = e
      · subst hx1
        simp only [if_true]
        refine ⟨trivial, fun _ => d1.shift hkn (fun k hk => ?_)⟩
        show (if 716 * x ≤ 716 * x + k ∧ 716 * x + k < 716 * x + 716 then ga μ2 190 (716 * x + k - 716 * x) else _) = _
        rw [if_pos (by omega), Nat.zero_add, show 716 * x + k - 716 * x = k by omega]
      · simp only [if_neg hx1]
        refine ⟨(i1 x hx).1, fun hb => ((i1 x hx).2 hb).shift (hgx.2 hb).2.1 (fun k hk => ?_)⟩
        show (if 716 * e ≤ 716 * x + k ∧ 716 * x + k < 716 * e + 716 then _ else _) = _
        rw [if_neg (by omega)]
    have hO := h3.up
    have hO2 : InvO (c + 1) tx len pl f kn ps (fun x => if x = e then 1 else b x) (fun x => if x = e then f else gf x) (fun x => if x = e then kn else gk x) (fun x => if x = e then ps else gp x) := by
      refine ⟨hO.1, hO.2.1, hO.2.2.1, fun x hx => ?_⟩
      by_cases hx1 : x = e
      · subst hx1
        simp only [if_true]
        exact ⟨by omega, fun _ => hO.2.2.1⟩
      · simp only [if_neg hx1]
        exact hO.2.2.2 x hx
    refine ⟨nI (f 64), μ2, _, ?_, ?_, ⟨tx, len, pl, f, kn, ps, _, _, _, _, tr, hC2.same ((SameC.sA (k := 191) (by omega) (by omega)).tr (SameC.sA (k := 192) (by omega) (by omega))), hM3, hO2⟩⟩
    · unfold f_X8_keep
      simp only [isImage_eq, hk1, Option.bind_some, if_neg bi1]
      rw [rfA_nI he (by omega) (isLe_im he), Option.bind_some, e1, Option.bind_some, stZ_nI he (by omega), Option.bind_some, hnar, hμ2, show gi μ2 4 4 = nI (f 64) from hC2.2.2.2.1.1.2.2.2.2]
    · unfold f_X9_keep
      have g64 := hM2.2.2.1.1 64 (by omega)
      rw [Nat.zero_add] at g64
      rw [in_eq (N := 2) (by omega) (nI e) 1 rfl (by decide), Option.bind_some, hk1, if_neg bi1, keep13 he, Option.bind_some, stZ_nI he (by omega), Option.bind_some, hnar, show (64 : Int32) = nI 64 from rfl, ldA_nI (by omega) (by omega), Option.bind_some]
      rw [show ga (sA (sA μ2 191 (fun k => if 716 * e ≤ k ∧ k < 716 * e + 716 then ga μ2 190 (k - 716 * e) else ga μ2 191 k)) 192 (upd (ga (sA μ2 191 (fun k => if 716 * e ≤ k ∧ k < 716 * e + 716 then ga μ2 190 (k - 716 * e) else ga μ2 191 k)) 192) e (nI 1))) 190 64 = ga μ2 190 64 from rfl, g64]
      rfl
theorem sp_back : Sp_back Inv := by
  intro c μ a1 hc hI
  obtain ⟨tx, len, pl, f, kn, ps, b, gf, gk, gp, tr, h1, h2, h3⟩ := id hI
  have hns := h3.2.1.1
  cases hk1 : ck a1 2 with
  | false =>
    refine ⟨-1, μ, μ, ?_, ?_, hI.up⟩
    · unfold f_X8_back
      simp only [isImage_eq, hk1, Option.bind_some, if_pos bi0]
    · unfold f_X9_back
      rw [in_eq (N := 2) (by omega) a1 1 rfl (by decide), Option.bind_some, hk1, if_pos bi0]
  | true =>
    obtain ⟨e, he, rfl⟩ := ck_nat hk1 (by omega)
    have hb8 := h1.2.2.2.2.1 e he
    have hb9 := h2.2.2.2.1 e he
    have hbo := h3.2.2.2 e he
    by_cases hb : b e = 1
    · obtain ⟨hO1, hgk, hO2⟩ := hbo.2 hb
      obtain ⟨μ2, e1, e2, e3⟩ := ledCopy_ok (a := 3) (b := 49 + 1 + 46 * e) rfl (isLe_im he) (by omega) μ
      have hL0 : LeC μ (pl 0) (49 + 1 + 46 * e) (gf e) (gk e) (gp e) := hb8.2 hb
      have hL := e3 (pl 0) _ _ _ hns hgk hL0
      have hF : Fr (fun k => 3 ≤ k ∧ k < 49) μ μ2 := e2
      have hM2 := h2.same (hF.sameM (fun k hk => by omega))
      have hM9 := (hM2.2.2.2.1 e he)
      have l2 : LeM (fun k => if k < 716 then ga μ2 191 (716 * e + k) else ga μ2 190 k) 0 (gf e) (gk e) (gp e) := (hM9.2 hb).shift hgk (fun k hk => by show (if 0 + k < 716 then ga μ2 191 (716 * e + (0 + k)) else _) = _; rw [if_pos (by omega), Nat.zero_add])
      have hO := h3.up
      refine ⟨nI (gf e 64), μ2, sA μ2 190 _, ?_, ?_, ⟨tx, len, pl, gf e, gk e, gp e, b, gf, gk, gp, tr, (h1.led hF hL).same (SameC.sA (by omega) (by omega)), hM2.led l2, ⟨hO.1, hO.2.1, ⟨hO1.up, hgk, fun j hj => (hO2 j hj).up⟩, hO.2.2.2⟩⟩⟩
      · unfold f_X8_back
        simp only [isImage_eq, hk1, Option.bind_some, if_neg bi1]
        rw [ldA_nI he (by omega), hb8.1, hb, Option.bind_some, if_neg (by decide), rfA_nI he (by omega) (isLe_im he), Option.bind_some, e1, Option.bind_some, show gi μ2 4 4 = nI (gf e 64) from hL.1.2.2.2.2]
      · unfold f_X9_back
        have g64 := (hM9.2 hb).1 64 (by omega)
        rw [in_eq (N := 2) (by omega) (nI e) 1 rfl (by decide), Option.bind_some, hk1, if_neg bi1, ldA_nI he (by omega), hM9.1, hb, Option.bind_some, if_neg (by decide), back25 he, Option.bind_some, show (64 : Int32) = nI 64 from rfl, ldA_nI (by omega) (by omega), Option.bind_some, ga_sA, if_pos rfl, if_pos (by omega), g64]
    · have hb0 : b e = 0 := by have := hbo.1; omega
      refine ⟨-2, μ, μ, ?_, ?_, hI.up⟩
      · unfold f_X8_back
        simp only [isImage_eq, hk1, Option.bind_some, if_neg bi1]
        rw [ldA_nI he (by omega), hb8.1, hb0]
        rfl
      · unfold f_X9_back
        rw [in_eq (N := 2) (by omega) (nI e) 1 rfl (by decide), Option.bind_some, hk1, if_neg bi1, ldA_nI he (by omega), hb9.1, hb0]
        rfl

/-! rings: STRUCK -/
def SQ (k : Nat) : Prop := k = 193 ∨ k = 194
theorem rem_lnk {i n : Nat} (hi : i < n) : (i + 1) % n = if i + 1 < n then i + 1 else 0 := by
  by_cases e : i + 1 < n
  · rw [if_pos e, Nat.mod_eq_of_lt e]
  · rw [if_neg e, show i + 1 = n by omega, Nat.mod_self]
theorem hit_ok {m : Mem} {L row : Nat → Nat} {R : Nat → Int32} {ns n : Nat} (sm : Int32) (hB : ∀ k, k < 49 → ga m 193 k = nI (L k)) (hL : ∀ k, L k < 1000000000) (hR : RowOk ns n row) (hns : ns ≤ 7) (hn : n ≤ 7) (hn2 : 2 ≤ n) (hr : ∀ i, i < n → R i = nI (row i)) :
    ((ldA (sA m 194 R) 194 8 (nI n - 1)).bind fun y6 => (ldA (sA m 194 R) 194 8 0).bind fun y7 => (ldA (sA m 194 R) 193 49 (7 * y6 + y7)).bind fun y8 => (iter gFU (f_X9_struck_b78 (sA m 194 R) sm (nI n)) (y8, 0)).bind fun z15 => (iter gFU (f_X9_struck_b135 sm (nI n) z15) (0, sA m 194 R)).bind fun z24 => some (.inl (sm + nI n * z15, nI n, z24)) : Option ((Int32 × Int32 × Mem) ⊕ (Int32 × Mem))) = some (.inl ((stk n (L, sm) row).2, nI n, sA (sA m 194 R) 193 (fun k => if k < 49 then nI ((stk n (L, sm) row).1 k) else ga m 193 k))) := by
  have lr : ∀ i, i < n → ldA (sA m 194 R) 194 8 (nI i) = some (nI (row i)) := fun i hi => (ldA_nI (by omega) (by omega)).trans (by rw [ga_at, hr i hi])
  have hlast : lnk n row (n - 1) = 7 * row (n - 1) + row 0 := by
    unfold lnk
    rw [if_neg (by omega)]
  have b0 := lnk_lt hR hns (show n - 1 < n by omega)
  have bl := hL (lnk n row (n - 1))
  rw [show nI n - 1 = nI (n - 1) from pk_sub (a := n) (b := 1) (by omega), lr (n - 1) (by omega), Option.bind_some, show ldA (sA m 194 R) 194 8 0 = some (nI (row 0)) from lr 0 (by omega), Option.bind_some, show (7 : Int32) = nI 7 from rfl, pk_mul, nI_add, ← hlast, ldA_nI b0 (by omega), ga_ne (by omega), hB _ b0, Option.bind_some]
  have l1 : iter gFU (f_X9_struck_b78 (sA m 194 R) sm (nI n)) (nI (L (lnk n row (n - 1))), 0) = some (nI (lst n row L)) := by
    have el : lst n row L = min (L (lnk n row (n - 1))) (mn9 (fun i => L (lnk n row i)) (n - 1)) := by
      unfold lst
      rw [show n = (n - 1) + 1 by omega]
      show min (mn9 (fun i => L (lnk (n - 1 + 1) row i)) (n - 1)) (L (lnk (n - 1 + 1) row (n - 1))) = _
      rw [show n - 1 + 1 = n by omega, Nat.min_comm]
    rw [el]
    refine iter_forU (fun i => (nI (min (L (lnk n row (n - 1))) (mn9 (fun i => L (lnk n row i)) i)), nI i)) (n - 1) _ ?_ (by omega) ?_ ?_
    · show _ = (nI (min (L (lnk n row (n - 1))) 1000000000), nI 0)
      rw [Nat.min_eq_left (by omega)]
      rfl
    · intro i hi
      have b3 := lnk_lt hR hns (show i < n by omega)
      have bi := hL (lnk n row i)
      have hli : lnk n row i = 7 * row i + row (i + 1) := by
        unfold lnk
        rw [if_pos (by omega)]
      unfold f_X9_struck_b78
      dsimp only
      rw [nI_1, if_neg (nI_ge (by omega) (by omega)), lr i (by omega), Option.bind_some, lr (i + 1) (by omega), Option.bind_some, show (7 : Int32) = nI 7 from rfl, pk_mul, nI_add, ← hli, ldA_nI b3 (by omega), ga_ne (by omega), hB _ b3, Option.bind_some]
      show _ = some (Sum.inl (nI (min (L (lnk n row (n - 1))) (min (mn9 (fun i => L (lnk n row i)) i) (L (lnk n row i)))), nI (i + 1)))
      generalize mn9 (fun i => L (lnk n row i)) i = M
      by_cases w : min (L (lnk n row (n - 1))) M ≤ L (lnk n row i)
      · rw [if_pos (nI_le w (by omega)), show min (L (lnk n row (n - 1))) (min M (L (lnk n row i))) = min (L (lnk n row (n - 1))) M by omega]
      · rw [if_neg (nI_ge (by omega) (by omega)), show min (L (lnk n row (n - 1))) (min M (L (lnk n row i))) = L (lnk n row i) by omega]
    · unfold f_X9_struck_b78
      dsimp only
      rw [nI_1, if_pos (nI_le (by omega) (by omega))]
  have l2 : iter gFU (f_X9_struck_b135 sm (nI n) (nI (lst n row L))) (0, sA m 194 R) = some (sA (sA m 194 R) 193 (fun k => if k < 49 then nI (sbf n row (lst n row L) L n k) else ga m 193 k)) := by
    refine iter_forU (fun i => (nI i, sA (sA m 194 R) 193 (fun k => if k < 49 then nI (sbf n row (lst n row L) L i k) else ga m 193 k))) n _ ?_ (by omega) ?_ ?_
    · have : (fun k => if k < 49 then nI (sbf n row (lst n row L) L 0 k) else ga m 193 k) = ga (sA m 194 R) 193 := by
        rw [ga_ne (by omega)]
        funext k
        by_cases e : k < 49
        · rw [if_pos e, hB k e]
          rfl
        · rw [if_neg e]
      rw [this, sA_self]
      rfl
    · intro i hi
      have b3 := lnk_lt hR hns hi
      have b4 := mn9_le (fun i => L (lnk n row i)) n i hi
      have b5 := sbf_own (l := lst n row L) (L := L) hR hns i i (Nat.le_refl _) hi
      have hx : (if i + 1 < n then i + 1 else 0) < n := by split <;> omega
      have lr2 : ∀ A j, j < n → ldA (sA (sA m 194 R) 193 A) 194 8 (nI j) = some (nI (row j)) := fun A j hj => (ldA_nI (by omega) (by omega)).trans (by rw [ga_ne (by omega), ga_at, hr j hj])
      unfold f_X9_struck_b135
      dsimp only
      rw [if_neg (nI_ge hi (by omega)), lr2 _ i hi, Option.bind_some, nI_1, rm_nI (by omega) (by omega) (by omega), Option.bind_some, rem_lnk hi, lr2 _ _ hx, Option.bind_some, show (7 : Int32) = nI 7 from rfl, pk_mul, nI_add, show 7 * row i + row (if i + 1 < n then i + 1 else 0) = lnk n row i from rfl, ldA_nI b3 (by omega), ga_at, if_pos b3, Option.bind_some, pk_sub (by rw [b5]; exact b4), stA_nI b3 (by omega), Option.bind_some, ga_at, sA_sA]
      congr 4
      funext k
      rw [upd_at]
      show _ = if k < 49 then nI (if k = lnk n row i then sbf n row (lst n row L) L i k - lst n row L else sbf n row (lst n row L) L i k) else ga m 193 k
      by_cases e : k = lnk n row i
      · rw [if_pos e, if_pos (by omega), if_pos e, e]
      · rw [if_neg e, if_neg e]
    · unfold f_X9_struck_b135
      dsimp only
      rw [if_pos (nI_le (Nat.le_refl _) (by omega))]
  rw [l1, Option.bind_some, l2, Option.bind_some, pk_mul, Nat.mul_comm n]
  rfl
theorem split_app {α : Type} {P S A S2 : List α} {x : α} (Q : α → Prop) (h : P ++ S = A ++ x :: S2) (hP : ∀ r, r ∈ P → ¬ Q r) (hx : Q x) : ∃ A2, A = P ++ A2 ∧ S = A2 ++ x :: S2 := by
  rcases List.append_eq_append_iff.mp h with ⟨a, h1, h2⟩ | ⟨a, h1, h2⟩
  · exact ⟨a, h1, h2⟩
  · cases a with
    | nil => exact ⟨[], by rw [h1, List.append_nil, List.append_nil], by simpa using h2.symm⟩
    | cons y a =>
      have : y = x := by
        have := congrArg List.head? h2
        simpa using this.symm
      subst this
      exact absurd hx (hP y (by rw [h1]; exact List.mem_append.mpr (Or.inr List.mem_cons_self)))
theorem struckN {μ : Mem} {pl : Nat → Nat} {n : Nat} (hP : PlM μ pl) (h7 : pl 0 ≤ 7) (hn : n ≤ pl 0) (hn2 : 2 ≤ n) : ∀ (len : Nat) (S P : List (Nat → Nat)) (m : Mem) (s : (Nat → Nat) × Int32), S.length ≤ len → ext (pl 0) n 0 zz = P ++ S → (∀ r, r ∈ P → ¬ rg n s.1 r) → Fr SQ μ m → (∀ k, k < 49 → ga m 193 k = nI (s.1 k)) → (∀ k, s.1 k < 1000000000) → ∃ c m2, c ≤ len + 1 ∧ (∀ fuel, iter (fuel + c) f_X9_struck_b33 (s.2, nI n, m) = iter fuel f_X9_struck_b33 ((fo n S s).2, nI (n + 1), m2)) ∧ Fr SQ μ m2 ∧ ∀ k, k < 49 → ga m2 193 k = nI ((fo n S s).1 k)
  | len, S, P, m, s, hlen, hX, hPn, hF, hB, hL => by
    have hPm : PlM m pl := hP.fr hF (by unfold SQ; omega)
    have ld0 : ldA m 188 49 0 = some (nI (pl 0)) := (ldA_nI (i := 0) (by omega) (by omega)).trans (by rw [hPm 0 (by omega)])
    rcases finds_ok hPm h7 hB hL (show n ≤ 7 by omega) hn2 with ⟨R2, A, row, S2, q1, q2, q3, q4, q5⟩ | ⟨R2, q1, q2⟩
    · obtain ⟨A2, a1, a2⟩ := split_app (rg n s.1) (hX.symm.trans q2) hPn q4
      have hrow : RowOk (pl 0) n row := by
        have := (ext_ok n 0 zz row (RowOk.nil _) (by rw [q2]; exact List.mem_append.mpr (Or.inr List.mem_cons_self))).1
        rw [Nat.zero_add] at this
        exact this
      have hfo : fo n S s = fo n S2 (stk n s row) := by
        rw [a2, fo_app, fo_no A2 s (fun r hr => q3 r (by rw [a1]; exact List.mem_append.mpr (Or.inr hr)))]
        rfl
      have hstep : f_X9_struck_b33 (s.2, nI n, m) = some (.inl ((stk n s row).2, nI n, sA (sA m 194 R2) 193 (fun k => if k < 49 then nI ((stk n s row).1 k) else ga m 193 k))) := by
        unfold f_X9_struck_b33
        dsimp only
        rw [ld0, Option.bind_some, if_neg (nI_nlt hn (by omega)), q1, Option.bind_some]
        dsimp only
        rw [if_neg (by decide)]
        exact hit_ok s.2 hB hL hrow h7 (by omega) hn2 q5
      have hl2 : S2.length < S.length := by
        rw [a2, List.length_append, List.length_cons]
        omega
      obtain ⟨len2, rfl⟩ : ∃ l, len = l + 1 := ⟨len - 1, by omega⟩
      obtain ⟨c, m2, c1, c2, c3, c4⟩ := struckN hP h7 hn hn2 len2 S2 (P ++ A2 ++ [row]) (sA (sA m 194 R2) 193 (fun k => if k < 49 then nI ((stk n s row).1 k) else ga m 193 k)) (stk n s row) (by omega) (by rw [q2, a1, List.append_assoc, List.append_assoc, List.append_assoc]; rfl) (by
        intro r hr
        rcases List.mem_append.mp hr with z | z
        · rcases List.mem_append.mp z with z | z
          · exact rg_mono (stk_le n s row) (hPn r z)
          · exact rg_mono (stk_le n s row) (q3 r (by rw [a1]; exact List.mem_append.mpr (Or.inr z)))
        · have : r = row := by simpa using z
          subst this
          exact stk_non (by omega) hL) ((hF.tr (Fr.sA (Or.inr rfl))).tr (Fr.sA (Or.inl rfl))) (fun k hk => by rw [ga_at, if_pos hk]) (fun k => Nat.lt_of_le_of_lt (stk_le n s row k) (hL k))
      refine ⟨c + 1, m2, by omega, fun fuel => ?_, c3, by rw [hfo]; exact c4⟩
      rw [← Nat.add_assoc, iter_go hstep, c2, hfo]
    · have hfo : fo n S s = s := fo_no S s (fun r hr => q2 r (by rw [hX]; exact List.mem_append.mpr (Or.inr hr)))
      have hstep : f_X9_struck_b33 (s.2, nI n, m) = some (.inl (s.2, nI (n + 1), sA m 194 R2)) := by
        unfold f_X9_struck_b33
        dsimp only
        rw [ld0, Option.bind_some, if_neg (nI_nlt hn (by omega)), q1, Option.bind_some]
        dsimp only
        rw [if_pos rfl, nI_1]
      refine ⟨1, sA m 194 R2, by omega, fun fuel => ?_, hF.tr (Fr.sA (Or.inr rfl)), ?_⟩
      · rw [iter_go hstep, hfo]
      · intro k hk
        rw [ga_ne (by omega), hfo]
        exact hB k hk
theorem struckZ {μ : Mem} {pl L : Nat → Nat} (hP : PlM μ pl) (h7 : pl 0 ≤ 7) (hB : ∀ k, k < 49 → ga μ 193 k = nI (L k)) (hL : ∀ k, L k < 1000000000) : ∀ i, i ≤ pl 0 - 1 → ∃ c m2, c ≤ i * 1000000 ∧ (∀ fuel, iter (fuel + c) f_X9_struck_b33 (0, 2, μ) = iter fuel f_X9_struck_b33 ((Zs (pl 0) (L, 0) i).2, nI (i + 2), m2)) ∧ Fr SQ μ m2 ∧ ∀ k, k < 49 → ga m2 193 k = nI ((Zs (pl 0) (L, 0) i).1 k)
  | 0, _ => ⟨0, μ, Nat.zero_le _, fun fuel => rfl, Fr.rf, hB⟩
  | i + 1, hi => by
    obtain ⟨c, m2, c1, c2, c3, c4⟩ := struckZ hP h7 hB hL i (by omega)
    have hlen := ext_len (ns := pl 0) h7 (i + 2) 0 zz
    have h77 : ∀ k, k < 8 → 7 ^ k ≤ 900000 := by decide
    have hb := h77 (i + 2) (by omega)
    obtain ⟨d, m3, d1, d2, d3, d4⟩ := struckN (n := i + 2) hP h7 (by omega) (by omega) _ (ext (pl 0) (i + 2) 0 zz) [] m2 (Zs (pl 0) (L, 0) i) (Nat.le_refl _) rfl (fun r hr => (by cases hr)) c3 c4 (fun k => Nat.lt_of_le_of_lt (Zs_le _ _ i k) (hL k))
    have hmul : (i + 1) * 1000000 = i * 1000000 + 1000000 := Nat.succ_mul _ _
    refine ⟨d + c, m3, by rw [hmul]; omega, fun fuel => ?_, d3, d4⟩
    rw [← Nat.add_assoc, c2, d2]
    rfl
theorem struck_ok {μ : Mem} {pl L : Nat → Nat} (hP : PlM μ pl) (h7 : pl 0 ≤ 7) (hM : ∀ k, k < 49 → ga μ 190 (14 + k) = nI (L k)) (hL : ∀ k, L k < 1000000000) : ∃ m, f_X9_struck μ = some ((Zs (pl 0) (L, 0) (pl 0 - 1)).2, m) ∧ Fr SQ μ m := by
  unfold f_X9_struck
  have h2 : iter gFU f_X9_struck_b2 (0, μ) = some (sA μ 193 (fun k => if k < 49 then nI (L k) else ga μ 193 k)) := by
    refine iter_forU (fun i => (nI i, sA μ 193 (fun k => if k < i then nI (L k) else ga μ 193 k))) 49 _ ?_ (by omega) ?_ ?_
    · show _ = (nI 0, sA μ 193 (ga μ 193))
      rw [sA_self]
      rfl
    · intro i hi
      unfold f_X9_struck_b2
      dsimp only
      rw [if_neg (show ¬ (49 : Int32) ≤ nI i from nI_ge (b := 49) (by omega) (by omega)), show (14 : Int32) = nI 14 from rfl, nI_add, ldA_nI (by omega) (by omega), ga_ne (by omega), hM i hi, Option.bind_some, stA_nI hi (by omega), Option.bind_some, ga_at, sA_sA, nI_1]
      congr 4
      funext k
      rw [upd_at]
      by_cases e : k = i
      · rw [if_pos e, if_pos (by omega), e]
      · rw [if_neg e]
        by_cases e2 : k < i
        · rw [if_pos e2, if_pos (by omega)]
        · rw [if_neg e2, if_neg (by omega)]
    · unfold f_X9_struck_b2
      dsimp only
      rw [if_pos (by decide)]
  rw [h2, Option.bind_some]
  have hF : Fr SQ μ (sA μ 193 (fun k => if k < 49 then nI (L k) else ga μ 193 k)) := Fr.sA (Or.inl rfl)
  obtain ⟨c, m2, c1, c2, c3, c4⟩ := struckZ (hP.fr hF (by unfold SQ; omega)) h7 (fun k hk => by rw [ga_at, if_pos hk]) hL (pl 0 - 1) (Nat.le_refl _)
  have hg : gFU = ((gFU - c - 1) + 1) + c := by
    have : gFU = 1000000000000 := rfl
    omega
  have hPm := hP.fr (hF.tr c3) (by unfold SQ; omega)
  rw [hg, c2, iter_end (e := ((Zs (pl 0) (L, 0) (pl 0 - 1)).2, m2)) (by
    unfold f_X9_struck_b33
    dsimp only
    rw [show ldA m2 188 49 0 = some (nI (pl 0)) from (ldA_nI (i := 0) (by omega) (by omega)).trans (by rw [hPm 0 (by omega)]), Option.bind_some, if_pos (nI_lt (by omega) (by omega))]), Option.bind_some]
  exact ⟨m2, rfl, hF.tr c3⟩
theorem strOK : StrOK := by
  intro c μ pl f hc hO hM hPC hq hC hP gM
  have h7 := hO.1
  have hL : ∀ k, (fun k => if k < 49 then f (14 + k) else 0) k < 1000000000 := by
    intro k
    show (if k < 49 then f (14 + k) else 0) < 1000000000
    by_cases e : k < 49
    · rw [if_pos e]
      have := hM.2.2.1 k e
      omega
    · rw [if_neg e]; omega
  obtain ⟨m1, e1, e2⟩ := strikeAll_ok (μ := μ) (ns := pl 0) (L := fun k => if k < 49 then f (14 + k) else 0) h7 hL (fun k hk => by rw [if_pos hk]; exact hC.2.2.1 k hk)
  have sC : SameC μ m1 := e2.sameC (fun k hk => by unfold SR at hk; omega)
  have sM : SameM μ m1 := e2.sameM (fun k hk => by unfold SR at hk; omega)
  have hP1 : PlM m1 pl := hP.fr e2 (by unfold SR; omega)
  obtain ⟨m2, d1, d2⟩ := struck_ok (μ := m1) (L := fun k => if k < 49 then f (14 + k) else 0) hP1 h7 (fun k hk => by
    rw [(e2.2.2.2 190 (by unfold SR; omega)).2, if_pos hk]
    exact gM (14 + k) (by omega)) hL
  refine ⟨_, m1, m2, e1, d1, sC, sM, d2.sameC (fun k hk => by unfold SQ at hk; omega), ?_⟩
  have g : ∀ k, k ≠ 193 → k ≠ 194 → gi m2 k = gi m1 k ∧ ga m2 k = ga m1 k := fun k h1 h2 => d2.2.2.2 k (fun q => by rcases q with q | q; exact h1 q; exact h2 q)
  exact ⟨d2.2.2.1 186, by rw [(g 186 (by omega) (by omega)).1], (g 187 (by omega) (by omega)).2, (g 188 (by omega) (by omega)).2, (g 190 (by omega) (by omega)).2, (g 191 (by omega) (by omega)).2, (g 192 (by omega) (by omega)).2, by rw [(g 196 (by omega) (by omega)).2]⟩
theorem sp_now : Sp_now Inv := sp_now_of strOK

/-! coins: the class's rows -/
theorem rf148 {s : Nat} (hs : s < 7) : rfA 148 7 1 (nI s) isAny = some (149 + s) := by
  rw [rfA_nI hs (by omega) rfl]
  congr 1
  omega
theorem rf156 {s : Nat} (hs : s < 8) : rfA 156 8 1 (nI s) isAny = some (157 + s) := by
  rw [rfA_nI hs (by omega) rfl]
  congr 1
  omega
def RowD (m : Mem) (dw : Nat → Nat → Nat) (s : Nat) : Prop := ∀ c, c ≤ 12 → ga m (149 + s) c = nI (dw s c)
def RowB (m : Mem) (dw : Nat → Nat → Nat) (ns n s : Nat) : Prop := ∀ b, b ≤ n → ga m (157 + s) b = nI (Hc dw ns s b)
theorem Fc_bd {dw : Nat → Nat → Nat} {ns s b c : Nat} (hd : ∀ s c, dw s c ≤ 999) (hn : ns ≤ 7) (hb : b ≤ 99) (hc : c ≤ 99) : Fc dw ns s b c ≤ 7999999 := by
  have h1 := hd s c
  have h2 := (Hc_bd (ns := ns) (s := s + 1) hd hn (show b - c ≤ 99 by omega)).2
  unfold Fc
  omega
theorem spentOn_ok {m : Mem} {dw : Nat → Nat → Nat} {ns n s b c : Nat} (hn7 : ns ≤ 7) (hs : s < ns) (hD : RowD m dw s) (hB : RowB m dw ns n (s + 1)) (hc : c ≤ 12) (hcb : c ≤ b) (hbn : b ≤ n) (hn : n ≤ 99) : f_X2_spentOn m (nI s) (nI c) (nI b) = some (nI (Fc dw ns s b c)) := by
  unfold f_X2_spentOn
  rw [rf148 (by omega), Option.bind_some, ldA_nI (by omega) (by omega), hD c hc, Option.bind_some, nI_1, rf156 (by omega), Option.bind_some, pk_sub hcb, ldA_nI (by omega) (by omega), hB (b - c) (by omega), Option.bind_some, show (1000 : Int32) = nI 1000 from rfl, pk_mul, nI_add, nI_add]
  rfl
theorem least_ok {m : Mem} {dw : Nat → Nat → Nat} {ns n s b : Nat} (hd : ∀ s c, dw s c ≤ 999) (hn7 : ns ≤ 7) (hs : s < ns) (hD : RowD m dw s) (hB : RowB m dw ns n (s + 1)) (hbn : b ≤ n) (hn : n ≤ 99) : f_X2_leastWith m (nI s) (nI b) = some (nI (Hc dw ns s b)) := by
  unfold f_X2_leastWith
  have h : iter gFU (f_X2_leastWith_b6 m (nI s) (nI b)) (1000000000, 0) = some (nI (mn9 (Fc dw ns s b) (min 12 b + 1))) := by
    refine iter_forU (fun c => (nI (mn9 (Fc dw ns s b) c), nI c)) (min 12 b + 1) _ rfl (by omega) ?_ ?_
    · intro c hc
      have b1 := mn9_bd (Fc dw ns s b) c
      have b2 := Fc_bd (s := s) (b := b) (c := c) hd hn7 (by omega) (by omega)
      unfold f_X2_leastWith_b6
      dsimp only
      rw [if_neg (show ¬ (12 : Int32) < nI c from nI_nlt (a := 12) (by omega) (by omega)), if_neg (nI_nlt (by omega) (by omega)), spentOn_ok hn7 hs hD hB (by omega) (by omega) hbn hn, Option.bind_some, mn_nI (by omega) (by omega), nI_1]
      rfl
    · unfold f_X2_leastWith_b6
      dsimp only
      by_cases q : 12 ≤ b
      · rw [if_pos (show (12 : Int32) < nI (min 12 b + 1) from nI_lt (a := 12) (by omega) (by omega))]
      · rw [if_neg (show ¬ (12 : Int32) < nI (min 12 b + 1) from nI_nlt (a := 12) (by omega) (by omega)), if_pos (nI_lt (by omega) (by omega))]
  rw [h, Option.bind_some, ← Hc_eq hs]
theorem spend29 {m : Mem} {pl f : Nat → Nat} {q s : Nat} (x : Int32) (hq : isPl q = true) (hP9 : gi m q 9 = nI (pl 2)) (h5 : ga m 5 s = nI (f s)) (h6 : ga m 6 s = nI (f (7 + s))) (hs : s < 7) (hf : f s ≤ 999) (hD : f (7 + s) ≤ pl 2) (h9 : pl 2 ≤ 9) : iter gFU (f_X2_spend_b29 q 4 x (nI s)) (0, m) = some (sA m (149 + s) (fun k => if k < 13 then nI (dW (f s) (pl 2 - f (7 + s)) k) else ga m (149 + s) k)) := by
  refine iter_forU (fun c => (nI c, sA m (149 + s) (fun k => if k < c then nI (dW (f s) (pl 2 - f (7 + s)) k) else ga m (149 + s) k))) 13 _ ?_ (by omega) ?_ ?_
  · show _ = (nI 0, sA m (149 + s) (ga m (149 + s)))
    rw [sA_self]
    rfl
  · intro c hc
    unfold f_X2_spend_b29
    dsimp only
    rw [if_neg (show ¬ (12 : Int32) < nI c from nI_nlt (a := 12) (by omega) (by omega)), rf148 hs, Option.bind_some, ldA_nI hs (by omega), ga_ne (by omega), h5, Option.bind_some, ldA_nI hs (by omega), ga_ne (by omega), h6, Option.bind_some, gi_sA, hP9, pk_sub hD, dueWith_ok hf (by omega) (by omega), Option.bind_some, stA_nI (by omega) (by omega), Option.bind_some, ga_at, sA_sA, nI_1]
    congr 4
    funext k
    rw [upd_at]
    by_cases e : k = c
    · rw [if_pos e, if_pos (by omega), e]
    · rw [if_neg e]
      by_cases e2 : k < c
      · rw [if_pos e2, if_pos (by omega)]
      · rw [if_neg e2, if_neg (by omega)]
  · unfold f_X2_spend_b29
    dsimp only
    rw [if_pos (by decide)]
theorem spend79 {m : Mem} {dw : Nat → Nat → Nat} {ns n s q : Nat} (hd : ∀ s c, dw s c ≤ 999) (hn7 : ns ≤ 7) (hs : s < ns) (hD : RowD m dw s) (hB : RowB m dw ns n (s + 1)) (hn : n ≤ 99) : iter gFU (f_X2_spend_b79 q 4 (nI n) (nI s)) (0, m) = some (sA m (157 + s) (fun k => if k < n + 1 then nI (Hc dw ns s k) else ga m (157 + s) k)) := by
  refine iter_forU (fun c => (nI c, sA m (157 + s) (fun k => if k < c then nI (Hc dw ns s k) else ga m (157 + s) k))) (n + 1) _ ?_ (by omega) ?_ ?_
  · show _ = (nI 0, sA m (157 + s) (ga m (157 + s)))
    rw [sA_self]
    rfl
  · intro c hc
    unfold f_X2_spend_b79
    dsimp only
    rw [if_neg (nI_nlt (by omega) (by omega)), rf156 (by omega), Option.bind_some, least_ok (n := n) hd hn7 hs (fun c hc => by rw [ga_ne (by omega)]; exact hD c hc) (fun b hb => by rw [ga_ne (by omega)]; exact hB b hb) (by omega) hn, Option.bind_some, stA_nI (by omega) (by omega), Option.bind_some, ga_at, sA_sA, nI_1]
    congr 4
    funext k
    rw [upd_at]
    by_cases e : k = c
    · rw [if_pos e, if_pos (by omega), e]
    · rw [if_neg e]
      by_cases e2 : k < c
      · rw [if_pos e2, if_pos (by omega)]
      · rw [if_neg e2, if_neg (by omega)]
  · unfold f_X2_spend_b79
    dsimp only
    rw [if_pos (nI_lt (by omega) (by omega))]
def dwOf (pl f : Nat → Nat) : Nat → Nat → Nat := fun s c => if f s ≤ 999 then dW (f s) (pl 2 - f (7 + s)) c else 0
theorem dwOf_le (pl f : Nat → Nat) (s c : Nat) : dwOf pl f s c ≤ 999 := by
  unfold dwOf dW
  split
  · split <;> omega
  · omega
theorem dwOf_12 (pl f : Nat → Nat) (s c : Nat) (h : 12 ≤ c) : dwOf pl f s c = 0 := by
  unfold dwOf dW
  rw [if_pos h]
  split <;> rfl
theorem dwOf_eq {pl f : Nat → Nat} {s c : Nat} (h : f s ≤ 999) : dwOf pl f s c = dW (f s) (pl 2 - f (7 + s)) c := if_pos h
theorem spend_ok {μ : Mem} {pl f : Nat → Nat} {q n : Nat} (hq : isPl q = true) (hP : PlC μ q pl) (hO : PlOk pl) (hm : MoC μ (pl 0) 4 f) (hf : ∀ s, s < 7 → f s ≤ 999) (hD : ∀ s, s < 7 → f (7 + s) ≤ pl 2) (hn : n ≤ 99) : ∃ m, f_X2_spend μ q 4 (nI n) = some m ∧ Fr (fun k => 149 ≤ k ∧ k < 165) μ m ∧ (∀ s, s < pl 0 → RowD m (dwOf pl f) s) ∧ ∀ s, s ≤ pl 0 → RowB m (dwOf pl f) (pl 0) n s := by
  have hc := isPl_cases hq
  have h7 := hO.1
  have h9 := hO.2.2.1
  unfold f_X2_spend
  rw [hP.1, rf156 (by omega), Option.bind_some, fill_ok (by omega), Option.bind_some, gi_sA, hP.1]
  obtain ⟨m, e1, e2⟩ := iter_rule (B := f_X2_spend_b21 q 4 (nI n)) (fun t v => v.1 = nI (pl 0) - nI (t + 1) ∧ Fr (fun k => 149 ≤ k ∧ k < 165) μ v.2 ∧ (∀ s, pl 0 - t ≤ s → s < pl 0 → RowD v.2 (dwOf pl f) s) ∧ ∀ s, pl 0 - t ≤ s → s ≤ pl 0 → RowB v.2 (dwOf pl f) (pl 0) n s) (fun m => Fr (fun k => 149 ≤ k ∧ k < 165) μ m ∧ (∀ s, s < pl 0 → RowD m (dwOf pl f) s) ∧ ∀ s, s ≤ pl 0 → RowB m (dwOf pl f) (pl 0) n s) (pl 0) (by omega) (by
    rintro t ⟨v1, m⟩ ht ⟨i1, i2, i3, i4⟩
    dsimp only at i1 i2 i3 i4
    subst i1
    unfold f_X2_spend_b21
    dsimp only
    by_cases e : t = pl 0
    · rw [if_pos (show nI (pl 0) - nI (t + 1) < 0 from pk_sneg (by omega) (by omega))]
      exact Or.inr ⟨m, rfl, i2, fun s hs => i3 s (by omega) hs, fun s hs => i4 s (by omega) hs⟩
    · have es : nI (pl 0) - nI (t + 1) = nI (pl 0 - (t + 1)) := pk_sub (by omega)
      have es1 : nI (pl 0) - nI (t + 1) + -1 = nI (pl 0) - nI (t + 1 + 1) := by
        rw [← nI_1 (t + 1), ← Int32.sub_sub, Int32.sub_eq_add_neg (nI (pl 0) - nI (t + 1)) 1]
      rw [es1, es, if_neg (nI_pos (by omega))]
      generalize hs : pl 0 - (t + 1) = s at *
      have hs7 : s < pl 0 := by omega
      rw [spend29 (pl := pl) (f := f) _ hq (by rw [(i2.2.2.2 q (by omega)).1]; exact hP.2.2.1) (by rw [(i2.2.2.2 5 (by omega)).2]; exact hm.1 s hs7) (by rw [(i2.2.2.2 6 (by omega)).2]; exact hm.2.1 s hs7) (by omega) (hf s (by omega)) (hD s (by omega)) h9, Option.bind_some]
      have rD : RowD (sA m (149 + s) (fun k => if k < 13 then nI (dW (f s) (pl 2 - f (7 + s)) k) else ga m (149 + s) k)) (dwOf pl f) s := by
        intro c hc
        rw [ga_at, if_pos (by omega), dwOf_eq (hf s (by omega))]
      have rB : RowB (sA m (149 + s) (fun k => if k < 13 then nI (dW (f s) (pl 2 - f (7 + s)) k) else ga m (149 + s) k)) (dwOf pl f) (pl 0) n (s + 1) := by
        intro b hb
        rw [ga_ne (by omega)]
        exact i4 (s + 1) (by omega) (by omega) b hb
      rw [spend79 (dwOf_le pl f) h7 hs7 rD rB hn, Option.bind_some]
      refine Or.inl ⟨by omega, _, rfl, rfl, (i2.tr (Fr.sA (by omega))).tr (Fr.sA (by omega)), ?_, ?_⟩
      · intro s2 h1 h2 c hc
        rw [ga_ne (by omega)]
        by_cases w : s2 = s
        · rw [w]; exact rD c hc
        · rw [ga_ne (by omega)]
          exact i3 s2 (by omega) h2 c hc
      · intro s2 h1 h2 b hb
        by_cases w : s2 = s
        · rw [w, ga_at, if_pos (by omega)]
        · rw [ga_ne (by omega), ga_ne (by omega)]
          exact i4 s2 (by omega) h2 b hb) (v := (nI (pl 0) - 1, sA μ (157 + pl 0) (fun k => if k < 100 then 0 else ga μ (157 + pl 0) k))) ⟨rfl, Fr.sA (by omega), fun s h1 h2 => by omega, fun s h1 h2 b hb => by
      have : s = pl 0 := by omega
      subst this
      rw [ga_at, if_pos (by omega), Hc_end]
      rfl⟩
  rw [e1]
  exact ⟨m, rfl, e2⟩
theorem fewer_ok {m : Mem} {dw : Nat → Nat → Nat} {ns n s b : Nat} (hd : ∀ s c, dw s c ≤ 999) (hn7 : ns ≤ 7) (hs : s < ns) (hD : RowD m dw s) (hB : RowB m dw ns n (s + 1)) (hB0 : RowB m dw ns n s) (hbn : b ≤ n) (hn : n ≤ 99) : f_X2_fewerCoins m (nI s) (nI b) = some (nI (fcc dw ns s b)) := by
  obtain ⟨f1, f2, f3, f4⟩ := fcc_ok (s := s) (b := b) hd hn7 (by omega) hs
  have hb0 := (Hc_bd (ns := ns) (s := s) (b := b) hd hn7 (by omega)).2
  unfold f_X2_fewerCoins
  have stp : ∀ c, c ≤ fcc dw ns s b → f_X2_fewerCoins_b2 m (nI s) (nI b) (nI c) = if Fc dw ns s b c = Hc dw ns s b then some (.inr (.inl (nI c))) else some (.inl (nI (c + 1))) := by
    intro c hc
    have b2 := Fc_bd (s := s) (b := b) (c := c) hd hn7 (by omega) (by omega)
    unfold f_X2_fewerCoins_b2
    rw [if_neg (show ¬ (12 : Int32) < nI c from nI_nlt (a := 12) (by omega) (by omega)), if_neg (nI_nlt (by omega) (by omega)), spentOn_ok hn7 hs hD hB (by omega) (by omega) hbn hn, Option.bind_some, rf156 (by omega), Option.bind_some, ldA_nI (by omega) (by omega), hB0 b hbn, Option.bind_some, nI_1]
    by_cases e : Fc dw ns s b c = Hc dw ns s b
    · rw [if_pos e, if_pos (by rw [e])]
    · rw [if_neg e, if_neg (fun q => e ((nI_eq (by omega) (by omega)).mp q))]
  have h : iter gFU (f_X2_fewerCoins_b2 m (nI s) (nI b)) 0 = some (.inl (nI (fcc dw ns s b))) := by
    refine iter_forU (fun c => nI c) (fcc dw ns s b) _ rfl (by omega) ?_ ?_
    · intro c hc
      rw [stp c (by omega), if_neg (f4 c hc)]
    · rw [stp _ (Nat.le_refl _), if_pos f3]
  rw [h, Option.bind_some]
  rfl
def bud (dw : Nat → Nat → Nat) (ns n : Nat) : Nat → Nat
  | 0 => n
  | i + 1 => bud dw ns n i - fcc dw ns i (bud dw ns n i)
theorem bud_le (dw : Nat → Nat → Nat) (ns n : Nat) : ∀ i, bud dw ns n i ≤ n
  | 0 => Nat.le_refl _
  | i + 1 => by
    have := bud_le dw ns n i
    unfold bud
    omega
theorem coinsFor_ok {m : Mem} {dw : Nat → Nat → Nat} {ns n k : Nat} (hd : ∀ s c, dw s c ≤ 999) (hn7 : ns ≤ 7) (hk : k < ns) (hD : ∀ s, s < ns → RowD m dw s) (hB : ∀ s, s ≤ ns → RowB m dw ns n s) (hn : n ≤ 99) : f_X2_coinsFor m (nI k) (nI n) = some (nI (fcc dw ns k (bud dw ns n k))) := by
  unfold f_X2_coinsFor
  have h : iter gFU (f_X2_coinsFor_b5 m (nI k)) (nI n, 0) = some (nI (bud dw ns n k)) := by
    refine iter_forU (fun i => (nI (bud dw ns n i), nI i)) k _ rfl (by omega) ?_ ?_
    · intro i hi
      have b1 := bud_le dw ns n i
      obtain ⟨f1, f2, f3, f4⟩ := fcc_ok (ns := ns) (s := i) (b := bud dw ns n i) hd hn7 (by omega) (by omega)
      unfold f_X2_coinsFor_b5
      dsimp only
      rw [if_neg (nI_ge hi (by omega)), fewer_ok hd hn7 (by omega) (hD i (by omega)) (hB (i + 1) (by omega)) (hB i (by omega)) b1 hn, Option.bind_some, pk_sub f2, nI_1]
      rfl
    · unfold f_X2_coinsFor_b5
      dsimp only
      rw [if_pos (nI_le (Nat.le_refl _) (by omega))]
  rw [h, Option.bind_some, fewer_ok hd hn7 hk (hD k hk) (hB (k + 1) (by omega)) (hB k (by omega)) (bud_le dw ns n k) hn, Option.bind_some]

/-! paid -/
theorem iter_rule {V E : Type} {B : V → Option (V ⊕ E)} (P : Nat → V → Prop) (Q : E → Prop) (N : Nat) (hN : N < 1000000000000) (h : ∀ i v, i ≤ N → P i v → (i < N ∧ ∃ v2, B v = some (.inl v2) ∧ P (i + 1) v2) ∨ ∃ e, B v = some (.inr e) ∧ Q e) {v : V} (h0 : P 0 v) : ∃ e, iter gFU B v = some e ∧ Q e := by
  have key : ∀ n i v, i ≤ N → N - i < n → P i v → ∃ e, iter n B v = some e ∧ Q e := by
    intro n
    induction n with
    | zero => intro i v _ h; omega
    | succ n ih =>
      intro i v hi hn hp
      rcases h i v hi hp with ⟨hlt, v2, e1, e2⟩ | ⟨e, e1, e2⟩
      · obtain ⟨e, e3, e4⟩ := ih (i + 1) v2 (by omega) (by omega) e2
        exact ⟨e, by unfold iter; rw [e1]; exact e3, e4⟩
      · exact ⟨e, by unfold iter; rw [e1], e2⟩
  exact key gFU 0 v (Nat.zero_le _) hN h0
theorem ga_at {μ : Mem} {k : Nat} {f : Nat → Int32} : ga (sA μ k f) k = f := by rw [ga_sA, if_pos rfl]
theorem ga_ne {μ : Mem} {k k2 : Nat} {f : Nat → Int32} (h : k2 ≠ k) : ga (sA μ k f) k2 = ga μ k2 := by rw [ga_sA, if_neg h]
theorem rm_nI {a d : Nat} (ha : a < 2147483648) (h0 : 0 < d) (hd : d < 2147483648) : rmI (nI a) (nI d) = some (nI (a % d)) := by
  unfold rmI
  rw [if_neg (show ¬ nI d = 0 from nI_ne0 h0 hd), pk_rem ha h0 hd]
theorem dv_nI {a d : Nat} (ha : a < 2147483648) (h0 : 0 < d) (hd : d < 2147483648) : dvI (nI a) (nI d) = some (nI (a / d)) := by
  unfold dvI
  rw [if_neg (show ¬ nI d = 0 from nI_ne0 h0 hd), pk_div ha h0 hd]
def hfR : List (Nat × Nat) → Nat → Nat
  | [], _ => 1000000000
  | o :: L, c => if o.1 = c then min (hfR L c) o.2 else hfR L c
def prs (pl : Nat → Nat) (p : Nat) : Nat → List (Nat × Nat)
  | 0 => []
  | j + 1 => (pl 3, pl (44 + p) + pl (44 + j)) :: prs pl p j
def ofs (pl : Nat → Nat) : Nat → List (Nat × Nat)
  | 0 => []
  | p + 1 => prs pl p p ++ (hvs pl p, pl (44 + p)) :: ofs pl p
theorem hfR_bd : ∀ (L : List (Nat × Nat)) (c : Nat), hfR L c ≤ 1000000000
  | [], _ => Nat.le_refl _
  | o :: L, c => by
    have := hfR_bd L c
    unfold hfR
    split <;> omega
theorem hfR_le : ∀ (L : List (Nat × Nat)) (o : Nat × Nat), o ∈ L → hfR L o.1 ≤ o.2
  | [], o, h => by cases h
  | q :: L, o, h => by
    unfold hfR
    rcases List.mem_cons.mp h with rfl | h
    · rw [if_pos rfl]; omega
    · have := hfR_le L o h
      split <;> omega
theorem hfR_at : ∀ (L : List (Nat × Nat)) (c : Nat), hfR L c = 1000000000 ∨ ∃ o ∈ L, o.1 = c ∧ hfR L c = o.2
  | [], c => Or.inl rfl
  | q :: L, c => by
    unfold hfR
    rcases hfR_at L c with h | ⟨o, h1, h2, h3⟩
    · rw [h]
      split
      · next e =>
        by_cases q2 : 1000000000 ≤ q.2
        · exact Or.inl (by omega)
        · exact Or.inr ⟨q, List.mem_cons_self, e, by omega⟩
      · exact Or.inl rfl
    · split
      · next e =>
        by_cases q2 : hfR L c ≤ q.2
        · exact Or.inr ⟨o, List.mem_cons_of_mem _ h1, h2, by omega⟩
        · exact Or.inr ⟨q, List.mem_cons_self, e, by omega⟩
      · exact Or.inr ⟨o, List.mem_cons_of_mem _ h1, h2, h3⟩
def hfA (L : List (Nat × Nat)) (a : Nat → Int32) : Nat → Int32 := fun c => if c < 10 then nI (hfR L c) else a c
theorem offer_ok {μ : Mem} {L : List (Nat × Nat)} {a : Nat → Int32} {c u : Nat} (hc : c < 10) (hu : u < 2147483648) : f_X2_offerFall (sA μ 146 (hfA L a)) (nI c) (nI u) = some (sA μ 146 (hfA ((c, u) :: L) a)) := by
  unfold f_X2_offerFall
  have := hfR_bd L c
  have e : hfA L a c = nI (hfR L c) := if_pos hc
  rw [ldA_nI hc (by omega), ga_at, e, Option.bind_some, mn_nI (by omega) hu, stA_nI hc (by omega), Option.bind_some, ga_at, sA_sA]
  congr 2
  funext k
  rw [upd_at]
  unfold hfA
  by_cases h : k = c
  · subst h
    rw [if_pos rfl, if_pos hc]
    show _ = nI (if k = k then min (hfR L k) u else hfR L k)
    rw [if_pos rfl]
  · rw [if_neg h]
    by_cases h2 : k < 10
    · rw [if_pos h2, if_pos h2]
      show _ = nI (if c = k then min (hfR L k) u else hfR L k)
      rw [if_neg (fun q => h q.symm)]
    · rw [if_neg h2, if_neg h2]
theorem gather36 {μ : Mem} {a : Nat → Int32} {q p : Nat} {pl : Nat → Nat} {X : List (Nat × Nat)} (hq : isPl q = true) (hP : PlC μ q pl) (hO : PlOk pl) (hp : p < pl 1) : iter gFU (f_X2_gatherFalls_b36 q (nI p)) (0, sA μ 146 (hfA X a)) = some (sA μ 146 (hfA (prs pl p p ++ X) a)) := by
  have hc := isPl_cases hq
  have h5 := hO.2.1
  have h9 := hO.2.2.2.1
  have b1 := (hO.2.2.2.2.2 p hp).2.2
  refine iter_forU (fun j => (nI j, sA μ 146 (hfA (prs pl p j ++ X) a))) p _ rfl (by omega) ?_ ?_
  · intro j hj
    have b2 := (hO.2.2.2.2.2 j (by omega)).2.2
    unfold f_X2_gatherFalls_b36
    dsimp only
    rw [if_neg (nI_ge hj (by omega)), ldA_nI (show p < 5 by omega) (by omega), ga_ne (by omega), (hP.2.2.2.2.2 p hp).2.2, Option.bind_some, ldA_nI (show j < 5 by omega) (by omega), ga_ne (by omega), (hP.2.2.2.2.2 j (by omega)).2.2, Option.bind_some, gi_sA, hP.2.2.2.1, nI_add, offer_ok (by omega) (by omega), Option.bind_some, nI_1]
    rfl
  · unfold f_X2_gatherFalls_b36
    dsimp only
    rw [if_pos (nI_le (Nat.le_refl _) (by omega))]
theorem gather_ok {μ : Mem} {q : Nat} {pl : Nat → Nat} (hq : isPl q = true) (hP : PlC μ q pl) (hO : PlOk pl) : f_X2_gatherFalls μ q = some (sA μ 146 (hfA (ofs pl (pl 1)) (ga μ 146))) := by
  have hc := isPl_cases hq
  have h5 := hO.2.1
  unfold f_X2_gatherFalls
  rw [fill_ok (by omega), Option.bind_some]
  have h : iter gFU (f_X2_gatherFalls_b11 q) (0, sA μ 146 (fun k => if k < 10 then 1000000000 else ga μ 146 k)) = some (sA μ 146 (hfA (ofs pl (pl 1)) (ga μ 146))) := by
    refine iter_forU (fun p => (nI p, sA μ 146 (hfA (ofs pl p) (ga μ 146)))) (pl 1) _ rfl (by omega) ?_ ?_
    · intro p hp
      have b1 := hO.2.2.2.2.2 p hp
      have hP' : PlC (sA μ 146 (hfA (ofs pl p) (ga μ 146))) q pl := by
        refine hP.fr (S := fun k => k = 146) (Fr.sA rfl) (fun k h1 h2 h3 => by omega)
      have hv := hvs_le pl p
      unfold f_X2_gatherFalls_b11
      dsimp only
      rw [gi_sA, hP.2.1, if_neg (nI_ge hp (by omega)), halvesOf_ok hP' hp h5 b1.1, Option.bind_some, ldA_nI (show p < 5 by omega) (by omega), ga_ne (by omega), (hP.2.2.2.2.2 p hp).2.2, Option.bind_some, offer_ok (by omega) (by omega), Option.bind_some, gather36 hq hP hO hp, Option.bind_some, nI_1]
      rfl
    · unfold f_X2_gatherFalls_b11
      dsimp only
      rw [gi_sA, hP.2.1, if_pos (nI_le (Nat.le_refl _) (by omega))]
  rw [h, Option.bind_some]
def chp (F g : Nat → Nat) (h : Nat) : Nat → Nat
  | 0 => 1000000000
  | i + 1 => if F (i + 1) = 1000000000 ∨ g (h - (i + 1)) = 1000000000 then chp F g h i else min (chp F g h i) (g (h - (i + 1)) + F (i + 1) * 1000 + 1)
theorem chp_bd (F g : Nat → Nat) (h : Nat) : ∀ i, chp F g h i ≤ 1000000000
  | 0 => Nat.le_refl _
  | i + 1 => by
    have := chp_bd F g h i
    unfold chp
    split <;> omega
theorem chp_le (F g : Nat → Nat) (h : Nat) : ∀ N c, 1 ≤ c → c ≤ N → F c ≠ 1000000000 → g (h - c) ≠ 1000000000 → chp F g h N ≤ g (h - c) + F c * 1000 + 1
  | 0, c, h1, h2, _, _ => by omega
  | N + 1, c, h1, h2, h3, h4 => by
    unfold chp
    by_cases e : c = N + 1
    · subst e
      rw [if_neg (fun q => by rcases q with q | q; exact h3 q; exact h4 q)]
      omega
    · have := chp_le F g h N c h1 (by omega) h3 h4
      split <;> omega
theorem chp_at (F g : Nat → Nat) (h : Nat) : ∀ N, chp F g h N = 1000000000 ∨ ∃ c, 1 ≤ c ∧ c ≤ N ∧ F c ≠ 1000000000 ∧ g (h - c) ≠ 1000000000 ∧ chp F g h N = g (h - c) + F c * 1000 + 1
  | 0 => Or.inl rfl
  | N + 1 => by
    have hi : chp F g h N = 1000000000 ∨ ∃ c, 1 ≤ c ∧ c ≤ N + 1 ∧ F c ≠ 1000000000 ∧ g (h - c) ≠ 1000000000 ∧ chp F g h N = g (h - c) + F c * 1000 + 1 := by
      rcases chp_at F g h N with q | ⟨c, q1, q2, q3⟩
      · exact Or.inl q
      · exact Or.inr ⟨c, q1, by omega, q3⟩
    unfold chp
    by_cases e : F (N + 1) = 1000000000 ∨ g (h - (N + 1)) = 1000000000
    · rw [if_pos e]; exact hi
    · rw [if_neg e]
      by_cases e2 : chp F g h N ≤ g (h - (N + 1)) + F (N + 1) * 1000 + 1
      · rw [Nat.min_eq_left e2]; exact hi
      · rw [Nat.min_eq_right (by omega)]
        exact Or.inr ⟨N + 1, by omega, by omega, fun q => e (Or.inl q), fun q => e (Or.inr q), rfl⟩
theorem cheapest_ok {m : Mem} {F g : Nat → Nat} {h : Nat} (hF : ∀ c, c < 10 → ga m 146 c = nI (F c)) (hg : ∀ k, k < h → ga m 147 k = nI (g k)) (h1 : 1 ≤ h) (h2 : h ≤ 999) (bF : ∀ c, c < 10 → F c = 1000000000 ∨ F c ≤ 18) (bg : ∀ k, k < h → g k ≤ 1000000000) : f_X2_cheapestFor m (nI h) = some (nI (chp F g h 9)) := by
  unfold f_X2_cheapestFor
  have hl : iter gFU (f_X2_cheapestFor_b5 m (nI h)) (1000000000, 1) = some (nI (chp F g h 9)) := by
    refine iter_forU (fun i => (nI (chp F g h i), nI (i + 1))) 9 _ rfl (by omega) ?_ ?_
    · intro i hi
      have b1 := bF (i + 1) (by omega)
      have b2 := bg (h - (i + 1)) (by omega)
      have b3 := chp_bd F g h i
      have e0 : chp F g h (i + 1) = if F (i + 1) = 1000000000 ∨ g (h - (i + 1)) = 1000000000 then chp F g h i else min (chp F g h i) (g (h - (i + 1)) + F (i + 1) * 1000 + 1) := rfl
      unfold f_X2_cheapestFor_b5
      dsimp only
      rw [if_neg (show ¬ (9 : Int32) < nI (i + 1) from nI_nlt (a := 9) (by omega) (by omega)), mx_sub (by omega) (by omega), ldA_nI (show h - (i + 1) < 1000 by omega) (by omega), hg _ (by omega), Option.bind_some, ldA_nI (show i + 1 < 10 by omega) (by omega), hF _ (by omega), Option.bind_some, show (1000000000 : Int32) = nI 1000000000 from rfl, e0]
      by_cases q1 : F (i + 1) = 1000000000
      · rw [if_pos (by rw [q1]), if_pos (Or.inl q1), nI_1]
      · rw [if_neg (fun q => q1 ((nI_eq (by omega) (by omega)).mp q))]
        by_cases q2 : g (h - (i + 1)) = 1000000000
        · rw [if_pos (by rw [q2]), if_pos (Or.inr q2), nI_1]
        · rw [if_neg (fun q => q2 ((nI_eq (by omega) (by omega)).mp q)), if_neg (fun q => by rcases q with q | q; exact q1 q; exact q2 q), Option.bind_some, show (1000 : Int32) = nI 1000 from rfl, pk_mul, nI_add, nI_1, nI_1, mn_nI (by omega) (by omega)]
    · unfold f_X2_cheapestFor_b5
      rfl
  rw [hl, Option.bind_some]
def T1 (F : Nat → Nat) : Nat → Nat → Nat
  | 0 => fun _ => 0
  | i + 1 => fun k => if k = i + 1 then chp F (T1 F i) (i + 1) 9 else T1 F i k
theorem T1_bd (F : Nat → Nat) : ∀ i k, T1 F i k ≤ 1000000000
  | 0, k => by show 0 ≤ _; omega
  | i + 1, k => by
    show (if k = i + 1 then chp F (T1 F i) (i + 1) 9 else T1 F i k) ≤ _
    have := chp_bd F (T1 F i) (i + 1) 9
    have := T1_bd F i k
    split <;> omega
theorem pay15 {m : Mem} {F : Nat → Nat} {a : Nat → Int32} {d : Nat} (x : Int32) (hd : d ≤ 999) (hF : ∀ c, c < 10 → ga m 146 c = nI (F c)) (bF : ∀ c, c < 10 → F c = 1000000000 ∨ F c ≤ 18) : iter gFU (f_X2_payByFalls_b15 (nI d) x) (1, sA m 147 (fun k => if k ≤ 0 then nI (T1 F 0 k) else a k)) = some (sA m 147 (fun k => if k ≤ d then nI (T1 F d k) else a k)) := by
  refine iter_forU (fun i => (nI (i + 1), sA m 147 (fun k => if k ≤ i then nI (T1 F i k) else a k))) d _ rfl (by omega) ?_ ?_
  · intro i hi
    unfold f_X2_payByFalls_b15
    dsimp only
    rw [if_neg (nI_nlt (by omega) (by omega)), cheapest_ok (F := F) (g := T1 F i) (h := i + 1) (fun c hc => by rw [ga_ne (by omega)]; exact hF c hc) (fun k hk => by rw [ga_at]; exact if_pos (by omega)) (by omega) (by omega) bF (fun k _ => T1_bd F i k), Option.bind_some, stA_nI (by omega) (by omega), Option.bind_some, ga_at, sA_sA, nI_1]
    congr 4
    funext k
    rw [upd_at]
    show _ = if k ≤ i + 1 then nI (if k = i + 1 then chp F (T1 F i) (i + 1) 9 else T1 F i k) else a k
    by_cases e : k = i + 1
    · rw [if_pos e, if_pos (by omega), if_pos e]
    · rw [if_neg e, if_neg e]
      by_cases e2 : k ≤ i
      · rw [if_pos e2, if_pos (by omega)]
      · rw [if_neg e2, if_neg (by omega)]
  · unfold f_X2_payByFalls_b15
    dsimp only
    rw [if_pos (nI_lt (by omega) (by omega))]
def bst (g : Nat → Nat) (h : Nat) : List (Nat × Nat) → Nat
  | [] => 0
  | o :: L => if o.1 = 0 then bst g h L else if bst g h L = 0 then g (h - o.1) + 10000 * o.2 + 1 else min (bst g h L) (g (h - o.1) + 10000 * o.2 + 1)
theorem bst_le (g : Nat → Nat) (h : Nat) : ∀ (L : List (Nat × Nat)) (o : Nat × Nat), o ∈ L → o.1 ≠ 0 → bst g h L ≠ 0 ∧ bst g h L ≤ g (h - o.1) + 10000 * o.2 + 1
  | [], o, h, _ => by cases h
  | q :: L, o, h1, h2 => by
    unfold bst
    rcases List.mem_cons.mp h1 with rfl | h1
    · rw [if_neg h2]
      split
      · exact ⟨by omega, Nat.le_refl _⟩
      · exact ⟨by omega, by omega⟩
    · obtain ⟨i1, i2⟩ := bst_le g h L o h1 h2
      split
      · exact ⟨i1, i2⟩
      · exact ⟨by omega, by omega⟩
theorem bst_at (g : Nat → Nat) (h : Nat) : ∀ (L : List (Nat × Nat)), bst g h L = 0 ∨ ∃ o ∈ L, o.1 ≠ 0 ∧ bst g h L = g (h - o.1) + 10000 * o.2 + 1
  | [] => Or.inl rfl
  | q :: L => by
    unfold bst
    have hi : bst g h L = 0 ∨ ∃ o ∈ q :: L, o.1 ≠ 0 ∧ bst g h L = g (h - o.1) + 10000 * o.2 + 1 := by
      rcases bst_at g h L with e | ⟨o, h1, h2⟩
      · exact Or.inl e
      · exact Or.inr ⟨o, List.mem_cons_of_mem _ h1, h2⟩
    split
    · exact hi
    · next e =>
      split
      · exact Or.inr ⟨q, List.mem_cons_self, e, rfl⟩
      · by_cases e2 : bst g h L ≤ g (h - q.1) + 10000 * q.2 + 1
        · rw [Nat.min_eq_left e2]; exact hi
        · rw [Nat.min_eq_right (by omega)]
          exact Or.inr ⟨q, List.mem_cons_self, e, rfl⟩
def eI (v : Nat) : Int32 := if v = 0 then -1 else nI v
theorem eI_pos {v : Nat} (h : v ≠ 0) : eI v = nI v := if_neg h
theorem better_ok {μ : Mem} {a b : Nat} (ha : a < 2147483648) (hb : b < 2147483648) : f_X9_better μ (eI a) (nI b) = some (nI (if a = 0 then b else min a b)) := by
  unfold f_X9_better eI
  by_cases h : a = 0
  · rw [if_pos h, if_pos h, if_pos (by decide)]
  · rw [if_neg h, if_neg h, if_neg (nI_pos ha), if_neg (nI_pos hb)]
    by_cases e : a ≤ b
    · rw [if_pos (nI_le e hb), Nat.min_eq_left e]
    · rw [if_neg (nI_ge (by omega) ha), Nat.min_eq_right (by omega)]
theorem rest_ok {α : Type} (F : Int32 → α) {h c : Nat} (hh : h < 1000000000) (hc : c < 1000000000) : (if (0 : Int32) ≤ nI h - nI c then F (nI h - nI c) else F 0) = F (nI (h - c)) := by
  have h1 : (nI h - nI c).toInt = (h : Int) - c := pk_sub_toInt (by omega) (by omega)
  by_cases e : c ≤ h
  · rw [if_pos (by rw [Int32.le_iff_toInt_le, h1]; simp; omega), pk_sub e]
  · rw [if_neg (by rw [Int32.le_iff_toInt_le, h1]; simp; omega), show h - c = 0 by omega]
    rfl
def T2 (L : List (Nat × Nat)) : Nat → Nat → Nat
  | 0 => fun _ => 0
  | i + 1 => fun k => if k = i + 1 then bst (T2 L i) (i + 1) L else T2 L i k
theorem T12 {L : List (Nat × Nat)} (hL : ∀ o, o ∈ L → o.1 ≤ 9 ∧ o.2 ≤ 18) (hx : ∃ o ∈ L, o.1 ≠ 0) : ∀ i, i ≤ 999 → ∀ k, k ≤ i → ∃ H U, T1 (hfR L) i k = 1000 * H + U ∧ T2 L i k = 10000 * H + U ∧ U ≤ k ∧ H ≤ 18 * k ∧ (k ≠ 0 → U ≠ 0)
  | 0, _, k, hk => ⟨0, 0, rfl, rfl, by omega, by omega, by omega⟩
  | i + 1, hi, k, hk => by
    have ih := T12 hL hx i (by omega)
    show ∃ H U, (if k = i + 1 then chp (hfR L) (T1 (hfR L) i) (i + 1) 9 else T1 (hfR L) i k) = 1000 * H + U ∧ (if k = i + 1 then bst (T2 L i) (i + 1) L else T2 L i k) = 10000 * H + U ∧ _
    by_cases e : k = i + 1
    · rw [if_pos e, if_pos e]
      obtain ⟨ox, ox1, ox2⟩ := hx
      have nz := (bst_le (T2 L i) (i + 1) L ox ox1 ox2).1
      rcases bst_at (T2 L i) (i + 1) L with z | ⟨o2, m2, n2, v2⟩
      · exact absurd z nz
      · have l2 := hL o2 m2
        have f2 := hfR_le L o2 m2
        obtain ⟨H2, U2, a1, a2, a3, a4, a5⟩ := ih (i + 1 - o2.1) (by omega)
        have c2 := chp_le (hfR L) (T1 (hfR L) i) (i + 1) 9 o2.1 (by omega) (by omega) (by omega) (by omega)
        rcases chp_at (hfR L) (T1 (hfR L) i) (i + 1) 9 with z | ⟨c, c3, c4, c5, c6, c7⟩
        · omega
        · rcases hfR_at L c with z | ⟨o1, m1, n1, v1⟩
          · exact absurd z c5
          · have l1 := hL o1 m1
            have w := (bst_le (T2 L i) (i + 1) L o1 m1 (by omega)).2
            rw [n1] at w
            obtain ⟨H1, U1, b1, b2, b3, b4, b5⟩ := ih (i + 1 - c) (by omega)
            exact ⟨H1 + o1.2, U1 + 1, by omega, by omega, by omega, by omega, by omega⟩
    · rw [if_neg e, if_neg e]
      exact ih k (by omega)

theorem prs_mem {pl : Nat → Nat} {p : Nat} {o : Nat × Nat} : ∀ j, o ∈ prs pl p j → ∃ q, q < j ∧ o = (pl 3, pl (44 + p) + pl (44 + q))
  | 0, h => by cases h
  | j + 1, h => by
    rcases List.mem_cons.mp h with e | h
    · exact ⟨j, by omega, e⟩
    · obtain ⟨q, h1, h2⟩ := prs_mem j h
      exact ⟨q, by omega, h2⟩
theorem ofs_bd {pl : Nat → Nat} (hO : PlOk pl) : ∀ n, n ≤ pl 1 → ∀ o, o ∈ ofs pl n → o.1 ≤ 9 ∧ o.2 ≤ 18
  | 0, _, o, h => by cases h
  | n + 1, hn, o, h => by
    have b1 := (hO.2.2.2.2.2 n (by omega)).2.2
    have h3 := hO.2.2.2.1
    rcases List.mem_append.mp h with h | h
    · obtain ⟨q, h1, rfl⟩ := prs_mem n h
      have b2 := (hO.2.2.2.2.2 q (by omega)).2.2
      exact ⟨h3, by show pl (44 + n) + pl (44 + q) ≤ 18; omega⟩
    · rcases List.mem_cons.mp h with rfl | h
      · have := hvs_le pl n
        exact ⟨by show hvs pl n ≤ 9; omega, by show pl (44 + n) ≤ 18; omega⟩
      · exact ofs_bd hO n (by omega) o h
theorem hvs_pos (pl : Nat → Nat) (p : Nat) : hvs pl p ≠ 0 := by unfold hvs; split <;> omega
theorem ofs_one {pl : Nat → Nat} : ∀ n, n ≠ 0 → ∃ o ∈ ofs pl n, o.1 ≠ 0
  | 0, h => absurd rfl h
  | n + 1, _ => ⟨(hvs pl n, pl (44 + n)), List.mem_append.mpr (Or.inr List.mem_cons_self), hvs_pos pl n⟩
theorem bst_zero {g : Nat → Nat} {h : Nat} {pl : Nat → Nat} {p : Nat} {X : List (Nat × Nat)} (h3 : pl 3 = 0) : ∀ j, bst g h (prs pl p j ++ X) = bst g h X
  | 0 => rfl
  | j + 1 => by
    show (if pl 3 = 0 then bst g h (prs pl p j ++ X) else _) = _
    rw [if_pos h3]
    exact bst_zero h3 j
/-- the bill as far as it is written -/
def Bil (m : Mem) (pl g : Nat → Nat) (h : Nat) : Prop := PlM m pl ∧ (∀ k, k < h → ga m 196 k = nI (g k)) ∧ ∀ k, k < h → g k ≤ 180001 * k
theorem bst_bd {g : Nat → Nat} {h : Nat} {L : List (Nat × Nat)} (h1 : 1 ≤ h) (hg : ∀ k, k < h → g k ≤ 180001 * k) (hL : ∀ o, o ∈ L → o.1 ≤ 9 ∧ o.2 ≤ 18) : bst g h L ≤ 180001 * h := by
  rcases bst_at g h L with e | ⟨o, m1, m2, m3⟩
  · omega
  · have := hL o m1
    have := hg (h - o.1) (by omega)
    omega
theorem ref101 {m : Mem} {pl g : Nat → Nat} {h p : Nat} {X : List (Nat × Nat)} (x y : Int32) (hB : Bil m pl g h) (h1 : 1 ≤ h) (h2 : h ≤ 999) (hO : PlOk pl) (hp : p < pl 1) (hX : ∀ o, o ∈ X → o.1 ≤ 9 ∧ o.2 ≤ 18) : iter gFU (f_X9_paid_b101 m x y (nI h) (nI p)) (eI (bst g h X), 0) = some (eI (bst g h (prs pl p p ++ X))) := by
  have h5 := hO.2.1
  have h9 := hO.2.2.2.1
  have b1 := (hO.2.2.2.2.2 p hp).2.2
  by_cases hz : pl 3 = 0
  · rw [bst_zero hz]
    refine iter_done ?_
    unfold f_X9_paid_b101
    dsimp only
    by_cases hp0 : p = 0
    · rw [if_pos (by rw [hp0]; decide)]
    · rw [if_neg (show ¬ nI p ≤ 0 from nI_nle (by omega) (by omega)), show (3 : Int32) = nI 3 from rfl, ldA_nI (by omega) (by omega), hB.1 3 (by omega), Option.bind_some, hz, if_pos (by decide)]
  · refine iter_forU (fun j => (eI (bst g h (prs pl p j ++ X)), nI j)) p _ rfl (by omega) ?_ ?_
    · intro j hj
      have b2 := (hO.2.2.2.2.2 j (by omega)).2.2
      have hL : ∀ o, o ∈ prs pl p j ++ X → o.1 ≤ 9 ∧ o.2 ≤ 18 := by
        intro o ho
        rcases List.mem_append.mp ho with ho | ho
        · obtain ⟨q, h1, rfl⟩ := prs_mem j ho
          have b2 := (hO.2.2.2.2.2 q (by omega)).2.2
          exact ⟨h9, by show pl (44 + p) + pl (44 + q) ≤ 18; omega⟩
        · exact hX o ho
      have d1 := bst_bd h1 hB.2.2 hL
      have d2 := hB.2.2 (h - pl 3) (by omega)
      unfold f_X9_paid_b101
      dsimp only
      rw [if_neg (nI_ge hj (by omega)), show (3 : Int32) = nI 3 from rfl, ldA_nI (by omega) (by omega), hB.1 3 (by omega), Option.bind_some, if_neg (show ¬ nI (pl 3) ≤ 0 from nI_nle (by omega) (by omega)), Option.bind_some]
      refine (rest_ok (fun r => f_X9_paid_j144 m x y (nI h) (nI p) (nI j) (eI (bst g h (prs pl p j ++ X))) r) (by omega) (by omega)).trans ?_
      show f_X9_paid_j144 m x y (nI h) (nI p) (nI j) (eI (bst g h (prs pl p j ++ X))) (nI (h - pl 3)) = _
      unfold f_X9_paid_j144
      rw [ldA_nI (by omega) (by omega), hB.2.1 _ (by omega), Option.bind_some, show (44 : Int32) = nI 44 from rfl, nI_add, ldA_nI (by omega) (by omega), hB.1 (44 + p) (by omega), Option.bind_some, nI_add, ldA_nI (by omega) (by omega), hB.1 (44 + j) (by omega), Option.bind_some, nI_add, show (10000 : Int32) = nI 10000 from rfl, pk_mul, nI_add, nI_1, better_ok (by omega) (by omega), Option.bind_some, nI_1]
      have e1 : bst g h (prs pl p (j + 1) ++ X) = if bst g h (prs pl p j ++ X) = 0 then g (h - pl 3) + 10000 * (pl (44 + p) + pl (44 + j)) + 1 else min (bst g h (prs pl p j ++ X)) (g (h - pl 3) + 10000 * (pl (44 + p) + pl (44 + j)) + 1) := by
        show (if pl 3 = 0 then _ else _) = _
        rw [if_neg hz]
        rfl
      rw [e1, eI_pos (by split <;> omega)]
    · unfold f_X9_paid_b101
      dsimp only
      rw [if_pos (nI_le (Nat.le_refl _) (by omega))]
theorem ref37 {m : Mem} {pl g : Nat → Nat} {h : Nat} (x y : Int32) (hB : Bil m pl g h) (h1 : 1 ≤ h) (h2 : h ≤ 999) (hO : PlOk pl) : iter gFU (f_X9_paid_b37 m x y (nI h)) (-1, 0) = some (eI (bst g h (ofs pl (pl 1)))) := by
  have h5 := hO.2.1
  refine iter_forU (fun p => (eI (bst g h (ofs pl p)), nI p)) (pl 1) _ rfl (by omega) ?_ ?_
  · intro p hp
    have b1 := hO.2.2.2.2.2 p hp
    have hv := hvs_le pl p
    have hv0 := hvs_pos pl p
    have hL := ofs_bd hO p (by omega)
    have d1 := bst_bd h1 hB.2.2 hL
    have d2 := hB.2.2 (h - hvs pl p) (by omega)
    unfold f_X9_paid_b37
    dsimp only
    rw [show (1 : Int32) = nI 1 from rfl, ldA_nI (by omega) (by omega), hB.1 1 (by omega), Option.bind_some, if_neg (nI_ge hp (by omega)), counts_ok hB.1 (by omega) (by omega), Option.bind_some]
    refine (rest_ok (fun r => f_X9_paid_j75 m x y (nI h) (nI p) (eI (bst g h (ofs pl p))) r) (by omega) (by omega)).trans ?_
    show f_X9_paid_j75 m x y (nI h) (nI p) (eI (bst g h (ofs pl p))) (nI (h - hvs pl p)) = _
    unfold f_X9_paid_j75
    have e1 : bst g h ((hvs pl p, pl (44 + p)) :: ofs pl p) = if bst g h (ofs pl p) = 0 then g (h - hvs pl p) + 10000 * pl (44 + p) + 1 else min (bst g h (ofs pl p)) (g (h - hvs pl p) + 10000 * pl (44 + p) + 1) := by
      show (if hvs pl p = 0 then _ else _) = _
      rw [if_neg hv0]
    have e2 : nI (if bst g h (ofs pl p) = 0 then g (h - hvs pl p) + 10000 * pl (44 + p) + 1 else min (bst g h (ofs pl p)) (g (h - hvs pl p) + 10000 * pl (44 + p) + 1)) = eI (bst g h ((hvs pl p, pl (44 + p)) :: ofs pl p)) := by
      rw [e1, eI_pos (by split <;> omega)]
    rw [ldA_nI (by omega) (by omega), hB.2.1 _ (by omega), Option.bind_some, show (44 : Int32) = nI 44 from rfl, nI_add, ldA_nI (by omega) (by omega), hB.1 (44 + p) (by omega), Option.bind_some, show (10000 : Int32) = nI 10000 from rfl, pk_mul, nI_add, nI_1, better_ok (by omega) (by omega), Option.bind_some, e2, ref101 x y hB h1 h2 hO hp (by
      intro o ho
      rcases List.mem_cons.mp ho with rfl | ho
      · exact ⟨by show hvs pl p ≤ 9; omega, by show pl (44 + p) ≤ 18; omega⟩
      · exact hL o ho), Option.bind_some, nI_1]
    rfl
  · unfold f_X9_paid_b37
    dsimp only
    rw [show (1 : Int32) = nI 1 from rfl, ldA_nI (by omega) (by omega), hB.1 1 (by omega), Option.bind_some, if_pos (nI_le (Nat.le_refl _) (by omega))]
theorem T2_bd {L : List (Nat × Nat)} (hL : ∀ o, o ∈ L → o.1 ≤ 9 ∧ o.2 ≤ 18) : ∀ i k, k ≤ i → T2 L i k ≤ 180001 * k
  | 0, k, _ => by show 0 ≤ _; omega
  | i + 1, k, hk => by
    show (if k = i + 1 then bst (T2 L i) (i + 1) L else T2 L i k) ≤ _
    by_cases e : k = i + 1
    · rw [if_pos e, e]
      exact bst_bd (by omega) (fun k hk => T2_bd hL i k (by omega)) hL
    · rw [if_neg e]
      exact T2_bd hL i k (by omega)
theorem T2_0 (L : List (Nat × Nat)) : ∀ i, T2 L i 0 = 0
  | 0 => rfl
  | i + 1 => by
    show (if 0 = i + 1 then bst (T2 L i) (i + 1) L else T2 L i 0) = 0
    rw [if_neg (by omega)]
    exact T2_0 L i
def bilA (L : List (Nat × Nat)) (a : Nat → Int32) (i : Nat) : Nat → Int32 := fun k => if k = 0 then nI 0 else if k ≤ i then eI (T2 L i k) else a k
theorem ref21 {μ : Mem} {pl f : Nat → Nat} {s : Nat} (y : Int32) (hP : PlM μ pl) (hM : ga μ 190 s = nI (f s)) (hs : s < 7) (hf : f s ≤ 999) (h0 : ga μ 196 0 = nI 0) (hO : PlOk pl) : iter gFU (f_X9_paid_b21 (nI s) y) (1, μ) = some (sA μ 196 (bilA (ofs pl (pl 1)) (ga μ 196) (f s))) := by
  have hL := ofs_bd hO (pl 1) (Nat.le_refl _)
  refine iter_forU (fun i => (nI (i + 1), sA μ 196 (bilA (ofs pl (pl 1)) (ga μ 196) i))) (f s) _ ?_ (by omega) ?_ ?_
  · have : bilA (ofs pl (pl 1)) (ga μ 196) 0 = ga μ 196 := by
      funext k
      unfold bilA
      by_cases e : k = 0
      · rw [if_pos e, e, h0]
      · rw [if_neg e, if_neg (by omega)]
    show _ = (nI 1, sA μ 196 (bilA (ofs pl (pl 1)) (ga μ 196) 0))
    rw [this, sA_self]
    rfl
  · intro i hi
    unfold f_X9_paid_b21
    dsimp only
    rw [ldA_nI (by omega) (by omega), ga_ne (by omega), hM, Option.bind_some, if_neg (nI_nlt (by omega) (by omega))]
    have hr : iter gFU (f_X9_paid_b37 (sA μ 196 (bilA (ofs pl (pl 1)) (ga μ 196) i)) (nI s) y (nI (i + 1))) (-1, 0) = some (eI (bst (T2 (ofs pl (pl 1)) i) (i + 1) (ofs pl (pl 1)))) := by
      by_cases hn : pl 1 = 0
      · refine iter_done ?_
        unfold f_X9_paid_b37
        dsimp only
        rw [show (1 : Int32) = nI 1 from rfl, ldA_nI (by omega) (by omega), ga_ne (by omega), hP 1 (by omega), Option.bind_some, hn]
        rfl
      · refine ref37 _ _ ⟨?_, ?_, ?_⟩ (by omega) (by omega) hO
        · intro k hk
          rw [ga_ne (by omega)]
          exact hP k hk
        · intro k hk
          rw [ga_at]
          unfold bilA
          by_cases e : k = 0
          · rw [if_pos e, e, T2_0]
          · rw [if_neg e, if_pos (by omega)]
            obtain ⟨H, U, _, h2, _, _, h5⟩ := T12 hL (ofs_one (pl 1) hn) i (by omega) k (by omega)
            rw [eI_pos (by have := h5 e; omega)]
        · intro k hk
          exact T2_bd hL i k (by omega)
    rw [hr, Option.bind_some, stA_nI (by omega) (by omega), Option.bind_some, ga_at, sA_sA, nI_1]
    congr 4
    funext k
    rw [upd_at]
    unfold bilA
    by_cases e : k = i + 1
    · rw [if_pos e, if_neg (by omega), if_pos (by omega)]
      show _ = eI (if k = i + 1 then _ else _)
      rw [if_pos e]
    · rw [if_neg e]
      by_cases e0 : k = 0
      · rw [if_pos e0, if_pos e0]
      · rw [if_neg e0, if_neg e0]
        by_cases e2 : k ≤ i
        · rw [if_pos e2, if_pos (by omega)]
          show _ = eI (if k = i + 1 then _ else _)
          rw [if_neg e]
        · rw [if_neg e2, if_neg (by omega)]
  · unfold f_X9_paid_b21
    dsimp only
    rw [ldA_nI (by omega) (by omega), ga_ne (by omega), hM, Option.bind_some, if_pos (nI_lt (by omega) (by omega))]
theorem T1_none : ∀ i k, k ≤ i → T1 (hfR []) i k = if k = 0 then 0 else 1000000000
  | 0, k, hk => by
    rw [if_pos (by omega)]
    rfl
  | i + 1, k, hk => by
    show (if k = i + 1 then chp (hfR []) (T1 (hfR []) i) (i + 1) 9 else T1 (hfR []) i k) = _
    by_cases e : k = i + 1
    · rw [if_pos e, if_neg (by omega)]
      rcases chp_at (hfR []) (T1 (hfR []) i) (i + 1) 9 with h | ⟨c, _, _, h3, _⟩
      · exact h
      · exact absurd rfl h3
    · rw [if_neg e]
      exact T1_none i k (by omega)
theorem byFalls_ok {μ : Mem} {q d : Nat} {pl : Nat → Nat} (x : Int32) (hq : isPl q = true) (hP : PlC μ q pl) (hO : PlOk pl) (hd : d ≤ 999) : ∃ μ1, SameC μ μ1 ∧ SameM μ μ1 ∧ f_X2_payByFalls μ q (nI d) x = if T1 (hfR (ofs pl (pl 1))) d d = 1000000000 then some (-9, μ1) else if x = 0 then some (nI (T1 (hfR (ofs pl (pl 1))) d d % 1000), μ1) else some (nI (T1 (hfR (ofs pl (pl 1))) d d / 1000), μ1) := by
  have hL := ofs_bd hO (pl 1) (Nat.le_refl _)
  refine ⟨sA (sA μ 146 (hfA (ofs pl (pl 1)) (ga μ 146))) 147 (fun k => if k ≤ d then nI (T1 (hfR (ofs pl (pl 1))) d k) else ga μ 147 k), (SameC.sA (by omega) (by omega)).tr (SameC.sA (by omega) (by omega)), (SameM.sA (by omega)).tr (SameM.sA (by omega)), ?_⟩
  unfold f_X2_payByFalls
  have hb := T1_bd (hfR (ofs pl (pl 1))) d d
  rw [gather_ok hq hP hO, Option.bind_some, show stA (sA μ 146 (hfA (ofs pl (pl 1)) (ga μ 146))) 147 1000 0 0 = some (sA (sA μ 146 (hfA (ofs pl (pl 1)) (ga μ 146))) 147 (fun k => if k ≤ 0 then nI (T1 (hfR (ofs pl (pl 1))) 0 k) else ga μ 147 k)) from ?_, Option.bind_some, pay15 x hd (fun c hc => by rw [ga_at]; exact if_pos hc) (fun c hc => by
    rcases hfR_at (ofs pl (pl 1)) c with h | ⟨o, h1, h2, h3⟩
    · exact Or.inl h
    · exact Or.inr (by rw [h3]; exact (hL o h1).2)), Option.bind_some, ldA_nI (by omega) (by omega), ga_at, if_pos (Nat.le_refl _), Option.bind_some]
  · by_cases e : T1 (hfR (ofs pl (pl 1))) d d = 1000000000
    · rw [if_pos e, if_pos (by rw [e]; rfl)]
    · rw [if_neg e, if_neg (show ¬ nI (T1 (hfR (ofs pl (pl 1))) d d) = 1000000000 from fun q => e ((nI_eq (b := 1000000000) (by omega) (by omega)).mp q)), show (1000 : Int32) = nI 1000 from rfl, rm_nI (by omega) (by omega) (by omega), dv_nI (by omega) (by omega) (by omega)]
      rfl
  · rw [show (0 : Int32) = nI 0 from rfl, stA_nI (by omega) (by omega), ga_ne (by omega)]
    congr 2
    funext k
    rw [upd_at]
    by_cases e : k = 0
    · rw [if_pos e, if_pos (by omega)]
      rfl
    · rw [if_neg e, if_neg (by omega)]
theorem sp_paid : Sp_paid Inv := by
  intro c μ a1 a2 hc hI
  obtain ⟨tx, len, pl, f, kn, ps, b, gf, gk, gp, tr, h1, h2, h3⟩ := id hI
  have hq := h1.1.1
  have hO := h3.2.1
  have hns := hO.1
  have triv : f_X8_paid μ a1 a2 = some (-1, μ) → f_X9_paid μ a1 a2 = some (-1, μ) → ∃ (r : Int32) (μ1 μ2 : Mem), (f_X8_paid μ a1 a2 = some (r, μ1)) ∧ (f_X9_paid μ1 a1 a2 = some (r, μ2)) ∧ Inv (c + 1) μ2 := fun q1 q2 => ⟨-1, μ, μ, q1, q2, hI.up⟩
  have in1 : ∀ m : Mem, f_X9_in m a2 0 1 = some (bi (ck a2 2)) := fun m => in_eq (N := 2) (by omega) a2 1 rfl (by decide)
  cases hk1 : ck a1 (pl 0) with
  | false =>
    refine triv ?_ ?_
    · unfold f_X8_paid
      rw [rfG_eq hq, Option.bind_some, hasStair_eq h1.2.2.1.1 hns, Option.bind_some, hk1, if_pos bi0]
    · unfold f_X9_paid
      rw [isStair_eq h2.2.1 hns, Option.bind_some, hk1, if_pos bi0]
  | true =>
    cases hk2 : ck a2 2 with
    | false =>
      refine triv ?_ ?_
      · unfold f_X8_paid
        rw [rfG_eq hq, Option.bind_some, hasStair_eq h1.2.2.1.1 hns, Option.bind_some, hk1, if_neg bi1]
        rcases int_range a2 (n := 2) (by omega) with ⟨e1, e2⟩ | ⟨e1, e2, e3⟩ | ⟨j, e1, e2, e3⟩
        · rw [if_pos e1]
        · rw [if_neg e1, if_neg (fun q => absurd (Int32.le_trans e2 q) (by decide))]
        · rw [e3] at hk2; cases hk2
      · unfold f_X9_paid
        rw [isStair_eq h2.2.1 hns, Option.bind_some, hk1, if_neg bi1, in1, hk2, Option.bind_some, if_pos bi0]
    | true =>
      obtain ⟨s, hs, rfl⟩ := ck_nat hk1 (by omega)
      obtain ⟨w, hw, rfl⟩ := ck_nat hk2 (by omega)
      have hf := h3.2.2.1.1.1 s (by omega)
      have hL := ofs_bd hO (pl 1) (Nat.le_refl _)
      obtain ⟨μ1, sC, sM, e8⟩ := byFalls_ok (d := f s) (if nI w = 0 then 1 else 0) hq h1.2.2.1 hO hf
      have c8 : f_X8_paid μ (nI s) (nI w) = f_X2_payByFalls μ (gpl μ) (nI (f s)) (if nI w = 0 then 1 else 0) := by
        unfold f_X8_paid
        rw [rfG_eq hq, Option.bind_some, hasStair_eq h1.2.2.1.1 hns, Option.bind_some, hk1, if_neg bi1, if_neg (nI_pos (by omega)), if_pos (show nI w ≤ 1 from nI_le (a := w) (b := 1) (by omega) (by omega)), Option.bind_some, ldA_nI (show s < 7 by omega) (by omega), show ga μ 5 s = nI (f s) from h1.2.2.2.1.1.1 s hs, Option.bind_some]
        unfold f_X8_paid_j51
        split <;> (cases f_X2_payByFalls μ (gpl μ) (nI (f s)) _ <;> rfl)
      have i2 := h2.same sM
      have gM := i2.2.2.1.1 s (by omega)
      rw [Nat.zero_add] at gM
      have c9 : f_X9_paid μ1 (nI s) (nI w) = if 0 < f s ∧ pl 1 = 0 then some (-9, sA μ1 196 (bilA (ofs pl (pl 1)) (ga μ1 196) (f s))) else f_X9_paid_j225 (sA μ1 196 (bilA (ofs pl (pl 1)) (ga μ1 196) (f s))) (nI s) (nI w) := by
        unfold f_X9_paid
        rw [isStair_eq i2.2.1 hns, Option.bind_some, hk1, if_neg bi1, in1, hk2, Option.bind_some, if_neg bi1, ref21 (nI w) i2.2.1 gM (by omega) hf i2.2.2.2.2.2 hO, Option.bind_some, ldA_nI (by omega) (by omega), ga_ne (by omega), gM, Option.bind_some]
        by_cases e : f s = 0
        · rw [if_pos (by rw [e]; decide), if_neg (by omega)]
        · rw [if_neg (show ¬ nI (f s) ≤ 0 from nI_nle (by omega) (by omega)), show (1 : Int32) = nI 1 from rfl, ldA_nI (by omega) (by omega), ga_ne (by omega), i2.2.1 1 (by omega), Option.bind_some]
          by_cases e2 : pl 1 = 0
          · rw [if_pos (by rw [e2]; decide), if_pos ⟨by omega, e2⟩]
          · have := hO.2.1
            rw [if_neg (nI_ne0 (by omega) (by omega)), if_neg (by omega)]
      have sC2 : SameC μ (sA μ1 196 (bilA (ofs pl (pl 1)) (ga μ1 196) (f s))) := sC.tr (SameC.sA (by omega) (by omega))
      have sM2 : SameM μ (sA μ1 196 (bilA (ofs pl (pl 1)) (ga μ1 196) (f s))) := sM.tr ⟨rfl, rfl, ga_ne (by omega), ga_ne (by omega), ga_ne (by omega), ga_ne (by omega), ga_ne (by omega), by rw [ga_at, i2.2.2.2.2.2]; rfl⟩
      have inv2 := hI.same sC2 sM2
      have hw0 : nI w = 0 ↔ w = 0 := nI_eq (b := 0) (by omega) (by omega)
      have j225 : ∀ B, B < 2147483648 → bilA (ofs pl (pl 1)) (ga μ1 196) (f s) (f s) = nI B → f_X9_paid_j225 (sA μ1 196 (bilA (ofs pl (pl 1)) (ga μ1 196) (f s))) (nI s) (nI w) = if nI w = 0 then some (nI (B / 10000), sA μ1 196 (bilA (ofs pl (pl 1)) (ga μ1 196) (f s))) else some (nI (B % 10000), sA μ1 196 (bilA (ofs pl (pl 1)) (ga μ1 196) (f s))) := by
        intro B hB e
        unfold f_X9_paid_j225
        rw [ldA_nI (by omega) (by omega), ga_ne (by omega), gM, Option.bind_some, Option.bind_some, ldA_nI (by omega) (by omega), ga_at, e, Option.bind_some, Option.bind_some, show (10000 : Int32) = nI 10000 from rfl, rm_nI hB (by omega) (by omega), dv_nI hB (by omega) (by omega)]
        rfl
      by_cases hn : 0 < f s ∧ pl 1 = 0
      · refine ⟨-9, μ1, _, ?_, ?_, inv2⟩
        · rw [c8, e8, if_pos]
          rw [hn.2]
          exact (T1_none (f s) (f s) (Nat.le_refl _)).trans (if_neg (by omega))
        · rw [c9, if_pos hn]
      · have key : ∃ H U, T1 (hfR (ofs pl (pl 1))) (f s) (f s) = 1000 * H + U ∧ bilA (ofs pl (pl 1)) (ga μ1 196) (f s) (f s) = nI (10000 * H + U) ∧ U ≤ f s ∧ H ≤ 18 * f s := by
          by_cases e : f s = 0
          · rw [e]
            exact ⟨0, 0, rfl, rfl, by omega, by omega⟩
          · obtain ⟨H, U, k1, k2, k3, k4, k5⟩ := T12 hL (ofs_one (pl 1) (by omega)) (f s) hf (f s) (Nat.le_refl _)
            refine ⟨H, U, k1, ?_, k3, k4⟩
            unfold bilA
            rw [if_neg e, if_pos (Nat.le_refl _), k2, eI_pos (by have := k5 e; omega)]
        obtain ⟨H, U, k1, k2, k3, k4⟩ := key
        have z1 : (1000 * H + U) % 1000 = U := by omega
        have z2 : (1000 * H + U) / 1000 = H := by omega
        have z3 : (10000 * H + U) % 10000 = U := by omega
        have z4 : (10000 * H + U) / 10000 = H := by omega
        refine ⟨if nI w = 0 then nI H else nI U, μ1, _, ?_, ?_, inv2⟩
        · rw [c8, e8, k1, if_neg (by omega), z1, z2]
          by_cases e : nI w = 0
          · rw [if_pos e, if_neg (by decide), if_pos e]
          · rw [if_neg e, if_pos rfl, if_neg e]
        · rw [c9, if_neg hn, j225 _ (by omega) k2, z3, z4]
          by_cases e : nI w = 0
          · rw [if_pos e, if_pos e]
          · rw [if_neg e, if_neg e]

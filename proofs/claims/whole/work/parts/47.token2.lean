/-! the text: the reference's tokens, and both together -/
theorem skip9 {M : Mem} {tx : Nat → Nat} {len p s : Nat} (hT : Tx9 M tx len) (hl : len ≤ 200) (hb : ∀ i, i < len → tx i ≤ 255) (hp : gi M 186 8 = nI p) (h1 : p ≤ s) (h2 : s ≤ len) (h3 : ∀ i, p ≤ i → i < s → tx i = 32) (h4 : s < len → tx s ≠ 32) : ∃ z, iter gFU f_X9_token_b0 M = some z ∧ C9 M z ∧ gi z 186 8 = nI s := by
  refine iter_rule (v := M) (fun (i : Nat) (v : Mem) => C9 M v ∧ gi v 186 8 = nI (p + i)) (fun z => C9 M z ∧ gi z 186 8 = nI s) (s - p) (by omega) ?_ ⟨C9.rf M, hp⟩
  rintro i v hi ⟨c1, c2⟩
  have hv := c1.tx hT
  unfold f_X9_token_b0
  rw [c2]
  by_cases e : p + i < len
  · have hbi := hb (p + i) e
    rw [byteAt_in hv hl e, Option.bind_some]
    by_cases w : p + i < s
    · rw [h3 (p + i) (by omega) w, if_pos (show nI 32 = 32 from rfl), stI_eq, Option.bind_some, nI_1]
      exact Or.inl ⟨by omega, _, rfl, c1.si (by omega) (by omega), by rw [gi_si, if_pos ⟨rfl, rfl⟩]; rfl⟩
    · have es : p + i = s := by omega
      rw [if_neg (show ¬ nI (tx (p + i)) = 32 from fun z => by rw [es] at z e; exact h4 e ((nI_eq (b := 32) (by have := hb s e; omega) (by omega)).mp z))]
      exact Or.inr ⟨v, rfl, c1, by rw [c2, es]⟩
  · rw [byteAt_out hv (by omega) (by omega), Option.bind_some, if_neg (by decide)]
    exact Or.inr ⟨v, rfl, c1, by rw [c2, show p + i = s by omega]⟩
theorem other9 {M : Mem} {k : Nat} (x : Int32) (hk : gi M 186 9 = nI k) (h1 : k ≠ 1) (h2 : k ≠ 2) (h4 : k ≤ 4) : f_X9_token_j110 M x = some M := by
  unfold f_X9_token_j110
  have n1 : ¬ nI k = 1 := fun z => h1 ((nI_eq (b := 1) (by omega) (by omega)).mp z)
  have n2 : ¬ nI k = 2 := fun z => h2 ((nI_eq (b := 2) (by omega) (by omega)).mp z)
  rw [iter_done (e := M) (by unfold f_X9_token_b110; rw [hk, if_neg n1]), Option.bind_some]
  unfold f_X9_token_j150
  rw [hk, if_neg n2]
theorem word9 {M : Mem} {tx : Nat → Nat} {len s e : Nat} (x : Int32) (hT : Tx9 M tx len) (hl : len ≤ 200) (hb : ∀ i, i < len → tx i ≤ 255) (hp : gi M 186 8 = nI (s + 1)) (hk : gi M 186 9 = nI 1) (hs : gi M 186 10 = nI s) (h5 : gi M 186 11 = nI (tx s)) (h1 : s < e) (h2 : e ≤ len) (h3 : ∀ i, s ≤ i → i < e → isL (tx i) = true) (h4 : e < len → isL (tx e) = false) : ∃ z, f_X9_token_j110 M x = some z ∧ C9 M z ∧ gi z 186 8 = nI e ∧ gi z 186 9 = nI 1 ∧ gi z 186 10 = nI s ∧ gi z 186 11 = if e = s + 1 then nI (tx s) else 0 := by
  unfold f_X9_token_j110
  obtain ⟨z, z1, z2, z3, z4, z5, z6⟩ := iter_rule (B := f_X9_token_b110 x) (v := M) (fun (i : Nat) (v : Mem) => C9 M v ∧ gi v 186 8 = nI (s + 1 + i) ∧ gi v 186 9 = nI 1 ∧ gi v 186 10 = nI s ∧ gi v 186 11 = if i = 0 then nI (tx s) else 0) (fun z => C9 M z ∧ gi z 186 8 = nI e ∧ gi z 186 9 = nI 1 ∧ gi z 186 10 = nI s ∧ gi z 186 11 = if e = s + 1 then nI (tx s) else 0) (e - (s + 1)) (by omega) (by
    rintro i v hi ⟨c1, c2, c3, c4, c5⟩
    have hv := c1.tx hT
    unfold f_X9_token_b110
    rw [c3, if_pos (show nI 1 = 1 from rfl), c2]
    have fin : s + 1 + i = e → gi v 186 11 = if e = s + 1 then nI (tx s) else 0 := by
      intro w
      rw [c5]
      by_cases q : i = 0
      · rw [if_pos q, if_pos (by omega)]
      · rw [if_neg q, if_neg (by omega)]
    by_cases w : s + 1 + i < len
    · have hbi := hb (s + 1 + i) w
      rw [byteAt_in hv hl w, Option.bind_some, isL9 v hbi, Option.bind_some]
      by_cases w2 : s + 1 + i < e
      · rw [h3 (s + 1 + i) (by omega) w2, if_neg bi1, stI_eq, Option.bind_some, stI_eq, Option.bind_some, gi_si, if_neg (by omega), c2, nI_1]
        refine Or.inl ⟨by omega, _, rfl, (c1.si (by omega) (by omega)).si (by omega) (by omega), ?_, ?_, ?_, ?_⟩
        · rw [gi_si, if_pos ⟨rfl, rfl⟩]; rfl
        · rw [gi_si, if_neg (by omega), gi_si, if_neg (by omega)]; exact c3
        · rw [gi_si, if_neg (by omega), gi_si, if_neg (by omega)]; exact c4
        · rw [gi_si, if_neg (by omega), gi_si, if_pos ⟨rfl, rfl⟩, if_neg (by omega)]
      · have es : s + 1 + i = e := by omega
        rw [es, h4 (by omega), if_pos bi0]
        exact Or.inr ⟨v, rfl, c1, by rw [c2, es], c3, c4, fin es⟩
    · rw [byteAt_out hv (by omega) (by omega), Option.bind_some, isL9m, Option.bind_some, if_pos bi0]
      exact Or.inr ⟨v, rfl, c1, by rw [c2, show s + 1 + i = e by omega], c3, c4, fin (by omega)⟩) ⟨C9.rf M, hp, hk, hs, by rw [if_pos rfl]; exact h5⟩
  rw [z1, Option.bind_some]
  unfold f_X9_token_j150
  rw [z4, if_neg (show ¬ nI 1 = 2 by decide)]
  exact ⟨z, rfl, z2, z3, z4, z5, z6⟩
/-- the reference's number of the digits from s on: after i more of them -/
def rv (tx : Nat → Nat) (s : Nat) : Nat → Nat
  | 0 => tx s - 48
  | i + 1 => if tx s = 48 ∨ 99 < rv tx s i then 1000 else 10 * rv tx s i + tx (s + 1 + i) - 48
theorem num9 {M : Mem} {tx : Nat → Nat} {len s e : Nat} (hT : Tx9 M tx len) (hl : len ≤ 200) (hb : ∀ i, i < len → tx i ≤ 255) (hp : gi M 186 8 = nI (s + 1)) (hk : gi M 186 9 = nI 2) (hs : gi M 186 10 = nI s) (h1 : s < e) (h2 : e ≤ len) (h3 : ∀ i, s ≤ i → i < e → isD (tx i) = true) (h4 : e < len → isD (tx e) = false) (hrb : ∀ i, i < e - s → rv tx s i ≤ 1000) : ∃ z, f_X9_token_j110 M (nI (tx s)) = some z ∧ C9 M z ∧ gi z 186 8 = nI e ∧ gi z 186 9 = nI 2 ∧ gi z 186 10 = nI s ∧ gi z 186 11 = nI (rv tx s (e - (s + 1))) := by
  unfold f_X9_token_j110
  have hd0 := isD_bd (h3 s (Nat.le_refl _) h1)
  rw [iter_done (e := M) (by unfold f_X9_token_b110; rw [hk, if_neg (show ¬ nI 2 = 1 by decide)]), Option.bind_some]
  unfold f_X9_token_j150
  rw [hk, if_pos (show nI 2 = 2 from rfl), stI_eq, Option.bind_some, show nI (tx s) - 48 = nI (tx s - 48) from pk_sub (a := tx s) (b := 48) hd0.1]
  obtain ⟨z, z1, z2, z3, z4, z5, z6⟩ := iter_rule (B := f_X9_token_b166 (nI (tx s))) (v := si M 186 11 (nI (tx s - 48))) (fun (i : Nat) (v : Mem) => C9 M v ∧ gi v 186 8 = nI (s + 1 + i) ∧ gi v 186 9 = nI 2 ∧ gi v 186 10 = nI s ∧ gi v 186 11 = nI (rv tx s i)) (fun z => C9 M z ∧ gi z 186 8 = nI e ∧ gi z 186 9 = nI 2 ∧ gi z 186 10 = nI s ∧ gi z 186 11 = nI (rv tx s (e - (s + 1)))) (e - (s + 1)) (by omega) (by
    rintro i v hi ⟨c1, c2, c3, c4, c5⟩
    have hv := c1.tx hT
    have hr := hrb i (by omega)
    unfold f_X9_token_b166
    rw [c2]
    by_cases w : s + 1 + i < len
    · have hbi := hb (s + 1 + i) w
      rw [byteAt_in hv hl w, Option.bind_some, isD9 v hbi, Option.bind_some]
      by_cases w2 : s + 1 + i < e
      · have hd := isD_bd (h3 (s + 1 + i) (by omega) w2)
        have stp : ∀ y : Nat, y = rv tx s (i + 1) → ∃ v2, ((stI v 186 11 (nI y)).bind fun m27 => (stI m27 186 8 (gi m27 186 8 + 1)).bind fun m28 => some (Sum.inl m28)) = (some (Sum.inl v2) : Option (Mem ⊕ Mem)) ∧ C9 M v2 ∧ gi v2 186 8 = nI (s + 1 + (i + 1)) ∧ gi v2 186 9 = nI 2 ∧ gi v2 186 10 = nI s ∧ gi v2 186 11 = nI (rv tx s (i + 1)) := by
          intro y hy
          rw [stI_eq, Option.bind_some, stI_eq, Option.bind_some, gi_si, if_neg (by omega), c2, nI_1, hy]
          refine ⟨_, rfl, (c1.si (by omega) (by omega)).si (by omega) (by omega), ?_, ?_, ?_, ?_⟩
          · rw [gi_si, if_pos ⟨rfl, rfl⟩]; rfl
          · rw [gi_si, if_neg (by omega), gi_si, if_neg (by omega)]; exact c3
          · rw [gi_si, if_neg (by omega), gi_si, if_neg (by omega)]; exact c4
          · rw [gi_si, if_neg (by omega), gi_si, if_pos ⟨rfl, rfl⟩]
        have er : rv tx s (i + 1) = if tx s = 48 ∨ 99 < rv tx s i then 1000 else 10 * rv tx s i + tx (s + 1 + i) - 48 := rfl
        rw [h3 (s + 1 + i) (by omega) w2, if_neg bi1]
        refine Or.inl ⟨by omega, ?_⟩
        by_cases q1 : tx s = 48
        · rw [if_pos (show nI (tx s) = 48 by rw [q1]; rfl)]
          exact stp 1000 (by rw [er, if_pos (Or.inl q1)])
        · rw [if_neg (show ¬ nI (tx s) = 48 from fun z => q1 ((nI_eq (b := 48) (by omega) (by omega)).mp z)), c5]
          by_cases q2 : 99 < rv tx s i
          · rw [if_neg (show ¬ nI (rv tx s i) ≤ 99 from nI_ge (a := 99) q2 (by omega))]
            exact stp 1000 (by rw [er, if_pos (Or.inr q2)])
          · rw [if_pos (show nI (rv tx s i) ≤ 99 from nI_le (b := 99) (by omega) (by omega)), ldA_nI (by omega) (by omega), hv.2 _ w, Option.bind_some, show (10 : Int32) = nI 10 from rfl, pk_mul, nI_add, show (48 : Int32) = nI 48 from rfl, pk_sub (by omega)]
            exact stp _ (by rw [er, if_neg (fun z => by rcases z with z | z; exact q1 z; exact q2 z)])
      · have es : s + 1 + i = e := by omega
        rw [es, h4 (by omega), if_pos bi0]
        exact Or.inr ⟨v, rfl, c1, by rw [c2, es], c3, c4, by rw [c5, show e - (s + 1) = i by omega]⟩
    · rw [byteAt_out hv (by omega) (by omega), Option.bind_some, isD9m, Option.bind_some, if_pos bi0]
      exact Or.inr ⟨v, rfl, c1, by rw [c2, show s + 1 + i = e by omega], c3, c4, by rw [c5, show e - (s + 1) = i by omega]⟩) ⟨(C9.rf M).si (by omega) (by omega), by rw [gi_si, if_neg (by omega)]; exact hp, by rw [gi_si, if_neg (by omega)]; exact hk, by rw [gi_si, if_neg (by omega)]; exact hs, by rw [gi_si, if_pos ⟨rfl, rfl⟩]; rfl⟩
  rw [z1, Option.bind_some]
  exact ⟨z, rfl, z2, z3, z4, z5, z6⟩
theorem cvrv {tx : Nat → Nat} {s e : Nat} (h1 : s < e) (h3 : ∀ i, s ≤ i → i < e → isD (tx i) = true) (h48 : tx s ≠ 48) : ∀ i, s + i < e → (cv tx s (i + 1) ≤ 99 ∧ rv tx s i = cv tx s (i + 1)) ∨ (cv tx s (i + 1) = 100 ∧ 100 ≤ rv tx s i ∧ rv tx s i ≤ 1000)
  | 0, hi => by
    have hd := isD_bd (h3 s (Nat.le_refl _) h1)
    show (min 100 (0 * 10 + tx (s + 0) - 48) ≤ 99 ∧ tx s - 48 = min 100 (0 * 10 + tx (s + 0) - 48)) ∨ _
    rw [Nat.add_zero]
    exact Or.inl ⟨by omega, by omega⟩
  | i + 1, hi => by
    have hd := isD_bd (h3 (s + (i + 1)) (by omega) hi)
    have e1 : cv tx s (i + 1 + 1) = min 100 (cv tx s (i + 1) * 10 + tx (s + (i + 1)) - 48) := rfl
    have e2 : rv tx s (i + 1) = if tx s = 48 ∨ 99 < rv tx s i then 1000 else 10 * rv tx s i + tx (s + (i + 1)) - 48 := by
      show (if tx s = 48 ∨ 99 < rv tx s i then 1000 else 10 * rv tx s i + tx (s + 1 + i) - 48) = _
      rw [show s + 1 + i = s + (i + 1) by omega]
    rw [e1, e2]
    rcases cvrv h1 h3 h48 i (by omega) with ⟨k1, k2⟩ | ⟨k1, k2, k3⟩
    · rw [if_neg (fun z => by rcases z with z | z; exact h48 z; omega), k2]
      by_cases w : cv tx s (i + 1) * 10 + tx (s + (i + 1)) - 48 ≤ 99
      · exact Or.inl ⟨by omega, by omega⟩
      · exact Or.inr ⟨by omega, by omega, by omega⟩
    · rw [if_pos (Or.inr (by omega)), k1]
      exact Or.inr ⟨by omega, by omega, by omega⟩
/-- what the values of a token have to do with one another -/
def VRel (k : Nat) (c r : Int32) : Prop := (k = 1 → c = r ∨ (c = -1 ∧ r = 0)) ∧ (k = 2 → (∃ x, x ≤ 99 ∧ c = nI x ∧ r = nI x) ∨ (c = -1 ∧ ∃ y, 100 ≤ y ∧ y ≤ 1000 ∧ r = nI y))
theorem tok_ex {m m9 : Mem} {tx : Nat → Nat} {len p : Nat} (hT : Tx1 m tx len) (hT9 : Tx9 m9 tx len) (hl : len ≤ 200) (hb : ∀ i, i < len → tx i ≤ 255) (hp : gi m 1 2 = nI p) (hp9 : gi m9 186 8 = nI p) (hpl : p ≤ len) : ∃ (s k e : Nat) (c r : Int32) (z z9 : Mem), f_X4_nextToken m = some z ∧ f_X9_token m9 = some z9 ∧ (C1 m z ∧ gi z 1 2 = nI e ∧ gi z 1 3 = nI s ∧ gi z 1 4 = nI k ∧ gi z 1 5 = c) ∧ (C9 m9 z9 ∧ gi z9 186 8 = nI e ∧ gi z9 186 9 = nI k ∧ gi z9 186 10 = nI s ∧ gi z9 186 11 = r) ∧ p ≤ s ∧ s ≤ e ∧ e ≤ len ∧ k ≤ 4 ∧ (k ≠ 0 → s < e) ∧ VRel k c r := by
  obtain ⟨s, s1, s2, s3, s4⟩ := run_ex (fun i => decide (tx i = 32)) len _ p rfl hpl
  have s3' : ∀ i, p ≤ i → i < s → tx i = 32 := fun i a b => of_decide_eq_true (s3 i a b)
  have s4' : s < len → tx s ≠ 32 := fun a => of_decide_eq_false (s4 a)
  obtain ⟨y, y1, y2, y3⟩ := skip1 hT hl hb hp s1 s2 s3' s4'
  obtain ⟨w, w1, w2, w3⟩ := skip9 hT9 hl hb hp9 s1 s2 s3' s4'
  unfold f_X4_nextToken f_X9_token
  rw [y1, w1, Option.bind_some, Option.bind_some]
  unfold f_X4_nextToken_j38
  rw [show stI y 1 3 (gi y 1 2) = some (si y 1 3 (nI s)) by rw [stI_eq, y3], Option.bind_some, show stI (si y 1 3 (nI s)) 1 5 (-1) = some (si (si y 1 3 (nI s)) 1 5 (-1)) by rw [stI_eq], Option.bind_some, show stI w 186 10 (gi w 186 8) = some (si w 186 10 (nI s)) by rw [stI_eq, w3], Option.bind_some]
  generalize hM : si (si y 1 3 (nI s)) 1 5 (-1) = M
  generalize hN : si w 186 10 (nI s) = N
  have M1 : C1 m M := by rw [← hM]; exact (y2.si (by omega) (by omega)).si (by omega) (by omega)
  have M2 : gi M 1 2 = nI s := by rw [← hM, gi_si, if_neg (by omega), gi_si, if_neg (by omega)]; exact y3
  have M3 : gi M 1 3 = nI s := by rw [← hM, gi_si, if_neg (by omega), gi_si, if_pos ⟨rfl, rfl⟩]
  have M5 : gi M 1 5 = -1 := by rw [← hM, gi_si, if_pos ⟨rfl, rfl⟩]
  have N1 : C9 m9 N := by rw [← hN]; exact w2.si (by omega) (by omega)
  have N8 : gi N 186 8 = nI s := by rw [← hN, gi_si, if_neg (by omega)]; exact w3
  have N10 : gi N 186 10 = nI s := by rw [← hN, gi_si, if_pos ⟨rfl, rfl⟩]
  have MT := M1.tx hT
  have NT := N1.tx hT9
  -- the reference once its kind is known
  have j85 : ∀ (k : Nat) (x : Int32), k ≤ 4 → ∃ O, C9 m9 O ∧ gi O 186 8 = nI (if k = 0 then s else s + 1) ∧ gi O 186 9 = nI k ∧ gi O 186 10 = nI s ∧ gi O 186 11 = x ∧ f_X9_token_j85 N x (nI k) = f_X9_token_j110 O x := by
    intro k x hk
    unfold f_X9_token_j85
    rw [stI_eq, Option.bind_some, stI_eq, Option.bind_some]
    have g9 : gi (si (si N 186 9 (nI k)) 186 11 x) 186 9 = nI k := by rw [gi_si, if_neg (by omega), gi_si, if_pos ⟨rfl, rfl⟩]
    have g8 : gi (si (si N 186 9 (nI k)) 186 11 x) 186 8 = nI s := by rw [gi_si, if_neg (by omega), gi_si, if_neg (by omega)]; exact N8
    have g10 : gi (si (si N 186 9 (nI k)) 186 11 x) 186 10 = nI s := by rw [gi_si, if_neg (by omega), gi_si, if_neg (by omega)]; exact N10
    have g11 : gi (si (si N 186 9 (nI k)) 186 11 x) 186 11 = x := by rw [gi_si, if_pos ⟨rfl, rfl⟩]
    have gC : C9 m9 (si (si N 186 9 (nI k)) 186 11 x) := (N1.si (by omega) (by omega)).si (by omega) (by omega)
    rw [g9]
    by_cases q : k = 0
    · rw [if_pos (show nI k = 0 by rw [q]; rfl), if_pos q]
      exact ⟨_, gC, g8, g9, g10, g11, rfl⟩
    · rw [if_neg (show ¬ nI k = 0 from fun z => q ((nI_eq (b := 0) (by omega) (by omega)).mp z)), if_neg q, stI_eq, Option.bind_some, g8, nI_1]
      exact ⟨_, gC.si (by omega) (by omega), by rw [gi_si, if_pos ⟨rfl, rfl⟩], by rw [gi_si, if_neg (by omega)]; exact g9, by rw [gi_si, if_neg (by omega)]; exact g10, by rw [gi_si, if_neg (by omega)]; exact g11, rfl⟩
  rw [M2, MT.1, N8]
  by_cases hs : s < len
  · have hbs := hb s hs
    rw [if_pos (nI_lt hs (by omega)), ldA_nI (by omega) (by omega), MT.2 s hs, Option.bind_some, isL4 M hbs, Option.bind_some, byteAt_in NT hl hs, Option.bind_some, Option.bind_some, Option.bind_some, if_pos (nI_pos' (n := tx s) (by omega)), isL9 N hbs, Option.bind_some]
    cases hL : isL (tx s) with
    | true =>
      obtain ⟨e, e1, e2, e3, e4⟩ := run_ex (fun i => isL (tx i)) len _ s rfl s2
      have hse : s < e := by
        by_cases q : s = e
        · have := e4 (by omega)
          rw [← q] at this
          simp [hL] at this
        · omega
      rw [if_neg bi1, if_neg bi1]
      obtain ⟨z, z1, z2, z3, z4, z5, z6⟩ := word1 MT hl hb M2 M3 M5 hse e2 e3 e4
      obtain ⟨O, o1, o2, o3, o4, o5, o6⟩ := j85 1 (nI (tx s)) (by omega)
      obtain ⟨x, x1, x2, x3, x4, x5, x6⟩ := word9 (nI (tx s)) (o1.tx hT9) hl hb o2 o3 o4 o5 hse e2 e3 e4
      rw [z1, Option.bind_some, show f_X9_token_j85 N (nI (tx s)) 1 = f_X9_token_j85 N (nI (tx s)) (nI 1) from rfl, o6, x1]
      refine ⟨s, 1, e, _, _, z, x, rfl, rfl, ⟨M1.tr z2, z3, z4, z5, z6⟩, ⟨o1.tr x2, x3, x4, x5, x6⟩, s1, by omega, e2, by omega, fun _ => hse, fun _ => ?_, fun q => by omega⟩
      by_cases q : e = s + 1
      · rw [if_pos q, if_pos q]; exact Or.inl rfl
      · rw [if_neg q, if_neg q]; exact Or.inr ⟨rfl, rfl⟩
    | false =>
      rw [if_pos bi0, if_pos bi0, isD4 M hbs, Option.bind_some, isD9 N hbs, Option.bind_some]
      cases hD : isD (tx s) with
      | true =>
        obtain ⟨e, e1, e2, e3, e4⟩ := run_ex (fun i => isD (tx i)) len _ s rfl s2
        have hse : s < e := by
          by_cases q : s = e
          · have := e4 (by omega)
            rw [← q] at this
            simp [hD] at this
          · omega
        rw [if_neg bi1, if_neg bi1]
        have hd0 := isD_bd hD
        have hrb : ∀ i, i < e - s → rv tx s i ≤ 1000 := by
          intro i hi
          by_cases q : tx s = 48
          · cases i with
            | zero => show tx s - 48 ≤ 1000; omega
            | succ i =>
              show (if tx s = 48 ∨ 99 < rv tx s i then 1000 else 10 * rv tx s i + tx (s + 1 + i) - 48) ≤ 1000
              rw [if_pos (Or.inl q)]
              omega
          · rcases cvrv hse e3 q i (by omega) with ⟨k1, k2⟩ | ⟨k1, k2, k3⟩
            · omega
            · omega
        obtain ⟨z, z1, z2, z3, z4, z5, z6⟩ := num1 MT hl hb M2 M3 hse e2 e3 e4
        obtain ⟨O, o1, o2, o3, o4, o5, o6⟩ := j85 2 (nI (tx s)) (by omega)
        obtain ⟨x, x1, x2, x3, x4, x5, x6⟩ := num9 (o1.tx hT9) hl hb o2 o3 o4 hse e2 e3 e4 hrb
        rw [z1, Option.bind_some, show f_X9_token_j85 N (nI (tx s)) 2 = f_X9_token_j85 N (nI (tx s)) (nI 2) from rfl, o6, x1]
        refine ⟨s, 2, e, _, _, z, x, rfl, rfl, ⟨M1.tr z2, z3, z4, z5, z6⟩, ⟨o1.tr x2, x3, x4, x5, x6⟩, s1, by omega, e2, by omega, fun _ => hse, fun q => by omega, fun _ => ?_⟩
        by_cases q : tx s = 48
        · by_cases q2 : s + 1 < e
          · rw [if_pos (Or.inl ⟨q, q2⟩)]
            refine Or.inr ⟨rfl, 1000, by omega, by omega, ?_⟩
            obtain ⟨d, hd⟩ : ∃ d, e - (s + 1) = d + 1 := ⟨e - (s + 1) - 1, by omega⟩
            rw [hd]
            show nI (if tx s = 48 ∨ 99 < rv tx s d then 1000 else 10 * rv tx s d + tx (s + 1 + d) - 48) = _
            rw [if_pos (Or.inl q)]
          · have he : e = s + 1 := by omega
            have ec : cv tx s (e - s) = 0 := by
              rw [he, show s + 1 - s = 0 + 1 by omega]
              show min 100 (0 * 10 + tx (s + 0) - 48) = 0
              rw [Nat.add_zero, q]
              rfl
            rw [if_neg (fun z => by rcases z with z | z; exact q2 z.2; omega), ec, show e - (s + 1) = 0 by omega]
            refine Or.inl ⟨0, by omega, rfl, ?_⟩
            show nI (tx s - 48) = nI 0
            rw [q]
        · rcases cvrv hse e3 q (e - (s + 1)) (by omega) with ⟨k1, k2⟩ | ⟨k1, k2, k3⟩
          · rw [show e - (s + 1) + 1 = e - s by omega] at k1 k2
            rw [if_neg (fun z => by rcases z with z | z; exact q z.1; omega), k2]
            exact Or.inl ⟨_, k1, rfl, rfl⟩
          · rw [show e - (s + 1) + 1 = e - s by omega] at k1
            rw [if_pos (Or.inr (by omega))]
            exact Or.inr ⟨rfl, _, k2, k3, rfl⟩
      | false =>
        rw [if_pos bi0, if_pos bi0]
        have mk : ∀ k, k ≤ 4 → k ≠ 0 → k ≠ 1 → k ≠ 2 → ∃ (s' k' e : Nat) (c r : Int32) (z z9 : Mem), ((stI M 1 4 (nI k)).bind fun m14 => (stI m14 1 2 (gi m14 1 2 + 1)).bind fun m15 => some m15) = some z ∧ f_X9_token_j85 N (nI (tx s)) (nI k) = some z9 ∧ (C1 m z ∧ gi z 1 2 = nI e ∧ gi z 1 3 = nI s' ∧ gi z 1 4 = nI k' ∧ gi z 1 5 = c) ∧ (C9 m9 z9 ∧ gi z9 186 8 = nI e ∧ gi z9 186 9 = nI k' ∧ gi z9 186 10 = nI s' ∧ gi z9 186 11 = r) ∧ p ≤ s' ∧ s' ≤ e ∧ e ≤ len ∧ k' ≤ 4 ∧ (k' ≠ 0 → s' < e) ∧ VRel k' c r := by
          intro k hk h0 h1 h2
          obtain ⟨O, o1, o2, o3, o4, o5, o6⟩ := j85 k (nI (tx s)) hk
          rw [if_neg h0] at o2
          rw [stI_eq, Option.bind_some, stI_eq, Option.bind_some, gi_si, if_neg (by omega), M2, nI_1, o6, other9 _ o3 h1 h2 hk]
          refine ⟨s, k, s + 1, -1, nI (tx s), _, O, rfl, rfl, ⟨(M1.si (by omega) (by omega)).si (by omega) (by omega), ?_, ?_, ?_, ?_⟩, ⟨o1, o2, o3, o4, o5⟩, s1, by omega, by omega, hk, fun _ => by omega, fun q => absurd q h1, fun q => absurd q h2⟩
          · rw [gi_si, if_pos ⟨rfl, rfl⟩]
          · rw [gi_si, if_neg (by omega), gi_si, if_neg (by omega)]; exact M3
          · rw [gi_si, if_neg (by omega), gi_si, if_pos ⟨rfl, rfl⟩]
          · rw [gi_si, if_neg (by omega), gi_si, if_neg (by omega)]; exact M5
        by_cases q : tx s = 59
        · rw [if_pos (show nI (tx s) = 59 by rw [q]; rfl), if_pos (show nI (tx s) = 59 by rw [q]; rfl)]
          exact mk 3 (by omega) (by omega) (by omega) (by omega)
        · have nq : ¬ nI (tx s) = 59 := fun z => q ((nI_eq (b := 59) (by omega) (by omega)).mp z)
          rw [if_neg nq, if_neg nq]
          exact mk 4 (by omega) (by omega) (by omega) (by omega)
  · have hsl : s = len := by omega
    rw [if_neg (nI_nlt (by omega) (by omega)), byteAt_out NT (by omega) (by omega), Option.bind_some, if_neg (by decide), stI_eq, Option.bind_some]
    obtain ⟨O, o1, o2, o3, o4, o5, o6⟩ := j85 0 (-1) (by omega)
    rw [if_pos rfl] at o2
    rw [show f_X9_token_j85 N (-1) 0 = f_X9_token_j85 N (-1) (nI 0) from rfl, o6, other9 _ o3 (by omega) (by omega) (by omega)]
    refine ⟨s, 0, s, -1, -1, _, O, rfl, rfl, ⟨M1.si (by omega) (by omega), ?_, ?_, ?_, ?_⟩, ⟨o1, o2, o3, o4, o5⟩, s1, by omega, by omega, by omega, fun q => by omega, fun q => by omega, fun q => by omega⟩
    · rw [gi_si, if_neg (by omega)]; exact M2
    · rw [gi_si, if_neg (by omega)]; exact M3
    · rw [gi_si, if_pos ⟨rfl, rfl⟩]; rfl
    · rw [gi_si, if_neg (by omega)]; exact M5

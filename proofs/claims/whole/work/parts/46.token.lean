/-! the text: tokens on both sides -/
def C1 (M v : Mem) : Prop := v.2 = M.2 ∧ (∀ k, k ≠ 1 → gi v k = gi M k) ∧ ∀ j, (j < 2 ∨ 5 < j) → gi v 1 j = gi M 1 j
def C9 (M v : Mem) : Prop := v.2 = M.2 ∧ (∀ k, k ≠ 186 → gi v k = gi M k) ∧ ∀ j, (j < 8 ∨ 11 < j) → gi v 186 j = gi M 186 j
theorem C1.rf (M : Mem) : C1 M M := ⟨rfl, fun _ _ => rfl, fun _ _ => rfl⟩
theorem C9.rf (M : Mem) : C9 M M := ⟨rfl, fun _ _ => rfl, fun _ _ => rfl⟩
theorem C1.tr {a b c : Mem} (h : C1 a b) (h2 : C1 b c) : C1 a c := ⟨h2.1.trans h.1, fun k hk => (h2.2.1 k hk).trans (h.2.1 k hk), fun j hj => (h2.2.2 j hj).trans (h.2.2 j hj)⟩
theorem C9.tr {a b c : Mem} (h : C9 a b) (h2 : C9 b c) : C9 a c := ⟨h2.1.trans h.1, fun k hk => (h2.2.1 k hk).trans (h.2.1 k hk), fun j hj => (h2.2.2 j hj).trans (h.2.2 j hj)⟩
theorem C1.si {M v : Mem} {j : Nat} {x : Int32} (h : C1 M v) (h1 : 2 ≤ j) (h2 : j ≤ 5) : C1 M (si v 1 j x) := by
  refine ⟨h.1, fun k hk => ?_, fun i hi => ?_⟩
  · funext i
    rw [gi_si, if_neg (fun z => hk z.1), h.2.1 k hk]
  · rw [gi_si, if_neg (fun z => by omega), h.2.2 i hi]
theorem C9.si {M v : Mem} {j : Nat} {x : Int32} (h : C9 M v) (h1 : 8 ≤ j) (h2 : j ≤ 11) : C9 M (si v 186 j x) := by
  refine ⟨h.1, fun k hk => ?_, fun i hi => ?_⟩
  · funext i
    rw [gi_si, if_neg (fun z => hk z.1), h.2.1 k hk]
  · rw [gi_si, if_neg (fun z => by omega), h.2.2 i hi]
theorem ga_of {M v : Mem} (h : v.2 = M.2) (k : Nat) : ga v k = ga M k := by
  unfold ga
  rw [h]
def Tx1 (m : Mem) (tx : Nat → Nat) (len : Nat) : Prop := gi m 1 1 = nI len ∧ ∀ i, i < len → ga m 2 i = nI (tx i)
def Tx9 (m : Mem) (tx : Nat → Nat) (len : Nat) : Prop := gi m 186 2 = nI len ∧ ∀ i, i < len → ga m 187 i = nI (tx i)
theorem C1.tx {M v : Mem} {tx : Nat → Nat} {len : Nat} (h : C1 M v) (ht : Tx1 M tx len) : Tx1 v tx len := ⟨(h.2.2 1 (by omega)).trans ht.1, fun i hi => by rw [ga_of h.1]; exact ht.2 i hi⟩
theorem C9.tx {M v : Mem} {tx : Nat → Nat} {len : Nat} (h : C9 M v) (ht : Tx9 M tx len) : Tx9 v tx len := ⟨(h.2.2 2 (by omega)).trans ht.1, fun i hi => by rw [ga_of h.1]; exact ht.2 i hi⟩
def isL (x : Nat) : Bool := decide (97 ≤ x) && decide (x ≤ 122)
def isD (x : Nat) : Bool := decide (48 ≤ x) && decide (x ≤ 57)
theorem isL4 (m : Mem) {x : Nat} (hx : x ≤ 255) : f_X4_isLetter m (nI x) = some (bi (isL x)) := by
  unfold f_X4_isLetter isL
  by_cases h : 97 ≤ x
  · rw [if_neg (show ¬ nI x < 97 from nI_nlt (b := 97) h (by omega))]
    by_cases h2 : x ≤ 122
    · rw [if_neg (show ¬ (122 : Int32) < nI x from nI_nlt (a := 122) h2 (by omega)), decide_eq_true h, decide_eq_true h2]; rfl
    · rw [if_pos (show (122 : Int32) < nI x from nI_lt (a := 122) (by omega) (by omega)), decide_eq_false h2, Bool.and_false]; rfl
  · rw [if_pos (show nI x < 97 from nI_lt (b := 97) (by omega) (by omega)), decide_eq_false h]; rfl
theorem isD4 (m : Mem) {x : Nat} (hx : x ≤ 255) : f_X4_isDigit m (nI x) = some (bi (isD x)) := by
  unfold f_X4_isDigit isD
  by_cases h : 48 ≤ x
  · rw [if_neg (show ¬ nI x < 48 from nI_nlt (b := 48) h (by omega))]
    by_cases h2 : x ≤ 57
    · rw [if_neg (show ¬ (57 : Int32) < nI x from nI_nlt (a := 57) h2 (by omega)), decide_eq_true h, decide_eq_true h2]; rfl
    · rw [if_pos (show (57 : Int32) < nI x from nI_lt (a := 57) (by omega) (by omega)), decide_eq_false h2, Bool.and_false]; rfl
  · rw [if_pos (show nI x < 48 from nI_lt (b := 48) (by omega) (by omega)), decide_eq_false h]; rfl
theorem in_nI (m : Mem) {x lo hi : Nat} (hx : x < 2147483648) (hl : lo < 2147483648) (hh : hi < 2147483648) : f_X9_in m (nI x) (nI lo) (nI hi) = some (bi (decide (lo ≤ x) && decide (x ≤ hi))) := by
  unfold f_X9_in
  by_cases h : lo ≤ x
  · rw [if_neg (nI_nlt h hx)]
    by_cases h2 : x ≤ hi
    · rw [if_neg (nI_nlt h2 hh), decide_eq_true h, decide_eq_true h2]; rfl
    · rw [if_pos (nI_lt (by omega) hx), decide_eq_false h2, Bool.and_false]; rfl
  · rw [if_pos (nI_lt (by omega) hl), decide_eq_false h]; rfl
theorem isL9 (m : Mem) {x : Nat} (hx : x ≤ 255) : f_X9_isLetter m (nI x) = some (bi (isL x)) := by
  unfold f_X9_isLetter
  rw [show (97 : Int32) = nI 97 from rfl, show (122 : Int32) = nI 122 from rfl, in_nI m (by omega) (by omega) (by omega), Option.bind_some, bz_bi]
  rfl
theorem isD9 (m : Mem) {x : Nat} (hx : x ≤ 255) : f_X9_isDigit m (nI x) = some (bi (isD x)) := by
  unfold f_X9_isDigit
  rw [show (48 : Int32) = nI 48 from rfl, show (57 : Int32) = nI 57 from rfl, in_nI m (by omega) (by omega) (by omega), Option.bind_some, bz_bi]
  rfl
theorem isL9m (m : Mem) : f_X9_isLetter m (-1) = some (bi false) := rfl
theorem isD9m (m : Mem) : f_X9_isDigit m (-1) = some (bi false) := rfl
theorem byteAt_in {m : Mem} {tx : Nat → Nat} {len p : Nat} (h : Tx9 m tx len) (hl : len ≤ 200) (hp : p < len) : f_X9_byteAt m (nI p) = some (nI (tx p)) := by
  unfold f_X9_byteAt
  rw [h.1, if_neg (nI_ge hp (by omega)), ldA_nI (by omega) (by omega), h.2 p hp, Option.bind_some]
theorem byteAt_out {m : Mem} {tx : Nat → Nat} {len p : Nat} (h : Tx9 m tx len) (hl : p ≤ 200) (hp : len ≤ p) : f_X9_byteAt m (nI p) = some (-1) := by
  unfold f_X9_byteAt
  rw [h.1, if_pos (nI_le hp (by omega))]
/-- as far as a row of such bytes goes -/
theorem run_ex (q : Nat → Bool) (len : Nat) : ∀ n p, len - p = n → p ≤ len → ∃ e, p ≤ e ∧ e ≤ len ∧ (∀ i, p ≤ i → i < e → q i = true) ∧ (e < len → q e = false)
  | 0, p, h, hp => ⟨p, Nat.le_refl _, hp, fun i h1 h2 => by omega, fun h2 => by omega⟩
  | n + 1, p, h, hp => by
    cases hq : q p with
    | false => exact ⟨p, Nat.le_refl _, hp, fun i h1 h2 => by omega, fun _ => hq⟩
    | true =>
      obtain ⟨e, h1, h2, h3, h4⟩ := run_ex q len n (p + 1) (by omega) (by omega)
      refine ⟨e, by omega, h2, fun i k1 k2 => ?_, h4⟩
      by_cases w : i = p
      · rw [w]; exact hq
      · exact h3 i (by omega) k2
/-! the class: blanks, words, numbers -/
theorem skip1 {M : Mem} {tx : Nat → Nat} {len p s : Nat} (hT : Tx1 M tx len) (hl : len ≤ 200) (hb : ∀ i, i < len → tx i ≤ 255) (hp : gi M 1 2 = nI p) (h1 : p ≤ s) (h2 : s ≤ len) (h3 : ∀ i, p ≤ i → i < s → tx i = 32) (h4 : s < len → tx s ≠ 32) : ∃ z, iter gFU f_X4_nextToken_b0 M = some z ∧ C1 M z ∧ gi z 1 2 = nI s := by
  refine iter_rule (v := M) (fun (i : Nat) (v : Mem) => C1 M v ∧ gi v 1 2 = nI (p + i)) (fun z => C1 M z ∧ gi z 1 2 = nI s) (s - p) (by omega) ?_ ⟨C1.rf M, hp⟩
  rintro i v hi ⟨c1, c2⟩
  have hv := c1.tx hT
  unfold f_X4_nextToken_b0
  rw [hv.1, c2]
  by_cases e : p + i < len
  · have hbi := hb (p + i) e
    rw [if_neg (nI_ge e (by omega)), ldA_nI (by omega) (by omega), hv.2 _ e, Option.bind_some]
    by_cases w : p + i < s
    · rw [h3 (p + i) (by omega) w, if_pos (show nI 32 = 32 from rfl), stI_eq, Option.bind_some, nI_1]
      exact Or.inl ⟨by omega, _, rfl, c1.si (by omega) (by omega), by rw [gi_si, if_pos ⟨rfl, rfl⟩]; rfl⟩
    · have es : p + i = s := by omega
      rw [if_neg (show ¬ nI (tx (p + i)) = 32 from fun z => by rw [es] at z e; exact h4 e ((nI_eq (b := 32) (by have := hb s e; omega) (by omega)).mp z))]
      exact Or.inr ⟨v, rfl, c1, by rw [c2, es]⟩
  · rw [if_pos (nI_le (by omega) (by omega))]
    exact Or.inr ⟨v, rfl, c1, by rw [c2, show p + i = s by omega]⟩
theorem word1 {M : Mem} {tx : Nat → Nat} {len s e : Nat} (hT : Tx1 M tx len) (hl : len ≤ 200) (hb : ∀ i, i < len → tx i ≤ 255) (hp : gi M 1 2 = nI s) (hs : gi M 1 3 = nI s) (h5 : gi M 1 5 = -1) (h1 : s < e) (h2 : e ≤ len) (h3 : ∀ i, s ≤ i → i < e → isL (tx i) = true) (h4 : e < len → isL (tx e) = false) : ∃ z, f_X4_takeWord M = some z ∧ C1 M z ∧ gi z 1 2 = nI e ∧ gi z 1 3 = nI s ∧ gi z 1 4 = nI 1 ∧ gi z 1 5 = if e = s + 1 then nI (tx s) else -1 := by
  unfold f_X4_takeWord
  rw [stI_eq, Option.bind_some]
  obtain ⟨z, z1, z2, z3, z4, z5, z6⟩ := iter_rule (B := f_X4_takeWord_b5) (v := si M 1 4 1) (fun (i : Nat) (v : Mem) => C1 M v ∧ gi v 1 2 = nI (s + i) ∧ gi v 1 3 = nI s ∧ gi v 1 4 = nI 1 ∧ gi v 1 5 = -1) (fun z => C1 M z ∧ gi z 1 2 = nI e ∧ gi z 1 3 = nI s ∧ gi z 1 4 = nI 1 ∧ gi z 1 5 = -1) (e - s) (by omega) (by
    rintro i v hi ⟨c1, c2, c3, c4, c5⟩
    have hv := c1.tx hT
    unfold f_X4_takeWord_b5
    rw [hv.1, c2]
    by_cases w : s + i < len
    · have hbi := hb (s + i) w
      rw [if_neg (nI_ge w (by omega)), ldA_nI (by omega) (by omega), hv.2 _ w, Option.bind_some, isL4 v hbi, Option.bind_some]
      by_cases w2 : s + i < e
      · rw [h3 (s + i) (by omega) w2, if_neg bi1, stI_eq, Option.bind_some, nI_1]
        refine Or.inl ⟨by omega, _, rfl, c1.si (by omega) (by omega), ?_, ?_, ?_, ?_⟩
        · rw [gi_si, if_pos ⟨rfl, rfl⟩]; rfl
        · rw [gi_si, if_neg (by omega)]; exact c3
        · rw [gi_si, if_neg (by omega)]; exact c4
        · rw [gi_si, if_neg (by omega)]; exact c5
      · have es : s + i = e := by omega
        rw [es, h4 (by omega), if_pos bi0]
        exact Or.inr ⟨v, rfl, c1, by rw [c2, es], c3, c4, c5⟩
    · rw [if_pos (nI_le (by omega) (by omega))]
      exact Or.inr ⟨v, rfl, c1, by rw [c2, show s + i = e by omega], c3, c4, c5⟩) ⟨(C1.rf M).si (by omega) (by omega), by rw [gi_si, if_neg (by omega)]; exact hp, by rw [gi_si, if_neg (by omega)]; exact hs, by rw [gi_si, if_pos ⟨rfl, rfl⟩]; rfl, by rw [gi_si, if_neg (by omega)]; exact h5⟩
  rw [z1, Option.bind_some]
  unfold f_X4_takeWord_j44
  have hz := z2.tx hT
  rw [z3, z4, nI_1]
  by_cases w : e = s + 1
  · rw [if_pos (by rw [w]), if_pos w, ldA_nI (by omega) (by omega), hz.2 s (by omega), Option.bind_some, stI_eq, Option.bind_some]
    exact ⟨_, rfl, z2.si (by omega) (by omega), by rw [gi_si, if_neg (by omega)]; exact z3, by rw [gi_si, if_neg (by omega)]; exact z4, by rw [gi_si, if_neg (by omega)]; exact z5, by rw [gi_si, if_pos ⟨rfl, rfl⟩]⟩
  · rw [if_neg (fun q => w ((nI_eq (by omega) (by omega)).mp q)), if_neg w]
    exact ⟨z, rfl, z2, z3, z4, z5, z6⟩
/-- the class's number of the digits from s on -/
def cv (tx : Nat → Nat) (s : Nat) : Nat → Nat
  | 0 => 0
  | i + 1 => min 100 (cv tx s i * 10 + tx (s + i) - 48)
theorem cv_le (tx : Nat → Nat) (s : Nat) : ∀ i, cv tx s i ≤ 100
  | 0 => Nat.zero_le _
  | i + 1 => by unfold cv; omega
theorem isD_bd {x : Nat} (h : isD x = true) : 48 ≤ x ∧ x ≤ 57 := by
  unfold isD at h
  simpa using h
theorem num1 {M : Mem} {tx : Nat → Nat} {len s e : Nat} (hT : Tx1 M tx len) (hl : len ≤ 200) (hb : ∀ i, i < len → tx i ≤ 255) (hp : gi M 1 2 = nI s) (hs : gi M 1 3 = nI s) (h1 : s < e) (h2 : e ≤ len) (h3 : ∀ i, s ≤ i → i < e → isD (tx i) = true) (h4 : e < len → isD (tx e) = false) : ∃ z, f_X4_takeNumber M = some z ∧ C1 M z ∧ gi z 1 2 = nI e ∧ gi z 1 3 = nI s ∧ gi z 1 4 = nI 2 ∧ gi z 1 5 = if (tx s = 48 ∧ s + 1 < e) ∨ 99 < cv tx s (e - s) then -1 else nI (cv tx s (e - s)) := by
  unfold f_X4_takeNumber
  rw [stI_eq, Option.bind_some]
  obtain ⟨z, z1, z0, z2, z3, z4, z5⟩ := iter_rule (B := f_X4_takeNumber_b7) (v := (0, si M 1 4 2)) (fun (i : Nat) (v : Int32 × Mem) => v.1 = nI (cv tx s i) ∧ C1 M v.2 ∧ gi v.2 1 2 = nI (s + i) ∧ gi v.2 1 3 = nI s ∧ gi v.2 1 4 = nI 2) (fun z => z.1 = nI (cv tx s (e - s)) ∧ C1 M z.2 ∧ gi z.2 1 2 = nI e ∧ gi z.2 1 3 = nI s ∧ gi z.2 1 4 = nI 2) (e - s) (by omega) (by
    rintro i ⟨v1, v⟩ hi ⟨c0, c1, c2, c3, c4⟩
    dsimp only at c0 c1 c2 c3 c4
    subst c0
    have hv := c1.tx hT
    have hcv := cv_le tx s i
    unfold f_X4_takeNumber_b7
    dsimp only
    rw [hv.1, c2]
    by_cases w : s + i < len
    · have hbi := hb (s + i) w
      rw [if_neg (nI_ge w (by omega)), ldA_nI (by omega) (by omega), hv.2 _ w, Option.bind_some, isD4 v hbi, Option.bind_some]
      by_cases w2 : s + i < e
      · have hd := isD_bd (h3 (s + i) (by omega) w2)
        rw [h3 (s + i) (by omega) w2, if_neg bi1, Option.bind_some, stI_eq, Option.bind_some, nI_1, show (10 : Int32) = nI 10 from rfl, pk_mul, nI_add, show (48 : Int32) = nI 48 from rfl, pk_sub (by omega), show (100 : Int32) = nI 100 from rfl, mn_nI (by omega) (by omega)]
        refine Or.inl ⟨by omega, _, rfl, rfl, c1.si (by omega) (by omega), ?_, ?_, ?_⟩
        · rw [gi_si, if_pos ⟨rfl, rfl⟩]; rfl
        · rw [gi_si, if_neg (by omega)]; exact c3
        · rw [gi_si, if_neg (by omega)]; exact c4
      · have es : s + i = e := by omega
        rw [es, h4 (by omega), if_pos bi0]
        exact Or.inr ⟨_, rfl, by rw [show e - s = i by omega], c1, by rw [c2, es], c3, c4⟩
    · rw [if_pos (nI_le (by omega) (by omega))]
      exact Or.inr ⟨_, rfl, by rw [show e - s = i by omega], c1, by rw [c2, show s + i = e by omega], c3, c4⟩) ⟨rfl, (C1.rf M).si (by omega) (by omega), by rw [gi_si, if_neg (by omega)]; exact hp, by rw [gi_si, if_neg (by omega)]; exact hs, by rw [gi_si, if_pos ⟨rfl, rfl⟩]; rfl⟩
  obtain ⟨v1, z⟩ := z
  dsimp only at z0 z2 z3 z4 z5
  subst z0
  rw [z1, Option.bind_some]
  dsimp only
  have hz := z2.tx hT
  have hcv := cv_le tx s (e - s)
  have hbs := hb s (by omega)
  have ill : ∃ z', f_X4_takeNumber_j101 z (nI (cv tx s (e - s))) 1 = some z' ∧ C1 M z' ∧ gi z' 1 2 = nI e ∧ gi z' 1 3 = nI s ∧ gi z' 1 4 = nI 2 ∧ gi z' 1 5 = -1 := by
    unfold f_X4_takeNumber_j101
    rw [if_neg (by decide), stI_eq, Option.bind_some]
    exact ⟨_, rfl, z2.si (by omega) (by omega), by rw [gi_si, if_neg (by omega)]; exact z3, by rw [gi_si, if_neg (by omega)]; exact z4, by rw [gi_si, if_neg (by omega)]; exact z5, by rw [gi_si, if_pos ⟨rfl, rfl⟩]⟩
  have fine : ∃ z', f_X4_takeNumber_j101 z (nI (cv tx s (e - s))) 0 = some z' ∧ C1 M z' ∧ gi z' 1 2 = nI e ∧ gi z' 1 3 = nI s ∧ gi z' 1 4 = nI 2 ∧ gi z' 1 5 = if 99 < cv tx s (e - s) then -1 else nI (cv tx s (e - s)) := by
    unfold f_X4_takeNumber_j101
    rw [if_pos rfl]
    by_cases w : 99 < cv tx s (e - s)
    · rw [if_neg (show ¬ nI (cv tx s (e - s)) ≤ 99 from nI_ge (a := 99) w (by omega)), if_pos w, stI_eq, Option.bind_some]
      exact ⟨_, rfl, z2.si (by omega) (by omega), by rw [gi_si, if_neg (by omega)]; exact z3, by rw [gi_si, if_neg (by omega)]; exact z4, by rw [gi_si, if_neg (by omega)]; exact z5, by rw [gi_si, if_pos ⟨rfl, rfl⟩]⟩
    · rw [if_pos (show nI (cv tx s (e - s)) ≤ 99 from nI_le (b := 99) (by omega) (by omega)), if_neg w, stI_eq, Option.bind_some]
      exact ⟨_, rfl, z2.si (by omega) (by omega), by rw [gi_si, if_neg (by omega)]; exact z3, by rw [gi_si, if_neg (by omega)]; exact z4, by rw [gi_si, if_neg (by omega)]; exact z5, by rw [gi_si, if_pos ⟨rfl, rfl⟩]⟩
  unfold f_X4_takeNumber_j69 f_X4_takeNumber_j100
  rw [z4, z3, ldA_nI (by omega) (by omega), hz.2 s (by omega), Option.bind_some, nI_1]
  by_cases w1 : tx s = 48
  · rw [w1, if_pos (show nI 48 = 48 from rfl)]
    by_cases w2 : s + 1 < e
    · rw [if_neg (nI_ge w2 (by omega)), if_pos (Or.inl ⟨rfl, w2⟩)]
      exact ill
    · rw [if_pos (nI_le (by omega) (by omega))]
      obtain ⟨z', a1, a2, a3, a4, a5, a6⟩ := fine
      refine ⟨z', a1, a2, a3, a4, a5, a6.trans ?_⟩
      by_cases w3 : 99 < cv tx s (e - s)
      · rw [if_pos w3, if_pos (Or.inr w3)]
      · rw [if_neg w3, if_neg (fun q => by rcases q with q | q; exact w2 q.2; exact w3 q)]
  · rw [if_neg (show ¬ nI (tx s) = 48 from fun q => w1 ((nI_eq (b := 48) (by omega) (by omega)).mp q))]
    obtain ⟨z', a1, a2, a3, a4, a5, a6⟩ := fine
    refine ⟨z', a1, a2, a3, a4, a5, a6.trans ?_⟩
    by_cases w3 : 99 < cv tx s (e - s)
    · rw [if_pos w3, if_pos (Or.inr w3)]
    · rw [if_neg w3, if_neg (fun q => by rcases q with q | q; exact w1 q.1; exact w3 q)]

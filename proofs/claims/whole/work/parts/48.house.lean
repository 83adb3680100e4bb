/-! house: both readers side by side -/
def LT (tx : Nat → Nat) (len p : Nat) (v w : Mem) : Prop := Tx1 v tx len ∧ Tx9 w tx len ∧ gi v 1 2 = nI p ∧ gi w 186 8 = nI p ∧ p ≤ len
def SS (v w : Mem) : Prop := ∃ s, s ≤ 200 ∧ gi v 1 3 = nI s ∧ gi w 186 10 = nI s
def D9 (w z : Mem) : Prop := Fr (fun k => k = 186 ∨ k = 189) w z ∧ ∀ j, (j < 8 ∨ 11 < j) → gi z 186 j = gi w 186 j
def E1 (q : Nat) (v z : Mem) : Prop := Fr (fun k => k = 1 ∨ q ≤ k ∧ k < q + 8) v z ∧ ∀ j, (j < 2 ∨ 5 < j) → gi z 1 j = gi v 1 j
theorem gpl_of {M v : Mem} (h : v.2 = M.2) : gpl v = gpl M := by unfold gpl; rw [h]
theorem gdr_of {M v : Mem} (h : v.2 = M.2) : gdr v = gdr M := by unfold gdr; rw [h]
theorem gl_of {M v : Mem} (h : v.2 = M.2) (k : Nat) : gl v k = gl M k := by unfold gl; rw [h]
theorem C1.e1 {q : Nat} {v z : Mem} (h : C1 v z) : E1 q v z := ⟨⟨gpl_of h.1, gdr_of h.1, gl_of h.1, fun k hk => ⟨h.2.1 k (fun e => hk (Or.inl e)), ga_of h.1 k⟩⟩, h.2.2⟩
theorem C9.d9 {v z : Mem} (h : C9 v z) : D9 v z := ⟨⟨gpl_of h.1, gdr_of h.1, gl_of h.1, fun k hk => ⟨h.2.1 k (fun e => hk (Or.inl e)), ga_of h.1 k⟩⟩, h.2.2⟩
theorem E1.rf {q : Nat} {v : Mem} : E1 q v v := ⟨Fr.rf, fun _ _ => rfl⟩
theorem D9.rf {v : Mem} : D9 v v := ⟨Fr.rf, fun _ _ => rfl⟩
theorem E1.tr {q : Nat} {a b c : Mem} (h : E1 q a b) (h2 : E1 q b c) : E1 q a c := ⟨h.1.tr h2.1, fun j hj => (h2.2 j hj).trans (h.2 j hj)⟩
theorem D9.tr {a b c : Mem} (h : D9 a b) (h2 : D9 b c) : D9 a c := ⟨h.1.tr h2.1, fun j hj => (h2.2 j hj).trans (h.2 j hj)⟩
theorem E1.sA {q k : Nat} {v z : Mem} {f : Nat → Int32} (h : E1 q v z) (h1 : q ≤ k) (h2 : k < q + 8) : E1 q v (sA z k f) := h.tr ⟨Fr.sA (Or.inr ⟨h1, h2⟩), fun _ _ => rfl⟩
theorem E1.si {q j : Nat} {v z : Mem} {x : Int32} (h : E1 q v z) (h1 : 1 < q) : E1 q v (si z q j x) := h.tr ⟨Fr.si (Or.inr ⟨Nat.le_refl _, by omega⟩), fun i hi => by rw [gi_si, if_neg (fun e => by omega)]⟩
theorem D9.sA {v z : Mem} {f : Nat → Int32} (h : D9 v z) : D9 v (sA z 189 f) := h.tr ⟨Fr.sA (Or.inr rfl), fun _ _ => rfl⟩
theorem E1.tx {q : Nat} {v z : Mem} {tx : Nat → Nat} {len : Nat} (h : E1 q v z) (hq : 2 < q) (ht : Tx1 v tx len) : Tx1 z tx len := ⟨(h.2 1 (by omega)).trans ht.1, fun i hi => by rw [(h.1.2.2.2 2 (fun e => by omega)).2]; exact ht.2 i hi⟩
theorem D9.tx {v z : Mem} {tx : Nat → Nat} {len : Nat} (h : D9 v z) (ht : Tx9 v tx len) : Tx9 z tx len := ⟨(h.2 2 (by omega)).trans ht.1, fun i hi => by rw [(h.1.2.2.2 187 (fun e => by omega)).2]; exact ht.2 i hi⟩
theorem num_ex {v w : Mem} {tx : Nat → Nat} {len p j lo hi : Nat} (h : LT tx len p v w) (hl : len ≤ 200) (hb : ∀ i, i < len → tx i ≤ 255) (hj : j < 49) (hlo : lo ≤ 99) (hhi : hi ≤ 99) : ∃ (ok : Bool) (e x : Nat) (z z9 : Mem), f_X4_readNumber v (nI lo) (nI hi) = some (bi ok, z) ∧ f_X9_number w (nI j) (nI lo) (nI hi) = some (bi ok, z9) ∧ C1 v z ∧ D9 w z9 ∧ LT tx len e z z9 ∧ SS z z9 ∧ p ≤ e ∧ (∀ k, k ≠ j → ga z9 189 k = ga w 189 k) ∧ (ok = true → lo ≤ x ∧ x ≤ hi ∧ gi z 1 5 = nI x ∧ ga z9 189 j = nI x) := by
  obtain ⟨t1, t2, t3, t4, t5⟩ := h
  obtain ⟨s, k, e, c, r, z, z9, y1, y9, ⟨a1, a2, a3, a4, a5⟩, ⟨b1, b2, b3, b4, b5⟩, c1, c2, c3, c4, c5, c6⟩ := tok_ex t1 t2 hl hb t3 t4 t5
  have fin : ∀ (ok : Bool) (x : Nat), f_X4_readNumber v (nI lo) (nI hi) = some (bi ok, z) → f_X9_number w (nI j) (nI lo) (nI hi) = some (bi ok, sA z9 189 (upd (ga z9 189) j r)) → (ok = true → lo ≤ x ∧ x ≤ hi ∧ c = nI x ∧ r = nI x) → ∃ (ok : Bool) (e x : Nat) (z z9 : Mem), f_X4_readNumber v (nI lo) (nI hi) = some (bi ok, z) ∧ f_X9_number w (nI j) (nI lo) (nI hi) = some (bi ok, z9) ∧ C1 v z ∧ D9 w z9 ∧ LT tx len e z z9 ∧ SS z z9 ∧ p ≤ e ∧ (∀ k, k ≠ j → ga z9 189 k = ga w 189 k) ∧ (ok = true → lo ≤ x ∧ x ≤ hi ∧ gi z 1 5 = nI x ∧ ga z9 189 j = nI x) := by
    intro ok x e1 e2 e3
    have d : D9 w (sA z9 189 (upd (ga z9 189) j r)) := b1.d9.sA
    refine ⟨ok, e, x, z, _, e1, e2, a1, d, ⟨a1.tx t1, d.tx t2, a2, b2, c3⟩, ⟨s, by omega, a3, b4⟩, by omega, fun i hi => ?_, fun ho => ?_⟩
    · rw [ga_at, upd_at, if_neg hi, ga_of b1.1]
    · obtain ⟨o1, o2, o3, o4⟩ := e3 ho
      exact ⟨o1, o2, a5.trans o3, by rw [ga_at, upd_at, if_pos rfl, o4]⟩
  unfold f_X4_readNumber f_X9_number at fin ⊢
  rw [y1, y9, Option.bind_some, Option.bind_some, stA_nI hj (by omega), Option.bind_some, gi_sA, gi_sA, a4, b3, a5, b5] at fin ⊢
  by_cases hk : k = 2
  · rw [hk, if_pos (show nI 2 = 2 from rfl), if_pos (show nI 2 = 2 from rfl)] at fin ⊢
    rcases c6.2 hk with ⟨x, x1, x2, x3⟩ | ⟨x1, y, x2, x3, x4⟩
    · rw [x3, in_nI _ (by omega) (by omega) (by omega), Option.bind_some, x2] at fin ⊢
      refine fin (decide (lo ≤ x) && decide (x ≤ hi)) x ?_ ?_ (fun ho => ?_)
      · by_cases h1 : lo ≤ x
        · by_cases h2 : x ≤ hi
          · rw [if_neg (nI_nlt h1 (by omega)), if_neg (nI_nlt h2 (by omega)), decide_eq_true h1, decide_eq_true h2]; rfl
          · rw [if_neg (nI_nlt h1 (by omega)), if_pos (nI_lt (by omega) (by omega)), decide_eq_true h1, decide_eq_false h2]; rfl
        · rw [if_pos (nI_lt (by omega) (by omega)), decide_eq_false h1]; rfl
      · cases hq : (decide (lo ≤ x) && decide (x ≤ hi)) with
        | true => rw [if_neg bi1]; rfl
        | false => rw [if_pos bi0]; rfl
      · rw [Bool.and_eq_true, decide_eq_true_eq, decide_eq_true_eq] at ho
        exact ⟨ho.1, ho.2, rfl, rfl⟩
    · rw [x4, in_nI _ (by omega) (by omega) (by omega), Option.bind_some, x1, show (decide (lo ≤ y) && decide (y ≤ hi)) = false by rw [decide_eq_false (show ¬ y ≤ hi by omega), Bool.and_false], if_pos bi0] at fin ⊢
      refine fin false 0 ?_ rfl (fun ho => by cases ho)
      rw [if_pos (show (-1 : Int32) < nI lo from by rw [Int32.lt_iff_toInt_lt, nI_toInt (by omega)]; show (-1 : Int) < _; omega)]
      rfl
  · have nk : ¬ nI k = 2 := fun q => hk ((nI_eq (b := 2) (by omega) (by omega)).mp q)
    rw [if_neg nk, if_neg nk] at fin ⊢
    exact fin false 0 rfl rfl (fun ho => by cases ho)
/-- what stands in both drafts -/
def Dr (q : Nat) (v w : Mem) (dr : Nat → Nat) : Prop := PlC v q dr ∧ PlOk dr ∧ dr 5 ≤ 3 ∧ gi v q 11 = nI (dr 5 % 2) ∧ gi v q 12 = nI (dr 5 / 2) ∧ ∀ k, k < 49 → ga w 189 k = nI (dr k)
theorem Dr.tok {q : Nat} {v w z z9 : Mem} {dr : Nat → Nat} (h : Dr q v w dr) (hq : 1 < q) (h1 : C1 v z) (h9 : C9 w z9) : Dr q z z9 dr := by
  obtain ⟨a1, a2, a3, a4, a5, a6⟩ := h
  have f : Fr (fun k => k = 1) v z := ⟨gpl_of h1.1, gdr_of h1.1, gl_of h1.1, fun k hk => ⟨h1.2.1 k hk, ga_of h1.1 k⟩⟩
  refine ⟨a1.fr f (fun k hk _ e => by omega), a2, a3, ?_, ?_, fun k hk => ?_⟩
  · rw [h1.2.1 q (by omega)]; exact a4
  · rw [h1.2.1 q (by omega)]; exact a5
  · rw [ga_of h9.1]; exact a6 k hk
/-- how an item ends on both sides -/
def IR (q : Nat) (tx : Nat → Nat) (len p : Nat) (v w : Mem) (it : Nat) (A B : Option (Int32 × Mem)) : Prop := ∃ (ok : Bool) (e : Nat) (dr : Nat → Nat) (z z9 : Mem), A = some (bi ok, z) ∧ B = some (bi ok, z9) ∧ E1 q v z ∧ D9 w z9 ∧ LT tx len e z z9 ∧ SS z z9 ∧ p ≤ e ∧ (ok = true → Dr q z z9 dr ∧ dr 4 = it)
theorem num_at {v w : Mem} {tx : Nat → Nat} {len p : Nat} (a alo ahi : Int32) (j lo hi : Nat) (h : LT tx len p v w) (hl : len ≤ 200) (hb : ∀ i, i < len → tx i ≤ 255) (ea : a = nI j) (el : alo = nI lo) (eh : ahi = nI hi) (hj : j < 49) (hlo : lo ≤ 99) (hhi : hi ≤ 99) : ∃ (ok : Bool) (e x : Nat) (z z9 : Mem), f_X4_readNumber v alo ahi = some (bi ok, z) ∧ f_X9_number w a alo ahi = some (bi ok, z9) ∧ C1 v z ∧ D9 w z9 ∧ LT tx len e z z9 ∧ SS z z9 ∧ p ≤ e ∧ (∀ k, k ≠ j → ga z9 189 k = ga w 189 k) ∧ (ok = true → lo ≤ x ∧ x ≤ hi ∧ gi z 1 5 = nI x ∧ ga z9 189 j = nI x) := by
  subst ea el eh
  exact num_ex h hl hb hj hlo hhi
theorem LT.c {q : Nat} {tx : Nat → Nat} {len p p0 : Nat} {v w v0 w0 M : Mem} (hL : LT tx len p v w) (h0 : LT tx len p0 v0 w0) (hq : 2 < q) (hE : E1 q v0 M) (hM : gi M 1 2 = gi v 1 2) : LT tx len p M w := ⟨hE.tx hq h0.1, hL.2.1, hM.trans hL.2.2.1, hL.2.2.2⟩
def drS (dr : Nat → Nat) (x1 x2 x3 x4 : Nat) : Nat → Nat := fun k => if k = 0 then dr 0 + 1 else if k = 27 + dr 0 then x4 else if k = 20 + dr 0 then x3 else if k = 13 + dr 0 then x2 else if k = 6 + dr 0 then x1 else dr k
theorem drS_lo {dr : Nat → Nat} {x1 x2 x3 x4 k : Nat} (h : 1 ≤ k) (h2 : k < 6) : drS dr x1 x2 x3 x4 k = dr k := by
  unfold drS; rw [if_neg (by omega), if_neg (by omega), if_neg (by omega), if_neg (by omega), if_neg (by omega)]
theorem drS_hi {dr : Nat → Nat} {x1 x2 x3 x4 k : Nat} (hn : dr 0 < 7) (h : 34 ≤ k) : drS dr x1 x2 x3 x4 k = dr k := by
  unfold drS; rw [if_neg (by omega), if_neg (by omega), if_neg (by omega), if_neg (by omega), if_neg (by omega)]
theorem drS_1 {dr : Nat → Nat} {x1 x2 x3 x4 s : Nat} (hn : dr 0 < 7) (h : s < 7) : drS dr x1 x2 x3 x4 (6 + s) = if s = dr 0 then x1 else dr (6 + s) := by
  unfold drS; rw [if_neg (by omega), if_neg (by omega), if_neg (by omega), if_neg (by omega)]
  by_cases e : s = dr 0
  · rw [if_pos e, if_pos (by omega)]
  · rw [if_neg e, if_neg (by omega)]
theorem drS_2 {dr : Nat → Nat} {x1 x2 x3 x4 s : Nat} (hn : dr 0 < 7) (h : s < 7) : drS dr x1 x2 x3 x4 (13 + s) = if s = dr 0 then x2 else dr (13 + s) := by
  unfold drS; rw [if_neg (by omega), if_neg (by omega), if_neg (by omega)]
  by_cases e : s = dr 0
  · rw [if_pos e, if_pos (by omega)]
  · rw [if_neg e, if_neg (by omega), if_neg (by omega)]
theorem drS_3 {dr : Nat → Nat} {x1 x2 x3 x4 s : Nat} (hn : dr 0 < 7) (h : s < 7) : drS dr x1 x2 x3 x4 (20 + s) = if s = dr 0 then x3 else dr (20 + s) := by
  unfold drS; rw [if_neg (by omega), if_neg (by omega)]
  by_cases e : s = dr 0
  · rw [if_pos e, if_pos (by omega)]
  · rw [if_neg e, if_neg (by omega), if_neg (by omega), if_neg (by omega)]
theorem drS_4 {dr : Nat → Nat} {x1 x2 x3 x4 s : Nat} (hn : dr 0 < 7) (h : s < 7) : drS dr x1 x2 x3 x4 (27 + s) = if s = dr 0 then x4 else dr (27 + s) := by
  unfold drS; rw [if_neg (by omega)]
  by_cases e : s = dr 0
  · rw [if_pos e, if_pos (by omega)]
  · rw [if_neg e, if_neg (by omega), if_neg (by omega), if_neg (by omega), if_neg (by omega)]
theorem upd_if (f : Nat → Int32) (g : Nat → Nat) (n s x : Nat) (h : s ≠ n → f s = nI (g s)) : upd f n (nI x) s = nI (if s = n then x else g s) := by
  rw [upd_at]
  by_cases e : s = n
  · rw [if_pos e, if_pos e]
  · rw [if_neg e, if_neg e]; exact h e
theorem stair_ex {q : Nat} {v w : Mem} {tx : Nat → Nat} {len p : Nat} {dr : Nat → Nat} (hq : 2 < q) (h : LT tx len p v w) (hs : SS v w) (hl : len ≤ 200) (hb : ∀ i, i < len → tx i ≤ 255) (hd : Dr q v w dr) : IR q tx len p v w (dr 4) (f_X4_readStair v q) (f_X9_readsStair w) := by
  obtain ⟨d1, d2, d3, d4, d5, d6⟩ := hd
  have n7 := d2.1
  unfold f_X4_readStair f_X9_readsStair
  rw [d1.1, show ldA w 189 49 0 = some (nI (dr 0)) from (ldA_nI (i := 0) (by omega) (by omega)).trans (congrArg some (d6 0 (by omega))), Option.bind_some]
  by_cases n6 : dr 0 = 7
  · rw [if_pos (show (7 : Int32) ≤ nI (dr 0) by rw [n6]; decide), if_pos (show nI (dr 0) = 7 by rw [n6]; rfl)]
    exact ⟨false, p, dr, v, w, rfl, rfl, E1.rf, D9.rf, h, hs, Nat.le_refl _, fun o => by cases o⟩
  have n5 : dr 0 < 7 := by omega
  rw [if_neg (show ¬ (7 : Int32) ≤ nI (dr 0) from nI_ge (b := 7) n5 (by omega)), if_neg (show ¬ nI (dr 0) = 7 from fun z => n6 ((nI_eq (b := 7) (by omega) (by omega)).mp z))]
  obtain ⟨ok1, e1, x1, z1, w1, r1, r9, c1, t1, L1, S1, le1, k1, v1⟩ := num_at (6 + nI (dr 0)) 0 6 (6 + dr 0) 0 6 h hl hb (nI_add (a := 6) (b := dr 0)) rfl rfl (by omega) (by omega) (by omega)
  rw [r1, r9, Option.bind_some, Option.bind_some]
  dsimp only
  cases ok1 with
  | false =>
    rw [if_pos bi0, if_pos bi0]
    exact ⟨false, e1, dr, z1, w1, rfl, rfl, c1.e1, t1, L1, S1, le1, fun o => by cases o⟩
  | true =>
  obtain ⟨b1, b2, g1, m1⟩ := v1 rfl
  rw [if_neg bi1, if_neg bi1, stA_nI (by omega) (by omega), Option.bind_some, g1]
  generalize hM1 : sA z1 (q + 1) (upd (ga z1 (q + 1)) (dr 0) (nI x1)) = M1
  have E_1 : E1 q v M1 := by rw [← hM1]; exact c1.e1.sA (by omega) (by omega)
  have L1' : LT tx len e1 M1 w1 := L1.c h hq E_1 (by rw [← hM1]; rfl)
  obtain ⟨ok2, e2, x2, z2, w2, r1, r9, c2, t2, L2, S2, le2, k2, v2⟩ := num_at (13 + nI (dr 0)) 0 6 (13 + dr 0) 0 6 L1' hl hb (nI_add (a := 13) (b := dr 0)) rfl rfl (by omega) (by omega) (by omega)
  rw [r1, r9, Option.bind_some, Option.bind_some]
  dsimp only
  cases ok2 with
  | false =>
    rw [if_pos bi0, if_pos bi0]
    exact ⟨false, e2, dr, z2, w2, rfl, rfl, E_1.tr c2.e1, t1.tr t2, L2, S2, by omega, fun o => by cases o⟩
  | true =>
  obtain ⟨b3, b4, g2, m2⟩ := v2 rfl
  have q1 : ga z2 (q + 1) (dr 0) = nI x1 := by rw [ga_of c2.1, ← hM1, ga_at, upd_at, if_pos rfl]
  have q2 : ga w2 189 (6 + dr 0) = nI x1 := by rw [k2 _ (by omega)]; exact m1
  rw [if_neg bi1, if_neg bi1, ldA_nI (by omega) (by omega), Option.bind_some, q1, g2, show (13 : Int32) + nI (dr 0) = nI (13 + dr 0) from nI_add 13 _, show (6 : Int32) + nI (dr 0) = nI (6 + dr 0) from nI_add 6 _, ldA_nI (by omega) (by omega), Option.bind_some, ldA_nI (by omega) (by omega), Option.bind_some, m2, q2]
  by_cases ne : x2 = x1
  · rw [if_pos (by rw [ne]), if_pos (by rw [ne])]
    exact ⟨false, e2, dr, z2, w2, rfl, rfl, E_1.tr c2.e1, t1.tr t2, L2, S2, by omega, fun o => by cases o⟩
  have nne : ¬ nI x2 = nI x1 := fun z => ne ((nI_eq (by omega) (by omega)).mp z)
  rw [if_neg nne, if_neg nne, stA_nI (by omega) (by omega), Option.bind_some]
  generalize hM2 : sA z2 (q + 2) (upd (ga z2 (q + 2)) (dr 0) (nI x2)) = M2
  have E_2 : E1 q v M2 := by rw [← hM2]; exact (E_1.tr c2.e1).sA (by omega) (by omega)
  have L2' : LT tx len e2 M2 w2 := L2.c h hq E_2 (by rw [← hM2]; rfl)
  obtain ⟨ok3, e3, x3, z3, w3, r1, r9, c3, t3, L3, S3, le3, k3, v3⟩ := num_at (20 + nI (dr 0)) 1 99 (20 + dr 0) 1 99 L2' hl hb (nI_add (a := 20) (b := dr 0)) rfl rfl (by omega) (by omega) (by omega)
  rw [r1, r9, Option.bind_some, Option.bind_some]
  dsimp only
  cases ok3 with
  | false =>
    rw [if_pos bi0, if_pos bi0]
    exact ⟨false, e3, dr, z3, w3, rfl, rfl, E_2.tr c3.e1, (t1.tr t2).tr t3, L3, S3, by omega, fun o => by cases o⟩
  | true =>
  obtain ⟨b5, b6, g3, m3⟩ := v3 rfl
  rw [if_neg bi1, if_neg bi1, stA_nI (by omega) (by omega), Option.bind_some, g3]
  generalize hM3 : sA z3 (q + 3) (upd (ga z3 (q + 3)) (dr 0) (nI x3)) = M3
  have E_3 : E1 q v M3 := by rw [← hM3]; exact (E_2.tr c3.e1).sA (by omega) (by omega)
  have L3' : LT tx len e3 M3 w3 := L3.c h hq E_3 (by rw [← hM3]; rfl)
  obtain ⟨ok4, e4, x4, z4, w4, r1, r9, c4, t4, L4, S4, le4, k4, v4⟩ := num_at (27 + nI (dr 0)) 0 40 (27 + dr 0) 0 40 L3' hl hb (nI_add (a := 27) (b := dr 0)) rfl rfl (by omega) (by omega) (by omega)
  rw [r1, r9, Option.bind_some, Option.bind_some]
  dsimp only
  cases ok4 with
  | false =>
    rw [if_pos bi0, if_pos bi0]
    exact ⟨false, e4, dr, z4, w4, rfl, rfl, E_3.tr c4.e1, ((t1.tr t2).tr t3).tr t4, L4, S4, by omega, fun o => by cases o⟩
  | true =>
  obtain ⟨b7, b8, g4, m4⟩ := v4 rfl
  have gq : ∀ j, gi z4 q j = gi v q j := fun j => by
    rw [c4.2.1 q (by omega), ← hM3, gi_sA, c3.2.1 q (by omega), ← hM2, gi_sA, c2.2.1 q (by omega), ← hM1, gi_sA, c1.2.1 q (by omega)]
  have w0 : ga w4 189 0 = nI (dr 0) := by rw [k4 0 (by omega), k3 0 (by omega), k2 0 (by omega), k1 0 (by omega)]; exact d6 0 (by omega)
  rw [if_neg bi1, if_neg bi1, stA_nI (by omega) (by omega), Option.bind_some, stI_eq, Option.bind_some, gi_sA, gq, d1.1, g4, show ldA w4 189 49 0 = some (nI (dr 0)) from (ldA_nI (i := 0) (by omega) (by omega)).trans (congrArg some w0), Option.bind_some, nI_1, show stA w4 189 49 0 (nI (dr 0 + 1)) = some (sA w4 189 (upd (ga w4 189) 0 (nI (dr 0 + 1)))) from stA_nI (i := 0) (by omega) (by omega), Option.bind_some]
  generalize hM4 : si (sA z4 (q + 4) (upd (ga z4 (q + 4)) (dr 0) (nI x4))) q 7 (nI (dr 0 + 1)) = M4
  have E_4 : E1 q v M4 := by rw [← hM4]; exact ((E_3.tr c4.e1).sA (by omega) (by omega)).si (by omega)
  have L4' : LT tx len e4 M4 (sA w4 189 (upd (ga w4 189) 0 (nI (dr 0 + 1)))) := by
    have a := L4.c h hq E_4 (by rw [← hM4, gi_si, if_neg (by omega)]; rfl)
    exact ⟨a.1, (D9.rf.sA : D9 w4 _).tx a.2.1, a.2.2⟩
  have S4' : SS M4 (sA w4 189 (upd (ga w4 189) 0 (nI (dr 0 + 1)))) := by
    obtain ⟨s, s1, s2, s3⟩ := S4
    exact ⟨s, s1, by rw [← hM4, gi_si, if_neg (by omega)]; exact s2, s3⟩
  have a1 : ga M4 (q + 1) = upd (ga v (q + 1)) (dr 0) (nI x1) := by
    rw [← hM4, ga_si, ga_ne (by omega), ga_of c4.1, ← hM3, ga_ne (by omega), ga_of c3.1, ← hM2, ga_ne (by omega), ga_of c2.1, ← hM1, ga_at, ga_of c1.1]
  have a2 : ga M4 (q + 2) = upd (ga v (q + 2)) (dr 0) (nI x2) := by
    rw [← hM4, ga_si, ga_ne (by omega), ga_of c4.1, ← hM3, ga_ne (by omega), ga_of c3.1, ← hM2, ga_at, ga_of c2.1, ← hM1, ga_ne (by omega), ga_of c1.1]
  have a3 : ga M4 (q + 3) = upd (ga v (q + 3)) (dr 0) (nI x3) := by
    rw [← hM4, ga_si, ga_ne (by omega), ga_of c4.1, ← hM3, ga_at, ga_of c3.1, ← hM2, ga_ne (by omega), ga_of c2.1, ← hM1, ga_ne (by omega), ga_of c1.1]
  have a4 : ga M4 (q + 4) = upd (ga v (q + 4)) (dr 0) (nI x4) := by
    rw [← hM4, ga_si, ga_at, ga_of c4.1, ← hM3, ga_ne (by omega), ga_of c3.1, ← hM2, ga_ne (by omega), ga_of c2.1, ← hM1, ga_ne (by omega), ga_of c1.1]
  have aj : ∀ j, 4 < j → ga M4 (q + j) = ga v (q + j) := fun j hj => by
    rw [← hM4, ga_si, ga_ne (by omega), ga_of c4.1, ← hM3, ga_ne (by omega), ga_of c3.1, ← hM2, ga_ne (by omega), ga_of c2.1, ← hM1, ga_ne (by omega), ga_of c1.1]
  have gj : ∀ j, j ≠ 7 → gi M4 q j = gi v q j := fun j hj => by
    rw [← hM4, gi_si, if_neg (by omega), gi_sA, gq]
  have g7 : gi M4 q 7 = nI (dr 0 + 1) := by rw [← hM4, gi_si, if_pos ⟨rfl, rfl⟩]
  obtain ⟨o1, o2, o3, o4, o5, o6⟩ := d2
  obtain ⟨p1, p2, p3, p4, p5, p6⟩ := d1
  refine ⟨true, e4, drS dr x1 x2 x3 x4, M4, _, rfl, rfl, E_4, (((t1.tr t2).tr t3).tr t4).sA, L4', S4', by omega, fun _ => ⟨⟨⟨g7, ?_, ?_, ?_, fun s hs2 => ?_, fun s hs2 => ?_⟩, ⟨?_, ?_, ?_, ?_, fun s hs2 => ?_, fun s hs2 => ?_⟩, ?_, ?_, ?_, fun k hk => ?_⟩, ?_⟩⟩
  · rw [gj 8 (by omega), drS_lo (by omega) (by omega)]; exact p2
  · rw [gj 9 (by omega), drS_lo (by omega) (by omega)]; exact p3
  · rw [gj 10 (by omega), drS_lo (by omega) (by omega)]; exact p4
  · have hs3 : s < dr 0 + 1 := hs2
    rw [a1, a2, a3, a4, drS_1 n5 (by omega), drS_2 n5 (by omega), drS_3 n5 (by omega), drS_4 n5 (by omega)]
    exact ⟨upd_if _ (fun s => dr (6 + s)) _ _ _ (fun e => (p5 s (by omega)).1), upd_if _ (fun s => dr (13 + s)) _ _ _ (fun e => (p5 s (by omega)).2.1), upd_if _ (fun s => dr (20 + s)) _ _ _ (fun e => (p5 s (by omega)).2.2.1), upd_if _ (fun s => dr (27 + s)) _ _ _ (fun e => (p5 s (by omega)).2.2.2)⟩
  · rw [drS_lo (by omega) (by omega)] at hs2
    rw [aj 5 (by omega), aj 6 (by omega), aj 7 (by omega), drS_hi n5 (by omega), drS_hi n5 (by omega), drS_hi n5 (by omega)]
    exact p6 s hs2
  · show dr 0 + 1 ≤ 7; omega
  · rw [drS_lo (by omega) (by omega)]; exact o2
  · rw [drS_lo (by omega) (by omega)]; exact o3
  · rw [drS_lo (by omega) (by omega)]; exact o4
  · have hs3 : s < dr 0 + 1 := hs2
    rw [drS_1 n5 (by omega), drS_2 n5 (by omega), drS_3 n5 (by omega), drS_4 n5 (by omega)]
    by_cases e : s = dr 0
    · rw [if_pos e, if_pos e, if_pos e, if_pos e]
      exact ⟨b2, b4, fun z => ne z.symm, b5, b6, b8⟩
    · rw [if_neg e, if_neg e, if_neg e, if_neg e]
      exact o5 s (by omega)
  · rw [drS_lo (by omega) (by omega)] at hs2
    rw [drS_hi n5 (by omega), drS_hi n5 (by omega), drS_hi n5 (by omega)]
    exact o6 s hs2
  · rw [drS_lo (by omega) (by omega)]; exact d3
  · rw [gj 11 (by omega), drS_lo (by omega) (by omega)]; exact d4
  · rw [gj 12 (by omega), drS_lo (by omega) (by omega)]; exact d5
  · rw [ga_at, upd_at]
    unfold drS
    by_cases u0 : k = 0
    · rw [if_pos u0, if_pos u0]
    rw [if_neg u0, if_neg u0]
    by_cases u4 : k = 27 + dr 0
    · rw [if_pos u4, u4]; exact m4
    rw [if_neg u4, k4 k u4]
    by_cases u3 : k = 20 + dr 0
    · rw [if_pos u3, u3]; exact m3
    rw [if_neg u3, k3 k u3]
    by_cases u2 : k = 13 + dr 0
    · rw [if_pos u2, u2]; exact m2
    rw [if_neg u2, k2 k u2]
    by_cases u1 : k = 6 + dr 0
    · rw [if_pos u1, u1]; exact m1
    rw [if_neg u1, k1 k u1]
    exact d6 k hk
  · rw [drS_lo (by omega) (by omega)]

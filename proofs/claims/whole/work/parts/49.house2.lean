/-! house: persons, rules, items -/
def drP (dr : Nat → Nat) (x1 x2 x3 : Nat) : Nat → Nat := fun k => if k = 1 then dr 1 + 1 else if k = 44 + dr 1 then x3 else if k = 39 + dr 1 then x2 else if k = 34 + dr 1 then x1 else dr k
theorem drP_lo {dr : Nat → Nat} {x1 x2 x3 k : Nat} (h : k ≠ 1) (h2 : k < 34) : drP dr x1 x2 x3 k = dr k := by
  unfold drP; rw [if_neg (by omega), if_neg (by omega), if_neg (by omega), if_neg (by omega)]
theorem drP_1 {dr : Nat → Nat} {x1 x2 x3 s : Nat} (hn : dr 1 < 5) (h : s < 5) : drP dr x1 x2 x3 (34 + s) = if s = dr 1 then x1 else dr (34 + s) := by
  unfold drP; rw [if_neg (by omega), if_neg (by omega), if_neg (by omega)]
  by_cases e : s = dr 1
  · rw [if_pos e, if_pos (by omega)]
  · rw [if_neg e, if_neg (by omega)]
theorem drP_2 {dr : Nat → Nat} {x1 x2 x3 s : Nat} (hn : dr 1 < 5) (h : s < 5) : drP dr x1 x2 x3 (39 + s) = if s = dr 1 then x2 else dr (39 + s) := by
  unfold drP; rw [if_neg (by omega), if_neg (by omega)]
  by_cases e : s = dr 1
  · rw [if_pos e, if_pos (by omega)]
  · rw [if_neg e, if_neg (by omega), if_neg (by omega)]
theorem drP_3 {dr : Nat → Nat} {x1 x2 x3 s : Nat} (hn : dr 1 < 5) (h : s < 5) : drP dr x1 x2 x3 (44 + s) = if s = dr 1 then x3 else dr (44 + s) := by
  unfold drP; rw [if_neg (by omega)]
  by_cases e : s = dr 1
  · rw [if_pos e, if_pos (by omega)]
  · rw [if_neg e, if_neg (by omega), if_neg (by omega), if_neg (by omega)]
theorem person_ex {q : Nat} {v w : Mem} {tx : Nat → Nat} {len p : Nat} {dr : Nat → Nat} (hq : 2 < q) (h : LT tx len p v w) (hs : SS v w) (hl : len ≤ 200) (hb : ∀ i, i < len → tx i ≤ 255) (hd : Dr q v w dr) : IR q tx len p v w (dr 4) (f_X4_readPerson v q) (f_X9_readsPerson w) := by
  obtain ⟨d1, d2, d3, d4, d5, d6⟩ := hd
  have n7 := d2.2.1
  unfold f_X4_readPerson f_X9_readsPerson
  rw [d1.2.1, show ldA w 189 49 1 = some (nI (dr 1)) from (ldA_nI (i := 1) (by omega) (by omega)).trans (congrArg some (d6 1 (by omega))), Option.bind_some]
  by_cases n6 : dr 1 = 5
  · rw [if_pos (show (5 : Int32) ≤ nI (dr 1) by rw [n6]; decide), if_pos (show nI (dr 1) = 5 by rw [n6]; rfl)]
    exact ⟨false, p, dr, v, w, rfl, rfl, E1.rf, D9.rf, h, hs, Nat.le_refl _, fun o => by cases o⟩
  have n5 : dr 1 < 5 := by omega
  rw [if_neg (show ¬ (5 : Int32) ≤ nI (dr 1) from nI_ge (b := 5) n5 (by omega)), if_neg (show ¬ nI (dr 1) = 5 from fun z => n6 ((nI_eq (b := 5) (by omega) (by omega)).mp z))]
  obtain ⟨ok1, e1, x1, z1, w1, r1, r9, c1, t1, L1, S1, le1, k1, v1⟩ := num_at (34 + nI (dr 1)) 0 1 (34 + dr 1) 0 1 h hl hb (nI_add (a := 34) (b := dr 1)) rfl rfl (by omega) (by omega) (by omega)
  rw [r1, r9, Option.bind_some, Option.bind_some]
  dsimp only
  cases ok1 with
  | false =>
    rw [if_pos bi0, if_pos bi0]
    exact ⟨false, e1, dr, z1, w1, rfl, rfl, c1.e1, t1, L1, S1, le1, fun o => by cases o⟩
  | true =>
  obtain ⟨b1, b2, g1, m1⟩ := v1 rfl
  rw [if_neg bi1, if_neg bi1, stA_nI (by omega) (by omega), Option.bind_some, g1]
  generalize hM1 : sA z1 (q + 5) (upd (ga z1 (q + 5)) (dr 1) (nI x1)) = M1
  have E_1 : E1 q v M1 := by rw [← hM1]; exact c1.e1.sA (by omega) (by omega)
  have L1' : LT tx len e1 M1 w1 := L1.c h hq E_1 (by rw [← hM1]; rfl)
  obtain ⟨ok2, e2, x2, z2, w2, r1, r9, c2, t2, L2, S2, le2, k2, v2⟩ := num_at (39 + nI (dr 1)) 0 10 (39 + dr 1) 0 10 L1' hl hb (nI_add (a := 39) (b := dr 1)) rfl rfl (by omega) (by omega) (by omega)
  rw [r1, r9, Option.bind_some, Option.bind_some]
  dsimp only
  cases ok2 with
  | false =>
    rw [if_pos bi0, if_pos bi0]
    exact ⟨false, e2, dr, z2, w2, rfl, rfl, E_1.tr c2.e1, t1.tr t2, L2, S2, by omega, fun o => by cases o⟩
  | true =>
  obtain ⟨b3, b4, g2, m2⟩ := v2 rfl
  rw [if_neg bi1, if_neg bi1, stA_nI (by omega) (by omega), Option.bind_some, g2]
  generalize hM2 : sA z2 (q + 6) (upd (ga z2 (q + 6)) (dr 1) (nI x2)) = M2
  have E_2 : E1 q v M2 := by rw [← hM2]; exact (E_1.tr c2.e1).sA (by omega) (by omega)
  have L2' : LT tx len e2 M2 w2 := L2.c h hq E_2 (by rw [← hM2]; rfl)
  obtain ⟨ok3, e3, x3, z3, w3, r1, r9, c3, t3, L3, S3, le3, k3, v3⟩ := num_at (44 + nI (dr 1)) 0 9 (44 + dr 1) 0 9 L2' hl hb (nI_add (a := 44) (b := dr 1)) rfl rfl (by omega) (by omega) (by omega)
  rw [r1, r9, Option.bind_some, Option.bind_some]
  dsimp only
  cases ok3 with
  | false =>
    rw [if_pos bi0, if_pos bi0]
    exact ⟨false, e3, dr, z3, w3, rfl, rfl, E_2.tr c3.e1, (t1.tr t2).tr t3, L3, S3, by omega, fun o => by cases o⟩
  | true =>
  obtain ⟨b5, b6, g3, m3⟩ := v3 rfl
  have gq : ∀ j, gi z3 q j = gi v q j := fun j => by
    rw [c3.2.1 q (by omega), ← hM2, gi_sA, c2.2.1 q (by omega), ← hM1, gi_sA, c1.2.1 q (by omega)]
  have w0 : ga w3 189 1 = nI (dr 1) := by rw [k3 1 (by omega), k2 1 (by omega), k1 1 (by omega)]; exact d6 1 (by omega)
  rw [if_neg bi1, if_neg bi1, stA_nI (by omega) (by omega), Option.bind_some, stI_eq, Option.bind_some, gi_sA, gq, d1.2.1, g3, show ldA w3 189 49 1 = some (nI (dr 1)) from (ldA_nI (i := 1) (by omega) (by omega)).trans (congrArg some w0), Option.bind_some, nI_1, show stA w3 189 49 1 (nI (dr 1 + 1)) = some (sA w3 189 (upd (ga w3 189) 1 (nI (dr 1 + 1)))) from stA_nI (i := 1) (by omega) (by omega), Option.bind_some]
  generalize hM4 : si (sA z3 (q + 7) (upd (ga z3 (q + 7)) (dr 1) (nI x3))) q 8 (nI (dr 1 + 1)) = M4
  have E_4 : E1 q v M4 := by rw [← hM4]; exact ((E_2.tr c3.e1).sA (by omega) (by omega)).si (by omega)
  have L4' : LT tx len e3 M4 (sA w3 189 (upd (ga w3 189) 1 (nI (dr 1 + 1)))) := by
    have a := L3.c h hq E_4 (by rw [← hM4, gi_si, if_neg (by omega)]; rfl)
    exact ⟨a.1, (D9.rf.sA : D9 w3 _).tx a.2.1, a.2.2⟩
  have S4' : SS M4 (sA w3 189 (upd (ga w3 189) 1 (nI (dr 1 + 1)))) := by
    obtain ⟨s, s1, s2, s3⟩ := S3
    exact ⟨s, s1, by rw [← hM4, gi_si, if_neg (by omega)]; exact s2, s3⟩
  have a1 : ga M4 (q + 5) = upd (ga v (q + 5)) (dr 1) (nI x1) := by
    rw [← hM4, ga_si, ga_ne (by omega), ga_of c3.1, ← hM2, ga_ne (by omega), ga_of c2.1, ← hM1, ga_at, ga_of c1.1]
  have a2 : ga M4 (q + 6) = upd (ga v (q + 6)) (dr 1) (nI x2) := by
    rw [← hM4, ga_si, ga_ne (by omega), ga_of c3.1, ← hM2, ga_at, ga_of c2.1, ← hM1, ga_ne (by omega), ga_of c1.1]
  have a3 : ga M4 (q + 7) = upd (ga v (q + 7)) (dr 1) (nI x3) := by
    rw [← hM4, ga_si, ga_at, ga_of c3.1, ← hM2, ga_ne (by omega), ga_of c2.1, ← hM1, ga_ne (by omega), ga_of c1.1]
  have aj : ∀ j, j < 5 → ga M4 (q + j) = ga v (q + j) := fun j hj => by
    rw [← hM4, ga_si, ga_ne (by omega), ga_of c3.1, ← hM2, ga_ne (by omega), ga_of c2.1, ← hM1, ga_ne (by omega), ga_of c1.1]
  have gj : ∀ j, j ≠ 8 → gi M4 q j = gi v q j := fun j hj => by
    rw [← hM4, gi_si, if_neg (by omega), gi_sA, gq]
  have g7 : gi M4 q 8 = nI (dr 1 + 1) := by rw [← hM4, gi_si, if_pos ⟨rfl, rfl⟩]
  obtain ⟨o1, o2, o3, o4, o5, o6⟩ := d2
  obtain ⟨p1, p2, p3, p4, p5, p6⟩ := d1
  refine ⟨true, e3, drP dr x1 x2 x3, M4, _, rfl, rfl, E_4, ((t1.tr t2).tr t3).sA, L4', S4', by omega, fun _ => ⟨⟨⟨?_, g7, ?_, ?_, fun s hs2 => ?_, fun s hs2 => ?_⟩, ⟨?_, ?_, ?_, ?_, fun s hs2 => ?_, fun s hs2 => ?_⟩, ?_, ?_, ?_, fun k hk => ?_⟩, ?_⟩⟩
  · rw [gj 7 (by omega), drP_lo (by omega) (by omega)]; exact p1
  · rw [gj 9 (by omega), drP_lo (by omega) (by omega)]; exact p3
  · rw [gj 10 (by omega), drP_lo (by omega) (by omega)]; exact p4
  · rw [drP_lo (by omega) (by omega)] at hs2
    rw [aj 1 (by omega), aj 2 (by omega), aj 3 (by omega), aj 4 (by omega), drP_lo (by omega) (by omega), drP_lo (by omega) (by omega), drP_lo (by omega) (by omega), drP_lo (by omega) (by omega)]
    exact p5 s hs2
  · have hs3 : s < dr 1 + 1 := hs2
    rw [a1, a2, a3, drP_1 n5 (by omega), drP_2 n5 (by omega), drP_3 n5 (by omega)]
    exact ⟨upd_if _ (fun s => dr (34 + s)) _ _ _ (fun e => (p6 s (by omega)).1), upd_if _ (fun s => dr (39 + s)) _ _ _ (fun e => (p6 s (by omega)).2.1), upd_if _ (fun s => dr (44 + s)) _ _ _ (fun e => (p6 s (by omega)).2.2)⟩
  · rw [drP_lo (by omega) (by omega)]; exact o1
  · show dr 1 + 1 ≤ 5; omega
  · rw [drP_lo (by omega) (by omega)]; exact o3
  · rw [drP_lo (by omega) (by omega)]; exact o4
  · rw [drP_lo (by omega) (by omega)] at hs2
    rw [drP_lo (by omega) (by omega), drP_lo (by omega) (by omega), drP_lo (by omega) (by omega), drP_lo (by omega) (by omega)]
    exact o5 s hs2
  · have hs3 : s < dr 1 + 1 := hs2
    rw [drP_1 n5 (by omega), drP_2 n5 (by omega), drP_3 n5 (by omega)]
    by_cases e : s = dr 1
    · rw [if_pos e, if_pos e, if_pos e]
      exact ⟨b2, b4, b6⟩
    · rw [if_neg e, if_neg e, if_neg e]
      exact o6 s (by omega)
  · rw [drP_lo (by omega) (by omega)]; exact d3
  · rw [gj 11 (by omega), drP_lo (by omega) (by omega)]; exact d4
  · rw [gj 12 (by omega), drP_lo (by omega) (by omega)]; exact d5
  · rw [ga_at, upd_at]
    unfold drP
    by_cases u0 : k = 1
    · rw [if_pos u0, if_pos u0]
    rw [if_neg u0, if_neg u0]
    by_cases u3 : k = 44 + dr 1
    · rw [if_pos u3, u3]; exact m3
    rw [if_neg u3, k3 k u3]
    by_cases u2 : k = 39 + dr 1
    · rw [if_pos u2, u2]; exact m2
    rw [if_neg u2, k2 k u2]
    by_cases u1 : k = 34 + dr 1
    · rw [if_pos u1, u1]; exact m1
    rw [if_neg u1, k1 k u1]
    exact d6 k hk
  · rw [drP_lo (by omega) (by omega)]
theorem bits3 {d : Nat} (h : d ≤ 3) : ((nI d &&& 1 = 0) ↔ d % 2 = 0) ∧ ((nI d &&& 2 = 0) ↔ d / 2 = 0) ∧ (d % 2 = 0 → nI d ||| 1 = nI (d + 1)) ∧ (d / 2 = 0 → nI d ||| 2 = nI (d + 2)) := by
  have : d = 0 ∨ d = 1 ∨ d = 2 ∨ d = 3 := by omega
  rcases this with rfl | rfl | rfl | rfl <;> decide
/-- a rule that may stand once: which bit b, which row j, which field of the class -/
def drO (dr : Nat → Nat) (b j x : Nat) : Nat → Nat := fun k => if k = 5 then dr 5 + b else if k = j then x else dr k
theorem once_ex {q : Nat} {v w : Mem} {tx : Nat → Nat} {len p : Nat} {dr : Nat → Nat} (b j : Nat) (hbj : b = 1 ∧ j = 2 ∨ b = 2 ∧ j = 3) (hq : 2 < q) (h : LT tx len p v w) (hs : SS v w) (hl : len ≤ 200) (hb : ∀ i, i < len → tx i ≤ 255) (hd : Dr q v w dr) : IR q tx len p v w (dr 4) (if gi v q (10 + b) = 0 then ((f_X4_readNumber v 0 9).bind fun z1 => if z1.1 = (0 : Int32) then some ((0 : Int32), z1.2) else ((stI z1.2 q (7 + j) (gi z1.2 1 5)).bind fun m2 => (stI m2 q (10 + b) 1).bind fun m3 => some ((1 : Int32), m3))) else some ((0 : Int32), v)) (f_X9_once w (nI b) (nI j)) := by
  obtain ⟨d1, d2, d3, d4, d5, d6⟩ := hd
  obtain ⟨q1, q2, q3, q4⟩ := bits3 d3
  have fb : (gi v q (10 + b) = 0 ↔ nI (dr 5) &&& nI b = 0) ∧ (gi v q (10 + b) = 0 → nI (dr 5) ||| nI b = nI (dr 5 + b) ∧ dr 5 + b ≤ 3 ∧ (b = 1 → (dr 5 + b) % 2 = 1 ∧ (dr 5 + b) / 2 = dr 5 / 2) ∧ (b = 2 → (dr 5 + b) % 2 = dr 5 % 2 ∧ (dr 5 + b) / 2 = 1)) := by
    rcases hbj with ⟨rfl, rfl⟩ | ⟨rfl, rfl⟩
    · have e : (gi v q (10 + 1) = 0 ↔ dr 5 % 2 = 0) := by
        rw [show gi v q (10 + 1) = nI (dr 5 % 2) from d4]
        exact nI_eq (b := 0) (by omega) (by omega)
      exact ⟨e.trans q1.symm, fun z => ⟨q3 (e.mp z), by have := e.mp z; omega, fun _ => by have := e.mp z; omega, fun z => by omega⟩⟩
    · have e : (gi v q (10 + 2) = 0 ↔ dr 5 / 2 = 0) := by
        rw [show gi v q (10 + 2) = nI (dr 5 / 2) from d5]
        exact nI_eq (b := 0) (by omega) (by omega)
      exact ⟨e.trans q2.symm, fun z => ⟨q4 (e.mp z), by have := e.mp z; omega, fun z => by omega, fun _ => by have := e.mp z; omega⟩⟩
  unfold f_X9_once
  have l5 : ldA w 189 49 5 = some (nI (dr 5)) := (ldA_nI (i := 5) (by omega) (by omega)).trans (congrArg some (d6 5 (by omega)))
  rw [l5, Option.bind_some]
  by_cases hf : gi v q (10 + b) = 0
  · obtain ⟨f1, f2, f3, f4⟩ := fb.2 hf
    rw [if_pos hf, if_pos (fb.1.mp hf), Option.bind_some, f1, show stA w 189 49 5 (nI (dr 5 + b)) = some (sA w 189 (upd (ga w 189) 5 (nI (dr 5 + b)))) from stA_nI (i := 5) (by omega) (by omega), Option.bind_some]
    have D0 : D9 w (sA w 189 (upd (ga w 189) 5 (nI (dr 5 + b)))) := D9.rf.sA
    have L0 : LT tx len p v (sA w 189 (upd (ga w 189) 5 (nI (dr 5 + b)))) := ⟨h.1, D0.tx h.2.1, h.2.2⟩
    obtain ⟨ok1, e1, x1, z1, w1, r1, r9, c1, t1, L1, S1, le1, k1, v1⟩ := num_at (nI j) 0 9 j 0 9 L0 hl hb rfl rfl rfl (by omega) (by omega) (by omega)
    rw [r1, r9, Option.bind_some, Option.bind_some]
    dsimp only
    rw [bz_bi, Option.bind_some]
    cases ok1 with
    | false =>
      rw [if_pos bi0]
      exact ⟨false, e1, dr, z1, w1, rfl, rfl, c1.e1, D0.tr t1, L1, S1, le1, fun o => by cases o⟩
    | true =>
    obtain ⟨b1, b2, g1, m1⟩ := v1 rfl
    rw [if_neg bi1, stI_eq, Option.bind_some, stI_eq, Option.bind_some, g1]
    generalize hM1 : si (si z1 q (7 + j) (nI x1)) q (10 + b) 1 = M1
    have E_1 : E1 q v M1 := by rw [← hM1]; exact (c1.e1.si (by omega)).si (by omega)
    have L1' : LT tx len e1 M1 w1 := L1.c h hq E_1 (by rw [← hM1, gi_si, if_neg (by omega), gi_si, if_neg (by omega)])
    have S1' : SS M1 w1 := by
      obtain ⟨s, s1, s2, s3⟩ := S1
      exact ⟨s, s1, by rw [← hM1, gi_si, if_neg (by omega), gi_si, if_neg (by omega)]; exact s2, s3⟩
    have aj : ∀ i, ga M1 i = ga v i := fun i => by rw [← hM1, ga_si, ga_si, ga_of c1.1]
    have gj : ∀ i, i ≠ 7 + j → i ≠ 10 + b → gi M1 q i = gi v q i := fun i h1 h2 => by
      rw [← hM1, gi_si, if_neg (fun e => h2 e.2), gi_si, if_neg (fun e => h1 e.2), c1.2.1 q (by omega)]
    have gA : gi M1 q (7 + j) = nI x1 := by rw [← hM1, gi_si, if_neg (by omega), gi_si, if_pos ⟨rfl, rfl⟩]
    have gB : gi M1 q (10 + b) = nI 1 := by rw [← hM1, gi_si, if_pos ⟨rfl, rfl⟩]; rfl
    have dk : ∀ k, k ≠ 5 → k ≠ j → drO dr b j x1 k = dr k := fun k h1 h2 => by unfold drO; rw [if_neg h1, if_neg h2]
    have dj : drO dr b j x1 j = x1 := by unfold drO; rw [if_neg (by omega), if_pos rfl]
    have d55 : drO dr b j x1 5 = dr 5 + b := by unfold drO; rw [if_pos rfl]
    obtain ⟨o1, o2, o3, o4, o5, o6⟩ := d2
    obtain ⟨p1, p2, p3, p4, p5, p6⟩ := d1
    refine ⟨true, e1, drO dr b j x1, M1, w1, rfl, rfl, E_1, D0.tr t1, L1', S1', le1, fun _ => ⟨⟨⟨?_, ?_, ?_, ?_, fun s hs2 => ?_, fun s hs2 => ?_⟩, ⟨?_, ?_, ?_, ?_, fun s hs2 => ?_, fun s hs2 => ?_⟩, ?_, ?_, ?_, fun k hk => ?_⟩, ?_⟩⟩
    · rw [gj 7 (by omega) (by omega), dk 0 (by omega) (by omega)]; exact p1
    · rw [gj 8 (by omega) (by omega), dk 1 (by omega) (by omega)]; exact p2
    · rcases hbj with ⟨e1, e2⟩ | ⟨e1, e2⟩
      · rw [show (9 : Nat) = 7 + j by omega, show drO dr b j x1 2 = x1 by rw [← e2]; exact dj]; exact gA
      · rw [gj 9 (by omega) (by omega), dk 2 (by omega) (by omega)]; exact p3
    · rcases hbj with ⟨e1, e2⟩ | ⟨e1, e2⟩
      · rw [gj 10 (by omega) (by omega), dk 3 (by omega) (by omega)]; exact p4
      · rw [show (10 : Nat) = 7 + j by omega, show drO dr b j x1 3 = x1 by rw [← e2]; exact dj]; exact gA
    · rw [dk 0 (by omega) (by omega)] at hs2
      rw [aj, aj, aj, aj, dk _ (by omega) (by omega), dk _ (by omega) (by omega), dk _ (by omega) (by omega), dk _ (by omega) (by omega)]
      exact p5 s hs2
    · rw [dk 1 (by omega) (by omega)] at hs2
      rw [aj, aj, aj, dk _ (by omega) (by omega), dk _ (by omega) (by omega), dk _ (by omega) (by omega)]
      exact p6 s hs2
    · rw [dk 0 (by omega) (by omega)]; exact o1
    · rw [dk 1 (by omega) (by omega)]; exact o2
    · rcases hbj with ⟨e1, e2⟩ | ⟨e1, e2⟩
      · rw [show drO dr b j x1 2 = x1 by rw [← e2]; exact dj]; exact b2
      · rw [dk 2 (by omega) (by omega)]; exact o3
    · rcases hbj with ⟨e1, e2⟩ | ⟨e1, e2⟩
      · rw [dk 3 (by omega) (by omega)]; exact o4
      · rw [show drO dr b j x1 3 = x1 by rw [← e2]; exact dj]; exact b2
    · rw [dk 0 (by omega) (by omega)] at hs2
      rw [dk _ (by omega) (by omega), dk _ (by omega) (by omega), dk _ (by omega) (by omega), dk _ (by omega) (by omega)]
      exact o5 s hs2
    · rw [dk 1 (by omega) (by omega)] at hs2
      rw [dk _ (by omega) (by omega), dk _ (by omega) (by omega), dk _ (by omega) (by omega)]
      exact o6 s hs2
    · rw [d55]; exact f2
    · rw [d55]
      rcases hbj with ⟨e1, e2⟩ | ⟨e1, e2⟩
      · rw [(f3 e1).1, show (11 : Nat) = 10 + b by omega]; exact gB
      · rw [(f4 e1).1, gj 11 (by omega) (by omega)]; exact d4
    · rw [d55]
      rcases hbj with ⟨e1, e2⟩ | ⟨e1, e2⟩
      · rw [(f3 e1).2, gj 12 (by omega) (by omega)]; exact d5
      · rw [(f4 e1).2, show (12 : Nat) = 10 + b by omega]; exact gB
    · by_cases u1 : k = j
      · rw [u1, dj]; exact m1
      · rw [k1 k u1, ga_at, upd_at]
        by_cases u2 : k = 5
        · rw [if_pos u2, u2, d55]
        · rw [if_neg u2, dk k u2 u1]; exact d6 k hk
    · exact dk 4 (by omega) (by omega)
  · rw [if_neg hf, if_neg (fun z => hf (fb.1.mpr z))]
    exact ⟨false, p, dr, v, w, rfl, rfl, E1.rf, D9.rf, h, hs, Nat.le_refl _, fun o => by cases o⟩
theorem IR.bz {q : Nat} {tx : Nat → Nat} {len p : Nat} {v w : Mem} {it : Nat} {A B : Option (Int32 × Mem)} (h : IR q tx len p v w it A B) : IR q tx len p v w it A (B.bind fun z => (bz z.1).bind fun y => some (y, z.2)) := by
  obtain ⟨ok, e, dr, z, z9, h1, h2, h3⟩ := h
  exact ⟨ok, e, dr, z, z9, h1, by rw [h2, Option.bind_some]; dsimp only; rw [bz_bi, Option.bind_some], h3⟩
/-- what the class does behind an item -/
def stp (A : Option (Int32 × Mem)) : Option (Int32 × Mem) := A.bind fun z2 => if z2.1 = (0 : Int32) then some ((0 : Int32), z2.2) else (f_X4_readStop z2.2).bind fun z3 => if z3.1 = (0 : Int32) then some ((0 : Int32), z3.2) else some ((1 : Int32), z3.2)
theorem item_ex {q : Nat} {v w : Mem} {tx : Nat → Nat} {len p k : Nat} {c r : Int32} {dr : Nat → Nat} (hq : 2 < q) (h : LT tx len p v w) (hs : SS v w) (hl : len ≤ 200) (hb : ∀ i, i < len → tx i ≤ 255) (hd : Dr q v w dr) (hk : k ≤ 4) (hk1 : gi v 1 4 = nI k) (hk9 : gi w 186 9 = nI k) (hc : gi v 1 5 = c) (hr : gi w 186 11 = r) (hV : VRel k c r) : ∃ A, f_X4_readItem v q = stp A ∧ IR q tx len p v w (dr 4) A (f_X9_readsItem w) := by
  have bad : ∀ B, B = some ((0 : Int32), w) → f_X4_readItem v q = some ((0 : Int32), v) → ∃ A, f_X4_readItem v q = stp A ∧ IR q tx len p v w (dr 4) A B := fun B h1 h2 => ⟨some (0, v), by rw [h2]; rfl, false, p, dr, v, w, rfl, h1, E1.rf, D9.rf, h, hs, Nat.le_refl _, fun o => by cases o⟩
  unfold f_X9_readsItem
  rw [hk9, hr]
  by_cases e1 : k = 1
  · rw [if_pos (show nI k = 1 by rw [e1]; rfl)]
    rcases hV.1 e1 with e | ⟨e2, e3⟩
    · rw [← e]
      unfold f_X9_readsItem_j16
      by_cases h1 : c = 100
      · rw [if_pos h1]
        refine ⟨f_X4_readDolls v q, ?_, (once_ex 1 2 (Or.inl ⟨rfl, rfl⟩) hq h hs hl hb hd).bz⟩
        unfold f_X4_readItem
        rw [hk1, hc, if_pos (show nI k = 1 by rw [e1]; rfl), if_pos h1]
        rfl
      rw [if_neg h1]
      by_cases h2 : c = 112
      · rw [if_pos h2]
        refine ⟨f_X4_readPerson v q, ?_, (person_ex hq h hs hl hb hd).bz⟩
        unfold f_X4_readItem
        rw [hk1, hc, if_pos (show nI k = 1 by rw [e1]; rfl), if_neg h1, if_pos h2]
        rfl
      rw [if_neg h2]
      by_cases h3 : c = 115
      · rw [if_pos h3]
        refine ⟨f_X4_readStair v q, ?_, (stair_ex hq h hs hl hb hd).bz⟩
        unfold f_X4_readItem
        rw [hk1, hc, if_pos (show nI k = 1 by rw [e1]; rfl), if_neg h1, if_neg h2, if_pos h3]
        rfl
      rw [if_neg h3]
      by_cases h4 : c = 116
      · rw [if_pos h4]
        refine ⟨f_X4_readPair v q, ?_, (once_ex 2 3 (Or.inr ⟨rfl, rfl⟩) hq h hs hl hb hd).bz⟩
        unfold f_X4_readItem
        rw [hk1, hc, if_pos (show nI k = 1 by rw [e1]; rfl), if_neg h1, if_neg h2, if_neg h3, if_pos h4]
        rfl
      rw [if_neg h4]
      refine bad _ rfl ?_
      unfold f_X4_readItem
      rw [hk1, hc, if_pos (show nI k = 1 by rw [e1]; rfl), if_neg h1, if_neg h2, if_neg h3, if_neg h4]
    · rw [e3]
      refine bad _ rfl ?_
      unfold f_X4_readItem
      rw [hk1, hc, e2, if_pos (show nI k = 1 by rw [e1]; rfl), if_neg (by decide), if_neg (by decide), if_neg (by decide), if_neg (by decide)]
  · have ne : ¬ nI k = 1 := fun z => e1 ((nI_eq (b := 1) (by omega) (by omega)).mp z)
    rw [if_neg ne]
    refine bad _ rfl ?_
    unfold f_X4_readItem
    rw [hk1, if_neg ne]

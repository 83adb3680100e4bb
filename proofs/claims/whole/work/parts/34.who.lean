/-! who -/
abbrev K3 : Type := Int32 × Int32 × Int32
def kE : K3 := (0, -1, 0)
def kM (x y : K3) : K3 := (x.1 + y.1, x.2.1 &&& y.2.1, x.2.2 ||| y.2.2)
def kN (b : Int32) : K3 := (1, b, b)
theorem kM_comm (x y : K3) : kM x y = kM y x := by
  unfold kM
  rw [Int32.add_comm, Int32.and_comm, Int32.or_comm]
theorem kM_assoc (x y z : K3) : kM (kM x y) z = kM x (kM y z) := by
  unfold kM
  rw [Int32.add_assoc, Int32.and_assoc, Int32.or_assoc]
theorem kM_e (x : K3) : kM x kE = x := by
  obtain ⟨a, b, c⟩ := x
  show (a + 0, b &&& -1, c ||| 0) = (a, b, c)
  simp
theorem kE_m (x : K3) : kM kE x = x := by rw [kM_comm, kM_e]
def mS (F : Nat → K3) : Nat → K3
  | 0 => kE
  | n + 1 => kM (mS F n) (F n)
theorem mS_cg {F G : Nat → K3} : ∀ n, (∀ k, k < n → F k = G k) → mS F n = mS G n
  | 0, _ => rfl
  | n + 1, h => by
    show kM (mS F n) (F n) = kM (mS G n) (G n)
    rw [mS_cg n (fun k hk => h k (by omega)), h n (by omega)]
theorem mS_app (F : Nat → K3) (m : Nat) : ∀ n, mS F (m + n) = kM (mS F m) (mS (fun t => F (m + t)) n)
  | 0 => (kM_e _).symm
  | n + 1 => by
    show kM (mS F (m + n)) (F (m + n)) = kM (mS F m) (kM (mS (fun t => F (m + t)) n) (F (m + n)))
    rw [mS_app F m n, kM_assoc]
theorem mS_e : ∀ n, mS (fun _ => kE) n = kE
  | 0 => rfl
  | n + 1 => by
    show kM (mS (fun _ => kE) n) kE = kE
    rw [mS_e n, kM_e]
theorem mS_mul (F G : Nat → K3) : ∀ n, mS (fun t => kM (F t) (G t)) n = kM (mS F n) (mS G n)
  | 0 => (kM_e _).symm
  | n + 1 => by
    show kM (mS (fun t => kM (F t) (G t)) n) (kM (F n) (G n)) = kM (kM (mS F n) (F n)) (kM (mS G n) (G n))
    rw [mS_mul F G n, kM_assoc, kM_assoc, ← kM_assoc (mS G n), kM_comm (mS G n) (F n), kM_assoc]
theorem mS_swap (F : Nat → Nat → K3) (b : Nat) : ∀ a, mS (fun i => mS (fun j => F i j) b) a = mS (fun j => mS (fun i => F i j) a) b
  | 0 => (mS_e b).symm
  | a + 1 => by
    show kM (mS (fun i => mS (fun j => F i j) b) a) (mS (fun j => F a j) b) = mS (fun j => kM (mS (fun i => F i j) a) (F a j)) b
    rw [mS_swap F b a, mS_mul]
theorem mS_cut {F : Nat → K3} (m : Nat) : ∀ d, (∀ k, m ≤ k → k < m + d → F k = kE) → mS F (m + d) = mS F m
  | 0, _ => rfl
  | d + 1, h => by
    show kM (mS F (m + d)) (F (m + d)) = _
    rw [mS_cut m d (fun k h1 h2 => h k h1 (by omega)), h (m + d) (by omega) (by omega), kM_e]
theorem mS_split (F : Nat → K3) (q : Nat) : ∀ m, mS F (q * m) = mS (fun i => mS (fun j => F (q * i + j)) q) m
  | 0 => rfl
  | m + 1 => by
    rw [Nat.mul_succ, mS_app, mS_split F q m]
    rfl
def sh (p : Nat) : Int32 := 1 <<< (nI p &&& 31)
def EC (pl : Nat → Nat) : Nat → Nat → Nat → Int32 → Int32 → Int32 → K3
  | 0, _, t, h, u, b => if t = 0 ∧ h = 0 ∧ u = 0 then kN b else kE
  | r + 1, p, t, h, u, b => mS (fun o => EC pl r (p + 1) (t - o) (h - nI o * nI (hvs pl p)) (u - nI o * nI (pl (44 + p))) (if o = 0 then b else b ||| sh p)) (t + 1)
def cnI (pl : Nat → Nat) (p : Nat) : Nat := if nI (pl (34 + p)) = 1 then 1 else 2
theorem cnI_hvs {pl : Nat → Nat} {p : Nat} (h : pl (34 + p) ≤ 1) : cnI pl p = hvs pl p := by
  unfold cnI hvs
  by_cases e : pl (34 + p) = 1
  · rw [if_pos e, if_pos (by rw [e]; rfl)]
  · rw [if_neg e, if_neg (show ¬ nI (pl (34 + p)) = 1 from fun q => e ((nI_eq (b := 1) (by omega) (by omega)).mp q))]
def VR (pl : Nat → Nat) (k : Nat) (D U : Int32) : Nat → Nat → Nat → Nat → Int32 → Int32 → Int32 → K3
  | 0, _, _, f, a, u, b => if f = k ∧ a = D ∧ u = U then kN b else kE
  | r + 1, p, l, f, a, u, b => VR pl k D U r (p + 1) (l / 7) (f + if p < pl 1 then l % 7 else 9 * (l % 7)) (a + nI (l % 7) * nI (cnI pl p)) (u + nI (l % 7) * nI (pl (44 + p))) (if l % 7 = 0 then b else b ||| sh p)
theorem VR_big {pl : Nat → Nat} {k : Nat} {D U : Int32} : ∀ r p l f a u b, k < f → VR pl k D U r p l f a u b = kE
  | 0, p, l, f, a, u, b, h => by
    unfold VR
    rw [if_neg (by omega)]
  | r + 1, p, l, f, a, u, b, h => by
    unfold VR
    exact VR_big r _ _ _ _ _ _ (by omega)
theorem sub_eq0 (a b : Int32) : a - b = 0 ↔ b = a := by
  constructor
  · intro h
    have : a - b + b = 0 + b := by rw [h]
    rw [Int32.sub_add_cancel, Int32.zero_add] at this
    exact this.symm
  · intro h
    rw [h, Int32.sub_self]
theorem VR_EC {pl : Nat → Nat} {k : Nat} {D U : Int32} (hk : k ≤ 6) (h5 : pl 1 ≤ 5) (h34 : ∀ p, p < pl 1 → pl (34 + p) ≤ 1) : ∀ r p f a u b, p + r = 5 → f ≤ k → mS (fun l => VR pl k D U r p l f a u b) (7 ^ r) = EC pl (pl 1 - p) p (k - f) (D - a) (U - u) b
  | 0, p, f, a, u, b, hp, hf => by
    rw [show pl 1 - p = 0 by omega]
    show kM kE (if f = k ∧ a = D ∧ u = U then kN b else kE) = if k - f = 0 ∧ D - a = 0 ∧ U - u = 0 then kN b else kE
    rw [kE_m]
    have e : (f = k ∧ a = D ∧ u = U) ↔ (k - f = 0 ∧ D - a = 0 ∧ U - u = 0) := by
      rw [sub_eq0, sub_eq0]
      constructor
      · rintro ⟨h1, h2, h3⟩; exact ⟨by omega, h2, h3⟩
      · rintro ⟨h1, h2, h3⟩; exact ⟨by omega, h2, h3⟩
    by_cases q : f = k ∧ a = D ∧ u = U
    · rw [if_pos q, if_pos (e.mp q)]
    · rw [if_neg q, if_neg (fun z => q (e.mpr z))]
  | r + 1, p, f, a, u, b, hp, hf => by
    have e1 : mS (fun l => VR pl k D U (r + 1) p l f a u b) (7 ^ (r + 1)) = mS (fun o => mS (fun l => VR pl k D U r (p + 1) l (f + if p < pl 1 then o else 9 * o) (a + nI o * nI (cnI pl p)) (u + nI o * nI (pl (44 + p))) (if o = 0 then b else b ||| sh p)) (7 ^ r)) 7 := by
      rw [Nat.pow_succ, Nat.mul_comm, mS_split, mS_swap]
      refine mS_cg _ (fun o ho => mS_cg _ (fun l _ => ?_))
      show VR pl k D U r (p + 1) ((7 * l + o) / 7) (f + if p < pl 1 then (7 * l + o) % 7 else 9 * ((7 * l + o) % 7)) (a + nI ((7 * l + o) % 7) * nI (cnI pl p)) (u + nI ((7 * l + o) % 7) * nI (pl (44 + p))) (if (7 * l + o) % 7 = 0 then b else b ||| sh p) = _
      rw [show (7 * l + o) / 7 = l by omega, show (7 * l + o) % 7 = o by omega]
    rw [e1]
    by_cases hn : p < pl 1
    · have c1 : mS (fun o => mS (fun l => VR pl k D U r (p + 1) l (f + if p < pl 1 then o else 9 * o) (a + nI o * nI (cnI pl p)) (u + nI o * nI (pl (44 + p))) (if o = 0 then b else b ||| sh p)) (7 ^ r)) ((k - f + 1) + (6 - (k - f))) = _ := mS_cut (k - f + 1) (6 - (k - f)) (fun o h1 h2 => by
        rw [if_pos hn]
        exact (mS_cg _ (fun l _ => VR_big _ _ _ _ _ _ _ (by omega))).trans (mS_e _))
      rw [show 7 = (k - f + 1) + (6 - (k - f)) by omega] at c1 ⊢
      rw [show (k - f + 1) + (6 - (k - f)) = 7 by omega] at c1 ⊢
      rw [c1, show pl 1 - p = (pl 1 - (p + 1)) + 1 by omega]
      show _ = mS (fun o => EC pl (pl 1 - (p + 1)) (p + 1) (k - f - o) (D - a - nI o * nI (hvs pl p)) (U - u - nI o * nI (pl (44 + p))) (if o = 0 then b else b ||| sh p)) (k - f + 1)
      refine mS_cg _ (fun o ho => ?_)
      rw [if_pos hn, cnI_hvs (h34 p hn), VR_EC hk h5 h34 r (p + 1) (f + o) _ _ _ (by omega) (by omega), Int32.sub_sub, Int32.sub_sub, Nat.sub_sub]
    · have c1 : mS (fun o => mS (fun l => VR pl k D U r (p + 1) l (f + if p < pl 1 then o else 9 * o) (a + nI o * nI (cnI pl p)) (u + nI o * nI (pl (44 + p))) (if o = 0 then b else b ||| sh p)) (7 ^ r)) (1 + 6) = _ := mS_cut 1 6 (fun o h1 h2 => by
        rw [if_neg hn]
        exact (mS_cg _ (fun l _ => VR_big _ _ _ _ _ _ _ (by omega))).trans (mS_e _))
      rw [show 7 = 1 + 6 by omega] at c1 ⊢
      rw [show 1 + 6 = 7 by omega] at c1 ⊢
      rw [c1]
      show kM kE _ = _
      rw [kE_m]
      dsimp only
      rw [if_neg hn, if_pos rfl, show nI 0 = (0 : Int32) from rfl, Int32.zero_mul, Int32.zero_mul, Int32.add_zero, Int32.add_zero, Nat.mul_zero, show f + 0 = f from rfl, VR_EC hk h5 h34 r (p + 1) f a u b (by omega) hf, show pl 1 - (p + 1) = 0 by omega, show pl 1 - p = 0 by omega]
      rfl
/-! the class's side -/
def st3 (μ : Mem) (x : K3) : Mem := si (si (si μ 168 1 x.1) 168 2 x.2.1) 168 3 x.2.2

theorem mem_gi {a b : Mem} (h : ∀ k j, gi a k j = gi b k j) (h2 : a.2 = b.2) : a = b := by
  obtain ⟨I, R⟩ := a
  obtain ⟨J, S⟩ := b
  have : I = J := by
    funext k j
    exact h k j
  rw [this, show R = S from h2]
theorem st3_1 (μ : Mem) (x : K3) : gi (st3 μ x) 168 1 = x.1 := by
  unfold st3
  simp [gi_si]
theorem st3_2 (μ : Mem) (x : K3) : gi (st3 μ x) 168 2 = x.2.1 := by
  unfold st3
  simp [gi_si]
theorem st3_3 (μ : Mem) (x : K3) : gi (st3 μ x) 168 3 = x.2.2 := by
  unfold st3
  simp [gi_si]
theorem st3_fr (μ : Mem) (x : K3) : Fr (fun k => k = 168) μ (st3 μ x) := ((Fr.si (by rfl)).tr (Fr.si (by rfl))).tr (Fr.si (by rfl))
theorem note_ok (μ : Mem) (x : K3) (b : Int32) : f_X6_note (st3 μ x) b = some (st3 μ (kM x (kN b))) := by
  unfold f_X6_note
  simp only [stI_eq, Option.bind_some]
  rw [st3_1, gi_si, if_neg (by omega), st3_2, gi_si, if_neg (by omega), gi_si, if_neg (by omega), st3_3]
  congr 1
  refine mem_gi (fun k j => ?_) rfl
  unfold st3
  simp only [gi_si]
  by_cases e3 : k = 168 ∧ j = 3
  · simp only [if_pos e3]; rfl
  · by_cases e2 : k = 168 ∧ j = 2
    · simp only [if_neg e3, if_pos e2]; rfl
    · by_cases e1 : k = 168 ∧ j = 1
      · simp only [if_neg e3, if_neg e2, if_pos e1]; rfl
      · simp only [if_neg e1, if_neg e2, if_neg e3]
theorem accuse_ok {μ : Mem} {q : Nat} {pl : Nat → Nat} (hq : isPl q = true) (hP : PlC μ q pl) (hO : PlOk pl) : ∀ r p t n (h u b : Int32) (x : K3), p + r = pl 1 → t ≤ 6 → r < n → f_X6_accuse n (st3 μ x) q (nI p) (nI t) h u b = some (st3 μ (kM x (EC pl r p t h u b)))
  | 0, p, t, n, h, u, b, x, hp, ht, hn => by
    obtain ⟨n, rfl⟩ : ∃ n', n = n' + 1 := ⟨n - 1, by omega⟩
    have h5 := hO.2.1
    have hc := isPl_cases hq
    show f_X6_accuse_s (f_X6_accuse n) (st3 μ x) q (nI p) (nI t) h u b = _
    unfold f_X6_accuse_s
    rw [((st3_fr μ x).2.2.2 q (by omega)).1, hP.2.1, if_neg (nI_nlt (by omega) (by omega))]
    show _ = some (st3 μ (kM x (if t = 0 ∧ h = 0 ∧ u = 0 then kN b else kE)))
    have et : nI t = 0 ↔ t = 0 := nI_eq (b := 0) (by omega) (by omega)
    by_cases e1 : t = 0
    · rw [if_pos (et.mpr e1)]
      by_cases e2 : h = 0
      · rw [if_pos e2]
        by_cases e3 : u = 0
        · rw [if_pos e3, if_pos ⟨e1, e2, e3⟩, note_ok]
          rfl
        · rw [if_neg e3, if_neg (fun z => e3 z.2.2), kM_e]
      · rw [if_neg e2, if_neg (fun z => e2 z.2.1), kM_e]
    · rw [if_neg (fun z => e1 (et.mp z)), if_neg (fun z => e1 z.1), kM_e]
  | r + 1, p, t, n, h, u, b, x, hp, ht, hn => by
    obtain ⟨n, rfl⟩ : ∃ n', n = n' + 1 := ⟨n - 1, by omega⟩
    have h5 := hO.2.1
    have hc := isPl_cases hq
    have b1 := hO.2.2.2.2.2 p (by omega)
    show f_X6_accuse_s (f_X6_accuse n) (st3 μ x) q (nI p) (nI t) h u b = _
    unfold f_X6_accuse_s
    rw [((st3_fr μ x).2.2.2 q (by omega)).1, hP.2.1, if_pos (nI_lt (by omega) (by omega))]
    have hl : iter gFU (f_X6_accuse_b32 (f_X6_accuse n) q (nI p) (nI t) h u b) (0, st3 μ x) = some (st3 μ (kM x (EC pl (r + 1) p t h u b))) := by
      refine iter_forU (fun o => (nI o, st3 μ (kM x (mS (fun o => EC pl r (p + 1) (t - o) (h - nI o * nI (hvs pl p)) (u - nI o * nI (pl (44 + p))) (if o = 0 then b else b ||| sh p)) o)))) (t + 1) _ ?_ (by omega) ?_ ?_
      · show _ = (nI 0, st3 μ (kM x kE))
        rw [kM_e]
        rfl
      · intro o ho
        generalize hX : kM x (mS (fun o => EC pl r (p + 1) (t - o) (h - nI o * nI (hvs pl p)) (u - nI o * nI (pl (44 + p))) (if o = 0 then b else b ||| sh p)) o) = X
        have eX : kM x (mS (fun o => EC pl r (p + 1) (t - o) (h - nI o * nI (hvs pl p)) (u - nI o * nI (pl (44 + p))) (if o = 0 then b else b ||| sh p)) (o + 1)) = kM X (EC pl r (p + 1) (t - o) (h - nI o * nI (hvs pl p)) (u - nI o * nI (pl (44 + p))) (if o = 0 then b else b ||| sh p)) := by
          rw [← hX, kM_assoc]
          rfl
        have hP' : PlC (st3 μ X) q pl := hP.fr (st3_fr μ X) (fun k h1 h2 h3 => by omega)
        rw [eX]
        unfold f_X6_accuse_b32
        dsimp only
        rw [if_neg (nI_nlt (by omega) (by omega)), halvesOf_ok hP' (by omega) h5 b1.1, Option.bind_some, ldA_nI (show p < 5 by omega) (by omega), (hP'.2.2.2.2.2 p (by omega)).2.2, Option.bind_some]
        have eo : nI o = 0 ↔ o = 0 := nI_eq (b := 0) (by omega) (by omega)
        have ej : (if nI o = 0 then f_X6_accuse_j81 (f_X6_accuse n) (st3 μ X) q (nI p) (nI t) h u b (nI o) (h - nI o * nI (hvs pl p)) (u - nI o * nI (pl (44 + p))) b else f_X6_accuse_j81 (f_X6_accuse n) (st3 μ X) q (nI p) (nI t) h u b (nI o) (h - nI o * nI (hvs pl p)) (u - nI o * nI (pl (44 + p))) (b ||| (1 : Int32) <<< (nI p &&& 31))) = f_X6_accuse_j81 (f_X6_accuse n) (st3 μ X) q (nI p) (nI t) h u b (nI o) (h - nI o * nI (hvs pl p)) (u - nI o * nI (pl (44 + p))) (if o = 0 then b else b ||| sh p) := by
          by_cases e : o = 0
          · rw [if_pos (eo.mpr e), if_pos e]
          · rw [if_neg (fun z => e (eo.mp z)), if_neg e]
            rfl
        rw [ej]
        unfold f_X6_accuse_j81
        rw [nI_1, nI_1, pk_sub (by omega), accuse_ok hq hP hO r (p + 1) (t - o) n _ _ _ X (by omega) (by omega) (by omega), Option.bind_some]
      · unfold f_X6_accuse_b32
        dsimp only
        rw [if_pos (nI_lt (by omega) (by omega))]
        rfl
    rw [hl, Option.bind_some]
theorem search_ok {μ : Mem} {q t : Nat} {pl : Nat → Nat} (h u : Int32) (hq : isPl q = true) (hP : PlC μ q pl) (hO : PlOk pl) (ht : t ≤ 6) : f_X6_search μ q (nI t) h u = some (st3 μ (kM (0, 31, 0) (EC pl (pl 1) 0 t h u 0))) := by
  unfold f_X6_search
  have h5 := hO.2.1
  simp only [stI_eq, Option.bind_some]
  have := accuse_ok hq hP hO (pl 1) 0 t 8 h u 0 (0, 31, 0) (by omega) ht (by omega)
  rw [show si (si (si μ 168 1 0) 168 2 31) 168 3 0 = st3 μ (0, 31, 0) from rfl, show (0 : Int32) = nI 0 from rfl] at *
  rw [this, Option.bind_some]
/-! the reference's side -/
theorem cnI_ok {m : Mem} {p : Nat} {pl : Nat → Nat} (h : PlM m pl) (hp : p < 5) : f_X9_counts m (nI p) = some (nI (cnI pl p)) := by
  unfold f_X9_counts cnI
  rw [show (34 : Int32) = nI 34 from rfl, nI_add, ldA_nI (by omega) (by omega), h (34 + p) (by omega), Option.bind_some]
  split <;> rfl
theorem ref82 {m : Mem} {pl : Nat → Nat} {k : Nat} {D U : Int32} (x1 x2 x3 x4 x5 x6 x7 x8 : Int32) (hP : PlM m pl) (h5 : pl 1 ≤ 5) : ∀ r p l f (a u b : Int32) n, p + r = 5 → l < 100000 → r < n → ∃ F A W B, iter n (f_X9_who_b82 m x1 x2 x3 x4 x5 x6 x7 x8) (nI l, nI f, a, u, b, nI p) = some (nI F, A, W, B) ∧ F ≤ f + 54 * r ∧ VR pl k D U r p l f a u b = if F = k ∧ A = D ∧ W = U then kN B else kE
  | 0, p, l, f, a, u, b, n, hp, hl, hn => by
    obtain ⟨n, rfl⟩ : ∃ n', n = n' + 1 := ⟨n - 1, by omega⟩
    have hp5 : p = 5 := by omega
    subst hp5
    exact ⟨f, a, u, b, iter_end (by unfold f_X9_who_b82; rfl), by omega, rfl⟩
  | r + 1, p, l, f, a, u, b, n, hp, hl, hn => by
    obtain ⟨n, rfl⟩ : ∃ n', n = n' + 1 := ⟨n - 1, by omega⟩
    obtain ⟨F, A, W, B, e1, e2, e3⟩ := ref82 (k := k) (D := D) (U := U) x1 x2 x3 x4 x5 x6 x7 x8 hP h5 r (p + 1) (l / 7) (f + if p < pl 1 then l % 7 else 9 * (l % 7)) (a + nI (l % 7) * nI (cnI pl p)) (u + nI (l % 7) * nI (pl (44 + p))) (if l % 7 = 0 then b else b ||| sh p) n (by omega) (by omega) (by omega)
    refine ⟨F, A, W, B, ?_, ?_, e3⟩
    · rw [iter_go (v2 := (nI (l / 7), nI (f + if p < pl 1 then l % 7 else 9 * (l % 7)), a + nI (l % 7) * nI (cnI pl p), u + nI (l % 7) * nI (pl (44 + p)), (if l % 7 = 0 then b else b ||| sh p), nI (p + 1))) ?_]
      · exact e1
      · unfold f_X9_who_b82
        dsimp only
        rw [if_neg (show ¬ (5 : Int32) ≤ nI p from nI_ge (b := 5) (by omega) (by omega)), show (7 : Int32) = nI 7 from rfl, rm_nI (by omega) (by omega) (by omega), Option.bind_some, dv_nI (by omega) (by omega) (by omega), Option.bind_some, show ldA m 188 49 1 = some (nI (pl 1)) from (ldA_nI (i := 1) (by omega) (by omega)).trans (by rw [hP 1 (by omega)]), Option.bind_some]
        have ej : ∀ g : Nat, f_X9_who_j125 m x1 x2 x3 x4 x5 x6 x7 x8 (nI (l / 7)) a u b (nI p) (nI (l % 7)) (nI f) (nI g) = some (.inl (nI (l / 7), nI (f + g), a + nI (l % 7) * nI (cnI pl p), u + nI (l % 7) * nI (pl (44 + p)), (if l % 7 = 0 then b else b ||| sh p), nI (p + 1))) := by
          intro g
          unfold f_X9_who_j125
          rw [cnI_ok hP (by omega), Option.bind_some, show (44 : Int32) = nI 44 from rfl, nI_add, ldA_nI (by omega) (by omega), hP (44 + p) (by omega), Option.bind_some, nI_1, nI_add]
          by_cases e : l % 7 = 0
          · rw [if_pos (show nI (l % 7) ≤ 0 by rw [e]; decide), if_pos e, Int32.or_zero]
          · rw [if_neg (nI_nle (by omega) (by omega)), if_neg e]
            rfl
        by_cases e : p < pl 1
        · rw [if_neg (nI_ge e (by omega)), ej, if_pos e]
        · rw [if_pos (nI_le (by omega) (by omega)), show (9 : Int32) = nI 9 from rfl, pk_mul, ej, if_neg e]
    · have : (if p < pl 1 then l % 7 else 9 * (l % 7)) ≤ 54 := by split <;> omega
      omega
theorem ref55 {m : Mem} {pl : Nat → Nat} {k : Nat} {D U : Int32} (w : Int32) (hP : PlM m pl) (h5 : pl 1 ≤ 5) (hk : k ≤ 6) : iter gFU (f_X9_who_b55 m (nI k) D U w) (0, 31, 0, 0) = some (kM (0, 31, 0) (mS (fun l => VR pl k D U 5 0 l 0 0 0 0) 16807)) := by
  refine iter_forU (fun t => ((kM (0, 31, 0) (mS (fun l => VR pl k D U 5 0 l 0 0 0 0) t)).1, (kM (0, 31, 0) (mS (fun l => VR pl k D U 5 0 l 0 0 0 0) t)).2.1, (kM (0, 31, 0) (mS (fun l => VR pl k D U 5 0 l 0 0 0 0) t)).2.2, nI t)) 16807 _ ?_ (by omega) ?_ ?_
  · show _ = ((kM (0, 31, 0) kE).1, (kM (0, 31, 0) kE).2.1, (kM (0, 31, 0) kE).2.2, nI 0)
    rw [kM_e]
    rfl
  · intro t ht
    have eS : kM (0, 31, 0) (mS (fun l => VR pl k D U 5 0 l 0 0 0 0) (t + 1)) = kM (kM (0, 31, 0) (mS (fun l => VR pl k D U 5 0 l 0 0 0 0) t)) (VR pl k D U 5 0 t 0 0 0 0) := by
      rw [kM_assoc]
      rfl
    have eM : (kM (0, 31, 0) (mS (fun l => VR pl k D U 5 0 l 0 0 0 0) t)).2.1 &&& 31 = (kM (0, 31, 0) (mS (fun l => VR pl k D U 5 0 l 0 0 0 0) t)).2.1 := by
      show (31 &&& _) &&& 31 = 31 &&& _
      rw [Int32.and_comm, ← Int32.and_assoc]
      rfl
    rw [eS]
    generalize kM (0, 31, 0) (mS (fun l => VR pl k D U 5 0 l 0 0 0 0) t) = X at eM ⊢
    obtain ⟨F, A, W, B, e1, e2, e3⟩ := ref82 (k := k) (D := D) (U := U) (nI k) D U w X.1 X.2.1 X.2.2 (nI t) hP h5 5 0 t 0 0 0 0 gFU (by omega) (by omega) (by show 5 < 1000000000000; omega)
    unfold f_X9_who_b55
    dsimp only
    rw [if_neg (show ¬ (16807 : Int32) ≤ nI t from nI_ge (b := 16807) (by omega) (by omega)), show iter gFU (f_X9_who_b82 m (nI k) D U w X.1 X.2.1 X.2.2 (nI t)) (nI t, 0, 0, 0, 0, 0) = some (nI F, A, W, B) from e1, Option.bind_some]
    dsimp only
    have f1 : f_X9_who_j207 m (nI k) D U w X.1 X.2.1 X.2.2 (nI t) B 1 = some (.inl (X.1 + 1, X.2.1 &&& B, X.2.2 ||| B, nI (t + 1))) := by
      unfold f_X9_who_j207
      rw [if_neg (by decide)]
      unfold f_X9_who_j221
      rw [if_neg (by decide)]
      unfold f_X9_who_j238
      rw [if_neg (by decide), nI_1]
    have f0 : f_X9_who_j206 m (nI k) D U w X.1 X.2.1 X.2.2 (nI t) B = some (.inl (X.1, X.2.1, X.2.2, nI (t + 1))) := by
      unfold f_X9_who_j206 f_X9_who_j207
      rw [if_pos rfl]
      unfold f_X9_who_j221
      rw [if_pos rfl]
      unfold f_X9_who_j238
      rw [if_pos rfl, nI_1, eM, Int32.add_zero, Int32.or_zero]
    rw [f1, f0, e3]
    have ek : nI F = nI k ↔ F = k := nI_eq (by omega) (by omega)
    have r0 : ((kM X kE).1, (kM X kE).2.1, (kM X kE).2.2, nI (t + 1)) = (X.1, X.2.1, X.2.2, nI (t + 1)) := by rw [kM_e]
    by_cases q1 : F = k
    · rw [if_pos (ek.mpr q1)]
      by_cases q2 : A = D
      · rw [if_pos q2]
        by_cases q3 : W = U
        · rw [if_pos q3, if_pos ⟨q1, q2, q3⟩]
          rfl
        · rw [if_neg q3, if_neg (fun z => q3 z.2.2), r0]
      · rw [if_neg q2, if_neg (fun z => q2 z.2.1), r0]
    · rw [if_neg (fun z => q1 (ek.mp z)), if_neg (fun z => q1 z.1), r0]
  · unfold f_X9_who_b55
    rfl
theorem sp_who : Sp_who Inv := by
  intro c μ a1 a2 a3 a4 hc hI
  obtain ⟨tx, len, pl, f, kn, ps, b, gf, gk, gp, tr, h1, h2, h3⟩ := id hI
  have hq := h1.1.1
  have hO := h3.2.1
  have h5 := hO.2.1
  have triv : f_X8_who μ a1 a2 a3 a4 = some (-1, μ) → f_X9_who μ a1 a2 a3 a4 = some (-1) → ∃ (r : Int32) (μ1 μ2 : Mem), (f_X8_who μ a1 a2 a3 a4 = some (r, μ1)) ∧ (f_X9_who μ1 a1 a2 a3 a4 = some r ∧ μ2 = μ1) ∧ Inv (c + 1) μ2 := fun q1 q2 => ⟨-1, μ, μ, q1, ⟨q2, rfl⟩, hI.up⟩
  have in6 : ∀ m : Mem, f_X9_in m a1 0 6 = some (bi (ck a1 7)) := fun m => in_eq (N := 7) (by omega) a1 6 rfl (by decide)
  have in2 : ∀ m : Mem, f_X9_in m a4 0 2 = some (bi (ck a4 3)) := fun m => in_eq (N := 3) (by omega) a4 2 rfl (by decide)
  have k1 : ∀ {α : Type} (x y : α), (if a1 < 0 then x else if (6 : Int32) < a1 then x else y) = if ck a1 7 then y else x := by
    intro α x y
    rcases int_range a1 (n := 7) (by omega) with ⟨e1, e2⟩ | ⟨e1, e2, e3⟩ | ⟨j, e1, rfl, e3⟩
    · rw [if_pos e1, e2]; rfl
    · rw [if_neg e1, if_pos (Int32.lt_of_lt_of_le (by decide) e2), e3]; rfl
    · rw [if_neg (nI_pos (by omega)), if_neg (show ¬ (6 : Int32) < nI j from nI_nlt (a := 6) (by omega) (by omega)), e3]; rfl
  have k4 : ∀ {α : Type} (x y : α), (if a4 < 0 then x else if a4 ≤ (2 : Int32) then y else x) = if ck a4 3 then y else x := by
    intro α x y
    rcases int_range a4 (n := 3) (by omega) with ⟨e1, e2⟩ | ⟨e1, e2, e3⟩ | ⟨j, e1, rfl, e3⟩
    · rw [if_pos e1, e2]; rfl
    · rw [if_neg e1, if_neg (fun q => absurd (Int32.le_trans e2 q) (by decide)), e3]; rfl
    · rw [if_neg (nI_pos (by omega)), if_pos (show nI j ≤ (2 : Int32) from nI_le (b := 2) (by omega) (by omega)), e3]; rfl
  cases hk1 : ck a1 7 with
  | false =>
    refine triv ?_ ?_
    · unfold f_X8_who
      rw [k1, hk1]; rfl
    · unfold f_X9_who
      rw [in6, Option.bind_some, hk1, if_pos bi0]
  | true =>
    cases hk2 : ck a2 100 with
    | false =>
      refine triv ?_ ?_
      · unfold f_X8_who
        rw [k1, hk1, if_pos rfl, isAsked_eq, Option.bind_some, hk2, if_pos bi0]
      · unfold f_X9_who
        rw [in6, Option.bind_some, hk1, if_neg bi1, in99_eq, Option.bind_some, hk2, if_pos bi0]
    | true =>
      cases hk3 : ck a3 100 with
      | false =>
        refine triv ?_ ?_
        · unfold f_X8_who
          rw [k1, hk1, if_pos rfl, isAsked_eq, Option.bind_some, hk2, if_neg bi1, isAsked_eq, Option.bind_some, hk3, if_pos bi0]
        · unfold f_X9_who
          rw [in6, Option.bind_some, hk1, if_neg bi1, in99_eq, Option.bind_some, hk2, if_neg bi1, in99_eq, Option.bind_some, hk3, if_pos bi0]
      | true =>
        cases hk4 : ck a4 3 with
        | false =>
          refine triv ?_ ?_
          · unfold f_X8_who
            rw [k1, hk1, if_pos rfl, isAsked_eq, Option.bind_some, hk2, if_neg bi1, isAsked_eq, Option.bind_some, hk3, if_neg bi1, k4, hk4]; rfl
          · unfold f_X9_who
            rw [in6, Option.bind_some, hk1, if_neg bi1, in99_eq, Option.bind_some, hk2, if_neg bi1, in99_eq, Option.bind_some, hk3, if_neg bi1, in2, Option.bind_some, hk4, if_pos bi0]
        | true =>
          obtain ⟨k, hk, rfl⟩ := ck_nat hk1 (by omega)
          obtain ⟨w, hw, rfl⟩ := ck_nat hk4 (by omega)
          have hF := st3_fr μ (kM (0, 31, 0) (EC pl (pl 1) 0 k a2 a3 0))
          have sC : SameC μ (st3 μ (kM (0, 31, 0) (EC pl (pl 1) 0 k a2 a3 0))) := hF.sameC (fun k hk => by omega)
          have sM : SameM μ (st3 μ (kM (0, 31, 0) (EC pl (pl 1) 0 k a2 a3 0))) := hF.sameM (fun k hk => by omega)
          have i2 := h2.same sM
          have key := VR_EC (D := a2) (U := a3) (show k ≤ 6 by omega) h5 (fun p hp => (hO.2.2.2.2.2 p hp).1) 5 0 0 0 0 0 (by omega) (by omega)
          rw [Int32.sub_zero, Int32.sub_zero, Nat.sub_zero, Nat.sub_zero] at key
          have c8 : f_X8_who μ (nI k) a2 a3 (nI w) = (if nI w = 0 then some ((kM (0, 31, 0) (EC pl (pl 1) 0 k a2 a3 0)).1, st3 μ (kM (0, 31, 0) (EC pl (pl 1) 0 k a2 a3 0))) else if nI w = 1 then (if (kM (0, 31, 0) (EC pl (pl 1) 0 k a2 a3 0)).1 = 0 then some (0, st3 μ (kM (0, 31, 0) (EC pl (pl 1) 0 k a2 a3 0))) else some ((kM (0, 31, 0) (EC pl (pl 1) 0 k a2 a3 0)).2.1, st3 μ (kM (0, 31, 0) (EC pl (pl 1) 0 k a2 a3 0)))) else some ((kM (0, 31, 0) (EC pl (pl 1) 0 k a2 a3 0)).2.2, st3 μ (kM (0, 31, 0) (EC pl (pl 1) 0 k a2 a3 0)))) := by
            unfold f_X8_who
            rw [k1, hk1, if_pos rfl, isAsked_eq, Option.bind_some, hk2, if_neg bi1, isAsked_eq, Option.bind_some, hk3, if_neg bi1, k4, hk4, if_pos rfl, rfG_eq hq, Option.bind_some, search_ok _ _ hq h1.2.2.1 hO (by omega), Option.bind_some, st3_1, st3_2, st3_3]
          have c9 : f_X9_who (st3 μ (kM (0, 31, 0) (EC pl (pl 1) 0 k a2 a3 0))) (nI k) a2 a3 (nI w) = (if nI w = 0 then some ((kM (0, 31, 0) (EC pl (pl 1) 0 k a2 a3 0)).1) else if nI w = 2 then some ((kM (0, 31, 0) (EC pl (pl 1) 0 k a2 a3 0)).2.2) else (if (kM (0, 31, 0) (EC pl (pl 1) 0 k a2 a3 0)).1 = 0 then some 0 else some ((kM (0, 31, 0) (EC pl (pl 1) 0 k a2 a3 0)).2.1))) := by
            unfold f_X9_who
            rw [in6, Option.bind_some, hk1, if_neg bi1, in99_eq, Option.bind_some, hk2, if_neg bi1, in99_eq, Option.bind_some, hk3, if_neg bi1, in2, Option.bind_some, hk4, if_neg bi1, ref55 (nI w) i2.2.1 h5 (by omega), Option.bind_some, show (16807 : Nat) = 7 ^ 5 from rfl, key]
          obtain rfl | rfl | rfl : w = 0 ∨ w = 1 ∨ w = 2 := by omega
          · exact ⟨_, _, _, c8, ⟨c9, rfl⟩, hI.same sC sM⟩
          · by_cases e : (kM (0, 31, 0) (EC pl (pl 1) 0 k a2 a3 0)).1 = 0
            · refine ⟨0, _, _, c8.trans ?_, ⟨c9.trans ?_, rfl⟩, hI.same sC sM⟩
              · rw [if_neg (by decide), if_pos (show nI 1 = 1 from rfl), if_pos e]
              · rw [if_neg (by decide), if_neg (by decide), if_pos e]
            · refine ⟨(kM (0, 31, 0) (EC pl (pl 1) 0 k a2 a3 0)).2.1, _, _, c8.trans ?_, ⟨c9.trans ?_, rfl⟩, hI.same sC sM⟩
              · rw [if_neg (by decide), if_pos (show nI 1 = 1 from rfl), if_neg e]
              · rw [if_neg (by decide), if_neg (by decide), if_neg e]
          · exact ⟨_, _, _, c8, ⟨c9, rfl⟩, hI.same sC sM⟩

/-! coins: the numbers -/
def mn9 (F : Nat → Nat) : Nat → Nat
  | 0 => 1000000000
  | n + 1 => min (mn9 F n) (F n)
theorem mn9_bd (F : Nat → Nat) : ∀ n, mn9 F n ≤ 1000000000
  | 0 => Nat.le_refl _
  | n + 1 => by
    have := mn9_bd F n
    unfold mn9
    omega
theorem mn9_le (F : Nat → Nat) : ∀ n c, c < n → mn9 F n ≤ F c
  | 0, c, h => by omega
  | n + 1, c, h => by
    unfold mn9
    by_cases e : c = n
    · subst e; omega
    · have := mn9_le F n c (by omega)
      omega
theorem mn9_at (F : Nat → Nat) : ∀ n, mn9 F n = 1000000000 ∨ ∃ c, c < n ∧ mn9 F n = F c
  | 0 => Or.inl rfl
  | n + 1 => by
    unfold mn9
    by_cases e : mn9 F n ≤ F n
    · rw [Nat.min_eq_left e]
      rcases mn9_at F n with h | ⟨c, h1, h2⟩
      · exact Or.inl h
      · exact Or.inr ⟨c, by omega, h2⟩
    · rw [Nat.min_eq_right (by omega)]
      exact Or.inr ⟨n, by omega, rfl⟩
def Gc (dw : Nat → Nat → Nat) (ns : Nat) : Nat → Nat → Nat
  | 0, _ => 0
  | n + 1, b => mn9 (fun c => dw (ns - (n + 1)) c * 1000 + c + Gc dw ns n (b - c)) (min 12 b + 1)
theorem Gc_bd {dw : Nat → Nat → Nat} {ns : Nat} (hd : ∀ s c, dw s c ≤ 999) : ∀ n b, n ≤ 7 → b ≤ 99 → Gc dw ns n b % 1000 ≤ b ∧ Gc dw ns n b ≤ 999000 * n + b
  | 0, b, _, _ => ⟨by show 0 % 1000 ≤ b; omega, by show 0 ≤ _; omega⟩
  | n + 1, b, hn, hb => by
    have l0 := mn9_le (fun c => dw (ns - (n + 1)) c * 1000 + c + Gc dw ns n (b - c)) (min 12 b + 1) 0 (by omega)
    have d0 := hd (ns - (n + 1)) 0
    have i0 := Gc_bd (ns := ns) hd n b (by omega) hb
    try dsimp only at l0
    rw [Nat.sub_zero] at l0
    unfold Gc
    rcases mn9_at (fun c => dw (ns - (n + 1)) c * 1000 + c + Gc dw ns n (b - c)) (min 12 b + 1) with h | ⟨c, h1, h2⟩
    · omega
    · have d1 := hd (ns - (n + 1)) c
      have i1 := Gc_bd (ns := ns) hd n (b - c) (by omega) (by omega)
      rw [h2]
      try dsimp only
      constructor
      · omega
      · omega
theorem Gc_mono {dw : Nat → Nat → Nat} {ns : Nat} : ∀ n b b2, b ≤ b2 → Gc dw ns n b2 ≤ Gc dw ns n b
  | 0, b, b2, _ => Nat.le_refl _
  | n + 1, b, b2, h => by
    unfold Gc
    rcases mn9_at (fun c => dw (ns - (n + 1)) c * 1000 + c + Gc dw ns n (b - c)) (min 12 b + 1) with e | ⟨c, h1, h2⟩
    · rw [e]
      exact mn9_bd _ _
    · rw [h2]
      have l := mn9_le (fun c => dw (ns - (n + 1)) c * 1000 + c + Gc dw ns n (b2 - c)) (min 12 b2 + 1) c (by omega)
      have i := Gc_mono (dw := dw) (ns := ns) n (b - c) (b2 - c) (by omega)
      try dsimp only at l
      try dsimp only
      omega
/-- so much is owed with so many coins for one stair -/
def Hc (dw : Nat → Nat → Nat) (ns s b : Nat) : Nat := Gc dw ns (ns - s) b
def Fc (dw : Nat → Nat → Nat) (ns s b c : Nat) : Nat := dw s c * 1000 + c + Hc dw ns (s + 1) (b - c)
theorem Hc_eq {dw : Nat → Nat → Nat} {ns s b : Nat} (hs : s < ns) : Hc dw ns s b = mn9 (Fc dw ns s b) (min 12 b + 1) := by
  unfold Hc
  rw [show ns - s = (ns - (s + 1)) + 1 by omega]
  show mn9 (fun c => dw (ns - ((ns - (s + 1)) + 1)) c * 1000 + c + Gc dw ns (ns - (s + 1)) (b - c)) (min 12 b + 1) = _
  rw [show ns - ((ns - (s + 1)) + 1) = s by omega]
  rfl
theorem Hc_bd {dw : Nat → Nat → Nat} {ns s b : Nat} (hd : ∀ s c, dw s c ≤ 999) (hn : ns ≤ 7) (hb : b ≤ 99) : Hc dw ns s b % 1000 ≤ b ∧ Hc dw ns s b ≤ 6993099 := by
  have := Gc_bd (ns := ns) hd (ns - s) b (by omega) hb
  unfold Hc
  exact ⟨this.1, by omega⟩
theorem Hc_end {dw : Nat → Nat → Nat} {ns b : Nat} : Hc dw ns ns b = 0 := by
  unfold Hc
  rw [Nat.sub_self]
  rfl
theorem Fc_big {dw : Nat → Nat → Nat} {ns s b c : Nat} (h12 : ∀ s c, 12 ≤ c → dw s c = 0) (hc : 12 < c) (hb : c ≤ b) : Fc dw ns s b 12 < Fc dw ns s b c := by
  unfold Fc
  rw [h12 s 12 (by omega), h12 s c (by omega)]
  have : Hc dw ns (s + 1) (b - 12) ≤ Hc dw ns (s + 1) (b - c) := Gc_mono _ _ _ (by omega)
  omega
theorem Hc_all {dw : Nat → Nat → Nat} {ns s b : Nat} (h12 : ∀ s c, 12 ≤ c → dw s c = 0) (hs : s < ns) : mn9 (Fc dw ns s b) (b + 1) = Hc dw ns s b := by
  rw [Hc_eq hs]
  have key : ∀ d, min 12 b + 1 + d ≤ b + 1 → mn9 (Fc dw ns s b) (min 12 b + 1 + d) = mn9 (Fc dw ns s b) (min 12 b + 1) := by
    intro d
    induction d with
    | zero => intro _; rfl
    | succ d ih =>
      intro hd
      show min (mn9 (Fc dw ns s b) (min 12 b + 1 + d)) (Fc dw ns s b (min 12 b + 1 + d)) = _
      rw [ih (by omega)]
      have l := mn9_le (Fc dw ns s b) (min 12 b + 1) 12 (by omega)
      have g := Fc_big (ns := ns) (s := s) h12 (show 12 < min 12 b + 1 + d by omega) (show min 12 b + 1 + d ≤ b by omega)
      exact Nat.min_eq_left (by omega)
  have := key (b - min 12 b) (by omega)
  rw [show min 12 b + 1 + (b - min 12 b) = b + 1 by omega] at this
  exact this
/-- the first that fits, out of the first n -/
def ff (F : Nat → Nat) (v : Nat) : Nat → Nat
  | 0 => 0
  | n + 1 => if ff F v n < n then ff F v n else if F n = v then n else n + 1
theorem ff_ok (F : Nat → Nat) (v : Nat) : ∀ n, ff F v n ≤ n ∧ (ff F v n < n → F (ff F v n) = v) ∧ ∀ c, c < ff F v n → F c ≠ v
  | 0 => ⟨Nat.le_refl _, fun h => absurd h (by show ¬ 0 < 0; omega), fun c h => absurd h (by show ¬ c < 0; omega)⟩
  | n + 1 => by
    obtain ⟨h1, h2, h3⟩ := ff_ok F v n
    unfold ff
    by_cases e : ff F v n < n
    · rw [if_pos e]
      exact ⟨by omega, fun _ => h2 e, h3⟩
    · rw [if_neg e]
      by_cases e2 : F n = v
      · rw [if_pos e2]
        exact ⟨by omega, fun _ => e2, fun c hc => h3 c (by omega)⟩
      · rw [if_neg e2]
        refine ⟨Nat.le_refl _, fun h => by omega, fun c hc => ?_⟩
        by_cases e3 : c = n
        · rw [e3]; exact e2
        · exact h3 c (by omega)
def fcc (dw : Nat → Nat → Nat) (ns s b : Nat) : Nat := ff (Fc dw ns s b) (Hc dw ns s b) (min 12 b + 1)
theorem fcc_ok {dw : Nat → Nat → Nat} {ns s b : Nat} (hd : ∀ s c, dw s c ≤ 999) (hn : ns ≤ 7) (hb : b ≤ 99) (hs : s < ns) : fcc dw ns s b ≤ 12 ∧ fcc dw ns s b ≤ b ∧ Fc dw ns s b (fcc dw ns s b) = Hc dw ns s b ∧ ∀ c, c < fcc dw ns s b → Fc dw ns s b c ≠ Hc dw ns s b := by
  obtain ⟨h1, h2, h3⟩ := ff_ok (Fc dw ns s b) (Hc dw ns s b) (min 12 b + 1)
  have hb2 := (Hc_bd (ns := ns) (s := s) hd hn hb).2
  have lt : fcc dw ns s b < min 12 b + 1 := by
    rcases mn9_at (Fc dw ns s b) (min 12 b + 1) with h | ⟨c, k1, k2⟩
    · rw [← Hc_eq hs] at h
      omega
    · rw [← Hc_eq hs] at k2
      by_cases e : fcc dw ns s b < min 12 b + 1
      · exact e
      · exact absurd k2.symm (h3 c (by unfold fcc at e; omega))
  exact ⟨by omega, by omega, h2 lt, h3⟩
/-! what a stair owes with so many coins -/
def mA (c : Nat) : Nat → Nat
  | 0 => 0
  | i + 1 => max (mA c i) (i + (c - i) / 3 * 4)
def mB (D c : Nat) : Nat → Nat
  | 0 => 0
  | j + 1 => max (mB D c j) (4 * j + min (c - 3 * j) D)
def dW (d D c : Nat) : Nat := if 12 ≤ c then 0 else d - mA c (min D c + 1)
theorem mAB : ∀ D, D < 10 → ∀ c, c < 12 → mA c (min D c + 1) = mB D c (c / 3 + 1) := by decide +kernel
theorem mA_le : ∀ c, c < 12 → ∀ i, i < 13 → mA c i ≤ 24 := by decide +kernel
theorem mB_le : ∀ D, D < 10 → ∀ c, c < 12 → ∀ j, j < 5 → mB D c j ≤ 24 := by decide +kernel
theorem dueWith_ok {m : Mem} {d D c : Nat} (hd : d ≤ 999) (hD : D ≤ 9) (hc : c ≤ 12) : f_X2_dueWithCoins m (nI d) (nI D) (nI c) = some (nI (dW d D c)) := by
  unfold f_X2_dueWithCoins dW
  by_cases e : 12 ≤ c
  · rw [if_neg (show ¬ nI c < 12 from nI_nlt (b := 12) e (by omega)), if_pos e]
    rfl
  · rw [if_pos (show nI c < 12 from nI_lt (b := 12) (by omega) (by omega)), if_neg e]
    have h : iter gFU (f_X2_dueWithCoins_b13 m (nI d) (nI D) (nI c)) (0, 0) = some (nI (mA c (min D c + 1))) := by
      refine iter_forU (fun i => (nI (mA c i), nI i)) (min D c + 1) _ rfl (by omega) ?_ ?_
      · intro i hi
        have := mA_le c (by omega) i (by omega)
        unfold f_X2_dueWithCoins_b13
        dsimp only
        rw [if_neg (nI_nlt (by omega) (by omega)), if_neg (nI_nlt (by omega) (by omega)), pk_sub (by omega), show (3 : Int32) = nI 3 from rfl, dv_nI (by omega) (by omega) (by omega), Option.bind_some, show (4 : Int32) = nI 4 from rfl, pk_mul, nI_add, mx_nI (by omega) (by omega), nI_1]
        rfl
      · unfold f_X2_dueWithCoins_b13
        dsimp only
        by_cases q : D ≤ c
        · rw [if_pos (nI_lt (by omega) (by omega))]
        · rw [if_neg (nI_nlt (by omega) (by omega)), if_pos (nI_lt (by omega) (by omega))]
    have := mA_le c (by omega) (min D c + 1) (by omega)
    rw [h, Option.bind_some]
    unfold f_X2_dueWithCoins_j47
    rw [mx_sub (by omega) (by omega)]
theorem dueBy_ok {m : Mem} {pl f : Nat → Nat} {s c : Nat} (hP : PlM m pl) (hM : ∀ k, k < 65 → ga m 190 k = nI (f k)) (hs : s < 7) (hd : f s ≤ 999) (hD : f (7 + s) ≤ pl 2) (hD9 : pl 2 ≤ 9) (hc : c ≤ 99) : f_X9_dueBy m (nI s) (nI c) = some (nI (dW (f s) (pl 2 - f (7 + s)) c)) := by
  have j16 : ∀ x, f_X9_dueBy_j16 m (nI s) (nI c) x = (iter gFU (f_X9_dueBy_b38 m (nI s) (nI c) (nI (pl 2 - f (7 + s)))) (x, 0)).bind fun z21 => if (0 : Int32) ≤ z21 then some z21 else some 0 := by
    intro x
    unfold f_X9_dueBy_j16
    rw [show ldA m 188 49 2 = some (nI (pl 2)) from (ldA_nI (i := 2) (by omega) (by omega)).trans (by rw [hP 2 (by omega)]), Option.bind_some, show (7 : Int32) = nI 7 from rfl, nI_add, ldA_nI (by omega) (by omega), hM (7 + s) (by omega), Option.bind_some, pk_sub hD]
  have ld : ldA m 190 716 (nI s) = some (nI (f s)) := (ldA_nI (by omega) (by omega)).trans (by rw [hM s (by omega)])
  generalize hDD : pl 2 - f (7 + s) = D at j16 ⊢
  have hD' : D ≤ 9 := by omega
  unfold f_X9_dueBy dW
  by_cases e : 12 ≤ c
  · rw [if_neg (show ¬ nI c ≤ 11 from nI_ge (a := 11) (by omega) (by omega)), if_pos e, j16]
    obtain ⟨z, z1, z2⟩ := iter_rule (B := f_X9_dueBy_b38 m (nI s) (nI c) (nI D)) (fun j v => ∃ b, v = (b, nI j) ∧ b ≤ 0) (fun z => z ≤ 0) (c / 3 + 1) (by omega) (by
      rintro j v hj ⟨b, rfl, hb⟩
      unfold f_X9_dueBy_b38
      dsimp only
      rw [show (3 : Int32) = nI 3 from rfl, pk_mul]
      by_cases q : c < 3 * j
      · rw [if_pos (nI_lt q (by omega))]
        exact Or.inr ⟨b, rfl, hb⟩
      · rw [if_neg (nI_nlt (by omega) (by omega)), ld, Option.bind_some]
        have ej : ∀ x y, ∃ b2, f_X9_dueBy_j79 m (nI s) (nI c) (nI D) b (nI j) x y = some (.inl (b2, nI (j + 1))) ∧ b2 ≤ 0 := by
          intro x y
          unfold f_X9_dueBy_j79
          rw [nI_1]
          by_cases w : b ≤ x - y
          · rw [if_pos w]
            exact ⟨b, rfl, hb⟩
          · rw [if_neg w]
            exact ⟨_, rfl, Int32.le_trans (Int32.le_of_lt (Int32.not_le.mp w)) hb⟩
        refine Or.inl ⟨by omega, ?_⟩
        split
        · obtain ⟨b2, e1, e2⟩ := ej (nI (f s) - 4 * nI j) (nI D)
          exact ⟨_, e1, b2, rfl, e2⟩
        · obtain ⟨b2, e1, e2⟩ := ej (nI (f s) - 4 * nI j) (nI c - nI (3 * j))
          exact ⟨_, e1, b2, rfl, e2⟩) (v := (0, 0)) ⟨0, rfl, by decide⟩
    rw [z1, Option.bind_some]
    by_cases q : (0 : Int32) ≤ z
    · rw [if_pos q, Int32.le_antisymm z2 q]
      rfl
    · rw [if_neg q]
      rfl
  · rw [if_pos (show nI c ≤ 11 from nI_le (b := 11) (by omega) (by omega)), if_neg e, ld, Option.bind_some, j16]
    have h : iter gFU (f_X9_dueBy_b38 m (nI s) (nI c) (nI D)) (nI (f s), 0) = some (nI (f s) - nI (mB D c (c / 3 + 1))) := by
      refine iter_forU (fun j => (nI (f s) - nI (mB D c j), nI j)) (c / 3 + 1) _ ?_ (by omega) ?_ ?_
      · show _ = (nI (f s) - 0, _)
        rw [Int32.sub_zero]
        rfl
      · intro j hj
        have l1 := mB_le D (by omega) c (by omega) j (by omega)
        unfold f_X9_dueBy_b38
        dsimp only
        rw [show (3 : Int32) = nI 3 from rfl, pk_mul, if_neg (nI_nlt (by omega) (by omega)), ld, Option.bind_some, pk_sub (by omega), show (4 : Int32) = nI 4 from rfl, pk_mul]
        have ej : ∀ y, f_X9_dueBy_j79 m (nI s) (nI c) (nI D) (nI (f s) - nI (mB D c j)) (nI j) (nI (f s) - nI (4 * j)) (nI y) = some (.inl (if nI (f s) - nI (mB D c j) ≤ nI (f s) - nI (4 * j + y) then nI (f s) - nI (mB D c j) else nI (f s) - nI (4 * j + y), nI (j + 1))) := by
          intro y
          unfold f_X9_dueBy_j79
          rw [nI_1, Int32.sub_sub, nI_add]
          split <;> rfl
        have em : (if nI D ≤ nI (c - 3 * j) then f_X9_dueBy_j79 m (nI s) (nI c) (nI D) (nI (f s) - nI (mB D c j)) (nI j) (nI (f s) - nI (4 * j)) (nI D) else f_X9_dueBy_j79 m (nI s) (nI c) (nI D) (nI (f s) - nI (mB D c j)) (nI j) (nI (f s) - nI (4 * j)) (nI (c - 3 * j))) = f_X9_dueBy_j79 m (nI s) (nI c) (nI D) (nI (f s) - nI (mB D c j)) (nI j) (nI (f s) - nI (4 * j)) (nI (min (c - 3 * j) D)) := by
          by_cases q : D ≤ c - 3 * j
          · rw [if_pos (nI_le q (by omega)), Nat.min_eq_right q]
          · rw [if_neg (nI_ge (by omega) (by omega)), Nat.min_eq_left (by omega)]
        rw [em, ej]
        show _ = some (Sum.inl (nI (f s) - nI (max (mB D c j) (4 * j + min (c - 3 * j) D)), nI (j + 1)))
        have t1 : (nI (f s) - nI (mB D c j)).toInt = (f s : Int) - (mB D c j : Nat) := pk_sub_toInt (by omega) (by omega)
        have t2 : (nI (f s) - nI (4 * j + min (c - 3 * j) D)).toInt = (f s : Int) - ((4 * j + min (c - 3 * j) D : Nat) : Int) := pk_sub_toInt (by omega) (by omega)
        by_cases q : 4 * j + min (c - 3 * j) D ≤ mB D c j
        · rw [if_pos (by rw [Int32.le_iff_toInt_le, t1, t2]; omega), Nat.max_eq_left q]
        · rw [Nat.max_eq_right (by omega)]
          split
          · next w =>
            rw [Int32.le_iff_toInt_le, t1, t2] at w
            omega
          · rfl
      · unfold f_X9_dueBy_b38
        dsimp only
        rw [show (3 : Int32) = nI 3 from rfl, pk_mul, if_pos (nI_lt (by omega) (by omega))]
    have l1 := mB_le D (by omega) c (by omega) (c / 3 + 1) (by omega)
    rw [h, Option.bind_some, mAB D (by omega) c (by omega)]
    have t1 : (nI (f s) - nI (mB D c (c / 3 + 1))).toInt = (f s : Int) - (mB D c (c / 3 + 1) : Nat) := pk_sub_toInt (by omega) (by omega)
    by_cases q : mB D c (c / 3 + 1) ≤ f s
    · rw [if_pos (by rw [Int32.le_iff_toInt_le, t1]; simp; omega), pk_sub q]
    · rw [if_neg (by rw [Int32.le_iff_toInt_le, t1]; simp; omega), show f s - mB D c (c / 3 + 1) = 0 by omega]
      rfl

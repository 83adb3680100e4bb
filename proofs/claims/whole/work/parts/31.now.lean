/-! now: all but STRUCK -/
def aprice (pl f : Nat → Nat) (s : Nat) : Nat := 9 * f s - pl (20 + s)
theorem priceOf_ok {μ : Mem} {pl f : Nat → Nat} {s : Nat} (hq : isPl (gpl μ) = true) (hP : PlC μ (gpl μ) pl) (hm : MoC μ (pl 0) 4 f) (hs : s < pl 0) (hns : pl 0 ≤ 7) (hf : f s ≤ 999) (hst : pl (20 + s) ≤ 99) : f_X8_priceOf μ (nI s) = some (nI (aprice pl f s)) := by
  unfold f_X8_priceOf aprice
  rw [ldA_nI (show s < 7 by omega) (by omega), show ga μ 5 s = nI (f s) from hm.1 s hs, Option.bind_some, rfG_eq hq, Option.bind_some, ldA_nI (show s < 7 by omega) (by omega), (hP.2.2.2.2.1 s hs).2.2.1, Option.bind_some, show (9 : Int32) = nI 9 from rfl, pk_mul, mx_sub (by omega) (by omega)]
theorem price_ok {μ : Mem} {pl f : Nat → Nat} {s : Nat} (hP : PlM μ pl) (hM : ∀ k, k < 65 → ga μ 190 k = nI (f k)) (hs : s < 7) (hf : f s ≤ 999) (hst : pl (20 + s) ≤ 99) : f_X9_price μ (nI s) = some (nI (aprice pl f s)) := by
  unfold f_X9_price aprice
  rw [ldA_nI (show s < 716 by omega) (by omega), hM s (by omega), Option.bind_some, show (20 : Int32) = nI 20 from rfl, nI_add, ldA_nI (by omega) (by omega), hP (20 + s) (by omega), Option.bind_some, show (9 : Int32) = nI 9 from rfl, pk_mul]
  have h1 : (nI (9 * f s) - nI (pl (20 + s))).toInt = ((9 * f s : Nat) : Int) - (pl (20 + s) : Nat) := pk_sub_toInt (by omega) (by omega)
  by_cases e : pl (20 + s) ≤ 9 * f s
  · rw [if_pos (by rw [Int32.le_iff_toInt_le, h1]; simp; omega), pk_sub e]
  · rw [if_neg (by rw [Int32.le_iff_toInt_le, h1]; simp; omega), show 9 * f s - pl (20 + s) = 0 by omega]
    rfl
/-- the first of the greatest, upwards: the best of those below i + 1 -/
def amax (p : Nat → Nat) : Nat → Nat
  | 0 => 0
  | i + 1 => if p (amax p i) < p (i + 1) then i + 1 else amax p i
theorem amax_ok (p : Nat → Nat) : ∀ i, amax p i ≤ i ∧ (∀ j, j ≤ i → p j ≤ p (amax p i)) ∧ ∀ j, j < amax p i → p j < p (amax p i)
  | 0 => ⟨Nat.le_refl _, fun j hj => by rw [show j = 0 by omega]; exact Nat.le_refl _, fun j hj => absurd hj (by show ¬ j < 0; omega)⟩
  | i + 1 => by
    obtain ⟨h1, h2, h3⟩ := amax_ok p i
    unfold amax
    by_cases e : p (amax p i) < p (i + 1)
    · rw [if_pos e]
      refine ⟨Nat.le_refl _, fun j hj => ?_, fun j hj => ?_⟩
      · by_cases q : j = i + 1
        · rw [q]; exact Nat.le_refl _
        · have := h2 j (by omega); omega
      · have := h2 j (by omega); omega
    · rw [if_neg e]
      refine ⟨by omega, fun j hj => ?_, h3⟩
      by_cases q : j = i + 1
      · rw [q]; omega
      · exact h2 j (by omega)
/-- downwards from the last, n: the best of those from n - i on -/
def bmax (p : Nat → Nat) (n : Nat) : Nat → Nat
  | 0 => n
  | i + 1 => if p (n - (i + 1)) < p (bmax p n i) then bmax p n i else n - (i + 1)
theorem bmax_ok (p : Nat → Nat) (n : Nat) : ∀ i, i ≤ n → (n - i ≤ bmax p n i ∧ bmax p n i ≤ n) ∧ (∀ j, n - i ≤ j → j ≤ n → p j ≤ p (bmax p n i)) ∧ ∀ j, n - i ≤ j → j < bmax p n i → p j < p (bmax p n i)
  | 0, _ => ⟨⟨Nat.le_refl _, Nat.le_refl _⟩, fun j h1 h2 => by rw [show j = n by omega]; exact Nat.le_refl _, fun j h1 h2 => absurd h2 (by show ¬ j < n; omega)⟩
  | i + 1, hi => by
    obtain ⟨h1, h2, h3⟩ := bmax_ok p n i (by omega)
    unfold bmax
    by_cases e : p (n - (i + 1)) < p (bmax p n i)
    · rw [if_pos e]
      refine ⟨by omega, fun j a b => ?_, fun j a b => ?_⟩
      · by_cases q : j = n - (i + 1)
        · rw [q]; omega
        · exact h2 j (by omega) b
      · by_cases q : j = n - (i + 1)
        · rw [q]; exact e
        · exact h3 j (by omega) b
    · rw [if_neg e]
      refine ⟨by omega, fun j a b => ?_, fun j a b => by omega⟩
      by_cases q : j = n - (i + 1)
      · rw [q]; exact Nat.le_refl _
      · have := h2 j (by omega) b; omega
theorem amax_bmax (p : Nat → Nat) (n : Nat) : amax p n = bmax p n n := by
  obtain ⟨a1, a2, a3⟩ := amax_ok p n
  obtain ⟨b1, b2, b3⟩ := bmax_ok p n n (Nat.le_refl _)
  rcases Nat.lt_trichotomy (amax p n) (bmax p n n) with h | h | h
  · have x1 := b3 _ (by omega) h
    have x2 := a2 (bmax p n n) (by omega)
    omega
  · exact h
  · have x1 := a3 _ h
    have x2 := b2 (amax p n) (by omega) a1
    omega
def bdear (p : Nat → Nat) (N : Nat) : Nat → Int32
  | 0 => -9
  | i + 1 => nI (bmax p N i)
def adear (p : Nat → Nat) (n : Nat) : Int32 := if n = 0 then -9 else nI (amax p (n - 1))
theorem dearest_ok {μ : Mem} {pl f : Nat → Nat} (hq : isPl (gpl μ) = true) (hP : PlC μ (gpl μ) pl) (hm : MoC μ (pl 0) 4 f) (hns : pl 0 ≤ 7) (hf : ∀ s, s < 7 → f s ≤ 999) (hst : ∀ s, s < pl 0 → pl (20 + s) ≤ 99) : f_X8_dearest μ = some (adear (aprice pl f) (pl 0)) := by
  unfold f_X8_dearest
  have n9 : ∀ k, k ≤ 7 → ¬ nI k = -9 := by decide
  have h : iter gFU (f_X8_dearest_b5 μ) (-9, 0) = some (adear (aprice pl f) (pl 0)) := by
    refine iter_forU (fun i => (adear (aprice pl f) i, nI i)) (pl 0) _ rfl (by omega) ?_ ?_
    · intro i hi
      unfold f_X8_dearest_b5
      show ((rfG (gpl μ) isPl).bind fun q2 => if gi μ q2 7 ≤ nI i then _ else if adear (aprice pl f) i = -9 then some (Sum.inl (nI i, nI i + 1)) else (f_X8_priceOf μ (nI i)).bind fun y3 => (f_X8_priceOf μ (adear (aprice pl f) i)).bind fun y4 => if y3 ≤ y4 then some (Sum.inl (adear (aprice pl f) i, nI i + 1)) else some (Sum.inl (nI i, nI i + 1))) = _
      rw [rfG_eq hq, Option.bind_some, hP.1, if_neg (nI_ge hi (by omega)), nI_1]
      match i, hi with
      | 0, hi => rfl
      | i + 1, hi =>
        have e1 : adear (aprice pl f) (i + 1) = nI (amax (aprice pl f) i) := rfl
        have e2 : adear (aprice pl f) (i + 1 + 1) = nI (amax (aprice pl f) (i + 1)) := rfl
        have hb := (amax_ok (aprice pl f) i).1
        rw [e1, e2, if_neg (n9 _ (by omega)), priceOf_ok hq hP hm hi hns (hf _ (by omega)) (hst _ hi), Option.bind_some, priceOf_ok hq hP hm (show amax (aprice pl f) i < pl 0 by omega) hns (hf _ (by omega)) (hst _ (by omega)), Option.bind_some]
        have l1 : aprice pl f (i + 1) ≤ 8991 := by unfold aprice; have := hf (i + 1) (by omega); omega
        have l2 : aprice pl f (amax (aprice pl f) i) ≤ 8991 := by unfold aprice; have := hf (amax (aprice pl f) i) (by omega); unfold aprice at this; omega
        rw [show amax (aprice pl f) (i + 1) = if aprice pl f (amax (aprice pl f) i) < aprice pl f (i + 1) then i + 1 else amax (aprice pl f) i from rfl]
        by_cases e : aprice pl f (amax (aprice pl f) i) < aprice pl f (i + 1)
        · rw [if_pos e, if_neg (nI_ge e (by omega))]
        · rw [if_neg e, if_pos (nI_le (by omega) (by omega))]
    · unfold f_X8_dearest_b5
      show ((rfG (gpl μ) isPl).bind fun q2 => if gi μ q2 7 ≤ nI (pl 0) then some (Sum.inr (adear (aprice pl f) (pl 0))) else _) = _
      rw [rfG_eq hq, Option.bind_some, hP.1, if_pos (nI_le (Nat.le_refl _) (by omega))]
  rw [h, Option.bind_some]
theorem dear_ok {μ : Mem} {pl f : Nat → Nat} (hP : PlM μ pl) (hM : ∀ k, k < 65 → ga μ 190 k = nI (f k)) (hns : pl 0 ≤ 7) (hf : ∀ s, s < 7 → f s ≤ 999) (hst : ∀ s, s < pl 0 → pl (20 + s) ≤ 99) : f_X9_dear μ = some (adear (aprice pl f) (pl 0)) := by
  unfold f_X9_dear
  have n9 : ∀ k, k ≤ 7 → ¬ nI k = -9 := by decide
  rw [show (0 : Int32) = nI 0 from rfl, ldA_nI (by omega) (by omega), hP 0 (by omega), Option.bind_some]
  by_cases h0 : pl 0 = 0
  · rw [h0]
    have h : iter gFU (f_X9_dear_b12 μ) (-9, nI 0 - 1) = some (-9) := iter_done (by
      unfold f_X9_dear_b12
      rfl)
    rw [h]; rfl
  · obtain ⟨N, hN⟩ : ∃ N, pl 0 = N + 1 := ⟨pl 0 - 1, by omega⟩
    have h : iter gFU (f_X9_dear_b12 μ) (-9, nI (pl 0) - 1) = some (nI (bmax (aprice pl f) N N)) := by
      refine iter_forU (fun i => (bdear (aprice pl f) N i, nI (pl 0) - nI (i + 1))) (pl 0) _ rfl (by omega) ?_ ?_
      · intro i hi
        unfold f_X9_dear_b12
        have e0 : nI (pl 0) - nI (i + 1) = nI (pl 0 - (i + 1)) := pk_sub (by omega)
        have e1 : nI (pl 0) - nI (i + 1) + -1 = nI (pl 0) - nI (i + 1 + 1) := by
          rw [← nI_1 (i + 1), ← Int32.sub_sub, Int32.sub_eq_add_neg (nI (pl 0) - nI (i + 1)) 1]
        show (if nI (pl 0) - nI (i + 1) < 0 then _ else if bdear (aprice pl f) N i = -9 then some (Sum.inl (nI (pl 0) - nI (i + 1), nI (pl 0) - nI (i + 1) + -1)) else (f_X9_price μ (nI (pl 0) - nI (i + 1))).bind fun y3 => (f_X9_price μ (bdear (aprice pl f) N i)).bind fun y4 => if y3 < y4 then some (Sum.inl (bdear (aprice pl f) N i, nI (pl 0) - nI (i + 1) + -1)) else some (Sum.inl (nI (pl 0) - nI (i + 1), nI (pl 0) - nI (i + 1) + -1))) = _
        rw [e1, e0, if_neg (nI_pos (by omega))]
        clear e0 e1
        rcases i with _ | i
        · rw [if_pos (show bdear (aprice pl f) N 0 = -9 from rfl)]
          show some (Sum.inl (nI (pl 0 - 1), _)) = some (Sum.inl (nI N, _))
          rw [show pl 0 - 1 = N by omega]
        · have hb := (bmax_ok (aprice pl f) N i (by omega)).1
          have eb : bdear (aprice pl f) N (i + 1) = nI (bmax (aprice pl f) N i) := rfl
          rw [eb, if_neg (n9 _ (by omega)), price_ok hP hM (by omega) (hf _ (by omega)) (hst _ (by omega)), Option.bind_some, price_ok hP hM (by omega) (hf _ (by omega)) (hst _ (by omega)), Option.bind_some]
          have l1 : aprice pl f (pl 0 - (i + 1 + 1)) ≤ 8991 := by unfold aprice; have := hf (pl 0 - (i + 1 + 1)) (by omega); omega
          have l2 : aprice pl f (bmax (aprice pl f) N i) ≤ 8991 := by unfold aprice; have := hf (bmax (aprice pl f) N i) (by omega); unfold aprice at this; omega
          have ei : pl 0 - (i + 1 + 1) = N - (i + 1) := by omega
          rw [ei] at l1 ⊢
          have eb2 : bdear (aprice pl f) N (i + 1 + 1) = nI (if aprice pl f (N - (i + 1)) < aprice pl f (bmax (aprice pl f) N i) then bmax (aprice pl f) N i else N - (i + 1)) := rfl
          rw [eb2]
          by_cases e : aprice pl f (N - (i + 1)) < aprice pl f (bmax (aprice pl f) N i)
          · rw [if_pos e, if_pos (nI_lt e (by omega))]
          · rw [if_neg e, if_neg (nI_nlt (by omega) (by omega))]
      · unfold f_X9_dear_b12
        have e1 : nI (pl 0) - nI (pl 0 + 1) < 0 := pk_sneg (by omega) (by omega)
        show (if nI (pl 0) - nI (pl 0 + 1) < 0 then some (Sum.inr (bdear (aprice pl f) N (pl 0))) else _) = _
        rw [if_pos e1, hN]
        rfl
    rw [h, Option.bind_some]
    unfold adear
    rw [if_neg h0, show pl 0 - 1 = N by omega, amax_bmax]
theorem bits_ok {μ μ2 : Mem} {pl f : Nat → Nat} (a1 : Int32) (hq : isPl (gpl μ) = true) (hP : PlC μ (gpl μ) pl) (hm : MoC μ (pl 0) 4 f) (hP2 : PlM μ2 pl) (hM : ∀ k, k < 65 → ga μ2 190 k = nI (f k)) (hns : pl 0 ≤ 7) : ∃ r, f_X8_stairsPaidOff μ = some r ∧ iter gFU (f_X9_now_b4 μ2 a1) (0, 0) = some r := by
  unfold f_X8_stairsPaidOff
  obtain ⟨x, e1, e2⟩ := iter_same (B1 := f_X8_stairsPaidOff_b4 μ) (B2 := f_X9_now_b4 μ2 a1) (fun v => ∃ b i, v = (b, nI i) ∧ i ≤ pl 0) (fun v => 200 - v.2.toNatClampNeg) (by
    intro v hv
    obtain ⟨b, i, rfl, hi⟩ := hv
    unfold f_X8_stairsPaidOff_b4 f_X9_now_b4
    rw [rfG_eq hq, Option.bind_some, hP.1, show (0 : Int32) = nI 0 from rfl, ldA_nI (show 0 < 49 by omega) (by omega), hP2 0 (by omega), Option.bind_some]
    show ∃ r, (if nI (pl 0) ≤ nI i then some (Sum.inr b) else (ldA μ 5 7 (nI i)).bind fun y3 => if y3 = nI 0 then some (Sum.inl (b ||| 1 <<< (nI i &&& 31), nI i + 1)) else some (Sum.inl (b, nI i + 1))) = some r ∧ (if nI (pl 0) ≤ nI i then some (Sum.inr b) else (ldA μ2 190 716 (nI i)).bind fun y4 => if y4 = nI 0 then some (Sum.inl (b ||| 1 <<< (nI i &&& 31), nI i + 1)) else some (Sum.inl (b ||| nI 0, nI i + 1))) = some r ∧ _
    by_cases e : i = pl 0
    · rw [e, if_pos (nI_le (Nat.le_refl _) (by omega)), if_pos (nI_le (Nat.le_refl _) (by omega))]
      exact ⟨_, rfl, rfl, fun v2 q => by cases q⟩
    · rw [if_neg (nI_ge (show i < pl 0 by omega) (by omega)), if_neg (nI_ge (show i < pl 0 by omega) (by omega)), ldA_nI (show i < 7 by omega) (by omega), show ga μ 5 i = nI (f i) from hm.1 i (by omega), Option.bind_some, ldA_nI (show i < 716 by omega) (by omega), hM i (by omega), Option.bind_some, nI_1]
      have hz : b ||| nI 0 = b := by rw [show nI 0 = (0 : Int32) from rfl]; simp
      rw [hz]
      have fin : ∀ b2 : Int32, (∃ (b3 : Int32) (j : Nat), (b2, nI (i + 1)) = (b3, nI j) ∧ j ≤ pl 0) ∧ 200 - ((b2, nI (i + 1)) : Int32 × Int32).2.toNatClampNeg < 200 - ((b, nI i) : Int32 × Int32).2.toNatClampNeg := by
        intro b2
        refine ⟨⟨b2, i + 1, rfl, by omega⟩, ?_⟩
        show 200 - (nI (i + 1)).toNatClampNeg < 200 - (nI i).toNatClampNeg
        rw [nI_clamp (by omega), nI_clamp (by omega)]
        omega
      by_cases e2 : nI (f i) = nI 0
      · rw [if_pos e2]
        exact ⟨_, rfl, rfl, fun v2 q => by cases q; exact fin _⟩
      · rw [if_neg e2]
        exact ⟨_, rfl, rfl, fun v2 q => by cases q; exact fin _⟩) gFU (0, 0) ⟨0, 0, rfl, by omega⟩ (by
      show 200 - (nI 0).toNatClampNeg < gFU
      have : gFU = 1000000000000 := rfl
      omega)
  exact ⟨x, by rw [e1]; rfl, e2⟩
/-- what is still wanting for 'now': STRUCK -/
def StrOK : Prop := ∀ (c : Nat) (μ : Mem) (pl f : Nat → Nat), c ≤ 512 → PlOk pl → MoOk pl c f → PlC μ (gpl μ) pl → isPl (gpl μ) = true → MoC μ (pl 0) 4 f → PlM μ pl → (∀ k, k < 65 → ga μ 190 k = nI (f k)) → ∃ r μ1 μ2, f_X5_strikeAll μ 7 49 (nI (pl 0)) = some (r, μ1) ∧ f_X9_struck μ1 = some (r, μ2) ∧ SameC μ μ1 ∧ SameM μ μ1 ∧ SameC μ1 μ2 ∧ SameM μ1 μ2
theorem sp_now_of (hstr : StrOK) : Sp_now Inv := by
  intro c μ a1 hc hI
  obtain ⟨tx, len, pl, f, kn, ps, b, gf, gk, gp, tr, h1, h2, h3⟩ := id hI
  have hq := h1.1.1
  have hns := h3.2.1.1
  have hO := h3.2.2.1.1
  have hC := h1.2.2.2.1.1
  have hst : ∀ s, s < pl 0 → pl (20 + s) ≤ 99 := fun s hs => (h3.2.1.2.2.2.2.1 s hs).2.2.2.2.1
  have gM : ∀ k, k < 65 → ga μ 190 k = nI (f k) := fun k hk => by have := h2.2.2.1.1 k hk; rw [Nat.zero_add] at this; exact this
  obtain ⟨bt, b8, b9⟩ := bits_ok (μ := μ) (μ2 := μ) a1 hq h1.2.2.1 hC h2.2.1 gM hns
  have pure : ∀ r, f_X8_now μ a1 = some (r, μ) → f_X9_now μ a1 = some (r, μ) → ∃ (r : Int32) (μ1 μ2 : Mem), (f_X8_now μ a1 = some (r, μ1)) ∧ (f_X9_now μ1 a1 = some (r, μ2)) ∧ Inv (c + 1) μ2 := fun r q1 q2 => ⟨r, μ, μ, q1, q2, hI.up⟩
  by_cases e0 : a1 = 0
  · refine pure (nI (f 64)) ?_ ?_
    · unfold f_X8_now
      rw [if_pos e0, show gi μ 4 4 = nI (f 64) from hC.2.2.2.2]
    · unfold f_X9_now
      rw [b9, Option.bind_some, if_pos e0, show (64 : Int32) = nI 64 from rfl, ldA_nI (by omega) (by omega), gM 64 (by omega)]; rfl
  by_cases e1 : a1 = 1
  · refine pure (nI (sumN f (pl 0))) ?_ ?_
    · unfold f_X8_now
      rw [if_neg e0, if_pos e1, rfG_eq hq, Option.bind_some, h1.2.2.1.1, dueOfAll_ok hC hns hO.1]; rfl
    · unfold f_X9_now
      rw [b9, Option.bind_some, if_neg e0, if_pos e1, all_ok h2.2.1 gM hns]; rfl
  by_cases e2 : a1 = 2
  · refine pure bt ?_ ?_
    · unfold f_X8_now
      rw [if_neg e0, if_neg e1, if_pos e2, b8]; rfl
    · unfold f_X9_now
      rw [b9, Option.bind_some, if_neg e0, if_neg e1, if_pos e2]
  by_cases e3 : a1 = 3
  · refine pure (nI (f 63)) ?_ ?_
    · unfold f_X8_now
      rw [if_neg e0, if_neg e1, if_neg e2, if_pos e3, show gi μ 4 3 = nI (f 63) from hC.2.2.2.1]
    · unfold f_X9_now
      rw [b9, Option.bind_some, if_neg e0, if_neg e1, if_neg e2, if_pos e3, show (63 : Int32) = nI 63 from rfl, ldA_nI (by omega) (by omega), gM 63 (by omega)]; rfl
  by_cases e4 : a1 = 4
  · refine pure (adear (aprice pl f) (pl 0)) ?_ ?_
    · unfold f_X8_now
      rw [if_neg e0, if_neg e1, if_neg e2, if_neg e3, if_pos e4, dearest_ok hq h1.2.2.1 hC hns hO.1 hst]; rfl
    · unfold f_X9_now
      rw [b9, Option.bind_some, if_neg e0, if_neg e1, if_neg e2, if_neg e3, if_pos e4, dear_ok h2.2.1 gM hns hO.1 hst]; rfl
  by_cases e5 : a1 = 5
  · obtain ⟨r, μ1, μ2, s1, s2, s3, s4, s5, s6⟩ := hstr c μ pl f (by omega) h3.2.1 hO h1.2.2.1 hq hC h2.2.1 gM
    have h21 := h2.same s4
    have h11 := h1.same s3
    have gM1 : ∀ k, k < 65 → ga μ1 190 k = nI (f k) := fun k hk => by have := h21.2.2.1.1 k hk; rw [Nat.zero_add] at this; exact this
    obtain ⟨bt1, b81, b91⟩ := bits_ok (μ := μ1) (μ2 := μ1) a1 h11.1.1 h11.2.2.1 h11.2.2.2.1.1 h21.2.1 gM1 hns
    refine ⟨r, μ1, μ2, ?_, ?_, hI.same (s3.tr s5) (s4.tr s6)⟩
    · unfold f_X8_now
      rw [if_neg e0, if_neg e1, if_neg e2, if_neg e3, if_neg e4, if_pos e5, rfG_eq hq, Option.bind_some, h1.2.2.1.1, s1]; rfl
    · unfold f_X9_now
      rw [b91, Option.bind_some, if_neg e0, if_neg e1, if_neg e2, if_neg e3, if_neg e4, if_pos e5, s2]; rfl
  · refine pure (-1) ?_ ?_
    · unfold f_X8_now
      rw [if_neg e0, if_neg e1, if_neg e2, if_neg e3, if_neg e4, if_neg e5]
    · unfold f_X9_now
      rw [b9, Option.bind_some, if_neg e0, if_neg e1, if_neg e2, if_neg e3, if_neg e4, if_neg e5]

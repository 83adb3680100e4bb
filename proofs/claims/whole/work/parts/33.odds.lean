/-! odds -/
theorem iter_go {V E : Type} {B : V → Option (V ⊕ E)} {v v2 : V} {n : Nat} (h : B v = some (.inl v2)) : iter (n + 1) B v = iter n B v2 := by
  unfold iter
  rw [h]
  cases n <;> rfl
theorem iter_end {V E : Type} {B : V → Option (V ⊕ E)} {v : V} {e : E} {n : Nat} (h : B v = some (.inr e)) : iter (n + 1) B v = some e := by
  unfold iter
  rw [h]
def chn (pl : Nat → Nat) : Nat → Nat → Nat
  | 0, j => if j = 0 then 1 else 0
  | p + 1, j => chn pl p j * pl (39 + p) + if hvs pl p ≤ j then chn pl p (j - hvs pl p) * (10 - pl (39 + p)) else 0
def Wn (pl : Nat → Nat) : Nat → Nat → Nat
  | 0, d => if d = 0 then 1 else 0
  | n + 1, d => Wn pl n d * pl (39 + n) + Wn pl n (d - hvs pl n) * (10 - pl (39 + n))
theorem chn_zero (pl : Nat → Nat) : ∀ n j, 2 * n < j → chn pl n j = 0
  | 0, j, h => if_neg (by omega)
  | n + 1, j, h => by
    have := hvs_le pl n
    unfold chn
    rw [chn_zero pl n j (by omega), if_pos (by omega), chn_zero pl n (j - hvs pl n) (by omega), Nat.zero_mul, Nat.zero_mul]
theorem sumN_mul (f : Nat → Nat) (c : Nat) : ∀ n, sumN (fun t => f t * c) n = sumN f n * c
  | 0 => (Nat.zero_mul c).symm
  | n + 1 => by
    show sumN (fun t => f t * c) n + f n * c = (sumN f n + f n) * c
    rw [sumN_mul f c n, Nat.add_mul]
theorem sumN_add (f g : Nat → Nat) : ∀ n, sumN (fun t => f t + g t) n = sumN f n + sumN g n
  | 0 => rfl
  | n + 1 => by
    show sumN (fun t => f t + g t) n + (f n + g n) = (sumN f n + f n) + (sumN g n + g n)
    rw [sumN_add f g n]
    omega
theorem sumN_cg {f g : Nat → Nat} : ∀ n, (∀ k, k < n → f k = g k) → sumN f n = sumN g n
  | 0, _ => rfl
  | n + 1, h => by
    show sumN f n + f n = sumN g n + g n
    rw [sumN_cg n (fun k hk => h k (by omega)), h n (by omega)]
theorem sumN_app (f : Nat → Nat) (m : Nat) : ∀ n, sumN f (m + n) = sumN f m + sumN (fun t => f (m + t)) n
  | 0 => rfl
  | n + 1 => by
    show sumN f (m + n) + f (m + n) = sumN f m + (sumN (fun t => f (m + t)) n + f (m + n))
    rw [sumN_app f m n]
    omega
theorem shiftS (g : Nat → Nat) (g9 : g 9 = 0) (g10 : g 10 = 0) (hv d : Nat) (h : hv = 1 ∨ hv = 2) : sumN (fun t => if hv ≤ d + t then g (d + t - hv) else 0) (11 - d) = sumN (fun t => g (d - hv + t)) (11 - (d - hv)) := by
  by_cases hd : 13 ≤ d
  · rw [show 11 - d = 0 by omega, show 11 - (d - hv) = 0 by omega]
    rfl
  · rcases h with rfl | rfl
    · obtain rfl | rfl | rfl | rfl | rfl | rfl | rfl | rfl | rfl | rfl | rfl | rfl | rfl : d = 0 ∨ d = 1 ∨ d = 2 ∨ d = 3 ∨ d = 4 ∨ d = 5 ∨ d = 6 ∨ d = 7 ∨ d = 8 ∨ d = 9 ∨ d = 10 ∨ d = 11 ∨ d = 12 := by omega
      all_goals simp [sumN, g9, g10]
    · obtain rfl | rfl | rfl | rfl | rfl | rfl | rfl | rfl | rfl | rfl | rfl | rfl | rfl : d = 0 ∨ d = 1 ∨ d = 2 ∨ d = 3 ∨ d = 4 ∨ d = 5 ∨ d = 6 ∨ d = 7 ∨ d = 8 ∨ d = 9 ∨ d = 10 ∨ d = 11 ∨ d = 12 := by omega
      all_goals simp [sumN, g9, g10]
theorem hvs_12 (pl : Nat → Nat) (p : Nat) : hvs pl p = 1 ∨ hvs pl p = 2 := by
  have := hvs_le pl p
  have := hvs_pos pl p
  omega
theorem upper_W (pl : Nat → Nat) : ∀ n d, n ≤ 5 → sumN (fun t => chn pl n (d + t)) (11 - d) = Wn pl n d
  | 0, d, _ => by
    unfold Wn
    by_cases h : d = 0
    · subst h
      rfl
    · rw [if_neg h]
      have : sumN (fun t => chn pl 0 (d + t)) (11 - d) = sumN (fun _ => 0) (11 - d) := sumN_cg _ (fun k _ => if_neg (by omega))
      rw [this]
      have z : ∀ n, sumN (fun _ => 0) n = 0 := fun n => by
        induction n with
        | zero => rfl
        | succ n ih => exact ih
      exact z _
  | n + 1, d, hn => by
    have e1 : sumN (fun t => chn pl (n + 1) (d + t)) (11 - d) = sumN (fun t => chn pl n (d + t) * pl (39 + n) + (if hvs pl n ≤ d + t then chn pl n (d + t - hvs pl n) else 0) * (10 - pl (39 + n))) (11 - d) := by
      refine sumN_cg _ (fun k _ => ?_)
      show chn pl n (d + k) * pl (39 + n) + (if hvs pl n ≤ d + k then chn pl n (d + k - hvs pl n) * (10 - pl (39 + n)) else 0) = _
      by_cases e : hvs pl n ≤ d + k
      · rw [if_pos e, if_pos e]
      · rw [if_neg e, if_neg e, Nat.zero_mul]
    rw [e1, sumN_add (fun t => chn pl n (d + t) * pl (39 + n)) (fun t => (if hvs pl n ≤ d + t then chn pl n (d + t - hvs pl n) else 0) * (10 - pl (39 + n))), sumN_mul (fun t => chn pl n (d + t)), sumN_mul (fun t => if hvs pl n ≤ d + t then chn pl n (d + t - hvs pl n) else 0), shiftS (chn pl n) (chn_zero pl n 9 (by omega)) (chn_zero pl n 10 (by omega)) _ _ (hvs_12 pl n), upper_W pl n d (by omega), upper_W pl n (d - hvs pl n) (by omega)]
    rfl
theorem Wn_le {pl : Nat → Nat} : ∀ n d, (∀ p, p < n → pl (39 + p) ≤ 10) → Wn pl n d ≤ 10 ^ n
  | 0, d, _ => by
    unfold Wn
    split <;> decide
  | n + 1, d, h => by
    have h1 := Wn_le n d (fun p hp => h p (by omega))
    have h2 := Wn_le n (d - hvs pl n) (fun p hp => h p (by omega))
    have h3 := h n (by omega)
    have a1 := Nat.mul_le_mul_right (pl (39 + n)) h1
    have a2 := Nat.mul_le_mul_right (10 - pl (39 + n)) h2
    have a3 : 10 ^ n * pl (39 + n) + 10 ^ n * (10 - pl (39 + n)) = 10 ^ n * 10 := by
      rw [← Nat.mul_add, show pl (39 + n) + (10 - pl (39 + n)) = 10 by omega]
    rw [Nat.pow_succ]
    show Wn pl n d * pl (39 + n) + Wn pl n (d - hvs pl n) * (10 - pl (39 + n)) ≤ _
    omega
/-! the class's side -/
theorem spread38 {μ : Mem} {a : Nat → Int32} {q p : Nat} {pl : Nat → Nat} (x : Int32) (hq : isPl q = true) (hP : PlC μ q pl) (hO : PlOk pl) (hp : p < pl 1) : iter gFU (f_X6_spreadChances_b38 q x (nI p) (nI (hvs pl p))) (10, sA μ 169 (fun j => if j < 11 then nI (chn pl p j) else a j)) = some (sA μ 169 (fun j => if j < 11 then nI (chn pl (p + 1) j) else a j)) := by
  have hc := isPl_cases hq
  have h5 := hO.2.1
  have b1 := (hO.2.2.2.2.2 p hp).2.1
  have hv := hvs_12 pl p
  refine iter_forU (fun t => (nI 10 - nI t, sA μ 169 (fun j => if j < 11 then (if 11 - t ≤ j then nI (chn pl (p + 1) j) else nI (chn pl p j)) else a j))) 11 _ ?_ (by omega) ?_ ?_
  · show _ = ((10 : Int32) - 0, _)
    rw [Int32.sub_zero]
    congr 2
    funext j
    by_cases e : j < 11
    · rw [if_pos e, if_pos e, if_neg (by omega)]
    · rw [if_neg e, if_neg e]
  · intro t ht
    have e0 : nI 10 - nI t = nI (10 - t) := pk_sub (by omega)
    have e1 : nI 10 - nI t + -1 = nI 10 - nI (t + 1) := by
      rw [← nI_1 t, ← Int32.sub_sub, Int32.sub_eq_add_neg (nI 10 - nI t) 1]
    have fin : ∀ F : Nat, F = (if hvs pl p ≤ 10 - t then chn pl p (10 - t - hvs pl p) * (10 - pl (39 + p)) else 0) → f_X6_spreadChances_j74 (sA μ 169 (fun j => if j < 11 then (if 11 - t ≤ j then nI (chn pl (p + 1) j) else nI (chn pl p j)) else a j)) q x (nI p) (nI (hvs pl p)) (nI 10 - nI t) (nI F) = some (.inl (nI 10 - nI (t + 1), sA μ 169 (fun j => if j < 11 then (if 11 - (t + 1) ≤ j then nI (chn pl (p + 1) j) else nI (chn pl p j)) else a j))) := by
      intro F hF
      unfold f_X6_spreadChances_j74
      rw [e1, e0, ldA_nI (by omega) (by omega), ga_at, if_pos (by omega), if_neg (by omega), Option.bind_some, ldA_nI (show p < 5 by omega) (by omega), ga_ne (by omega), (hP.2.2.2.2.2 p hp).2.1, Option.bind_some, stA_nI (by omega) (by omega), Option.bind_some, ga_at, sA_sA, pk_mul, nI_add]
      congr 4
      funext j
      rw [upd_at]
      by_cases e : j = 10 - t
      · rw [if_pos e, if_pos (by omega), if_pos (by omega), e, hF]
        rfl
      · rw [if_neg e]
        by_cases e2 : j < 11
        · rw [if_pos e2, if_pos e2]
          by_cases e3 : 11 - t ≤ j
          · rw [if_pos e3, if_pos (by omega)]
          · rw [if_neg e3, if_neg (by omega)]
        · rw [if_neg e2, if_neg e2]
    unfold f_X6_spreadChances_b38
    dsimp only
    rw [if_neg (show ¬ nI 10 - nI t < 0 by rw [e0]; exact nI_pos (by omega))]
    by_cases e : 10 - t < hvs pl p
    · rw [if_pos (show nI 10 - nI t < nI (hvs pl p) by rw [e0]; exact nI_lt e (by omega))]
      exact fin 0 (by rw [if_neg (by omega)])
    · rw [if_neg (show ¬ nI 10 - nI t < nI (hvs pl p) by rw [e0]; exact nI_nlt (by omega) (by omega))]
      have e2 : nI 10 - nI t - nI (hvs pl p) = nI (10 - t - hvs pl p) := by rw [e0, pk_sub (by omega)]
      rw [e2, ldA_nI (by omega) (by omega), ga_at, if_pos (by omega), if_neg (by omega), Option.bind_some, ldA_nI (show p < 5 by omega) (by omega), ga_ne (by omega), (hP.2.2.2.2.2 p hp).2.1, Option.bind_some, show (10 : Int32) - nI (pl (39 + p)) = nI (10 - pl (39 + p)) from pk_sub b1, pk_mul]
      exact fin _ (by rw [if_pos (by omega)])
  · unfold f_X6_spreadChances_b38
    dsimp only
    rw [if_pos (by decide)]
    congr 3
theorem spread_ok {μ : Mem} {q : Nat} {pl : Nat → Nat} (hq : isPl q = true) (hP : PlC μ q pl) (hO : PlOk pl) : f_X6_spreadChances μ q = some (nI (10 ^ pl 1), sA μ 169 (fun j => if j < 11 then nI (chn pl (pl 1) j) else ga μ 169 j)) := by
  have hc := isPl_cases hq
  have h5 := hO.2.1
  unfold f_X6_spreadChances
  rw [fill_ok (by omega), Option.bind_some, show (0 : Int32) = nI 0 from rfl, stA_nI (by omega) (by omega), Option.bind_some, ga_at, sA_sA]
  have h : iter gFU (f_X6_spreadChances_b19 q) (1, 0, sA μ 169 (upd (fun k => if k < 11 then nI 0 else ga μ 169 k) 0 1)) = some (nI (10 ^ pl 1), sA μ 169 (fun j => if j < 11 then nI (chn pl (pl 1) j) else ga μ 169 j)) := by
    refine iter_forU (fun p => (nI (10 ^ p), nI p, sA μ 169 (fun j => if j < 11 then nI (chn pl p j) else ga μ 169 j))) (pl 1) _ ?_ (by omega) ?_ ?_
    · show _ = ((1 : Int32), (0 : Int32), _)
      congr 3
      funext j
      rw [upd_at]
      by_cases e : j = 0
      · rw [if_pos e, if_pos (by omega), e]
        rfl
      · rw [if_neg e]
        by_cases e2 : j < 11
        · rw [if_pos e2, if_pos e2]
          show _ = nI (if j = 0 then 1 else 0)
          rw [if_neg e]
        · rw [if_neg e2, if_neg e2]
    · intro p hp
      have b1 := hO.2.2.2.2.2 p hp
      have hP' : PlC (sA μ 169 (fun j => if j < 11 then nI (chn pl p j) else ga μ 169 j)) q pl := by
        refine hP.fr (S := fun k => k = 169) (Fr.sA rfl) (fun k h1 h2 h3 => by omega)
      unfold f_X6_spreadChances_b19
      dsimp only
      rw [gi_sA, hP.2.1, if_neg (nI_ge hp (by omega)), halvesOf_ok hP' hp h5 b1.1, Option.bind_some, spread38 _ hq hP hO hp, Option.bind_some, nI_1, show (10 : Int32) = nI 10 from rfl, pk_mul, Nat.pow_succ]
    · unfold f_X6_spreadChances_b19
      dsimp only
      rw [gi_sA, hP.2.1, if_pos (nI_le (Nat.le_refl _) (by omega))]
  rw [show (nI 0 : Int32) = 0 from rfl] at h ⊢
  rw [h, Option.bind_some]
theorem gcd_step (a b : Nat) : Nat.gcd a b = Nat.gcd b (a % b) := by
  rw [Nat.gcd_comm a b, Nat.gcd_rec, Nat.gcd_comm]
theorem comdiv {m : Mem} : ∀ (k a b r n : Nat), b < 2 ^ k → a < 2147483648 → b < 2147483648 → r + 2 * k ≤ 64 → 2 * k < n → iter n (f_X6_commonDivisor_b2 m) (nI a, nI b, nI r) = some (nI (Nat.gcd a b))
  | k, a, b, r, n, h1, h2, h3, h4, h5 => by
    obtain ⟨n, rfl⟩ : ∃ n', n = n' + 1 := ⟨n - 1, by omega⟩
    have stop : ∀ a r, r ≤ 64 → f_X6_commonDivisor_b2 m (nI a, nI 0, nI r) = some (.inr (nI a)) := by
      intro a r hr
      unfold f_X6_commonDivisor_b2
      dsimp only
      by_cases e : 64 ≤ r
      · rw [if_pos (show (64 : Int32) ≤ nI r from nI_le (a := 64) e (by omega))]
      · rw [if_neg (show ¬ (64 : Int32) ≤ nI r from nI_ge (b := 64) (by omega) (by omega)), if_pos (show nI 0 = 0 from rfl)]
    have go : ∀ a b r, r < 64 → b ≠ 0 → a < 2147483648 → b < 2147483648 → f_X6_commonDivisor_b2 m (nI a, nI b, nI r) = some (.inl (nI b, nI (a % b), nI (r + 1))) := by
      intro a b r hr hb ha hb2
      unfold f_X6_commonDivisor_b2
      dsimp only
      rw [if_neg (show ¬ (64 : Int32) ≤ nI r from nI_ge (b := 64) (by omega) (by omega)), if_neg (nI_ne0 (by omega) hb2), rm_nI ha (by omega) hb2, Option.bind_some, nI_1]
    by_cases hb : b = 0
    · subst hb
      rw [iter_end (stop a r (by omega)), Nat.gcd_zero_right]
    · match k, h1, h4, h5 with
      | 0, h1, _, _ => simp at h1; omega
      | k + 1, h1, h4, h5 =>
        obtain ⟨n, rfl⟩ : ∃ n', n = n' + 1 := ⟨n - 1, by omega⟩
        have m1 := Nat.mod_lt a (show b > 0 by omega)
        rw [iter_go (go a b r (by omega) hb h2 h3), gcd_step a b]
        by_cases hc : a % b = 0
        · rw [hc, iter_end (stop b (r + 1) (by omega)), Nat.gcd_zero_right]
        · have m2 := Nat.mod_lt b (show a % b > 0 by omega)
          have m3 : 2 * (b % (a % b)) < b := by
            have d1 := Nat.div_add_mod b (a % b)
            have d2 : 1 ≤ b / (a % b) := Nat.div_pos (by omega) (by omega)
            have d3 : (a % b) * 1 ≤ (a % b) * (b / (a % b)) := Nat.mul_le_mul_left _ d2
            omega
          rw [iter_go (go b (a % b) (r + 1) (by omega) hc h3 (by omega)), gcd_step b (a % b)]
          rw [Nat.pow_succ] at h1
          exact comdiv k (a % b) (b % (a % b)) (r + 1 + 1) n (by omega) (by omega) (by omega) (by omega) (by omega)
theorem refdiv {m : Mem} (x y z : Int32) : ∀ (n a b : Nat), a < 2147483648 → b < 2147483648 → b < n → iter n (f_X9_odds_b197 m x y z) (nI a, nI b) = some (nI (Nat.gcd a b))
  | 0, a, b, _, _, h => by omega
  | n + 1, a, b, h1, h2, h3 => by
    by_cases hb : b = 0
    · subst hb
      rw [iter_end (e := nI a) (by unfold f_X9_odds_b197; rfl), Nat.gcd_zero_right]
    · have m1 := Nat.mod_lt a (show b > 0 by omega)
      rw [iter_go (v2 := (nI b, nI (a % b))) (by
        unfold f_X9_odds_b197
        dsimp only
        rw [if_neg (nI_nle (by omega) h2), rm_nI h1 (by omega) h2, Option.bind_some]), gcd_step a b]
      exact refdiv x y z n b (a % b) h2 (by omega) (by omega)

/-! the reference's side -/
def iS (pl : Nat → Nat) (set : Nat) : Nat → Nat
  | 0 => 1
  | p + 1 => iS pl set p * (if set / 2 ^ p % 2 = 1 then 10 - pl (39 + p) else pl (39 + p))
def hS (pl : Nat → Nat) (set : Nat) : Nat → Nat
  | 0 => 0
  | p + 1 => hS pl set p + (if set / 2 ^ p % 2 = 1 then hvs pl p else 0)
theorem hS_le (pl : Nat → Nat) (set : Nat) : ∀ p, hS pl set p ≤ 2 * p
  | 0 => Nat.le_refl _
  | p + 1 => by
    have := hS_le pl set p
    have := hvs_le pl p
    unfold hS
    split <;> omega
theorem bitT : ∀ set, set < 32 → ∀ p, p < 5 → ((nI set >>> (nI p &&& 31)) &&& 1 = 1 ↔ set / 2 ^ p % 2 = 1) := by decide +kernel
theorem shlT : ∀ n, n < 6 → (1 : Int32) <<< (nI n &&& 31) = nI (2 ^ n) := by decide +kernel
theorem bitH : ∀ n, n < 5 → ∀ t, t < 32 → t < 2 ^ n → (2 ^ n + t) / 2 ^ n % 2 = 1 ∧ t / 2 ^ n % 2 = 0 ∧ ∀ p, p < n → (2 ^ n + t) / 2 ^ p % 2 = t / 2 ^ p % 2 := by decide +kernel
theorem S_hi {pl : Nat → Nat} {n t : Nat} (hn : n < 5) (ht : t < 2 ^ n) (ht2 : t < 32) : ∀ m, m ≤ n → hS pl (2 ^ n + t) m = hS pl t m ∧ iS pl (2 ^ n + t) m = iS pl t m
  | 0, _ => ⟨rfl, rfl⟩
  | m + 1, hm => by
    obtain ⟨h1, h2⟩ := S_hi (pl := pl) hn ht ht2 m (by omega)
    have e := (bitH n hn t ht2 ht).2.2 m (by omega)
    unfold hS iS
    rw [h1, h2, e]
    exact ⟨rfl, rfl⟩
theorem sub_W (pl : Nat → Nat) : ∀ n d, n ≤ 5 → sumN (fun s => if d ≤ hS pl s n then iS pl s n else 0) (2 ^ n) = Wn pl n d
  | 0, d, _ => by
    show 0 + (if d ≤ 0 then 1 else 0) = if d = 0 then 1 else 0
    by_cases e : d = 0
    · rw [if_pos e, if_pos (by omega)]
    · rw [if_neg e, if_neg (by omega)]
  | n + 1, d, hn => by
    have hp : 2 ^ n ≤ 16 := by
      have : ∀ n, n < 5 → 2 ^ n ≤ 16 := by decide
      exact this n (by omega)
    rw [show 2 ^ (n + 1) = 2 ^ n + 2 ^ n by rw [Nat.pow_succ]; omega, sumN_app]
    have e1 : sumN (fun s => if d ≤ hS pl s (n + 1) then iS pl s (n + 1) else 0) (2 ^ n) = sumN (fun s => (if d ≤ hS pl s n then iS pl s n else 0) * pl (39 + n)) (2 ^ n) := by
      refine sumN_cg _ (fun s hs => ?_)
      have hb := (bitH n (by omega) s (by omega) hs).2.1
      show (if d ≤ hS pl s n + (if s / 2 ^ n % 2 = 1 then hvs pl n else 0) then iS pl s n * (if s / 2 ^ n % 2 = 1 then 10 - pl (39 + n) else pl (39 + n)) else 0) = _
      have hb' : ¬ s / 2 ^ n % 2 = 1 := by omega
      rw [if_neg hb', if_neg hb', Nat.add_zero]
      by_cases e : d ≤ hS pl s n
      · rw [if_pos e, if_pos e]
      · rw [if_neg e, if_neg e, Nat.zero_mul]
    have e2 : sumN (fun t => if d ≤ hS pl (2 ^ n + t) (n + 1) then iS pl (2 ^ n + t) (n + 1) else 0) (2 ^ n) = sumN (fun s => (if d - hvs pl n ≤ hS pl s n then iS pl s n else 0) * (10 - pl (39 + n))) (2 ^ n) := by
      refine sumN_cg _ (fun s hs => ?_)
      have hb := (bitH n (by omega) s (by omega) hs).1
      obtain ⟨s1, s2⟩ := S_hi (pl := pl) (show n < 5 by omega) hs (by omega) n (Nat.le_refl _)
      show (if d ≤ hS pl (2 ^ n + s) n + (if (2 ^ n + s) / 2 ^ n % 2 = 1 then hvs pl n else 0) then iS pl (2 ^ n + s) n * (if (2 ^ n + s) / 2 ^ n % 2 = 1 then 10 - pl (39 + n) else pl (39 + n)) else 0) = _
      rw [if_pos hb, if_pos hb, s1, s2]
      by_cases e : d ≤ hS pl s n + hvs pl n
      · rw [if_pos e, if_pos (by omega)]
      · rw [if_neg e, if_neg (by omega), Nat.zero_mul]
    rw [e1, e2, sumN_mul (fun s => if d ≤ hS pl s n then iS pl s n else 0), sumN_mul (fun s => if d - hvs pl n ≤ hS pl s n then iS pl s n else 0), sub_W pl n d (by omega), sub_W pl n (d - hvs pl n) (by omega)]
    rfl
theorem ref78 {m : Mem} {pl : Nat → Nat} {set : Nat} (x y z w : Int32) (hP : PlM m pl) (hO : PlOk pl) (hs : set < 32) : iter gFU (f_X9_odds_b78 m x y z w (nI set)) (1, 0, 0) = some (nI (iS pl set (pl 1)), nI (hS pl set (pl 1))) := by
  have h5 := hO.2.1
  refine iter_forU (fun p => (nI (iS pl set p), nI (hS pl set p), nI p)) (pl 1) _ rfl (by omega) ?_ ?_
  · intro p hp
    have b1 := hO.2.2.2.2.2 p hp
    have hb := bitT set hs p (by omega)
    unfold f_X9_odds_b78
    dsimp only
    rw [show ldA m 188 49 1 = some (nI (pl 1)) from (ldA_nI (i := 1) (by omega) (by omega)).trans (by rw [hP 1 (by omega)]), Option.bind_some, if_neg (nI_ge hp (by omega))]
    by_cases e : set / 2 ^ p % 2 = 1
    · rw [if_pos (hb.mpr e)]
      unfold f_X9_odds_j105
      rw [if_neg (by decide), show (39 : Int32) = nI 39 from rfl, nI_add, ldA_nI (by omega) (by omega), hP (39 + p) (by omega), Option.bind_some]
      unfold f_X9_odds_j140
      rw [if_neg (by decide), counts_ok hP (by omega) (by omega), Option.bind_some, show (10 : Int32) - nI (pl (39 + p)) = nI (10 - pl (39 + p)) from pk_sub b1.2.1, pk_mul, nI_add, nI_1]
      show _ = some (Sum.inl (nI (iS pl set p * (if set / 2 ^ p % 2 = 1 then 10 - pl (39 + p) else pl (39 + p))), nI (hS pl set p + (if set / 2 ^ p % 2 = 1 then hvs pl p else 0)), _))
      rw [if_pos e, if_pos e]
    · rw [if_neg (fun q => e (hb.mp q))]
      unfold f_X9_odds_j105
      rw [if_pos rfl, show (39 : Int32) = nI 39 from rfl, nI_add, ldA_nI (by omega) (by omega), hP (39 + p) (by omega), Option.bind_some]
      unfold f_X9_odds_j140
      rw [if_pos rfl, show (0 : Int32) = nI 0 from rfl, pk_mul, nI_add, nI_1]
      show _ = some (Sum.inl (nI (iS pl set p * (if set / 2 ^ p % 2 = 1 then 10 - pl (39 + p) else pl (39 + p))), nI (hS pl set p + (if set / 2 ^ p % 2 = 1 then hvs pl p else 0)), _))
      rw [if_neg e, if_neg e]
  · unfold f_X9_odds_b78
    dsimp only
    rw [show ldA m 188 49 1 = some (nI (pl 1)) from (ldA_nI (i := 1) (by omega) (by omega)).trans (by rw [hP 1 (by omega)]), Option.bind_some, if_pos (nI_le (Nat.le_refl _) (by omega))]
theorem ref56 {m : Mem} {pl : Nat → Nat} {d : Nat} (y z : Int32) (hP : PlM m pl) (hO : PlOk pl) (hd : d < 100) : iter gFU (f_X9_odds_b56 m (nI d) y z) (0, 0) = some (nI (Wn pl (pl 1) d)) := by
  have h5 := hO.2.1
  have hp : 2 ^ (pl 1) ≤ 32 := by
    have : ∀ n, n < 6 → 2 ^ n ≤ 32 := by decide
    exact this _ (by omega)
  rw [← sub_W pl (pl 1) d h5]
  refine iter_forU (fun t => (nI (sumN (fun s => if d ≤ hS pl s (pl 1) then iS pl s (pl 1) else 0) t), nI t)) (2 ^ (pl 1)) _ rfl (by omega) ?_ ?_
  · intro t ht
    have hh := hS_le pl t (pl 1)
    unfold f_X9_odds_b56
    dsimp only
    rw [show ldA m 188 49 1 = some (nI (pl 1)) from (ldA_nI (i := 1) (by omega) (by omega)).trans (by rw [hP 1 (by omega)]), Option.bind_some, shlT (pl 1) (by omega), if_neg (nI_ge ht (by omega)), ref78 _ _ _ _ hP hO (by omega), Option.bind_some]
    dsimp only
    show _ = some (Sum.inl (nI (sumN (fun s => if d ≤ hS pl s (pl 1) then iS pl s (pl 1) else 0) t + (if d ≤ hS pl t (pl 1) then iS pl t (pl 1) else 0)), nI (t + 1)))
    by_cases e : d ≤ hS pl t (pl 1)
    · rw [if_neg (nI_nlt e (by omega)), if_pos e, nI_1, nI_add]
    · rw [if_pos (nI_lt (by omega) (by omega)), if_neg e, nI_1, Int32.add_zero]
      rfl
  · unfold f_X9_odds_b56
    dsimp only
    rw [show ldA m 188 49 1 = some (nI (pl 1)) from (ldA_nI (i := 1) (by omega) (by omega)).trans (by rw [hP 1 (by omega)]), Option.bind_some, shlT (pl 1) (by omega), if_pos (nI_le (Nat.le_refl _) (by omega))]
theorem ref29 {m : Mem} {pl : Nat → Nat} (x y z : Int32) (hP : PlM m pl) (hO : PlOk pl) : iter gFU (f_X9_odds_b29 m x y z) (1, 0) = some (nI (10 ^ pl 1)) := by
  have h5 := hO.2.1
  refine iter_forU (fun p => (nI (10 ^ p), nI p)) (pl 1) _ rfl (by omega) ?_ ?_
  · intro p hp
    unfold f_X9_odds_b29
    dsimp only
    rw [show ldA m 188 49 1 = some (nI (pl 1)) from (ldA_nI (i := 1) (by omega) (by omega)).trans (by rw [hP 1 (by omega)]), Option.bind_some, if_neg (nI_ge hp (by omega)), show (10 : Int32) = nI 10 from rfl, pk_mul, nI_1, Nat.pow_succ]
  · unfold f_X9_odds_b29
    dsimp only
    rw [show ldA m 188 49 1 = some (nI (pl 1)) from (ldA_nI (i := 1) (by omega) (by omega)).trans (by rw [hP 1 (by omega)]), Option.bind_some, if_pos (nI_le (Nat.le_refl _) (by omega))]
theorem odds13 {m : Mem} {C : Nat → Nat} {d : Nat} (x y : Int32) (hC : ∀ j, j < 11 → ga m 169 j = nI (C j)) (hd : d < 100) : iter gFU (f_X6_oddsOf_b13 m x y) (0, nI d) = some (nI (sumN (fun t => C (d + t)) (11 - d))) := by
  refine iter_forU (fun i => (nI (sumN (fun t => C (d + t)) i), nI (d + i))) (11 - d) _ rfl (by omega) ?_ ?_
  · intro i hi
    unfold f_X6_oddsOf_b13
    dsimp only
    rw [if_neg (show ¬ (10 : Int32) < nI (d + i) from nI_nlt (a := 10) (by omega) (by omega)), ldA_nI (by omega) (by omega), hC _ (by omega), Option.bind_some, nI_add, nI_1]
    rfl
  · unfold f_X6_oddsOf_b13
    dsimp only
    rw [if_pos (show (10 : Int32) < nI (d + (11 - d)) from nI_lt (a := 10) (by omega) (by omega))]
theorem sp_odds : Sp_odds Inv := by
  intro c μ a1 a2 hc hI
  obtain ⟨tx, len, pl, f, kn, ps, b, gf, gk, gp, tr, h1, h2, h3⟩ := id hI
  have hq := h1.1.1
  have hO := h3.2.1
  have h5 := hO.2.1
  have triv : f_X8_odds μ a1 a2 = some (-1, μ) → f_X9_odds μ a1 a2 = some (-1) → ∃ (r : Int32) (μ1 μ2 : Mem), (f_X8_odds μ a1 a2 = some (r, μ1)) ∧ (f_X9_odds μ1 a1 a2 = some r ∧ μ2 = μ1) ∧ Inv (c + 1) μ2 := fun q1 q2 => ⟨-1, μ, μ, q1, ⟨q2, rfl⟩, hI.up⟩
  have in1 : ∀ m : Mem, f_X9_in m a2 0 1 = some (bi (ck a2 2)) := fun m => in_eq (N := 2) (by omega) a2 1 rfl (by decide)
  cases hk1 : ck a1 100 with
  | false =>
    refine triv ?_ ?_
    · unfold f_X8_odds
      rw [isAsked_eq, Option.bind_some, hk1, if_pos bi0]
    · unfold f_X9_odds
      rw [in99_eq, Option.bind_some, hk1, if_pos bi0]
  | true =>
    cases hk2 : ck a2 2 with
    | false =>
      refine triv ?_ ?_
      · unfold f_X8_odds
        rw [isAsked_eq, Option.bind_some, hk1, if_neg bi1]
        rcases int_range a2 (n := 2) (by omega) with ⟨e1, e2⟩ | ⟨e1, e2, e3⟩ | ⟨j, e1, e2, e3⟩
        · rw [if_pos e1]
        · rw [if_neg e1, if_neg (fun q => absurd (Int32.le_trans e2 q) (by decide))]
        · rw [e3] at hk2; cases hk2
      · unfold f_X9_odds
        rw [in99_eq, Option.bind_some, hk1, if_neg bi1, in1, hk2, Option.bind_some, if_pos bi0]
    | true =>
      obtain ⟨d, hd, rfl⟩ := ck_nat hk1 (by omega)
      obtain ⟨w, hw, rfl⟩ := ck_nat hk2 (by omega)
      have hT : 10 ^ pl 1 ≤ 100000 ∧ 0 < 10 ^ pl 1 := by
        have : ∀ n, n < 6 → 10 ^ n ≤ 100000 ∧ 0 < 10 ^ n := by decide
        exact this _ (by omega)
      have hW := Wn_le (pl := pl) (pl 1) d (fun p hp => (hO.2.2.2.2.2 p hp).2.1)
      have sC : SameC μ (sA μ 169 (fun j => if j < 11 then nI (chn pl (pl 1) j) else ga μ 169 j)) := SameC.sA (by omega) (by omega)
      have sM : SameM μ (sA μ 169 (fun j => if j < 11 then nI (chn pl (pl 1) j) else ga μ 169 j)) := SameM.sA (by omega)
      have i2 := h2.same sM
      have g0 : 0 < Nat.gcd (10 ^ pl 1) (Wn pl (pl 1) d) := Nat.gcd_pos_of_pos_left _ hT.2
      have g1 : Nat.gcd (10 ^ pl 1) (Wn pl (pl 1) d) ≤ 10 ^ pl 1 := Nat.gcd_le_left _ hT.2
      have e8 : ∀ x : Int32, f_X6_oddsOf μ (gpl μ) (nI d) x = if x = 0 then some (nI (10 ^ pl 1 / Nat.gcd (10 ^ pl 1) (Wn pl (pl 1) d)), sA μ 169 (fun j => if j < 11 then nI (chn pl (pl 1) j) else ga μ 169 j)) else some (nI (Wn pl (pl 1) d / Nat.gcd (10 ^ pl 1) (Wn pl (pl 1) d)), sA μ 169 (fun j => if j < 11 then nI (chn pl (pl 1) j) else ga μ 169 j)) := by
        intro x
        unfold f_X6_oddsOf
        rw [spread_ok hq h1.2.2.1 hO, Option.bind_some]
        dsimp only
        rw [odds13 (C := chn pl (pl 1)) _ _ (fun j hj => by rw [ga_at]; exact if_pos hj) hd, Option.bind_some, upper_W pl (pl 1) d h5]
        unfold f_X6_commonDivisor
        rw [show (0 : Int32) = nI 0 from rfl, comdiv 20 (10 ^ pl 1) (Wn pl (pl 1) d) 0 gFU (by omega) (by omega) (by omega) (by omega) (by show 40 < 1000000000000; omega), Option.bind_some, Option.bind_some, if_pos (nI_lt g0 (by omega)), dv_nI (by omega) g0 (by omega), dv_nI (by omega) g0 (by omega)]
        rfl
      have e9 : f_X9_odds (sA μ 169 (fun j => if j < 11 then nI (chn pl (pl 1) j) else ga μ 169 j)) (nI d) (nI w) = if nI w = 0 then some (nI (Wn pl (pl 1) d / Nat.gcd (10 ^ pl 1) (Wn pl (pl 1) d))) else some (nI (10 ^ pl 1 / Nat.gcd (10 ^ pl 1) (Wn pl (pl 1) d))) := by
        unfold f_X9_odds
        rw [in99_eq, Option.bind_some, hk1, if_neg bi1, in1, hk2, Option.bind_some, if_neg bi1, ref29 _ _ _ i2.2.1 hO, Option.bind_some, ref56 _ _ i2.2.1 hO hd, Option.bind_some, refdiv _ _ _ gFU _ _ (by omega) (by omega) (by show _ < 1000000000000; omega), Option.bind_some, Nat.gcd_comm (Wn pl (pl 1) d), dv_nI (by omega) g0 (by omega), dv_nI (by omega) g0 (by omega)]
        rfl
      have c8 : f_X8_odds μ (nI d) (nI w) = f_X6_oddsOf μ (gpl μ) (nI d) (if nI w = 0 then 1 else 0) := by
        unfold f_X8_odds
        rw [isAsked_eq, Option.bind_some, hk1, if_neg bi1, if_neg (nI_pos (by omega)), if_pos (show nI w ≤ 1 from nI_le (a := w) (b := 1) (by omega) (by omega)), rfG_eq hq, Option.bind_some]
        unfold f_X8_odds_j36
        split <;> (cases f_X6_oddsOf μ (gpl μ) (nI d) _ <;> rfl)
      by_cases e : nI w = 0
      · exact ⟨_, _, _, by rw [c8, e8, if_pos e, if_neg (by decide)], ⟨by rw [e9, if_pos e], rfl⟩, hI.same sC sM⟩
      · exact ⟨_, _, _, by rw [c8, e8, if_neg e, if_pos rfl], ⟨by rw [e9, if_neg e], rfl⟩, hI.same sC sM⟩

/-! rings: the reference's side -/
def al (pre : Nat → Nat) (t : Nat) : Nat → Bool
  | 0 => true
  | i + 1 => al pre t i && decide (pre i ≠ t)
theorem al_tr {pre : Nat → Nat} {t : Nat} : ∀ d, al pre t d = true ↔ ∀ i, i < d → pre i ≠ t
  | 0 => ⟨fun _ i hi => by omega, fun _ => rfl⟩
  | d + 1 => by
    show (al pre t d && decide (pre d ≠ t)) = true ↔ _
    rw [Bool.and_eq_true, decide_eq_true_eq, al_tr d]
    constructor
    · rintro ⟨h1, h2⟩ i hi
      by_cases e : i = d
      · rw [e]; exact h2
      · exact h1 i (by omega)
    · intro h
      exact ⟨fun i hi => h i (by omega), h d (by omega)⟩
theorem f109 {μ : Mem} {R : Nat → Int32} {pre : Nat → Nat} {d t : Nat} (x : Int32) (b : Bool) (hpre : ∀ i, i < d → R i = nI (pre i)) (hRd : R d = nI t) (hd : d < 7) (hp7 : ∀ i, i < d → pre i < 7) (ht : t < 7) : iter gFU (f_X9_finds_b109 (sA μ 194 R) x (nI d)) (bi b, 0) = some (bi (b && al pre t d)) := by
  refine iter_forU (fun i => (bi (b && al pre t i), nI i)) d _ (by show _ = (bi (b && true), _); rw [Bool.and_true]; rfl) (by omega) ?_ ?_
  · intro i hi
    have h7 := hp7 i hi
    unfold f_X9_finds_b109
    dsimp only
    rw [if_neg (nI_ge hi (by omega)), nI_1]
    have ea : (b && al pre t (i + 1)) = ((b && al pre t i) && decide (pre i ≠ t)) := by
      show (b && (al pre t i && decide (pre i ≠ t))) = _
      rw [Bool.and_assoc]
    rw [ea]
    cases hb : (b && al pre t i) with
    | false =>
      rw [if_pos bi0]
      rfl
    | true =>
      rw [if_neg bi1, ldA_nI (by omega) (by omega), ga_at, hpre i hi, Option.bind_some, ldA_nI (by omega) (by omega), ga_at, hRd, Option.bind_some, Bool.true_and]
      by_cases e : pre i = t
      · rw [if_pos (by rw [e]), decide_eq_false (fun z => z e)]
        rfl
      · rw [if_neg (fun z => e ((nI_eq (by omega) (by omega)).mp z)), decide_eq_true e]
        rfl
  · unfold f_X9_finds_b109
    dsimp only
    rw [if_pos (nI_le (Nat.le_refl _) (by omega))]
theorem fstep {μ : Mem} {pl L pre : Nat → Nat} {R : Nat → Int32} {d t n : Nat} (hP : PlM μ pl) (h7 : pl 0 ≤ 7) (hB : ∀ k, k < 49 → ga μ 193 k = nI (L k)) (hL : ∀ k, L k < 1000000000) (hn : n ≤ 7) (hn2 : 2 ≤ n) (hd : d < n) (hpre : ∀ i, i < d → R i = nI (pre i)) (hR : RowOk (pl 0) d pre) (hRd : R d = nI t - 1) (ht : t ≤ pl 0) :
    f_X9_finds_b9 (nI n) (nI d, sA μ 194 R) = if pl 0 ≤ t then some (.inl (nI d + -1, sA μ 194 (upd R d (nI t)))) else if okT pre d t = true ∧ (d = 0 ∨ 0 < L (7 * pre (d - 1) + t)) then (if d + 1 = n then (if 0 < L (7 * t + pu pre d t 0) then some (.inr (.inl (sA μ 194 (upd R d (nI t))))) else some (.inl (nI d, sA μ 194 (upd R d (nI t))))) else some (.inl (nI (d + 1), sA μ 194 (upd (upd R d (nI t)) (d + 1) (-1))))) else some (.inl (nI d, sA μ 194 (upd R d (nI t)))) := by
  have ld0 : ∀ R2, ldA (sA μ 194 R2) 188 49 0 = some (nI (pl 0)) := fun R2 => (ldA_nI (i := 0) (by omega) (by omega)).trans (by rw [ga_ne (by omega), hP 0 (by omega)])
  have e1 : nI t - 1 + 1 = nI t := Int32.sub_add_cancel _ _
  unfold f_X9_finds_b9
  dsimp only
  rw [if_neg (nI_pos (by omega)), ldA_nI (show d < 8 by omega) (by omega), ga_at, hRd, Option.bind_some, e1, stA_nI (show d < 8 by omega) (by omega), Option.bind_some, ga_at, sA_sA, ldA_nI (show d < 8 by omega) (by omega), ga_at, upd_at, if_pos rfl, Option.bind_some, ld0, Option.bind_some]
  by_cases w0 : pl 0 ≤ t
  · rw [if_pos (nI_le w0 (by omega)), if_pos w0]
    unfold f_X9_finds_j43
    rw [if_pos rfl]
  · rw [if_neg (nI_ge (by omega) (by omega)), if_neg w0]
    generalize hR2 : upd R d (nI t) = R2
    have r2d : R2 d = nI t := by rw [← hR2, upd_at, if_pos rfl]
    have r2p : ∀ i, i < d → R2 i = nI (pre i) := fun i hi => by rw [← hR2, upd_at, if_neg (by omega)]; exact hpre i hi
    have r20 : R2 0 = nI (pu pre d t 0) := by
      by_cases z : d = 0
      · subst z; rw [pu_at]; exact r2d
      · rw [pu_ne (by omega)]; exact r2p 0 (by omega)
    have p0 : pu pre d t 0 < 7 := by
      by_cases z : d = 0
      · subst z; rw [pu_at]; omega
      · rw [pu_ne (by omega)]
        have := hR.1 0 (by omega)
        omega
    have hcl := hL (7 * t + pu pre d t 0)
    have j104 : ∀ b, f_X9_finds_j104 (sA μ 194 R2) (nI n) (nI d) (bi b) = if (b && al pre t d) = true then (if d + 1 = n then (if 0 < L (7 * t + pu pre d t 0) then some (.inr (.inl (sA μ 194 R2))) else some (.inl (nI d, sA μ 194 R2))) else some (.inl (nI (d + 1), sA μ 194 (upd R2 (d + 1) (-1))))) else some (.inl (nI d, sA μ 194 R2)) := by
      intro b
      unfold f_X9_finds_j104
      rw [f109 (nI n) b r2p r2d (by omega) (fun i hi => by have := hR.1 i hi; omega) (by omega), Option.bind_some]
      cases hb : (b && al pre t d) with
      | false =>
        rw [if_pos bi0]
        unfold f_X9_finds_j187
        rw [if_pos bi0]
        rfl
      | true =>
        rw [if_neg bi1, if_pos rfl, nI_1]
        by_cases w1 : d + 1 = n
        · rw [if_pos (by rw [w1]), if_pos w1, ldA_nI (show d < 8 by omega) (by omega), ga_at, r2d, Option.bind_some, show ldA (sA μ 194 R2) 194 8 0 = some (nI (pu pre d t 0)) from (ldA_nI (i := 0) (by omega) (by omega)).trans (by rw [ga_at, r20]), Option.bind_some, show (7 : Int32) = nI 7 from rfl, pk_mul, nI_add, ldA_nI (show 7 * t + pu pre d t 0 < 49 by omega) (by omega), ga_ne (by omega), hB _ (by omega), Option.bind_some]
          by_cases w2 : 0 < L (7 * t + pu pre d t 0)
          · rw [if_neg (nI_nle w2 (by omega)), if_pos w2]
          · rw [if_neg w2, show L (7 * t + pu pre d t 0) = 0 by omega, if_pos (by decide)]
            unfold f_X9_finds_j187
            rw [if_neg bi1, nI_1, if_pos (nI_le (by omega) (by omega))]
        · rw [if_neg (fun z => w1 ((nI_eq (by omega) (by omega)).mp z)), if_neg w1]
          unfold f_X9_finds_j187
          rw [if_neg bi1, nI_1, if_neg (nI_ge (by omega) (by omega)), stA_nI (show d + 1 < 8 by omega) (by omega), Option.bind_some, ga_at, sA_sA]
    unfold f_X9_finds_j43 f_X9_finds_j99 f_X9_finds_j103
    rw [if_neg (by decide), show f_X9_finds_j104 (sA μ 194 R2) (nI n) (nI d) 1 = f_X9_finds_j104 (sA μ 194 R2) (nI n) (nI d) (bi true) from rfl, show f_X9_finds_j104 (sA μ 194 R2) (nI n) (nI d) 0 = f_X9_finds_j104 (sA μ 194 R2) (nI n) (nI d) (bi false) from rfl, j104, j104, Bool.true_and, Bool.false_and, if_neg (show ¬ false = true by decide)]
    by_cases wd : d = 0
    · subst wd
      rw [if_pos (show nI 0 = 0 from rfl), if_pos (show al pre t 0 = true from rfl), if_pos (show okT pre 0 t = true ∧ (0 = 0 ∨ 0 < L (7 * pre (0 - 1) + t)) from ⟨okT_tr.mpr (Or.inl rfl), Or.inl rfl⟩)]
    · have hd1 := hR.1 (d - 1) (by omega)
      have hl1 := hL (7 * pre (d - 1) + t)
      rw [if_neg (show ¬ nI d = 0 from nI_ne0 (by omega) (by omega)), ldA_nI (show d < 8 by omega) (by omega), ga_at, r2d, Option.bind_some, show ldA (sA μ 194 R2) 194 8 0 = some (nI (pre 0)) from (ldA_nI (i := 0) (by omega) (by omega)).trans (by rw [ga_at, r2p 0 (by omega)]), Option.bind_some]
      have h0 := hR.1 0 (by omega)
      by_cases w1 : t ≤ pre 0
      · rw [if_pos (nI_le w1 (by omega)), if_neg (fun z => by rcases okT_tr.mp z.1 with y | y <;> omega)]
      · rw [if_neg (nI_ge (by omega) (by omega)), show nI d - 1 = nI (d - 1) from pk_sub (a := d) (b := 1) (by omega), ldA_nI (show d - 1 < 8 by omega) (by omega), ga_at, r2p (d - 1) (by omega), Option.bind_some, Option.bind_some, show (7 : Int32) = nI 7 from rfl, pk_mul, nI_add, ldA_nI (show 7 * pre (d - 1) + t < 49 by omega) (by omega), ga_ne (by omega), hB _ (by omega), Option.bind_some]
        by_cases w2 : 0 < L (7 * pre (d - 1) + t)
        · rw [if_neg (nI_nle w2 (by omega))]
          by_cases w3 : al pre t d = true
          · rw [if_pos w3, if_pos (show okT pre d t = true ∧ (d = 0 ∨ 0 < L (7 * pre (d - 1) + t)) from ⟨okT_tr.mpr (Or.inr ⟨by omega, (al_tr d).mp w3⟩), Or.inr w2⟩)]
          · rw [if_neg w3, if_neg (fun z => by
              rcases okT_tr.mp z.1 with y | y
              · omega
              · exact w3 ((al_tr d).mpr y.2))]
        · rw [show L (7 * pre (d - 1) + t) = 0 by omega, if_pos (by decide), if_neg (fun z => by rcases z.2 with y | y <;> omega)]
def Wk : Nat → Nat
  | 0 => 0
  | k + 1 => 7 * (1 + Wk k) + 1
def Lv (μ : Mem) (ns n : Nat) (L : Nat → Nat) (k j : Nat) : Prop := ∀ (d t : Nat) (pre : Nat → Nat) (R : Nat → Int32), d + k + 1 = n → t + j = ns → (∀ i, i < d → R i = nI (pre i)) → RowOk ns d pre → (∀ i, i + 1 < d → 0 < L (7 * pre i + pre (i + 1))) → R d = nI t - 1 →
  (∃ (c : Nat) (R2 : Nat → Int32) (A : List (Nat → Nat)) (row : Nat → Nat) (S : List (Nat → Nat)), c ≤ j * (1 + Wk k) + 1 ∧ (∀ fuel, iter (fuel + c) (f_X9_finds_b9 (nI n)) (nI d, sA μ 194 R) = some (.inl (sA μ 194 R2))) ∧ cf (fun t => if okT pre d t then ext ns k (d + 1) (pu pre d t) else []) j t = A ++ row :: S ∧ (∀ r, r ∈ A → ¬ rg n L r) ∧ rg n L row ∧ ∀ i, i < n → R2 i = nI (row i)) ∨
  (∃ (c : Nat) (R2 : Nat → Int32), c ≤ j * (1 + Wk k) + 1 ∧ (∀ fuel, iter (fuel + c) (f_X9_finds_b9 (nI n)) (nI d, sA μ 194 R) = iter fuel (f_X9_finds_b9 (nI n)) (nI d + -1, sA μ 194 R2)) ∧ (∀ r, r ∈ cf (fun t => if okT pre d t then ext ns k (d + 1) (pu pre d t) else []) j t → ¬ rg n L r) ∧ ∀ i, i < d → R2 i = nI (pre i))
theorem lv_j {μ : Mem} {pl L : Nat → Nat} {n k : Nat} (hP : PlM μ pl) (h7 : pl 0 ≤ 7) (hB : ∀ k, k < 49 → ga μ 193 k = nI (L k)) (hL : ∀ k, L k < 1000000000) (hn : n ≤ 7) (hn2 : 2 ≤ n) (hLow : ∀ k2, k = k2 + 1 → Lv μ (pl 0) n L k2 (pl 0)) : ∀ j, Lv μ (pl 0) n L k j
  | 0 => by
    intro d t pre R hdk htj hpre hR hpos hRd
    have hs := fstep hP h7 hB hL hn hn2 (show d < n by omega) hpre hR hRd (by omega)
    rw [if_pos (by omega)] at hs
    exact Or.inr ⟨1, upd R d (nI t), by omega, fun fuel => iter_go hs, fun r hr => (by cases hr), fun i hi => by rw [upd_at, if_neg (by omega)]; exact hpre i hi⟩
  | j + 1 => by
    intro d t pre R hdk htj hpre hR hpos hRd
    have ih := lv_j hP h7 hB hL hn hn2 hLow j
    have hs := fstep hP h7 hB hL hn hn2 (show d < n by omega) hpre hR hRd (by omega)
    rw [if_neg (by omega)] at hs
    have hcf : cf (fun t => if okT pre d t then ext (pl 0) k (d + 1) (pu pre d t) else []) (j + 1) t = (if okT pre d t then ext (pl 0) k (d + 1) (pu pre d t) else []) ++ cf (fun t => if okT pre d t then ext (pl 0) k (d + 1) (pu pre d t) else []) j (t + 1) := rfl
    have hmul : (j + 1) * (1 + Wk k) = j * (1 + Wk k) + (1 + Wk k) := Nat.succ_mul _ _
    rw [hcf]
    -- go on at this depth, when what was done took c1 steps and no ring was met
    have go : ∀ (c1 : Nat) (R1 : Nat → Int32), c1 ≤ 1 + Wk k → (∀ fuel, iter (fuel + c1) (f_X9_finds_b9 (nI n)) (nI d, sA μ 194 R) = iter fuel (f_X9_finds_b9 (nI n)) (nI d, sA μ 194 R1)) → (∀ i, i < d → R1 i = nI (pre i)) → R1 d = nI t → (∀ r, r ∈ (if okT pre d t then ext (pl 0) k (d + 1) (pu pre d t) else []) → ¬ rg n L r) → (∃ (c : Nat) (R2 : Nat → Int32) (A : List (Nat → Nat)) (row : Nat → Nat) (S : List (Nat → Nat)), c ≤ (j + 1) * (1 + Wk k) + 1 ∧ (∀ fuel, iter (fuel + c) (f_X9_finds_b9 (nI n)) (nI d, sA μ 194 R) = some (.inl (sA μ 194 R2))) ∧ (if okT pre d t then ext (pl 0) k (d + 1) (pu pre d t) else []) ++ cf (fun t => if okT pre d t then ext (pl 0) k (d + 1) (pu pre d t) else []) j (t + 1) = A ++ row :: S ∧ (∀ r, r ∈ A → ¬ rg n L r) ∧ rg n L row ∧ ∀ i, i < n → R2 i = nI (row i)) ∨ (∃ (c : Nat) (R2 : Nat → Int32), c ≤ (j + 1) * (1 + Wk k) + 1 ∧ (∀ fuel, iter (fuel + c) (f_X9_finds_b9 (nI n)) (nI d, sA μ 194 R) = iter fuel (f_X9_finds_b9 (nI n)) (nI d + -1, sA μ 194 R2)) ∧ (∀ r, r ∈ (if okT pre d t then ext (pl 0) k (d + 1) (pu pre d t) else []) ++ cf (fun t => if okT pre d t then ext (pl 0) k (d + 1) (pu pre d t) else []) j (t + 1) → ¬ rg n L r) ∧ ∀ i, i < d → R2 i = nI (pre i)) := by
      intro c1 R1 hc1 hi1 hp1 hd1 hno
      rcases ih d (t + 1) pre R1 hdk (by omega) hp1 hR hpos (by rw [hd1]; exact (nI_pred t).symm) with ⟨c, R2, A, row, S, q1, q2, q3, q4, q5, q6⟩ | ⟨c, R2, q1, q2, q3, q4⟩
      · refine Or.inl ⟨c + c1, R2, (if okT pre d t then ext (pl 0) k (d + 1) (pu pre d t) else []) ++ A, row, S, by omega, fun fuel => ?_, ?_, ?_, q5, q6⟩
        · rw [← Nat.add_assoc, hi1, q2]
        · rw [q3, List.append_assoc]
        · intro r hr
          rcases List.mem_append.mp hr with z | z
          · exact hno r z
          · exact q4 r z
      · refine Or.inr ⟨c + c1, R2, by omega, fun fuel => ?_, ?_, q4⟩
        · rw [← Nat.add_assoc, hi1, q2]
        · intro r hr
          rcases List.mem_append.mp hr with z | z
          · exact hno r z
          · exact q3 r z
    have up : ∀ i, i < d → upd R d (nI t) i = nI (pre i) := fun i hi => by rw [upd_at, if_neg (by omega)]; exact hpre i hi
    have upd0 : upd R d (nI t) d = nI t := by rw [upd_at, if_pos rfl]
    by_cases C : okT pre d t = true ∧ (d = 0 ∨ 0 < L (7 * pre (d - 1) + t))
    · rw [if_pos C] at hs
      have hpos2 : ∀ i, i + 1 < d + 1 → 0 < L (7 * pu pre d t i + pu pre d t (i + 1)) := by
        intro i hi
        by_cases z : i + 1 = d
        · rw [z, pu_at, pu_ne (by omega)]
          rcases C.2 with y | y
          · omega
          · rw [show i = d - 1 by omega]; exact y
        · rw [pu_ne (by omega), pu_ne (by omega)]
          exact hpos i (by omega)
      match k, hdk, hLow, hmul, go with
      | 0, hdk, hLow, hmul, go =>
        rw [if_pos (by omega)] at hs
        rw [if_pos C.1] at go ⊢
        by_cases w : 0 < L (7 * t + pu pre d t 0)
        · rw [if_pos w] at hs
          refine Or.inl ⟨1, upd R d (nI t), [], pu pre d t, cf (fun t => if okT pre d t then ext (pl 0) 0 (d + 1) (pu pre d t) else []) j (t + 1), by omega, fun fuel => iter_end hs, rfl, fun r hr => (by cases hr), ?_, ?_⟩
          · intro i hi
            unfold lnk
            by_cases z : i + 1 < n
            · rw [if_pos z]; exact hpos2 i (by omega)
            · rw [if_neg z, show i = d by omega, pu_at]; exact w
          · intro i hi
            by_cases z : i = d
            · rw [z, pu_at]; exact upd0
            · rw [pu_ne z]; exact up i (by omega)
        · rw [if_neg w] at hs
          refine go 1 (upd R d (nI t)) (by omega) (fun fuel => iter_go hs) up upd0 (fun r hr q => ?_)
          have : r = pu pre d t := by simpa [ext] using hr
          subst this
          have := q d (by omega)
          unfold lnk at this
          rw [if_neg (by omega), pu_at] at this
          exact w this
      | k2 + 1, hdk, hLow, hmul, go =>
        rw [if_neg (by omega)] at hs
        have hW : Wk (k2 + 1) = 7 * (1 + Wk k2) + 1 := rfl
        have hW2 : pl 0 * (1 + Wk k2) ≤ 7 * (1 + Wk k2) := Nat.mul_le_mul_right _ h7
        rw [if_pos C.1] at go ⊢
        rcases hLow k2 rfl (d + 1) 0 (pu pre d t) (upd (upd R d (nI t)) (d + 1) (-1)) (by omega) (by omega) (fun i hi => by
          rw [upd_at, if_neg (by omega)]
          by_cases z : i = d
          · rw [z, pu_at]; exact upd0
          · rw [pu_ne z]; exact up i (by omega)) (hR.pu (by omega) C.1) hpos2 (by rw [upd_at, if_pos rfl]; rfl) with ⟨c, R2, A, row, S, q1, q2, q3, q4, q5, q6⟩ | ⟨c, R2, q1, q2, q3, q4⟩
        · refine Or.inl ⟨c + 1, R2, A, row, S ++ cf (fun t => if okT pre d t then ext (pl 0) (k2 + 1) (d + 1) (pu pre d t) else []) j (t + 1), by omega, fun fuel => ?_, ?_, q4, q5, q6⟩
          · rw [← Nat.add_assoc, iter_go hs, q2]
          · show cf (fun t2 => if okT (pu pre d t) (d + 1) t2 then ext (pl 0) k2 (d + 1 + 1) (pu (pu pre d t) (d + 1) t2) else []) (pl 0) 0 ++ _ = _
            rw [q3, List.append_assoc]
            rfl
        · refine go (c + 1) R2 (by omega) (fun fuel => ?_) (fun i hi => by rw [q4 i (by omega), pu_ne (by omega)]) (by rw [q4 d (by omega), pu_at]) q3
          rw [← Nat.add_assoc, iter_go hs, q2, pk_m1]
    · rw [if_neg C] at hs
      refine go 1 (upd R d (nI t)) (by omega) (fun fuel => iter_go hs) up upd0 ?_
      by_cases w : okT pre d t = true
      · rw [if_pos w]
        have hd0 : d ≠ 0 := fun z => C ⟨w, Or.inl z⟩
        have hl : L (7 * pre (d - 1) + t) = 0 := by
          have : ¬ 0 < L (7 * pre (d - 1) + t) := fun z => C ⟨w, Or.inr z⟩
          omega
        exact ext_none (by omega) (by omega) hR (by omega) w hl
      · rw [if_neg w]
        intro r hr
        cases hr
theorem lv {μ : Mem} {pl L : Nat → Nat} {n : Nat} (hP : PlM μ pl) (h7 : pl 0 ≤ 7) (hB : ∀ k, k < 49 → ga μ 193 k = nI (L k)) (hL : ∀ k, L k < 1000000000) (hn : n ≤ 7) (hn2 : 2 ≤ n) : ∀ k j, Lv μ (pl 0) n L k j
  | 0, j => lv_j hP h7 hB hL hn hn2 (fun k2 z => by omega) j
  | k + 1, j => lv_j hP h7 hB hL hn hn2 (fun k2 z => by rw [show k2 = k by omega]; exact lv hP h7 hB hL hn hn2 k (pl 0)) j
theorem Wk_le : ∀ k, k < 8 → Wk k ≤ 10000000 := by decide +kernel
theorem finds_ok {m : Mem} {pl L : Nat → Nat} {n : Nat} (hP : PlM m pl) (h7 : pl 0 ≤ 7) (hB : ∀ k, k < 49 → ga m 193 k = nI (L k)) (hL : ∀ k, L k < 1000000000) (hn : n ≤ 7) (hn2 : 2 ≤ n) : (∃ (R2 : Nat → Int32) (A : List (Nat → Nat)) (row : Nat → Nat) (S : List (Nat → Nat)), f_X9_finds m (nI n) = some (1, sA m 194 R2) ∧ ext (pl 0) n 0 zz = A ++ row :: S ∧ (∀ r, r ∈ A → ¬ rg n L r) ∧ rg n L row ∧ ∀ i, i < n → R2 i = nI (row i)) ∨ (∃ (R2 : Nat → Int32), f_X9_finds m (nI n) = some (0, sA m 194 R2) ∧ ∀ r, r ∈ ext (pl 0) n 0 zz → ¬ rg n L r) := by
  obtain ⟨k, rfl⟩ : ∃ k, n = k + 1 := ⟨n - 1, by omega⟩
  have hW := Wk_le k (by omega)
  have hW2 : pl 0 * (1 + Wk k) ≤ 7 * 10000001 := Nat.mul_le_mul h7 (by omega)
  have hst : stA m 194 8 0 (-1) = some (sA m 194 (upd (ga m 194) 0 (-1))) := stA_nI (i := 0) (by omega) (by omega)
  rcases lv hP h7 hB hL hn hn2 k (pl 0) 0 0 zz (upd (ga m 194) 0 (-1)) (by omega) (by omega) (fun i hi => by omega) (RowOk.nil _) (fun i hi => by omega) (by rw [upd_at, if_pos rfl]; rfl) with ⟨c, R2, A, row, S, q1, q2, q3, q4, q5, q6⟩ | ⟨c, R2, q1, q2, q3, q4⟩
  · refine Or.inl ⟨R2, A, row, S, ?_, q3, q4, q5, q6⟩
    unfold f_X9_finds
    have hg : gFU = (gFU - c) + c := by
      have : gFU = 1000000000000 := rfl
      omega
    rw [hst, Option.bind_some, hg, show ((0 : Int32), sA m 194 (upd (ga m 194) 0 (-1))) = (nI 0, sA m 194 (upd (ga m 194) 0 (-1))) from rfl, q2, Option.bind_some]
    rfl
  · refine Or.inr ⟨R2, ?_, q3⟩
    unfold f_X9_finds
    have hg : gFU = ((gFU - c - 1) + 1) + c := by
      have : gFU = 1000000000000 := rfl
      omega
    rw [hst, Option.bind_some, hg, show ((0 : Int32), sA m 194 (upd (ga m 194) 0 (-1))) = (nI 0, sA m 194 (upd (ga m 194) 0 (-1))) from rfl, q2, iter_end (e := .inr (sA m 194 R2)) (by
      unfold f_X9_finds_b9
      exact if_pos (show (nI 0 + -1 : Int32) < 0 by decide)), Option.bind_some]
    rfl

/-! rings: the numbers -/
def pu (pre : Nat → Nat) (d t : Nat) : Nat → Nat := fun i => if i = d then t else pre i
theorem pu_at {pre : Nat → Nat} {d t : Nat} : pu pre d t d = t := if_pos rfl
theorem pu_ne {pre : Nat → Nat} {d t i : Nat} (h : i ≠ d) : pu pre d t i = pre i := if_neg h
def cf {α : Type} (F : Nat → List α) : Nat → Nat → List α
  | 0, _ => []
  | j + 1, t => F t ++ cf F j (t + 1)
theorem cf_snoc {α : Type} (F : Nat → List α) : ∀ j t, cf F (j + 1) t = cf F j t ++ F (t + j)
  | 0, t => by
    show F t ++ [] = [] ++ F (t + 0)
    rw [List.append_nil, List.nil_append, Nat.add_zero]
  | j + 1, t => by
    show F t ++ cf F (j + 1) (t + 1) = (F t ++ cf F j (t + 1)) ++ F (t + (j + 1))
    rw [cf_snoc F j (t + 1), List.append_assoc, show t + 1 + j = t + (j + 1) by omega]
theorem cf_skip {α : Type} (F : Nat → List α) : ∀ a t m, (∀ s, t ≤ s → s < t + a → F s = []) → cf F (a + m) t = cf F m (t + a)
  | 0, t, m, _ => by rw [Nat.zero_add, Nat.add_zero]
  | a + 1, t, m, h => by
    rw [show a + 1 + m = (a + m) + 1 by omega]
    show F t ++ cf F (a + m) (t + 1) = _
    rw [h t (by omega) (by omega), List.nil_append, cf_skip F a (t + 1) m (fun s h1 h2 => h s (by omega) (by omega)), show t + 1 + a = t + (a + 1) by omega]
theorem cf_mem {α : Type} {F : Nat → List α} {x : α} : ∀ j t, x ∈ cf F j t → ∃ s, t ≤ s ∧ s < t + j ∧ x ∈ F s
  | 0, t, h => by cases h
  | j + 1, t, h => by
    rcases List.mem_append.mp h with h | h
    · exact ⟨t, by omega, by omega, h⟩
    · obtain ⟨s, h1, h2, h3⟩ := cf_mem j (t + 1) h
      exact ⟨s, by omega, by omega, h3⟩
theorem cf_len {α : Type} {F : Nat → List α} {B : Nat} (h : ∀ s, (F s).length ≤ B) : ∀ j t, (cf F j t).length ≤ j * B
  | 0, t => by rw [Nat.zero_mul]; exact Nat.le_refl _
  | j + 1, t => by
    show (F t ++ cf F j (t + 1)).length ≤ _
    rw [List.length_append, Nat.succ_mul]
    have := cf_len h j (t + 1)
    have := h t
    omega
def okT (pre : Nat → Nat) (d t : Nat) : Bool := decide (d = 0) || (decide (pre 0 < t) && decide (∀ i, i < d → pre i ≠ t))
def ext (ns : Nat) : Nat → Nat → (Nat → Nat) → List (Nat → Nat)
  | 0, _, pre => [pre]
  | k + 1, d, pre => cf (fun t => if okT pre d t then ext ns k (d + 1) (pu pre d t) else []) ns 0
def RowOk (ns d : Nat) (pre : Nat → Nat) : Prop := (∀ i, i < d → pre i < ns) ∧ ∀ i j, i < d → j < d → pre i = pre j → i = j
theorem okT_tr {pre : Nat → Nat} {d t : Nat} : okT pre d t = true ↔ d = 0 ∨ (pre 0 < t ∧ ∀ i, i < d → pre i ≠ t) := by
  unfold okT
  simp only [Bool.or_eq_true, Bool.and_eq_true, decide_eq_true_eq]
theorem RowOk.pu {ns d t : Nat} {pre : Nat → Nat} (h : RowOk ns d pre) (ht : t < ns) (hk : okT pre d t = true) : RowOk ns (d + 1) (pu pre d t) := by
  have hd : ∀ i, i < d → pre i ≠ t := by
    rcases okT_tr.mp hk with z | z
    · intro i hi; omega
    · exact z.2
  refine ⟨fun i hi => ?_, fun i j hi hj e => ?_⟩
  · by_cases w : i = d
    · rw [w, pu_at]; exact ht
    · rw [pu_ne w]; exact h.1 i (by omega)
  · by_cases w1 : i = d
    · by_cases w2 : j = d
      · omega
      · rw [w1, pu_at, pu_ne w2] at e
        exact absurd e.symm (hd j (by omega))
    · by_cases w2 : j = d
      · rw [w2, pu_at, pu_ne w1] at e
        exact absurd e (hd i (by omega))
      · rw [pu_ne w1, pu_ne w2] at e
        exact h.2 i j (by omega) (by omega) e
theorem ext_ok {ns : Nat} : ∀ k d pre r, RowOk ns d pre → r ∈ ext ns k d pre → RowOk ns (d + k) r ∧ ∀ i, i < d → r i = pre i
  | 0, d, pre, r, h, hr => by
    have : r = pre := by simpa [ext] using hr
    subst this
    exact ⟨h, fun _ _ => rfl⟩
  | k + 1, d, pre, r, h, hr => by
    obtain ⟨t, h1, h2, h3⟩ := cf_mem _ _ hr
    by_cases w : okT pre d t = true
    · rw [if_pos w] at h3
      obtain ⟨i1, i2⟩ := ext_ok k (d + 1) (pu pre d t) r (h.pu (by omega) w) h3
      refine ⟨by rw [show d + (k + 1) = d + 1 + k by omega]; exact i1, fun i hi => ?_⟩
      rw [i2 i (by omega), pu_ne (by omega)]
    · rw [if_neg w] at h3
      cases h3
theorem ext_len {ns : Nat} (hn : ns ≤ 7) : ∀ k d pre, (ext ns k d pre).length ≤ 7 ^ k
  | 0, d, pre => Nat.le_refl _
  | k + 1, d, pre => by
    have h := cf_len (F := fun t => if okT pre d t then ext ns k (d + 1) (pu pre d t) else []) (B := 7 ^ k) (fun s => by
      show (if okT pre d s then ext ns k (d + 1) (pu pre d s) else []).length ≤ 7 ^ k
      split
      · exact ext_len hn k _ _
      · exact Nat.zero_le _) ns 0
    have : ns * 7 ^ k ≤ 7 * 7 ^ k := Nat.mul_le_mul_right _ hn
    rw [Nat.pow_succ, Nat.mul_comm (7 ^ k) 7]
    exact Nat.le_trans h this
def lnk (n : Nat) (row : Nat → Nat) (i : Nat) : Nat := 7 * row i + row (if i + 1 < n then i + 1 else 0)
def rg (n : Nat) (L : Nat → Nat) (row : Nat → Nat) : Prop := ∀ i, i < n → 0 < L (lnk n row i)
def lst (n : Nat) (row : Nat → Nat) (L : Nat → Nat) : Nat := mn9 (fun i => L (lnk n row i)) n
def sbf (n : Nat) (row : Nat → Nat) (l : Nat) (L : Nat → Nat) : Nat → Nat → Nat
  | 0 => L
  | i + 1 => fun k => if k = lnk n row i then sbf n row l L i k - l else sbf n row l L i k
def stk (n : Nat) (s : (Nat → Nat) × Int32) (row : Nat → Nat) : (Nat → Nat) × Int32 := (sbf n row (lst n row s.1) s.1 n, s.2 + nI (lst n row s.1 * n))
def fo (n : Nat) (S : List (Nat → Nat)) (s : (Nat → Nat) × Int32) : (Nat → Nat) × Int32 := S.foldl (stk n) s
theorem sbf_le (n : Nat) (row : Nat → Nat) (l : Nat) (L : Nat → Nat) : ∀ i k, sbf n row l L i k ≤ L k
  | 0, _ => Nat.le_refl _
  | i + 1, k => by
    have := sbf_le n row l L i k
    show (if k = lnk n row i then sbf n row l L i k - l else sbf n row l L i k) ≤ _
    split <;> omega
theorem sbf_0 (n : Nat) (row : Nat → Nat) (L : Nat → Nat) : ∀ i, sbf n row 0 L i = L
  | 0 => rfl
  | i + 1 => by
    funext k
    show (if k = lnk n row i then sbf n row 0 L i k - 0 else sbf n row 0 L i k) = _
    rw [sbf_0 n row L i, Nat.sub_zero]
    split <;> rfl
theorem rg_not {n : Nat} {L row : Nat → Nat} (h : ¬ rg n L row) : ∃ i, i < n ∧ L (lnk n row i) = 0 := Classical.byContradiction fun q => h (fun i hi => by
  have : L (lnk n row i) ≠ 0 := fun z => q ⟨i, hi, z⟩
  omega)
theorem stk_no {n : Nat} {s : (Nat → Nat) × Int32} {row : Nat → Nat} (h : ¬ rg n s.1 row) : stk n s row = s := by
  obtain ⟨i, hi, hz⟩ := rg_not h
  have l0 : lst n row s.1 = 0 := by
    have := mn9_le (fun i => s.1 (lnk n row i)) n i hi
    unfold lst
    try dsimp only at this
    omega
  unfold stk
  rw [l0, sbf_0, Nat.zero_mul, show nI 0 = (0 : Int32) from rfl, Int32.add_zero]
theorem fo_no {n : Nat} : ∀ (S : List (Nat → Nat)) (s : (Nat → Nat) × Int32), (∀ r, r ∈ S → ¬ rg n s.1 r) → fo n S s = s
  | [], _, _ => rfl
  | r :: S, s, h => by
    show fo n S (stk n s r) = s
    rw [stk_no (h r List.mem_cons_self)]
    exact fo_no S s (fun q hq => h q (List.mem_cons_of_mem _ hq))
theorem fo_app (n : Nat) (A B : List (Nat → Nat)) (s : (Nat → Nat) × Int32) : fo n (A ++ B) s = fo n B (fo n A s) := List.foldl_append
theorem stk_le (n : Nat) (s : (Nat → Nat) × Int32) (row : Nat → Nat) (k : Nat) : (stk n s row).1 k ≤ s.1 k := sbf_le n row _ _ n k
theorem fo_le (n : Nat) : ∀ (S : List (Nat → Nat)) (s : (Nat → Nat) × Int32) (k : Nat), (fo n S s).1 k ≤ s.1 k
  | [], _, _ => Nat.le_refl _
  | r :: S, s, k => Nat.le_trans (fo_le n S (stk n s r) k) (stk_le n s r k)
theorem rg_mono {n : Nat} {L L2 row : Nat → Nat} (h : ∀ k, L2 k ≤ L k) (hr : ¬ rg n L row) : ¬ rg n L2 row := fun q => hr (fun i hi => by
  have := q i hi
  have := h (lnk n row i)
  omega)
theorem stk_non {n : Nat} {s : (Nat → Nat) × Int32} {row : Nat → Nat} (hn : 0 < n) (hL : ∀ k, s.1 k < 1000000000) : ¬ rg n (stk n s row).1 row := by
  intro q
  have hl : ∃ i, i < n ∧ lst n row s.1 = s.1 (lnk n row i) := by
    rcases mn9_at (fun i => s.1 (lnk n row i)) n with z | ⟨i, h1, h2⟩
    · have := mn9_le (fun i => s.1 (lnk n row i)) n 0 hn
      have := hL (lnk n row 0)
      try dsimp only at *
      omega
    · exact ⟨i, h1, h2⟩
  obtain ⟨i, hi, he⟩ := hl
  have key : ∀ m, i < m → sbf n row (lst n row s.1) s.1 m (lnk n row i) = 0 := by
    intro m
    induction m with
    | zero => intro h; omega
    | succ m ih =>
      intro h
      show (if lnk n row i = lnk n row m then sbf n row (lst n row s.1) s.1 m (lnk n row i) - lst n row s.1 else sbf n row (lst n row s.1) s.1 m (lnk n row i)) = 0
      by_cases e : i = m
      · subst e
        rw [if_pos rfl]
        have := sbf_le n row (lst n row s.1) s.1 i (lnk n row i)
        omega
      · rw [ih (by omega)]
        split <;> omega
  have := q i hi
  have := key n hi
  have : (stk n s row).1 (lnk n row i) = sbf n row (lst n row s.1) s.1 n (lnk n row i) := rfl
  omega
theorem lnk_lt {ns n i : Nat} {row : Nat → Nat} (h : RowOk ns n row) (hn : ns ≤ 7) (hi : i < n) : lnk n row i < 49 := by
  unfold lnk
  have h1 := h.1 i hi
  have h2 := h.1 (if i + 1 < n then i + 1 else 0) (by split <;> omega)
  omega
theorem lnk_inj {ns n i j : Nat} {row : Nat → Nat} (h : RowOk ns n row) (hn : ns ≤ 7) (hi : i < n) (hj : j < n) (e : lnk n row i = lnk n row j) : i = j := by
  unfold lnk at e
  have h1 := h.1 (if i + 1 < n then i + 1 else 0) (by split <;> omega)
  have h2 := h.1 (if j + 1 < n then j + 1 else 0) (by split <;> omega)
  exact h.2 i j hi hj (by omega)
theorem sbf_own {ns n : Nat} {row L : Nat → Nat} {l : Nat} (h : RowOk ns n row) (hn : ns ≤ 7) : ∀ i j, i ≤ j → j < n → sbf n row l L i (lnk n row j) = L (lnk n row j)
  | 0, _, _, _ => rfl
  | i + 1, j, hij, hj => by
    show (if lnk n row j = lnk n row i then sbf n row l L i (lnk n row j) - l else sbf n row l L i (lnk n row j)) = _
    rw [if_neg (fun z => by have := lnk_inj h hn hj (by omega) z; omega)]
    exact sbf_own h hn i j (by omega) hj
/-- a row that goes by a link that is none is no ring -/
theorem ext_none {ns n k d t : Nat} {pre L : Nat → Nat} (hd : 1 ≤ d) (hn : d + 1 + k = n) (hp : RowOk ns d pre) (ht : t < ns) (hk : okT pre d t = true) (hl : L (7 * pre (d - 1) + t) = 0) : ∀ r, r ∈ ext ns k (d + 1) (pu pre d t) → ¬ rg n L r := by
  intro r hr q
  obtain ⟨_, h2⟩ := ext_ok k (d + 1) (pu pre d t) r (hp.pu ht hk) hr
  have := q (d - 1) (by omega)
  unfold lnk at this
  rw [if_pos (by omega), h2 (d - 1) (by omega), show d - 1 + 1 = d by omega, h2 d (by omega), pu_at, pu_ne (by omega), hl] at this
  omega

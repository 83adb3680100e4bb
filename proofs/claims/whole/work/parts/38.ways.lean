/-! ways: the numbers -/
abbrev Ed : Type := Nat × Nat × Nat
def rx (e : Ed) (c : Nat → Nat) : Nat → Nat := fun v => if v = e.1 ∧ c e.2.1 ≠ 1000000000 ∧ c e.2.1 + e.2.2 < c e.1 then c e.2.1 + e.2.2 else c v
def rdL : List Ed → (Nat → Nat) → Nat → Nat
  | [], c => c
  | e :: L, c => rdL L (rx e c)
def rr (E : List Ed) (c : Nat → Nat) : Nat → Nat → Nat
  | 0 => c
  | r + 1 => rdL E (rr E c r)
theorem rdL_app (L2 : List Ed) : ∀ (L1 : List Ed) (c : Nat → Nat), rdL (L1 ++ L2) c = rdL L2 (rdL L1 c)
  | [], _ => rfl
  | e :: L1, c => rdL_app L2 L1 (rx e c)
theorem rx_le (e : Ed) (c : Nat → Nat) (v : Nat) : rx e c v ≤ c v := by
  unfold rx
  split
  · next h =>
    rw [h.1]
    omega
  · exact Nat.le_refl _
theorem rdL_le : ∀ (L : List Ed) (c : Nat → Nat) (v : Nat), rdL L c v ≤ c v
  | [], _, _ => Nat.le_refl _
  | e :: L, c, v => Nat.le_trans (rdL_le L (rx e c) v) (rx_le e c v)
theorem rr_le (E : List Ed) (c : Nat → Nat) : ∀ r v, rr E c r v ≤ c v
  | 0, _ => Nat.le_refl _
  | r + 1, v => Nat.le_trans (rdL_le E _ v) (rr_le E c r v)
theorem rdL_rel : ∀ (L : List Ed) (c : Nat → Nat) (e : Ed), e ∈ L → (∀ v, c v ≤ 1000000000) → c e.2.1 ≠ 1000000000 → rdL L c e.1 ≤ c e.2.1 + e.2.2
  | [], _, e, h, _, _ => by cases h
  | q :: L, c, e, h, hc, hb => by
    show rdL L (rx q c) e.1 ≤ _
    rcases List.mem_cons.mp h with rfl | h
    · refine Nat.le_trans (rdL_le L _ _) ?_
      unfold rx
      split
      · exact Nat.le_refl _
      · next w =>
        by_cases z : c e.2.1 + e.2.2 < c e.1
        · exact absurd ⟨rfl, hb, z⟩ w
        · omega
    · have l := rx_le q c e.2.1
      have b := hc e.2.1
      have := rdL_rel L (rx q c) e h (fun v => Nat.le_trans (rx_le q c v) (hc v)) (by omega)
      omega
theorem rdL_ge {D : Nat → Nat} : ∀ (L : List Ed) (c : Nat → Nat), (∀ e, e ∈ L → D e.2.1 ≠ 1000000000 → D e.1 ≤ D e.2.1 + e.2.2) → (∀ v, D v ≤ c v) → (∀ v, c v ≤ 1000000000) → ∀ v, D v ≤ rdL L c v
  | [], c, _, h, _, v => h v
  | e :: L, c, hf, h, hc, v => by
    refine rdL_ge L (rx e c) (fun q hq => hf q (List.mem_cons_of_mem _ hq)) (fun u => ?_) (fun u => Nat.le_trans (rx_le e c u) (hc u)) v
    unfold rx
    split
    · next w =>
      have h1 := h e.2.1
      have h2 := hc e.2.1
      have h3 := hf e List.mem_cons_self (by omega)
      rw [w.1]
      omega
    · exact h u
def Ti (E : List Ed) (t : Nat) (c : Nat → Nat) : Prop := ∀ v, c v ≠ 1000000000 → v = t ∨ ∃ e ∈ E, e.1 = v ∧ c e.2.1 ≠ 1000000000 ∧ c e.2.1 + e.2.2 ≤ c v
theorem Ti_rx {E : List Ed} {t : Nat} {c : Nat → Nat} {e : Ed} (he : e ∈ E) (hn : e.1 ≠ e.2.1) (hc : ∀ v, c v ≤ 1000000000) (h : Ti E t c) : Ti E t (rx e c) := by
  intro v hv
  by_cases w : v = e.1 ∧ c e.2.1 ≠ 1000000000 ∧ c e.2.1 + e.2.2 < c e.1
  · have e1 : rx e c v = c e.2.1 + e.2.2 := if_pos w
    have e2 : rx e c e.2.1 = c e.2.1 := if_neg (fun z => hn z.1.symm)
    refine Or.inr ⟨e, he, w.1.symm, ?_, ?_⟩
    · rw [e2]; exact w.2.1
    · rw [e1, e2]; exact Nat.le_refl _
  · have e1 : rx e c v = c v := if_neg w
    rw [e1] at hv ⊢
    rcases h v hv with z | ⟨q, q1, q2, q3, q4⟩
    · exact Or.inl z
    · have l := rx_le e c q.2.1
      have b := hc q.2.1
      exact Or.inr ⟨q, q1, q2, by omega, by omega⟩
theorem Ti_rdL {E : List Ed} {t : Nat} : ∀ (L : List Ed) (c : Nat → Nat), (∀ e, e ∈ L → e ∈ E ∧ e.1 ≠ e.2.1) → (∀ v, c v ≤ 1000000000) → Ti E t c → Ti E t (rdL L c)
  | [], _, _, _, h => h
  | e :: L, c, hL, hc, h => Ti_rdL L (rx e c) (fun q hq => hL q (List.mem_cons_of_mem _ hq)) (fun v => Nat.le_trans (rx_le e c v) (hc v)) (Ti_rx (hL e List.mem_cons_self).1 (hL e List.mem_cons_self).2 hc h)
def Bd (m : Nat) (c : Nat → Nat) : Prop := ∀ v, c v = 1000000000 ∨ c v ≤ m * 1000000
theorem Bd_rx {m : Nat} {c : Nat → Nat} {e : Ed} (hw : e.2.2 ≤ 1000000) (h : Bd m c) : Bd (m + 1) (rx e c) := by
  intro v
  have hm : (m + 1) * 1000000 = m * 1000000 + 1000000 := Nat.succ_mul m 1000000
  rw [hm]
  by_cases w : v = e.1 ∧ c e.2.1 ≠ 1000000000 ∧ c e.2.1 + e.2.2 < c e.1
  · have e1 : rx e c v = c e.2.1 + e.2.2 := if_pos w
    rw [e1]
    rcases h e.2.1 with z | z
    · exact absurd z w.2.1
    · exact Or.inr (Nat.add_le_add z hw)
  · have e1 : rx e c v = c v := if_neg w
    rw [e1]
    rcases h v with z | z
    · exact Or.inl z
    · exact Or.inr (Nat.le_trans z (Nat.le_add_right _ _))
theorem Bd_rdL : ∀ (L : List Ed) (m : Nat) (c : Nat → Nat), (∀ e, e ∈ L → e.2.2 ≤ 1000000) → Bd m c → Bd (m + L.length) (rdL L c)
  | [], m, c, _, h => h
  | e :: L, m, c, hL, h => by
    have := Bd_rdL L (m + 1) (rx e c) (fun q hq => hL q (List.mem_cons_of_mem _ hq)) (Bd_rx (hL e List.mem_cons_self) h)
    rw [show m + (e :: L).length = m + 1 + L.length by rw [List.length_cons]; omega]
    exact this
theorem Bd_rr {E : List Ed} {c : Nat → Nat} (hE : ∀ e, e ∈ E → e.2.2 ≤ 1000000) (h : Bd 0 c) : ∀ r, Bd (r * E.length) (rr E c r)
  | 0 => by rw [Nat.zero_mul]; exact h
  | r + 1 => by
    rw [Nat.succ_mul]
    exact Bd_rdL E _ _ hE (Bd_rr hE h r)
def c0 (t : Nat) : Nat → Nat := fun v => if v = t then 0 else 1000000000
theorem c0_le (t v : Nat) : c0 t v ≤ 1000000000 := by
  unfold c0
  split <;> omega
theorem c0_Bd (t : Nat) : Bd 0 (c0 t) := by
  intro v
  by_cases h : v = t
  · have e : c0 t v = 0 := if_pos h
    rw [e]
    exact Or.inr (Nat.zero_le _)
  · exact Or.inl (if_neg h)
theorem c0_Ti (E : List Ed) (t : Nat) : Ti E t (c0 t) := by
  intro v hv
  by_cases h : v = t
  · exact Or.inl h
  · exact absurd (if_neg h) hv
theorem rr_top (E : List Ed) (t r v : Nat) : rr E (c0 t) r v ≤ 1000000000 := Nat.le_trans (rr_le E _ r v) (c0_le t v)
def OkE (E : List Ed) : Prop := ∀ e, e ∈ E → e.1 < 7 ∧ e.2.1 < 7 ∧ e.1 ≠ e.2.1 ∧ 1 ≤ e.2.2 ∧ e.2.2 ≤ 1000000
theorem rr_Ti {E : List Ed} (hE : OkE E) (t : Nat) : ∀ r, Ti E t (rr E (c0 t) r)
  | 0 => c0_Ti E t
  | r + 1 => Ti_rdL E _ (fun e he => ⟨he, (hE e he).2.2.1⟩) (fun v => rr_top E t r v) (rr_Ti hE t r)
theorem sumN_mono {f g : Nat → Nat} : ∀ n, (∀ k, k < n → f k ≤ g k) → sumN f n ≤ sumN g n
  | 0, _ => Nat.le_refl _
  | n + 1, h => by
    have h1 := sumN_mono n (fun k hk => h k (by omega))
    have h2 := h n (by omega)
    show sumN f n + f n ≤ sumN g n + g n
    omega
theorem sumN_strict {f g : Nat → Nat} : ∀ n, (∀ k, k < n → f k ≤ g k) → (∃ k, k < n ∧ f k < g k) → sumN f n < sumN g n
  | 0, _, ⟨k, h, _⟩ => by omega
  | n + 1, h, ⟨k, hk, hl⟩ => by
    have h2 := h n (by omega)
    show sumN f n + f n < sumN g n + g n
    by_cases e : k = n
    · subst e
      have := sumN_mono k (fun j hj => h j (by omega))
      omega
    · have := sumN_strict n (fun j hj => h j (by omega)) ⟨k, by omega, hl⟩
      omega
theorem conv {E : List Ed} (hE : OkE E) {t : Nat} (ht : t < 7) : ∀ v, v < 7 → rdL E (rr E (c0 t) 6) v = rr E (c0 t) 6 v := by
  -- where it rests at last
  obtain ⟨r0, hr0⟩ : ∃ r0, ∀ v, v < 7 → rdL E (rr E (c0 t) r0) v = rr E (c0 t) r0 v := by
    obtain ⟨s, ⟨r0, h1⟩, h2⟩ := pk_least (fun s => ∃ r, sumN (rr E (c0 t) r) 7 = s) ⟨_, 0, rfl⟩
    refine ⟨r0, fun v hv => ?_⟩
    by_cases e : rdL E (rr E (c0 t) r0) v = rr E (c0 t) r0 v
    · exact e
    · have l := rdL_le E (rr E (c0 t) r0) v
      have := sumN_strict (f := rdL E (rr E (c0 t) r0)) (g := rr E (c0 t) r0) 7 (fun k _ => rdL_le E _ k) ⟨v, hv, by omega⟩
      exact absurd ⟨r0 + 1, rfl⟩ (h2 (sumN (rr E (c0 t) (r0 + 1)) 7) (by rw [← h1]; exact this))
  have hT := rr_Ti hE t r0
  have hD0 : ∀ v, rr E (c0 t) r0 v ≤ c0 t v := rr_le E _ r0
  have hDt := fun v => rr_top E t r0 v
  have feas : ∀ e, e ∈ E → rr E (c0 t) r0 e.2.1 ≠ 1000000000 → rr E (c0 t) r0 e.1 ≤ rr E (c0 t) r0 e.2.1 + e.2.2 := by
    intro e he hb
    have := rdL_rel E (rr E (c0 t) r0) e he hDt hb
    rw [hr0 e.1 (hE e he).1] at this
    exact this
  generalize rr E (c0 t) r0 = D at *
  have low : ∀ r v, D v ≤ rr E (c0 t) r v := by
    intro r
    induction r with
    | zero => exact hD0
    | succ r ih => exact rdL_ge E _ feas ih (fun v => rr_top E t r v)
  have key : ∀ r, (∀ v, v < 7 → rr E (c0 t) r v = D v) ∨ r + 1 ≤ sumN (fun v => if rr E (c0 t) r v = D v then 1 else 0) 7 := by
    intro r
    induction r with
    | zero =>
      refine Or.inr ?_
      have e : rr E (c0 t) 0 t = D t := by
        have h1 : rr E (c0 t) 0 t = 0 := if_pos rfl
        have := low 0 t
        omega
      have := sumN_strict (f := fun _ => 0) (g := fun v => if rr E (c0 t) 0 v = D v then 1 else 0) 7 (fun k _ => Nat.zero_le _) ⟨t, ht, by show 0 < if rr E (c0 t) 0 t = D t then 1 else 0; rw [if_pos e]; omega⟩
      omega
    | succ r ih =>
      have nx : ∀ v, rr E (c0 t) (r + 1) v ≤ rr E (c0 t) r v := fun v => rdL_le E _ v
      by_cases all : ∀ v, v < 7 → rr E (c0 t) r v = D v
      · refine Or.inl (fun v hv => ?_)
        have h1 := low (r + 1) v
        have h2 := nx v
        rw [all v hv] at h2
        omega
      · refine Or.inr ?_
        have hN : r + 1 ≤ sumN (fun v => if rr E (c0 t) r v = D v then 1 else 0) 7 := by
          rcases ih with z | z
          · exact absurd z all
          · exact z
        have ex : ∃ v, v < 7 ∧ rr E (c0 t) r v ≠ D v := Classical.byContradiction fun q => all (fun v hv => Classical.byContradiction fun w => q ⟨v, hv, w⟩)
        obtain ⟨v0, hv0, hn0⟩ := ex
        obtain ⟨d, ⟨v, hv, hn, hd⟩, hmin⟩ := pk_least (fun d => ∃ v, v < 7 ∧ rr E (c0 t) r v ≠ D v ∧ D v = d) ⟨_, v0, hv0, hn0, rfl⟩
        have l1 := low r v
        have l2 := rr_top E t r v
        have hx : D v ≠ 1000000000 := by omega
        have hnew : rr E (c0 t) (r + 1) v = D v := by
          rcases hT v hx with z | ⟨e, e1, e2, e3, e4⟩
          · exfalso
            have q1 : c0 t t = 0 := if_pos rfl
            have q2 := rr_le E (c0 t) r t
            rw [z] at hn l1
            omega
          · have hw := hE e e1
            have hu : rr E (c0 t) r e.2.1 = D e.2.1 := Classical.byContradiction fun q => hmin (D e.2.1) (by omega) ⟨e.2.1, hw.2.1, q, rfl⟩
            have := rdL_rel E (rr E (c0 t) r) e e1 (fun v => rr_top E t r v) (by omega)
            rw [e2, hu] at this
            have := low (r + 1) v
            show rdL E (rr E (c0 t) r) v = D v
            have hh : rr E (c0 t) (r + 1) v = rdL E (rr E (c0 t) r) v := rfl
            omega
        have := sumN_strict (f := fun v => if rr E (c0 t) r v = D v then 1 else 0) (g := fun v => if rr E (c0 t) (r + 1) v = D v then 1 else 0) 7 (fun k _ => by
          show (if rr E (c0 t) r k = D k then 1 else 0) ≤ if rr E (c0 t) (r + 1) k = D k then 1 else 0
          by_cases q : rr E (c0 t) r k = D k
          · have h1 := low (r + 1) k
            have h2 := nx k
            rw [if_pos q, if_pos (by omega)]
            exact Nat.le_refl _
          · rw [if_neg q]
            exact Nat.zero_le _) ⟨v, hv, by
          show (if rr E (c0 t) r v = D v then 1 else 0) < if rr E (c0 t) (r + 1) v = D v then 1 else 0
          rw [if_neg hn, if_pos hnew]
          omega⟩
        omega
  have all6 : ∀ v, v < 7 → rr E (c0 t) 6 v = D v := by
    rcases key 6 with z | z
    · exact z
    · intro v hv
      by_cases q : rr E (c0 t) 6 v = D v
      · exact q
      · exfalso
        have := sumN_strict (f := fun v => if rr E (c0 t) 6 v = D v then 1 else 0) (g := fun _ => 1) 7 (fun k _ => by
          show (if rr E (c0 t) 6 k = D k then 1 else 0) ≤ 1
          split <;> omega) ⟨v, hv, by
          show (if rr E (c0 t) 6 v = D v then 1 else 0) < 1
          rw [if_neg q]
          omega⟩
        have e7 : sumN (fun _ => 1) 7 = 7 := rfl
        omega
  intro v hv
  have h1 := low 7 v
  have h2 := rdL_le E (rr E (c0 t) 6) v
  have h3 := all6 v hv
  have h4 : rr E (c0 t) 7 v = rdL E (rr E (c0 t) 6) v := rfl
  omega
/-- what can be reached lies in every set that is closed -/
theorem rdL_min {T : Nat → Prop} : ∀ (L : List Ed) (c : Nat → Nat), (∀ e, e ∈ L → T e.2.1 → T e.1) → (∀ v, c v ≠ 1000000000 → T v) → ∀ v, rdL L c v ≠ 1000000000 → T v
  | [], _, _, h, v, hv => h v hv
  | e :: L, c, hL, h, v, hv => by
    refine rdL_min L (rx e c) (fun q hq => hL q (List.mem_cons_of_mem _ hq)) (fun u hu => ?_) v hv
    by_cases w : u = e.1 ∧ c e.2.1 ≠ 1000000000 ∧ c e.2.1 + e.2.2 < c e.1
    · rw [w.1]
      exact hL e List.mem_cons_self (h _ w.2.1)
    · have e1 : rx e c u = c u := if_neg w
      rw [e1] at hu
      exact h u hu
theorem rr_min {T : Nat → Prop} {E : List Ed} {t : Nat} (hE : ∀ e, e ∈ E → T e.2.1 → T e.1) (ht : T t) : ∀ r v, rr E (c0 t) r v ≠ 1000000000 → T v
  | 0, v, hv => by
    by_cases e : v = t
    · rw [e]; exact ht
    · exact absurd (if_neg e) hv
  | r + 1, v, hv => rdL_min E _ hE (rr_min hE ht r) v hv
theorem rr_closed {E : List Ed} (hE : OkE E) (hl : E.length ≤ 14) {t : Nat} (ht : t < 7) (e : Ed) (he : e ∈ E) (hb : rr E (c0 t) 6 e.2.1 ≠ 1000000000) : rr E (c0 t) 6 e.1 ≠ 1000000000 := by
  have h1 := rdL_rel E (rr E (c0 t) 6) e he (fun v => rr_top E t 6 v) hb
  rw [conv hE ht e.1 (hE e he).1] at h1
  have h2 := Bd_rr (fun e he => (hE e he).2.2.2.2) (c0_Bd t) 6 e.2.1
  have h3 := (hE e he).2.2.2.2
  rcases h2 with z | z
  · exact absurd z hb
  · have : 6 * E.length * 1000000 ≤ 6 * 14 * 1000000 := Nat.mul_le_mul_right _ (Nat.mul_le_mul_left _ hl)
    omega
theorem rr_sym {E : List Ed} (hE : OkE E) (hl : E.length ≤ 14) (hs : ∀ a b w, (a, b, w) ∈ E → (b, a, w) ∈ E) {t u : Nat} (ht : t < 7) (hu : u < 7) (h : rr E (c0 t) 6 u ≠ 1000000000) : rr E (c0 u) 6 t ≠ 1000000000 := by
  intro hn
  have h0 : rr E (c0 u) 6 u ≤ 0 := by
    have := rr_le E (c0 u) 6 u
    have e : c0 u u = 0 := if_pos rfl
    omega
  have := rr_min (T := fun v => rr E (c0 u) 6 v = 1000000000) (E := E) (t := t) (fun e he hb => Classical.byContradiction fun q => by
    obtain ⟨a, b, w⟩ := e
    exact rr_closed hE hl hu (b, a, w) (hs a b w he) q hb) hn 6 u h
  omega
/-! the stairs as ways -/
def wtf (pl f : Nat → Nat) (k : Nat) : Nat := f k * 1000 + pl (20 + k)
def edg (pl f : Nat → Nat) (X : Int32) : Nat → List Ed
  | 0 => []
  | k + 1 => edg pl f X k ++ if nI k = X then [] else [(pl (6 + k), pl (13 + k), wtf pl f k), (pl (13 + k), pl (6 + k), wtf pl f k)]
theorem edg_mem {pl f : Nat → Nat} {X : Int32} {e : Ed} : ∀ n, e ∈ edg pl f X n → ∃ k, k < n ∧ (e = (pl (6 + k), pl (13 + k), wtf pl f k) ∨ e = (pl (13 + k), pl (6 + k), wtf pl f k))
  | 0, h => by cases h
  | k + 1, h => by
    rcases List.mem_append.mp h with h | h
    · obtain ⟨j, h1, h2⟩ := edg_mem k h
      exact ⟨j, by omega, h2⟩
    · refine ⟨k, by omega, ?_⟩
      by_cases q : nI k = X
      · rw [if_pos q] at h; cases h
      · rw [if_neg q] at h
        rcases List.mem_cons.mp h with h | h
        · exact Or.inl h
        · exact Or.inr (by simpa using h)
theorem edg_ok {pl f : Nat → Nat} {X : Int32} (hO : PlOk pl) (hf : ∀ s, s < 7 → f s ≤ 999) : OkE (edg pl f X (pl 0)) := by
  intro e he
  obtain ⟨k, hk, h⟩ := edg_mem _ he
  have b := hO.2.2.2.2.1 k hk
  have h7 := hO.1
  have fk := hf k (by omega)
  rcases h with rfl | rfl
  · exact ⟨by show pl (6 + k) < 7; omega, by show pl (13 + k) < 7; omega, b.2.2.1, by show 1 ≤ wtf pl f k; unfold wtf; omega, by show wtf pl f k ≤ 1000000; unfold wtf; omega⟩
  · exact ⟨by show pl (13 + k) < 7; omega, by show pl (6 + k) < 7; omega, fun z => b.2.2.1 z.symm, by show 1 ≤ wtf pl f k; unfold wtf; omega, by show wtf pl f k ≤ 1000000; unfold wtf; omega⟩
theorem edg_len {pl f : Nat → Nat} {X : Int32} : ∀ n, (edg pl f X n).length ≤ 2 * n
  | 0 => Nat.le_refl _
  | n + 1 => by
    have := edg_len (pl := pl) (f := f) (X := X) n
    unfold edg
    rw [List.length_append]
    split
    · rw [List.length_nil]; omega
    · simp only [List.length_cons, List.length_nil]; omega
theorem edg_sym {pl f : Nat → Nat} {X : Int32} {a b w : Nat} : ∀ n, (a, b, w) ∈ edg pl f X n → (b, a, w) ∈ edg pl f X n
  | 0, h => by cases h
  | n + 1, h => by
    rcases List.mem_append.mp h with h | h
    · exact List.mem_append.mpr (Or.inl (edg_sym n h))
    · refine List.mem_append.mpr (Or.inr ?_)
      by_cases q : nI n = X
      · rw [if_pos q] at h; cases h
      · rw [if_neg q] at h ⊢
        rcases List.mem_cons.mp h with h | h
        · cases h
          exact List.mem_cons_of_mem _ List.mem_cons_self
        · have : (a, b, w) = (pl (13 + n), pl (6 + n), wtf pl f n) := by simpa using h
          cases this
          exact List.mem_cons_self

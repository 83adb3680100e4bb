/-! ways: the class's side -/
def cA (c : Nat → Nat) (a : Nat → Int32) : Nat → Int32 := fun v => if v < 7 then nI (c v) else a v
theorem cA_lt {c : Nat → Nat} {a : Nat → Int32} {v : Nat} (h : v < 7) : cA c a v = nI (c v) := if_pos h
theorem rx_same {e : Ed} {c : Nat → Nat} (h : ¬ (c e.2.1 ≠ 1000000000 ∧ c e.2.1 + e.2.2 < c e.1)) : rx e c = c := by
  funext v
  exact if_neg (fun z => h z.2)
theorem rx_upd {e : Ed} {c : Nat → Nat} (h : c e.2.1 ≠ 1000000000 ∧ c e.2.1 + e.2.2 < c e.1) (v : Nat) : rx e c v = if v = e.1 then c e.2.1 + e.2.2 else c v := by
  unfold rx
  by_cases q : v = e.1
  · rw [if_pos q, if_pos ⟨q, h⟩]
  · rw [if_neg q, if_neg (fun z => q z.1)]
theorem goBy_ok {μ : Mem} {a : Nat → Int32} {c : Nat → Nat} {x y w : Nat} (hx : x < 7) (hy : y < 7) (hw : w ≤ 1000000) (hc : ∀ v, c v ≤ 1000000000) : f_X7_goBy (sA μ 144 (cA c a)) (nI x) (nI y) (nI w) = some (sA μ 144 (cA (rx (x, y, w) c) a)) := by
  have b1 := hc x
  have b2 := hc y
  unfold f_X7_goBy
  rw [ldA_nI hy (by omega), ga_at, cA_lt hy, Option.bind_some]
  by_cases e1 : c y = 1000000000
  · rw [if_pos (show nI (c y) = 1000000000 by rw [e1]; rfl), rx_same (e := (x, y, w)) (fun z => z.1 e1)]
  · rw [if_neg (show ¬ nI (c y) = 1000000000 from fun q => e1 ((nI_eq (b := 1000000000) (by omega) (by omega)).mp q)), Option.bind_some, ldA_nI hx (by omega), ga_at, cA_lt hx, Option.bind_some, nI_add, Option.bind_some]
    by_cases e2 : c x ≤ c y + w
    · rw [if_pos (nI_le e2 (by omega)), rx_same (e := (x, y, w)) (fun z => by have := z.2; dsimp only at this; omega)]
    · rw [if_neg (nI_ge (by omega) (by omega)), stA_nI hx (by omega), Option.bind_some, ga_at, sA_sA]
      congr 2
      funext v
      rw [upd_at]
      unfold cA
      rw [rx_upd (e := (x, y, w)) ⟨e1, by show c y + w < c x; omega⟩]
      by_cases q : v = x
      · rw [if_pos q, if_pos (by omega), if_pos q, nI_add]
      · rw [if_neg q, if_neg q]
theorem wt7_ok {m : Mem} {pl f : Nat → Nat} {q k : Nat} (hP : PlC m q pl) (h5 : ga m 5 k = nI (f k)) (hk : k < pl 0) (h7 : pl 0 ≤ 7) : f_X7_weight m q 4 (nI k) = some (nI (wtf pl f k)) := by
  unfold f_X7_weight
  rw [ldA_nI (show k < 7 by omega) (by omega), h5, Option.bind_some, ldA_nI (show k < 7 by omega) (by omega), (hP.2.2.2.2.1 k hk).2.2.1, Option.bind_some, show (1000 : Int32) = nI 1000 from rfl, pk_mul, nI_add]
  rfl
theorem wtf_le {pl f : Nat → Nat} {k : Nat} (hO : PlOk pl) (hf : ∀ s, s < 7 → f s ≤ 999) (hk : k < pl 0) : wtf pl f k ≤ 1000000 := by
  have h1 := (hO.2.2.2.2.1 k hk).2.2.2.2.1
  have h2 := hf k (by have := hO.1; omega)
  unfold wtf
  omega
theorem rdL_top {L : List Ed} {c : Nat → Nat} (hc : ∀ v, c v ≤ 1000000000) (v : Nat) : rdL L c v ≤ 1000000000 := Nat.le_trans (rdL_le L c v) (hc v)
theorem meas29 {μ : Mem} {a : Nat → Int32} {c pl f : Nat → Nat} {q : Nat} (X r : Int32) (hq : isPl q = true) (hP : PlC μ q pl) (hO : PlOk pl) (hm : MoC μ (pl 0) 4 f) (hf : ∀ s, s < 7 → f s ≤ 999) (hc : ∀ v, c v ≤ 1000000000) : iter gFU (f_X7_measure_b29 q 4 X r) (0, sA μ 144 (cA c a)) = some (sA μ 144 (cA (rdL (edg pl f X (pl 0)) c) a)) := by
  have hqc := isPl_cases hq
  have h7 := hO.1
  refine iter_forU (fun k => (nI k, sA μ 144 (cA (rdL (edg pl f X k) c) a))) (pl 0) _ rfl (by omega) ?_ ?_
  · intro k hk
    have b := hO.2.2.2.2.1 k hk
    have hw := wtf_le hO hf hk
    have hP' : ∀ c2, PlC (sA μ 144 (cA c2 a)) q pl := fun c2 => hP.fr (S := fun k => k = 144) (Fr.sA rfl) (fun k h1 h2 h3 => by omega)
    have h5 : ∀ c2, ga (sA μ 144 (cA c2 a)) 5 k = nI (f k) := fun c2 => by rw [ga_ne (by omega)]; exact hm.1 k hk
    have hT := fun v => rdL_top (L := edg pl f X k) hc v
    unfold f_X7_measure_b29
    dsimp only
    rw [gi_sA, hP.1, if_neg (nI_ge hk (by omega)), nI_1]
    show _ = some (Sum.inl (nI (k + 1), sA μ 144 (cA (rdL (edg pl f X k ++ if nI k = X then [] else [(pl (6 + k), pl (13 + k), wtf pl f k), (pl (13 + k), pl (6 + k), wtf pl f k)]) c) a)))
    by_cases e : nI k = X
    · rw [if_pos e, if_pos e, List.append_nil]
    · rw [if_neg e, if_neg e, rdL_app]
      generalize rdL (edg pl f X k) c = C at *
      rw [ldA_nI (show k < 7 by omega) (by omega), ((hP' C).2.2.2.2.1 k hk).1, Option.bind_some, ldA_nI (show k < 7 by omega) (by omega), ((hP' C).2.2.2.2.1 k hk).2.1, Option.bind_some, wt7_ok (hP' C) (h5 C) hk h7, Option.bind_some, goBy_ok (by omega) (by omega) hw hT, Option.bind_some, ldA_nI (show k < 7 by omega) (by omega), ((hP' _).2.2.2.2.1 k hk).2.1, Option.bind_some, ldA_nI (show k < 7 by omega) (by omega), ((hP' _).2.2.2.2.1 k hk).1, Option.bind_some, wt7_ok (hP' _) (h5 _) hk h7, Option.bind_some, goBy_ok (by omega) (by omega) hw (fun v => Nat.le_trans (rx_le _ C v) (hT v)), Option.bind_some]
      rfl
  · unfold f_X7_measure_b29
    dsimp only
    rw [gi_sA, hP.1, if_pos (nI_le (Nat.le_refl _) (by omega))]
theorem measure_ok {μ : Mem} {pl f : Nat → Nat} {q t : Nat} (X : Int32) (hq : isPl q = true) (hP : PlC μ q pl) (hO : PlOk pl) (hm : MoC μ (pl 0) 4 f) (hf : ∀ s, s < 7 → f s ≤ 999) (ht : t < 7) : f_X7_measure μ q 4 (nI t) X = some (sA μ 144 (cA (rr (edg pl f X (pl 0)) (c0 t) 6) (ga μ 144))) := by
  unfold f_X7_measure
  rw [fill_ok (by omega), Option.bind_some, stA_nI ht (by omega), Option.bind_some, ga_at, sA_sA]
  have e0 : upd (fun k => if k < 7 then 1000000000 else ga μ 144 k) t 0 = cA (c0 t) (ga μ 144) := by
    funext v
    rw [upd_at]
    unfold cA c0
    by_cases e : v = t
    · rw [if_pos e, if_pos (by omega), if_pos e]
      rfl
    · rw [if_neg e, if_neg e]
      rfl
  rw [e0]
  have h : iter gFU (f_X7_measure_b19 q 4 X) (1, sA μ 144 (cA (c0 t) (ga μ 144))) = some (sA μ 144 (cA (rr (edg pl f X (pl 0)) (c0 t) 6) (ga μ 144))) := by
    refine iter_forU (fun r => (nI (r + 1), sA μ 144 (cA (rr (edg pl f X (pl 0)) (c0 t) r) (ga μ 144)))) 6 _ rfl (by omega) ?_ ?_
    · intro r hr
      unfold f_X7_measure_b19
      dsimp only
      rw [if_neg (show ¬ (7 : Int32) ≤ nI (r + 1) from nI_ge (b := 7) (by omega) (by omega)), meas29 _ _ hq hP hO hm hf (fun v => rr_top _ t r v), Option.bind_some, nI_1]
      rfl
    · unfold f_X7_measure_b19
      dsimp only
      rw [if_pos (by decide)]
  rw [h, Option.bind_some]
/-! the reference's side -/
def eN (x : Nat) : Int32 := if x = 1000000000 then -1 else nI x
def lA (c : Nat → Nat) (a : Nat → Int32) : Nat → Int32 := fun v => if v < 7 then eN (c v) else a v
theorem lA_lt {c : Nat → Nat} {a : Nat → Int32} {v : Nat} (h : v < 7) : lA c a v = eN (c v) := if_pos h
theorem eN_ne {x : Nat} (h : x ≠ 1000000000) : eN x = nI x := if_neg h
theorem upd_id (f : Nat → Int32) (i : Nat) : upd f i (f i) = f := by
  funext v
  rw [upd_at]
  by_cases e : v = i
  · rw [if_pos e, e]
  · rw [if_neg e]
theorem wt9_ok {m : Mem} {pl f : Nat → Nat} {k : Nat} (hP : PlM m pl) (hM : ∀ k, k < 65 → ga m 190 k = nI (f k)) (hk : k < 7) : f_X9_weight m (nI k) = some (nI (wtf pl f k)) := by
  unfold f_X9_weight
  rw [ldA_nI (by omega) (by omega), hM k (by omega), Option.bind_some, show (20 : Int32) = nI 20 from rfl, nI_add, ldA_nI (by omega) (by omega), hP (20 + k) (by omega), Option.bind_some, show (1000 : Int32) = nI 1000 from rfl, pk_mul, nI_add, Nat.mul_comm]
  rfl
theorem lay113 {μ : Mem} {a : Nat → Int32} {c pl f : Nat → Nat} {k x y : Nat} (p z : Int32) (hP : PlM μ pl) (hM : ∀ k, k < 65 → ga μ 190 k = nI (f k)) (hk : k < 7) (hx : x < 7) (hy : y < 7) (hw : wtf pl f k ≤ 1000000) (hc : ∀ v, c v ≤ 1000000000) (hb : c y = 1000000000 ∨ c y ≤ 97 * 1000000) : f_X9_lays_j113 (sA μ 195 (lA c a)) p (nI k) z (nI x) (nI y) = some (.inl (z + 1, sA μ 195 (lA (rx (x, y, wtf pl f k) c) a))) := by
  have b1 := hc x
  unfold f_X9_lays_j113
  rw [ldA_nI hy (by omega), ga_at, lA_lt hy, Option.bind_some]
  rcases hb with hb | hb
  · rw [hb, if_neg (show ¬ (0 : Int32) ≤ eN 1000000000 by decide)]
    unfold f_X9_lays_j142
    rw [if_pos (by decide), ldA_nI hx (by omega), Option.bind_some, stA_nI hx (by omega), Option.bind_some, upd_id, sA_sA, ga_at, rx_same (e := (x, y, wtf pl f k)) (fun z => z.1 hb)]
  · have e1 : c y ≠ 1000000000 := by omega
    rw [eN_ne e1, if_pos (nI_pos' (by omega)), Option.bind_some, wt9_ok (m := sA μ 195 (lA c a)) (pl := pl) (f := f) (fun k hk => by rw [ga_ne (by omega)]; exact hP k hk) (fun k hk => by rw [ga_ne (by omega)]; exact hM k hk) hk, Option.bind_some, nI_add]
    unfold f_X9_lays_j142
    have up : c y + wtf pl f k < c x → stA (sA μ 195 (lA c a)) 195 7 (nI x) (nI (c y + wtf pl f k)) = some (sA μ 195 (lA (rx (x, y, wtf pl f k) c) a)) := by
      intro hl
      rw [stA_nI hx (by omega), ga_at, sA_sA]
      congr 2
      funext v
      rw [upd_at]
      unfold lA
      rw [rx_upd (e := (x, y, wtf pl f k)) ⟨e1, hl⟩]
      by_cases q : v = x
      · rw [if_pos q, if_pos (by omega), if_pos q]
        exact (eN_ne (by show c y + wtf pl f k ≠ 1000000000; omega)).symm
      · rw [if_neg q, if_neg q]
    rw [if_neg (nI_pos (by omega)), ldA_nI hx (by omega), ga_at, lA_lt hx, Option.bind_some]
    by_cases e2 : c x = 1000000000
    · rw [e2, if_pos (show eN 1000000000 < 0 by decide), up (by omega), Option.bind_some]
    · rw [eN_ne e2, if_neg (nI_pos (by omega)), Option.bind_some]
      by_cases e3 : c x ≤ c y + wtf pl f k
      · rw [if_pos (nI_le e3 (by omega)), Option.bind_some, show nI (c x) = lA c a x by rw [lA_lt hx, eN_ne e2], stA_nI hx (by omega), Option.bind_some, ga_at, upd_id, sA_sA, rx_same (e := (x, y, wtf pl f k)) (fun z => by have := z.2; dsimp only at this; omega)]
      · rw [if_neg (nI_ge (by omega) (by omega)), up (by omega), Option.bind_some]
theorem Bd_up {m n : Nat} {c : Nat → Nat} (h : Bd m c) (hn : m ≤ n) : Bd n c := by
  intro v
  rcases h v with z | z
  · exact Or.inl z
  · exact Or.inr (Nat.le_trans z (Nat.mul_le_mul_right _ hn))
theorem lay53 {μ : Mem} {a : Nat → Int32} {c pl f : Nat → Nat} {k : Nat} (p : Int32) (hP : PlM μ pl) (hM : ∀ k, k < 65 → ga μ 190 k = nI (f k)) (hk : k < 7) (hA : pl (6 + k) ≤ 6) (hB : pl (13 + k) ≤ 6) (hw : wtf pl f k ≤ 1000000) (hc : ∀ v, c v ≤ 1000000000) (hb : Bd 96 c) : iter gFU (f_X9_lays_b53 p (nI k)) (0, sA μ 195 (lA c a)) = some (sA μ 195 (lA (rx (pl (13 + k), pl (6 + k), wtf pl f k) (rx (pl (6 + k), pl (13 + k), wtf pl f k) c)) a)) := by
  have hb2 : Bd 97 (rx (pl (6 + k), pl (13 + k), wtf pl f k) c) := Bd_rx hw hb
  have hb1 := Bd_up hb (show 96 ≤ 97 by omega)
  have ld : ∀ C j, j < 49 → ldA (sA μ 195 (lA C a)) 188 49 (nI j) = some (nI (pl j)) := fun C j hj => (ldA_nI hj (by omega)).trans (by rw [ga_ne (by omega), hP j hj])
  refine iter_forU (fun i => (nI i, sA μ 195 (lA (if i = 0 then c else if i = 1 then rx (pl (6 + k), pl (13 + k), wtf pl f k) c else rx (pl (13 + k), pl (6 + k), wtf pl f k) (rx (pl (6 + k), pl (13 + k), wtf pl f k) c)) a))) 2 _ rfl (by omega) ?_ ?_
  · intro i hi
    obtain rfl | rfl : i = 0 ∨ i = 1 := by omega
    · rw [if_pos rfl, if_neg (show ¬ 0 + 1 = 0 by omega), if_pos rfl]
      unfold f_X9_lays_b53
      dsimp only
      rw [if_neg (show ¬ (2 : Int32) ≤ nI 0 by decide), if_pos (show nI 0 = 0 from rfl), show (6 : Int32) = nI 6 from rfl, nI_add, ld _ _ (by omega), Option.bind_some]
      unfold f_X9_lays_j85
      rw [if_pos (show nI 0 = 0 from rfl), show (13 : Int32) = nI 13 from rfl, nI_add, ld _ _ (by omega), Option.bind_some, lay113 _ _ hP hM hk (by omega) (by omega) hw hc (hb1 _), nI_1]
    · rw [if_neg (show ¬ 1 = 0 by omega), if_pos rfl, if_neg (show ¬ 1 + 1 = 0 by omega), if_neg (show ¬ 1 + 1 = 1 by omega)]
      unfold f_X9_lays_b53
      dsimp only
      rw [if_neg (show ¬ (2 : Int32) ≤ nI 1 by decide), if_neg (show ¬ nI 1 = 0 by decide), show (13 : Int32) = nI 13 from rfl, nI_add, ld _ _ (by omega), Option.bind_some]
      unfold f_X9_lays_j85
      rw [if_neg (show ¬ nI 1 = 0 by decide), show (6 : Int32) = nI 6 from rfl, nI_add, ld _ _ (by omega), Option.bind_some, lay113 _ _ hP hM hk (by omega) (by omega) hw (fun v => Nat.le_trans (rx_le _ c v) (hc v)) (hb2 _), nI_1]
  · unfold f_X9_lays_b53
    dsimp only
    rw [if_pos (by decide), if_neg (show ¬ 2 = 0 by omega), if_neg (show ¬ 2 = 1 by omega)]
theorem n9 : ∀ k, k < 8 → ¬ nI k = -9 := by decide
theorem n1 : ∀ k, k < 8 → ¬ nI k = -1 := by decide
theorem edg_none {pl f : Nat → Nat} {X : Int32} : ∀ n, n ≤ 8 → (∀ k, k < 8 → ¬ nI k = X) → edg pl f X n = edg pl f (-9) n
  | 0, _, _ => rfl
  | n + 1, hn, h => by
    unfold edg
    rw [edg_none n (by omega) h, if_neg (h n (by omega)), if_neg (n9 n (by omega))]
theorem lay40 {μ : Mem} {a : Nat → Int32} {c pl f : Nat → Nat} {m : Nat} (p : Int32) (hP : PlM μ pl) (hM : ∀ k, k < 65 → ga μ 190 k = nI (f k)) (hO : PlOk pl) (hf : ∀ s, s < 7 → f s ≤ 999) (hc : ∀ v, c v ≤ 1000000000) (hb : Bd m c) (hm : m ≤ 84) : iter gFU (f_X9_lays_b40 p) (0, sA μ 195 (lA c a)) = some (sA μ 195 (lA (rdL (edg pl f (-9) (pl 0)) c) a)) := by
  have h7 := hO.1
  have ld : ∀ C, ldA (sA μ 195 (lA C a)) 188 49 0 = some (nI (pl 0)) := fun C => (ldA_nI (i := 0) (by omega) (by omega)).trans (by rw [ga_ne (by omega), hP 0 (by omega)])
  refine iter_forU (fun k => (nI k, sA μ 195 (lA (rdL (edg pl f (-9) k) c) a))) (pl 0) _ rfl (by omega) ?_ ?_
  · intro k hk
    have b := hO.2.2.2.2.1 k hk
    have hw := wtf_le hO hf hk
    have hT := fun v => rdL_top (L := edg pl f (-9) k) hc v
    have hl := edg_len (pl := pl) (f := f) (X := -9) k
    have hB : Bd 96 (rdL (edg pl f (-9) k) c) := Bd_up (Bd_rdL (edg pl f (-9) k) m c (fun e he => by
      obtain ⟨j, hj, h⟩ := edg_mem _ he
      have hwj := wtf_le hO hf (show j < pl 0 by omega)
      rcases h with rfl | rfl <;> exact hwj) hb) (by omega)
    unfold f_X9_lays_b40
    dsimp only
    rw [ld, Option.bind_some, if_neg (nI_ge hk (by omega)), lay53 _ hP hM (by omega) b.1 b.2.1 hw hT hB, Option.bind_some, nI_1]
    show _ = some (Sum.inl (nI (k + 1), sA μ 195 (lA (rdL (edg pl f (-9) k ++ if nI k = -9 then [] else [(pl (6 + k), pl (13 + k), wtf pl f k), (pl (13 + k), pl (6 + k), wtf pl f k)]) c) a)))
    rw [if_neg (n9 k (by omega)), rdL_app]
    rfl
  · unfold f_X9_lays_b40
    dsimp only
    rw [ld, Option.bind_some, if_pos (nI_le (Nat.le_refl _) (by omega))]
theorem lays_ok {μ : Mem} {pl f : Nat → Nat} {t : Nat} (hP : PlM μ pl) (hM : ∀ k, k < 65 → ga μ 190 k = nI (f k)) (hO : PlOk pl) (hf : ∀ s, s < 7 → f s ≤ 999) (ht : t < 7) : f_X9_lays μ (nI t) = some (sA μ 195 (lA (rr (edg pl f (-9) (pl 0)) (c0 t) 6) (ga μ 195))) := by
  have h7 := hO.1
  unfold f_X9_lays
  have h2 : iter gFU (f_X9_lays_b2 (nI t)) (0, μ) = some (sA μ 195 (lA (c0 t) (ga μ 195))) := by
    refine iter_forU (fun v => (nI v, sA μ 195 (fun k => if k < v then eN (c0 t k) else ga μ 195 k))) 7 _ ?_ (by omega) ?_ ?_
    · show _ = (nI 0, sA μ 195 (ga μ 195))
      rw [sA_self]
      rfl
    · intro v hv
      unfold f_X9_lays_b2
      dsimp only
      have st : ∀ x, x = eN (c0 t v) → stA (sA μ 195 (fun k => if k < v then eN (c0 t k) else ga μ 195 k)) 195 7 (nI v) x = some (sA μ 195 (fun k => if k < v + 1 then eN (c0 t k) else ga μ 195 k)) := by
        intro x hx
        rw [stA_nI hv (by omega), ga_at, sA_sA, hx]
        congr 2
        funext k
        rw [upd_at]
        by_cases e : k = v
        · rw [if_pos e, if_pos (by omega), e]
        · rw [if_neg e]
          by_cases e2 : k < v
          · rw [if_pos e2, if_pos (by omega)]
          · rw [if_neg e2, if_neg (by omega)]
      rw [if_neg (show ¬ (7 : Int32) ≤ nI v from nI_ge (b := 7) (by omega) (by omega)), nI_1]
      by_cases e : v = t
      · rw [if_pos (by rw [e]), st 0 (by unfold c0; rw [if_pos e]; rfl), Option.bind_some]
      · rw [if_neg (fun z => e ((nI_eq (by omega) (by omega)).mp z)), st (-1) (by unfold c0; rw [if_neg e]; rfl), Option.bind_some]
    · unfold f_X9_lays_b2
      dsimp only
      rw [if_pos (by decide)]
      rfl
  have h3 : iter gFU f_X9_lays_b32 (0, sA μ 195 (lA (c0 t) (ga μ 195))) = some (sA μ 195 (lA (rr (edg pl f (-9) (pl 0)) (c0 t) 7) (ga μ 195))) := by
    refine iter_forU (fun r => (nI r, sA μ 195 (lA (rr (edg pl f (-9) (pl 0)) (c0 t) r) (ga μ 195)))) 7 _ rfl (by omega) ?_ ?_
    · intro r hr
      have hl := edg_len (pl := pl) (f := f) (X := -9) (pl 0)
      have hB := Bd_rr (E := edg pl f (-9) (pl 0)) (fun e he => (edg_ok hO hf e he).2.2.2.2) (c0_Bd t) r
      unfold f_X9_lays_b32
      dsimp only
      rw [if_neg (show ¬ (7 : Int32) ≤ nI r from nI_ge (b := 7) (by omega) (by omega)), lay40 _ hP hM hO hf (fun v => rr_top _ t r v) hB (by
        have : r * (edg pl f (-9) (pl 0)).length ≤ 6 * 14 := Nat.mul_le_mul (by omega) (by omega)
        omega), Option.bind_some, nI_1]
      rfl
    · unfold f_X9_lays_b32
      dsimp only
      rw [if_pos (by decide)]
  rw [h2, Option.bind_some, h3, Option.bind_some]
  congr 2
  funext v
  unfold lA
  by_cases e : v < 7
  · rw [if_pos e, if_pos e, show rr (edg pl f (-9) (pl 0)) (c0 t) 7 v = rr (edg pl f (-9) (pl 0)) (c0 t) 6 v from conv (edg_ok hO hf) ht v e]
  · rw [if_neg e, if_neg e]
theorem isFloor8 {μ : Mem} (a : Int32) : f_X8_isFloor μ a = some (bi (ck a 7)) := by
  unfold f_X8_isFloor
  rcases int_range a (n := 7) (by omega) with ⟨h1, h2⟩ | ⟨h1, h2, h3⟩ | ⟨j, h1, rfl, h3⟩
  · rw [if_pos h1, h2]; rfl
  · rw [if_neg h1, if_pos (show (7 : Int32) ≤ a from h2), h3]; rfl
  · rw [if_neg (nI_pos (by omega)), if_neg (show ¬ (7 : Int32) ≤ nI j from nI_ge (b := 7) h1 (by omega)), h3]; rfl
theorem isFloor9 {μ : Mem} (a : Int32) : f_X9_isFloor μ a = some (bi (ck a 7)) := by
  unfold f_X9_isFloor
  rw [in_eq (N := 7) (by omega) a 6 rfl (by decide), Option.bind_some, bz_bi]
  rfl

/-! rings: the class's side -/
def SR (k : Nat) : Prop := 165 ≤ k ∧ k < 168
def CSt (μ : Mem) (ns n : Nat) (s : (Nat → Nat) × Int32) (m : Mem) : Prop := Fr SR μ m ∧ gi m 165 2 = nI n ∧ gi m 165 3 = nI ns ∧ gi m 165 4 = s.2 ∧ ∀ k, k < 49 → ga m 166 k = nI (s.1 k)
theorem link_ok {m : Mem} {ns n i : Nat} {row : Nat → Nat} (h2 : gi m 165 2 = nI n) (hr : ∀ i, i < n → ga m 167 i = nI (row i)) (hn : n ≤ 7) (hi : i < n) : f_X5_linkAt m (nI i) = some (nI (lnk n row i)) := by
  unfold f_X5_linkAt f_X5_linkAt_j33 f_X8_bondAt
  rw [ldA_nI (show i < 7 by omega) (by omega), hr i hi, Option.bind_some, h2, nI_1, show (0 : Int32) = nI 0 from rfl, ldA_nI (show 0 < 7 by omega) (by omega), hr 0 (by omega), show (7 : Int32) = nI 7 from rfl, pk_mul]
  unfold lnk
  by_cases e : i + 1 < n
  · rw [if_neg (nI_ge e (by omega)), if_pos e, ldA_nI (show i + 1 < 7 by omega) (by omega), hr (i + 1) e, Option.bind_some, Option.bind_some, nI_add, Nat.mul_comm]
  · rw [if_pos (nI_le (by omega) (by omega)), if_neg e, Option.bind_some, Option.bind_some, nI_add, Nat.mul_comm]
theorem strike_ok {μ m : Mem} {ns n : Nat} {s : (Nat → Nat) × Int32} {row : Nat → Nat} (hS : CSt μ ns n s m) (hr : ∀ i, i < n → ga m 167 i = nI (row i)) (hR : RowOk ns n row) (hns : ns ≤ 7) (hn : n ≤ 7) (hL : ∀ k, s.1 k < 1000000000) : ∃ m2, f_X5_strikeRow m = some m2 ∧ CSt μ ns n (stk n s row) m2 ∧ ga m2 167 = ga m 167 := by
  obtain ⟨i1, i2, i3, i4, i5⟩ := hS
  unfold f_X5_strikeRow
  have l1 : iter gFU (f_X5_strikeRow_b5 m) (1000000000, 0) = some (nI (lst n row s.1)) := by
    refine iter_forU (fun i => (nI (mn9 (fun i => s.1 (lnk n row i)) i), nI i)) n _ rfl (by omega) ?_ ?_
    · intro i hi
      have b1 := mn9_bd (fun i => s.1 (lnk n row i)) i
      have b2 := hL (lnk n row i)
      have b3 := lnk_lt hR hns hi
      unfold f_X5_strikeRow_b5
      dsimp only
      rw [i2, if_neg (nI_ge hi (by omega)), link_ok (ns := ns) i2 hr hn hi, Option.bind_some, ldA_nI b3 (by omega), i5 _ b3, Option.bind_some, mn_nI (by omega) (by omega), nI_1]
      rfl
    · unfold f_X5_strikeRow_b5
      dsimp only
      rw [i2, if_pos (nI_le (Nat.le_refl _) (by omega))]
      rfl
  have l2 : iter gFU (f_X5_strikeRow_b36 (nI (lst n row s.1))) (0, m) = some (sA m 166 (fun k => if k < 49 then nI (sbf n row (lst n row s.1) s.1 n k) else ga m 166 k)) := by
    refine iter_forU (fun i => (nI i, sA m 166 (fun k => if k < 49 then nI (sbf n row (lst n row s.1) s.1 i k) else ga m 166 k))) n _ ?_ (by omega) ?_ ?_
    · have : (fun k => if k < 49 then nI (sbf n row (lst n row s.1) s.1 0 k) else ga m 166 k) = ga m 166 := by
        funext k
        by_cases e : k < 49
        · rw [if_pos e, i5 k e]
          rfl
        · rw [if_neg e]
      rw [this, sA_self]
      rfl
    · intro i hi
      have b3 := lnk_lt hR hns hi
      have b4 := mn9_le (fun i => s.1 (lnk n row i)) n i hi
      have b5 := sbf_own (l := lst n row s.1) (L := s.1) hR hns i i (Nat.le_refl _) hi
      unfold f_X5_strikeRow_b36
      dsimp only
      rw [gi_sA, i2, if_neg (nI_ge hi (by omega)), link_ok (ns := ns) (row := row) (by rw [gi_sA]; exact i2) (fun i hi => by rw [ga_ne (by omega)]; exact hr i hi) hn hi, Option.bind_some, ldA_nI b3 (by omega), ga_at, if_pos b3, Option.bind_some, pk_sub (by rw [b5]; exact b4), stA_nI b3 (by omega), Option.bind_some, ga_at, sA_sA, nI_1]
      congr 4
      funext k
      rw [upd_at]
      show _ = if k < 49 then nI (if k = lnk n row i then sbf n row (lst n row s.1) s.1 i k - lst n row s.1 else sbf n row (lst n row s.1) s.1 i k) else ga m 166 k
      by_cases e : k = lnk n row i
      · rw [if_pos e, if_pos (by omega), if_pos e, e]
      · rw [if_neg e, if_neg e]
    · unfold f_X5_strikeRow_b36
      dsimp only
      rw [gi_sA, i2, if_pos (nI_le (Nat.le_refl _) (by omega))]
  rw [l1, Option.bind_some, l2, Option.bind_some, stI_eq, Option.bind_some]
  refine ⟨_, rfl, ⟨(i1.tr (Fr.sA ⟨by omega, by omega⟩)).tr (Fr.si ⟨by omega, by omega⟩), ?_, ?_, ?_, ?_⟩, ?_⟩
  · rw [gi_si, if_neg (by omega), gi_sA]; exact i2
  · rw [gi_si, if_neg (by omega), gi_sA]; exact i3
  · rw [gi_si, if_pos ⟨rfl, rfl⟩, gi_sA, gi_sA, i4, i2, pk_mul]
    rfl
  · intro k hk
    rw [ga_si, ga_at, if_pos hk]
    rfl
  · rw [ga_si, ga_ne (by omega)]
theorem andM : ∀ M, M < 128 → ∀ t, t < 7 → (nI M &&& ((1 : Int32) <<< (nI t &&& 31)) = 0 ↔ M.testBit t = false) := by decide +kernel
theorem orM1 : ∀ M, M < 128 → ∀ t, t < 7 → nI M ||| ((1 : Int32) <<< (nI t &&& 31)) = nI (M ||| 2 ^ t) ∧ M ||| 2 ^ t < 128 := by decide +kernel
theorem goOn_ok {μ : Mem} {ns n : Nat} (hns : ns ≤ 7) (hn : n ≤ 7) : ∀ k d fuel m pre s M, d + k = n → 1 ≤ d → k < fuel → CSt μ ns n s m → (∀ i, i < d → ga m 167 i = nI (pre i)) → RowOk ns d pre → M < 128 → (∀ t, t < 7 → (M.testBit t = true ↔ ∃ i, i < d ∧ pre i = t)) → (∀ k, s.1 k < 1000000000) → ∃ m2, f_X5_goOn fuel m (nI d) (nI M) = some m2 ∧ CSt μ ns n (fo n (ext ns k d pre) s) m2 ∧ ∀ i, i < d → ga m2 167 i = nI (pre i)
  | 0, d, fuel, m, pre, s, M, hdk, hd1, hfu, hS, hr, hR, hM, hbit, hL => by
    obtain ⟨fuel, rfl⟩ : ∃ n', fuel = n' + 1 := ⟨fuel - 1, by omega⟩
    have hdn : d = n := by omega
    subst hdn
    obtain ⟨m2, e1, e2, e3⟩ := strike_ok hS hr hR hns hn hL
    refine ⟨m2, ?_, e2, fun i hi => by rw [e3]; exact hr i hi⟩
    show f_X5_goOn_s (f_X5_goOn fuel) m (nI d) (nI M) = _
    unfold f_X5_goOn_s
    rw [hS.2.1, if_neg (nI_nlt (Nat.le_refl _) (by omega)), e1, Option.bind_some]
  | k + 1, d, fuel, m, pre, s, M, hdk, hd1, hfu, hS, hr, hR, hM, hbit, hL => by
    obtain ⟨fuel, rfl⟩ : ∃ n', fuel = n' + 1 := ⟨fuel - 1, by omega⟩
    have p0 := hR.1 0 (by omega)
    have eX : ext ns (k + 1) d pre = cf (fun t => if okT pre d t then ext ns k (d + 1) (pu pre d t) else []) (ns - (pre 0 + 1)) (pre 0 + 1) := by
      have := cf_skip (fun t => if okT pre d t then ext ns k (d + 1) (pu pre d t) else []) (pre 0 + 1) 0 (ns - (pre 0 + 1)) (fun s _ h2 => by
        refine if_neg (fun q => ?_)
        rcases okT_tr.mp q with z | z
        · omega
        · omega)
      rw [show pre 0 + 1 + (ns - (pre 0 + 1)) = ns by omega, Nat.zero_add] at this
      exact this
    rw [eX]
    show ∃ m2, f_X5_goOn_s (f_X5_goOn fuel) m (nI d) (nI M) = some m2 ∧ _
    unfold f_X5_goOn_s
    rw [hS.2.1, if_pos (nI_lt (by omega) (by omega)), show nI d - 1 = nI (d - 1) from pk_sub (a := d) (b := 1) hd1, ldA_nI (show d - 1 < 7 by omega) (by omega), hr (d - 1) (by omega), Option.bind_some, show ldA m 167 7 0 = some (nI (pre 0)) from (ldA_nI (i := 0) (by omega) (by omega)).trans (by rw [hr 0 (by omega)]), Option.bind_some, nI_1]
    obtain ⟨m2, e1, e2, e3⟩ := iter_rule (B := f_X5_goOn_b32 (f_X5_goOn fuel) (nI d) (nI M) (nI (pre (d - 1)))) (fun j v => v.1 = nI (pre 0 + 1 + j) ∧ CSt μ ns n (fo n (cf (fun t => if okT pre d t then ext ns k (d + 1) (pu pre d t) else []) j (pre 0 + 1)) s) v.2 ∧ ∀ i, i < d → ga v.2 167 i = nI (pre i)) (fun m2 => CSt μ ns n (fo n (cf (fun t => if okT pre d t then ext ns k (d + 1) (pu pre d t) else []) (ns - (pre 0 + 1)) (pre 0 + 1)) s) m2 ∧ ∀ i, i < d → ga m2 167 i = nI (pre i)) (ns - (pre 0 + 1)) (by omega) (by
      rintro j ⟨v1, mm⟩ hj ⟨i1, i2, i3⟩
      dsimp only at i1 i2 i3
      subst i1
      unfold f_X5_goOn_b32
      dsimp only
      rw [i2.2.2.1]
      by_cases e : j = ns - (pre 0 + 1)
      · rw [if_pos (nI_le (by omega) (by omega))]
        subst e
        exact Or.inr ⟨_, rfl, i2, i3⟩
      · refine Or.inl ⟨by omega, ?_⟩
        rw [if_neg (nI_ge (by omega) (by omega)), cf_snoc, fo_app]
        generalize hs' : fo n (cf (fun t => if okT pre d t then ext ns k (d + 1) (pu pre d t) else []) j (pre 0 + 1)) s = s' at *
        have hL' : ∀ k, s'.1 k < 1000000000 := fun k => by
          rw [← hs']
          exact Nat.lt_of_le_of_lt (fo_le n _ s k) (hL k)
        generalize ht : pre 0 + 1 + j = t at *
        have ht7 : t < 7 := by omega
        have hb := hbit t ht7
        have keep : (if okT pre d t = true then ext ns k (d + 1) (pu pre d t) else []) = [] ∨ (∀ r, r ∈ (if okT pre d t = true then ext ns k (d + 1) (pu pre d t) else []) → ¬ rg n s'.1 r) → CSt μ ns n (fo n (if okT pre d t = true then ext ns k (d + 1) (pu pre d t) else []) s') mm := by
          rintro (z | z)
          · rw [z]; exact i2
          · rw [fo_no _ _ z]; exact i2
        by_cases w : M.testBit t = false
        · rw [if_pos ((andM M hM t ht7).mpr w)]
          have nu : ∀ i, i < d → pre i ≠ t := fun i hi z => by
            have := hb.mpr ⟨i, hi, z⟩
            rw [w] at this
            cases this
          have hok : okT pre d t = true := okT_tr.mpr (Or.inr ⟨by omega, nu⟩)
          have hp1 := hR.1 (d - 1) (by omega)
          have hl1 := hL' (7 * pre (d - 1) + t)
          unfold f_X5_goOn_j55 f_X8_bondAt
          rw [if_neg (by decide), show (7 : Int32) = nI 7 from rfl, pk_mul, nI_add, Nat.mul_comm (pre (d - 1)) 7, Option.bind_some, ldA_nI (by omega) (by omega), i2.2.2.2.2 _ (by omega), Option.bind_some, nI_1]
          by_cases w2 : s'.1 (7 * pre (d - 1) + t) = 0
          · rw [w2, if_pos (show nI 0 ≤ 0 by decide)]
            refine ⟨_, rfl, by rw [← ht]; rfl, ?_, i3⟩
            exact keep (Or.inr (by rw [if_pos hok]; exact ext_none hd1 (by omega) hR (by omega) hok w2))
          · rw [if_neg (nI_nle (by omega) (by omega)), stA_nI (show d < 7 by omega) (by omega), Option.bind_some, nI_1, (orM1 M hM t ht7).1]
            have hS2 : CSt μ ns n s' (sA mm 167 (upd (ga mm 167) d (nI t))) := ⟨i2.1.tr (Fr.sA ⟨by omega, by omega⟩), by rw [gi_sA]; exact i2.2.1, by rw [gi_sA]; exact i2.2.2.1, by rw [gi_sA]; exact i2.2.2.2.1, fun k hk => by rw [ga_ne (by omega)]; exact i2.2.2.2.2 k hk⟩
            obtain ⟨m3, q1, q2, q3⟩ := goOn_ok hns hn k (d + 1) fuel (sA mm 167 (upd (ga mm 167) d (nI t))) (pu pre d t) s' (M ||| 2 ^ t) (by omega) (by omega) (by omega) hS2 (fun i hi => by
              rw [ga_at, upd_at]
              by_cases z : i = d
              · rw [if_pos z, z, pu_at]
              · rw [if_neg z, pu_ne z]
                exact i3 i (by omega)) (hR.pu (by omega) hok) (orM1 M hM t ht7).2 (fun u hu => by
              rw [Nat.testBit_or, tbP t ht7 u hu, Bool.or_eq_true, decide_eq_true_eq, hbit u hu]
              constructor
              · rintro (⟨i, z1, z2⟩ | z)
                · exact ⟨i, by omega, by rw [pu_ne (by omega)]; exact z2⟩
                · exact ⟨d, by omega, by rw [pu_at]; exact z.symm⟩
              · rintro ⟨i, z1, z2⟩
                by_cases z : i = d
                · rw [z, pu_at] at z2
                  exact Or.inr z2.symm
                · rw [pu_ne z] at z2
                  exact Or.inl ⟨i, by omega, z2⟩) hL'
            rw [q1, Option.bind_some]
            refine ⟨_, rfl, by rw [← ht]; rfl, ?_, fun i hi => ?_⟩
            · rw [if_pos hok]; exact q2
            · rw [q3 i (by omega), pu_ne (by omega)]
        · rw [if_neg (fun z => w ((andM M hM t ht7).mp z))]
          have hu : ∃ i, i < d ∧ pre i = t := hb.mp (by
            cases q : M.testBit t with
            | false => exact absurd q w
            | true => rfl)
          have hno : ¬ okT pre d t = true := fun q => by
            obtain ⟨i, z1, z2⟩ := hu
            rcases okT_tr.mp q with z | z
            · omega
            · exact z.2 i z1 z2
          unfold f_X5_goOn_j55
          rw [if_pos rfl, nI_1]
          exact ⟨_, rfl, by rw [← ht]; rfl, keep (Or.inl (if_neg hno)), i3⟩) (v := (nI (pre 0 + 1), m)) ⟨rfl, hS, hr⟩
    rw [e1, Option.bind_some]
    exact ⟨m2, rfl, e2, e3⟩
/-- all rows of so many stairs, the least first -/
def zz : Nat → Nat := fun _ => 0
theorem RowOk.nil (ns : Nat) : RowOk ns 0 zz := ⟨fun i hi => by omega, fun i j hi => by omega⟩
def Zs (ns : Nat) (s : (Nat → Nat) × Int32) : Nat → (Nat → Nat) × Int32
  | 0 => s
  | i + 1 => fo (i + 2) (ext ns (i + 2) 0 zz) (Zs ns s i)
theorem Zs_le (ns : Nat) (s : (Nat → Nat) × Int32) : ∀ i k, (Zs ns s i).1 k ≤ s.1 k
  | 0, _ => Nat.le_refl _
  | i + 1, k => Nat.le_trans (fo_le _ _ _ k) (Zs_le ns s i k)
theorem all40 {μ m : Mem} {ns n : Nat} {s : (Nat → Nat) × Int32} (x : Int32) (hns : ns ≤ 7) (hn : n ≤ 7) (hn1 : 1 ≤ n) (hS : CSt μ ns n s m) (hL : ∀ k, s.1 k < 1000000000) : ∃ m2, iter gFU (f_X5_strikeAll_b40 (nI ns) x) (0, m) = some m2 ∧ CSt μ ns n (fo n (ext ns n 0 zz) s) m2 := by
  obtain ⟨k, rfl⟩ : ∃ k, n = k + 1 := ⟨n - 1, by omega⟩
  show ∃ m2, iter gFU (f_X5_strikeAll_b40 (nI ns) x) (0, m) = some m2 ∧ CSt μ ns (k + 1) (fo (k + 1) (cf (fun t => if okT zz 0 t then ext ns k (0 + 1) (pu zz 0 t) else []) ns 0) s) m2
  refine iter_rule (v := ((0 : Int32), m)) (fun (j : Nat) (v : Int32 × Mem) => v.1 = nI j ∧ CSt μ ns (k + 1) (fo (k + 1) (cf (fun t => if okT zz 0 t then ext ns k (0 + 1) (pu zz 0 t) else []) j 0) s) v.2) _ ns (by omega) ?_ ⟨rfl, hS⟩
  rintro j ⟨v1, mm⟩ hj ⟨i1, i2⟩
  dsimp only at i1 i2
  subst i1
  unfold f_X5_strikeAll_b40
  dsimp only
  by_cases e : j = ns
  · rw [if_pos (nI_le (by omega) (by omega))]
    subst e
    exact Or.inr ⟨_, rfl, i2⟩
  · refine Or.inl ⟨by omega, ?_⟩
    rw [if_neg (nI_ge (by omega) (by omega)), cf_snoc, fo_app, Nat.zero_add]
    have hok : okT zz 0 j = true := okT_tr.mpr (Or.inl rfl)
    generalize hs' : fo (k + 1) (cf (fun t => if okT zz 0 t then ext ns k (0 + 1) (pu zz 0 t) else []) j 0) s = s' at *
    have hL' : ∀ k, s'.1 k < 1000000000 := fun k => by
      rw [← hs']
      exact Nat.lt_of_le_of_lt (fo_le _ _ s k) (hL k)
    rw [show stA mm 167 7 0 (nI j) = some (sA mm 167 (upd (ga mm 167) 0 (nI j))) from stA_nI (i := 0) (by omega) (by omega), Option.bind_some, (shl1 j (by omega)).1]
    have hS2 : CSt μ ns (k + 1) s' (sA mm 167 (upd (ga mm 167) 0 (nI j))) := ⟨i2.1.tr (Fr.sA ⟨by omega, by omega⟩), by rw [gi_sA]; exact i2.2.1, by rw [gi_sA]; exact i2.2.2.1, by rw [gi_sA]; exact i2.2.2.2.1, fun k hk => by rw [ga_ne (by omega)]; exact i2.2.2.2.2 k hk⟩
    obtain ⟨m3, q1, q2, q3⟩ := goOn_ok hns hn k 1 9 (sA mm 167 (upd (ga mm 167) 0 (nI j))) (pu zz 0 j) s' (2 ^ j) (by omega) (by omega) (by omega) hS2 (fun i hi => by
      have : i = 0 := by omega
      subst this
      rw [ga_at, upd_at, if_pos rfl, pu_at]) ((RowOk.nil ns).pu (by omega) hok) (shl1 j (by omega)).2 (fun u hu => by
      rw [tbP j (by omega) u hu, decide_eq_true_eq]
      constructor
      · intro z; exact ⟨0, by omega, by rw [pu_at]; exact z.symm⟩
      · rintro ⟨i, z1, z2⟩
        have : i = 0 := by omega
        subst this
        rw [pu_at] at z2
        exact z2.symm) hL'
    rw [show f_X5_goOn 9 (sA mm 167 (upd (ga mm 167) 0 (nI j))) 1 (nI (2 ^ j)) = some m3 from q1, Option.bind_some, nI_1]
    refine ⟨_, rfl, rfl, ?_⟩
    rw [if_pos hok]
    exact q2
theorem strikeAll_ok {μ : Mem} {ns : Nat} {L : Nat → Nat} (hns : ns ≤ 7) (hL : ∀ k, L k < 1000000000) (h7 : ∀ k, k < 49 → ga μ 7 k = nI (L k)) : ∃ m, f_X5_strikeAll μ 7 49 (nI ns) = some ((Zs ns (L, 0) (ns - 1)).2, m) ∧ Fr SR μ m := by
  unfold f_X5_strikeAll
  rw [show (0 : Int32) = nI 0 from rfl, show Int32.ofNat 49 = nI 49 from rfl, cpA_nI (by omega) (by omega) (by omega), Option.bind_some, stI_eq, Option.bind_some, stI_eq, Option.bind_some]
  obtain ⟨m, e1, e2, e3⟩ := iter_rule (B := f_X5_strikeAll_b27 (nI ns)) (v := (2, si (si (sA μ 166 (fun i => if i < 49 then ga μ 7 i else ga μ 166 i)) 165 3 (nI ns)) 165 4 (nI 0))) (fun j v => v.1 = nI (j + 2) ∧ Fr SR μ v.2 ∧ gi v.2 165 3 = nI ns ∧ gi v.2 165 4 = (Zs ns (L, 0) j).2 ∧ ∀ k, k < 49 → ga v.2 166 k = nI ((Zs ns (L, 0) j).1 k)) (fun m => Fr SR μ m ∧ gi m 165 4 = (Zs ns (L, 0) (ns - 1)).2) (ns - 1) (by omega) (by
    rintro j ⟨v1, mm⟩ hj ⟨i1, i2, i3, i4, i5⟩
    dsimp only at i1 i2 i3 i4 i5
    subst i1
    unfold f_X5_strikeAll_b27
    dsimp only
    by_cases e : j = ns - 1
    · rw [if_pos (nI_lt (by omega) (by omega))]
      subst e
      exact Or.inr ⟨_, rfl, i2, i4⟩
    · refine Or.inl ⟨by omega, ?_⟩
      rw [if_neg (nI_nlt (by omega) (by omega)), stI_eq, Option.bind_some]
      have hS : CSt μ ns (j + 2) (Zs ns (L, 0) j) (si mm 165 2 (nI (j + 2))) := ⟨i2.tr (Fr.si ⟨by omega, by omega⟩), by rw [gi_si, if_pos ⟨rfl, rfl⟩], by rw [gi_si, if_neg (by omega)]; exact i3, by rw [gi_si, if_neg (by omega)]; exact i4, fun k hk => by rw [ga_si]; exact i5 k hk⟩
      obtain ⟨m2, q1, q2⟩ := all40 (nI (j + 2)) hns (by omega) (by omega) hS (fun k => Nat.lt_of_le_of_lt (Zs_le ns (L, 0) j k) (hL k))
      rw [q1, Option.bind_some, nI_1]
      exact ⟨_, rfl, rfl, q2.1, q2.2.2.1, q2.2.2.2.1, q2.2.2.2.2⟩) ⟨rfl, ((Fr.sA ⟨by omega, by omega⟩).tr (Fr.si ⟨by omega, by omega⟩)).tr (Fr.si ⟨by omega, by omega⟩), by rw [gi_si, if_neg (by omega), gi_si, if_pos ⟨rfl, rfl⟩], by rw [gi_si, if_pos ⟨rfl, rfl⟩]; rfl, fun k hk => by
      rw [ga_si, ga_si, ga_at, if_pos hk]
      exact h7 k hk⟩
  rw [e1, Option.bind_some, e3]
  exact ⟨m, rfl, e2⟩

/-! what is done, call by call -/
theorem LeC.now {μ μ2 : Mem} {ns o : Nat} {f f2 : Nat → Nat} {kn : Nat} {ps : Nat → Nat → Nat} (hm : LeC μ ns o f kn ps) (h : Fr (fun k => o + 1 ≤ k ∧ k < o + 5) μ μ2) (h2 : MoC μ2 ns (o + 1) f2) : LeC μ2 ns o f2 kn ps := by
  obtain ⟨m1, m2, nx, hn, m3, m4⟩ := hm
  refine ⟨h2, ?_, nx, hn, ?_, fun j hj => (m4 j hj).fr h (by omega) (by omega) (by omega) (by omega)⟩
  · rw [(h.2.2.2 o (by omega)).1]; exact m2
  · rw [(h.2.2.2 o (by omega)).1]; exact m3
theorem LeM.now {a a2 : Nat → Int32} {off : Nat} {f f2 : Nat → Nat} {kn : Nat} {ps : Nat → Nat → Nat} (hm : LeM a off f kn ps) (h : ∀ k, 65 ≤ k → a2 (off + k) = a (off + k)) (h2 : MoM a2 off f2) : LeM a2 off f2 kn ps := by
  obtain ⟨m1, m2, m3⟩ := hm
  refine ⟨h2, by rw [h 65 (by omega)]; exact m2, fun j hj k hk => ?_⟩
  have := h (66 + 65 * j + k) (by omega)
  rw [show off + 66 + 65 * j + k = off + (66 + 65 * j + k) by omega, this, ← m3 j hj k hk]
  congr 1
  omega
theorem InvC.led {μ μ2 : Mem} {tx : Nat → Nat} {len : Nat} {pl f f2 : Nat → Nat} {kn kn2 : Nat} {ps ps2 : Nat → Nat → Nat} {b : Nat → Nat} {gf : Nat → Nat → Nat} {gk : Nat → Nat} {gp : Nat → Nat → Nat → Nat} {tr : Int64} (hm : InvC μ tx len pl f kn ps b gf gk gp tr) (h : Fr (fun k => 3 ≤ k ∧ k < 49) μ μ2) (hl : LeC μ2 (pl 0) 3 f2 kn2 ps2) : InvC μ2 tx len pl f2 kn2 ps2 b gf gk gp tr := by
  obtain ⟨⟨a1, a2, a3⟩, ⟨b1, b2⟩, c1, d1, e1, f1⟩ := hm
  have hc := isPl_cases a1
  refine ⟨by rw [h.1, h.2.1]; exact ⟨a1, a2, a3⟩, ⟨?_, ?_⟩, ?_, hl, fun e he => ?_, by rw [h.2.2.1]; exact f1⟩
  · rw [(h.2.2.2 1 (by omega)).1]; exact b1
  · rw [(h.2.2.2 2 (by omega)).2]; exact b2
  · rw [h.1]; exact c1.fr h (fun k h1 h2 => by omega)
  · rw [(h.2.2.2 142 (by omega)).2]
    exact ⟨(e1 e he).1, fun hb => ((e1 e he).2 hb).fr h (fun k h1 h2 => by omega)⟩
theorem InvM.led {μ : Mem} {a2 : Nat → Int32} {tx : Nat → Nat} {len : Nat} {pl f f2 : Nat → Nat} {kn kn2 : Nat} {ps ps2 : Nat → Nat → Nat} {b : Nat → Nat} {gf : Nat → Nat → Nat} {gk : Nat → Nat} {gp : Nat → Nat → Nat → Nat} {tr : Int64} (hm : InvM μ tx len pl f kn ps b gf gk gp tr) (hl : LeM a2 0 f2 kn2 ps2) : InvM (sA μ 190 a2) tx len pl f2 kn2 ps2 b gf gk gp tr := by
  obtain ⟨⟨b1, b2⟩, c1, d1, e1, f1⟩ := hm
  exact ⟨⟨b1, b2⟩, c1, by rw [ga_sA, if_pos rfl]; exact hl, e1, f1⟩
theorem mx_sub {a b : Nat} (ha : a < 1000000000) (hb : b < 1000000000) : mxI 0 (nI a - nI b) = nI (a - b) := by
  unfold mxI
  have h1 : (nI a - nI b).toInt = (a : Int) - b := pk_sub_toInt (by omega) (by omega)
  by_cases h : b < a
  · rw [if_pos (by rw [Int32.lt_iff_toInt_lt, h1]; simp; omega), pk_sub (by omega)]
  · rw [if_neg (by rw [Int32.lt_iff_toInt_lt, h1]; simp; omega), show a - b = 0 by omega]
    rfl
theorem mn_nI {a b : Nat} (ha : a < 2147483648) (hb : b < 2147483648) : mnI (nI a) (nI b) = nI (min a b) := by
  unfold mnI
  by_cases h : b < a
  · rw [if_pos (nI_lt h ha), Nat.min_eq_right (by omega)]
  · rw [if_neg (nI_nlt (by omega) hb), Nat.min_eq_left (by omega)]
theorem mx_nI {a b : Nat} (ha : a < 2147483648) (hb : b < 2147483648) : mxI (nI a) (nI b) = nI (max a b) := by
  unfold mxI
  by_cases h : a < b
  · rw [if_pos (nI_lt h hb), Nat.max_eq_right (by omega)]
  · rw [if_neg (nI_nlt (by omega) ha), Nat.max_eq_left (by omega)]
/-- so much is counted on a stair, and hurt -/
def apay (f : Nat → Nat) (s h u : Nat) : Nat → Nat := fun k => if k = s then f s - h else if k = 63 then min 999999 (f 63 + u) else f k
theorem lessen_ok {μ : Mem} {ns q s h : Nat} {f : Nat → Nat} (hm : MoC μ ns q f) (hs : s < ns) (hns : ns ≤ 7) (hf : f s ≤ 999) (hh : h ≤ 999) : f_X1_lessen μ q (nI s) (nI h) = some (nI (f s - h), sA μ (q + 1) (upd (ga μ (q + 1)) s (nI (f s - h)))) := by
  unfold f_X1_lessen
  rw [ldA_nI (by omega) (by omega), Option.bind_some, hm.1 s hs, mx_sub (by omega) (by omega), stA_nI (by omega) (by omega), Option.bind_some, ldA_nI (by omega) (by omega), Option.bind_some, ga_sA, if_pos rfl, upd_at, if_pos rfl]
theorem addHurt_ok {μ : Mem} {ns q u : Nat} {f : Nat → Nat} (hm : MoC μ ns q f) (hf : f 63 ≤ 999999) (hu : u ≤ 999) : f_X1_addHurt μ q (nI u) = some (si μ q 3 (nI (min 999999 (f 63 + u)))) := by
  unfold f_X1_addHurt
  rw [hm.2.2.2.1, nI_add, show (999999 : Int32) = nI 999999 from rfl, mn_nI (by omega) (by omega), stI_eq, Option.bind_some]
theorem MoC.lessen {μ : Mem} {ns q s h : Nat} {f : Nat → Nat} (hm : MoC μ ns q f) (hs : s < ns) (hns : ns ≤ 7) (v : Nat) : MoC (sA μ (q + 1) (upd (ga μ (q + 1)) s (nI v))) ns q (fun k => if k = s then v else f k) := by
  obtain ⟨m1, m2, m3, m4, m5⟩ := hm
  refine ⟨fun t ht => ?_, fun t ht => ?_, fun k hk => ?_, ?_, ?_⟩
  · rw [ga_sA, if_pos rfl, upd_at]
    show _ = nI (if t = s then v else f t)
    by_cases e : t = s
    · rw [if_pos e, if_pos e]
    · rw [if_neg e, if_neg e]; exact m1 t ht
  · rw [ga_sA, if_neg (by omega)]
    show _ = nI (if 7 + t = s then v else f (7 + t))
    rw [if_neg (by omega)]; exact m2 t ht
  · rw [ga_sA, if_neg (by omega)]
    show _ = nI (if 14 + k = s then v else f (14 + k))
    rw [if_neg (by omega)]; exact m3 k hk
  · show _ = nI (if 63 = s then v else f 63)
    rw [if_neg (by omega)]; exact m4
  · show _ = nI (if 64 = s then v else f 64)
    rw [if_neg (by omega)]; exact m5
theorem MoC.hurt {μ : Mem} {ns q : Nat} {f : Nat → Nat} (hm : MoC μ ns q f) (hns : ns ≤ 7) (v : Nat) : MoC (si μ q 3 (nI v)) ns q (fun k => if k = 63 then v else f k) := by
  obtain ⟨m1, m2, m3, m4, m5⟩ := hm
  refine ⟨fun t ht => ?_, fun t ht => ?_, fun k hk => ?_, ?_, ?_⟩
  · show _ = nI (if t = 63 then v else f t)
    rw [if_neg (by omega)]; exact m1 t ht
  · show _ = nI (if 7 + t = 63 then v else f (7 + t))
    rw [if_neg (by omega)]; exact m2 t ht
  · show _ = nI (if 14 + k = 63 then v else f (14 + k))
    rw [if_neg (by omega)]; exact m3 k hk
  · rw [gi_si, if_pos ⟨rfl, rfl⟩]; rfl
  · rw [gi_si, if_neg (by omega)]
    exact m5
theorem pays_ok {μ : Mem} {s h u kn : Nat} {f : Nat → Nat} {ps : Nat → Nat → Nat} (hm : LeM (ga μ 190) 0 f kn ps) (hs : s < 7) (hf : f s ≤ 999) (hh : h ≤ 999) (hf2 : f 63 ≤ 999999) (hu : u ≤ 999) : ∃ a2, f_X9_pays μ (nI s) (nI h) (nI u) = some (nI (f s - h), sA μ 190 a2) ∧ LeM a2 0 (apay f s h u) kn ps := by
  have g : ∀ k, k < 65 → ga μ 190 k = nI (f k) := fun k hk => by have := hm.1 k hk; rw [Nat.zero_add] at this; exact this
  have hj : f_X9_pays μ (nI s) (nI h) (nI u) = f_X9_pays_j27 μ (nI s) (nI u) (nI s) (nI (f s - h)) := by
    unfold f_X9_pays
    rw [ldA_nI (by omega) (by omega), Option.bind_some, g s (by omega)]
    by_cases e : f s ≤ h
    · rw [if_pos (nI_le e (by omega)), show f s - h = 0 by omega]; rfl
    · rw [if_neg (nI_ge (by omega) (by omega)), Option.bind_some, pk_sub (by omega)]
  rw [hj]
  unfold f_X9_pays_j27
  rw [show (63 : Int32) = nI 63 from rfl, show (999999 : Int32) = nI 999999 from rfl, stA_nI (by omega) (by omega), Option.bind_some, ldA_nI (by omega) (by omega)]
  simp only [Option.bind_some]
  rw [ga_sA, if_pos rfl, upd_at, if_neg (show ¬ (63 : Nat) = s by omega), g 63 (by omega), nI_add]
  have key : ∀ v : Nat, v = min 999999 (f 63 + u) → ∃ a2, ((stA (sA μ 190 (upd (ga μ 190) s (nI (f s - h)))) 190 716 (nI 63) (nI v)).bind fun m10 => (ldA m10 190 716 (nI s)).bind fun y11 => some (y11, m10)) = some (nI (f s - h), sA μ 190 a2) ∧ LeM a2 0 (apay f s h u) kn ps := by
    intro v hv
    rw [stA_nI (by omega) (by omega), Option.bind_some, ldA_nI (by omega) (by omega), Option.bind_some, sA_sA, ga_sA, if_pos rfl, ga_sA, if_pos rfl, upd_at, if_neg (by omega), upd_at, if_pos rfl]
    refine ⟨_, rfl, hm.now (fun k hk => ?_) (fun k hk => ?_)⟩
    · rw [upd_at, if_neg (by omega), upd_at, if_neg (by omega)]
    · rw [upd_at, upd_at, Nat.zero_add]
      unfold apay
      by_cases e1 : k = 63
      · rw [if_pos e1, if_neg (by omega), if_pos e1, hv]
      · rw [if_neg e1]
        by_cases e2 : k = s
        · rw [if_pos e2, if_pos e2]
        · rw [if_neg e2, if_neg e2, if_neg e1]; exact g k hk
  by_cases e : f 63 + u ≤ 999999
  · rw [if_pos (nI_le e (by omega))]
    obtain ⟨a2, e1, e2⟩ := key (f 63 + u) (by omega)
    exact ⟨a2, e1, e2⟩
  · rw [if_neg (nI_ge (by omega) (by omega))]
    obtain ⟨a2, e1, e2⟩ := key 999999 (by omega)
    exact ⟨a2, e1, e2⟩
theorem apay_ok {pl : Nat → Nat} {c : Nat} {f : Nat → Nat} {s h u : Nat} (hs : s < 7) (hm : MoOk pl c f) : MoOk pl c (apay f s h u) := by
  obtain ⟨h1, h2, h3, h4, h5⟩ := hm
  unfold apay
  refine ⟨fun t ht => ?_, fun t ht => ?_, fun k hk => ?_, ?_, ?_⟩
  · have := h1 s hs
    have := h1 t ht
    show (if t = s then f s - h else if t = 63 then min 999999 (f 63 + u) else f t) ≤ 999
    split
    · omega
    · rw [if_neg (by omega)]; omega
  · show (if 7 + t = s then f s - h else if 7 + t = 63 then min 999999 (f 63 + u) else f (7 + t)) ≤ pl 2
    rw [if_neg (by omega), if_neg (by omega)]; exact h2 t ht
  · show (if 14 + k = s then f s - h else if 14 + k = 63 then min 999999 (f 63 + u) else f (14 + k)) ≤ 99 * c
    rw [if_neg (by omega), if_neg (by omega)]; exact h3 k hk
  · show (if 63 = s then f s - h else if 63 = 63 then min 999999 (f 63 + u) else f 63) ≤ 999999
    rw [if_neg (by omega), if_pos rfl]; omega
  · show (if 64 = s then f s - h else if 64 = 63 then min 999999 (f 63 + u) else f 64) ≤ 99
    rw [if_neg (by omega), if_neg (by omega)]; exact h5
theorem InvO.led {c : Nat} {tx : Nat → Nat} {len : Nat} {pl f f2 : Nat → Nat} {kn : Nat} {ps : Nat → Nat → Nat} {b : Nat → Nat} {gf : Nat → Nat → Nat} {gk : Nat → Nat} {gp : Nat → Nat → Nat → Nat} (h : InvO c tx len pl f kn ps b gf gk gp) (h2 : MoOk pl (c + 1) f2) : InvO (c + 1) tx len pl f2 (pk2 kn) (pp2 kn ps f) b gf gk gp := by
  have h3 := h.up
  refine ⟨h3.1, h3.2.1, ⟨h2, ?_, fun j hj => ?_⟩, h3.2.2.2⟩
  · unfold pk2; split
    · omega
    · have := h.2.2.1.2.1; omega
  · have hf := h3.2.2.1.1
    have hp := h3.2.2.1.2.2
    unfold pk2 at hj
    unfold pp2
    by_cases e : kn = 10
    · rw [if_pos e] at hj ⊢
      show MoOk pl (c + 1) (if j < 9 then ps (j + 1) else f)
      split
      · exact hp _ (by omega)
      · exact hf
    · rw [if_neg e] at hj ⊢
      show MoOk pl (c + 1) (if j < kn then ps j else f)
      split
      · exact hp _ (by omega)
      · exact hf

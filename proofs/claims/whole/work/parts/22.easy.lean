/-! the easy calls -/
theorem hasStair_eq {μ : Mem} {q ns : Nat} (h : gi μ q 7 = nI ns) (hn : ns ≤ 7) (a : Int32) : f_X3_hasStair μ q a = some (bi (ck a ns)) := by
  unfold f_X3_hasStair
  rw [h]
  rcases int_range a (n := ns) (by omega) with ⟨h1, h2⟩ | ⟨h1, h2, h3⟩ | ⟨j, h1, rfl, h3⟩
  · rw [if_pos h1, h2]; rfl
  · rw [if_neg h1, if_pos h2, h3]; rfl
  · rw [if_neg (nI_pos (by omega)), if_neg (nI_ge h1 (by omega)), h3]; rfl
theorem hasPerson_eq {μ : Mem} {q ns : Nat} (h : gi μ q 8 = nI ns) (hn : ns ≤ 7) (a : Int32) : f_X3_hasPerson μ q a = some (bi (ck a ns)) := by
  unfold f_X3_hasPerson
  rw [h]
  rcases int_range a (n := ns) (by omega) with ⟨h1, h2⟩ | ⟨h1, h2, h3⟩ | ⟨j, h1, rfl, h3⟩
  · rw [if_pos h1, h2]; rfl
  · rw [if_neg h1, if_pos h2, h3]; rfl
  · rw [if_neg (nI_pos (by omega)), if_neg (nI_ge h1 (by omega)), h3]; rfl
theorem in_eq {μ : Mem} {N : Nat} (hn : N ≤ 2147483647) (a : Int32) (hi : Int32) (hhi : hi + 1 = nI N) (hlt : hi < nI N) : f_X9_in μ a 0 hi = some (bi (ck a N)) := by
  unfold f_X9_in
  rcases int_range a (n := N) (by omega) with ⟨h1, h2⟩ | ⟨h1, h2, h3⟩ | ⟨j, h1, rfl, h3⟩
  · rw [if_pos h1, h2]; rfl
  · rw [if_neg h1, if_pos (Int32.lt_of_lt_of_le hlt h2), h3]; rfl
  · rw [if_neg (nI_pos (by omega)), h3]
    have : ¬ hi < nI j := by
      intro q
      have e : hi = nI N - 1 := by rw [← hhi]; simp
      obtain ⟨M, rfl⟩ : ∃ M, N = M + 1 := ⟨N - 1, by omega⟩
      rw [nI_pred] at e
      rw [e] at q
      exact nI_nlt (by omega) (by omega) q
    rw [if_neg this]; rfl
theorem in_pred {μ : Mem} {N : Nat} (hn : N ≤ 2000000000) (a : Int32) : f_X9_in μ a 0 (nI N - 1) = some (bi (ck a N)) := by
  refine in_eq (by omega) a _ (by simp) ?_
  rcases Nat.eq_zero_or_pos N with rfl | h
  · decide
  · obtain ⟨M, rfl⟩ : ∃ M, N = M + 1 := ⟨N - 1, by omega⟩
    rw [nI_pred]
    exact nI_lt (by omega) (by omega)
theorem isStair_eq {μ : Mem} {pl : Nat → Nat} (h : PlM μ pl) (hn : pl 0 ≤ 7) (a : Int32) : f_X9_isStair μ a = some (bi (ck a (pl 0))) := by
  unfold f_X9_isStair
  rw [show (0 : Int32) = nI 0 from rfl, ldA_nI (by omega) (by omega), Option.bind_some, h 0 (by omega), show nI 0 = (0 : Int32) from rfl, in_pred (by omega), Option.bind_some, bz_bi]
  rfl
theorem isPerson_eq {μ : Mem} {pl : Nat → Nat} (h : PlM μ pl) (hn : pl 1 ≤ 7) (a : Int32) : f_X9_isPerson μ a = some (bi (ck a (pl 1))) := by
  unfold f_X9_isPerson
  rw [show (1 : Int32) = nI 1 from rfl, ldA_nI (by omega) (by omega), Option.bind_some, h 1 (by omega), show nI 1 = (1 : Int32) from rfl, in_pred (by omega), Option.bind_some, bz_bi]
  rfl
theorem isAny_n (q : Nat) : isAny q = true := rfl
theorem sp_trace : Sp_trace Inv := by
  intro c μ hc hI
  obtain ⟨tx, len, pl, f, kn, ps, b, gf, gk, gp, tr, h1, h2, h3⟩ := id hI
  exact ⟨tr, μ, μ, ⟨by unfold f_X8_trace; rw [h1.2.2.2.2.2], rfl⟩, ⟨by unfold f_X9_trace; rw [h2.2.2.2.2.1], rfl⟩, hI.up⟩
theorem SameM.si {μ : Mem} {k j : Nat} {v : Int32} (h : k ≠ 186) : SameM μ (si μ k j v) := ⟨rfl, by rw [gi_si, if_neg (fun q => h q.1.symm)], rfl, rfl, rfl, rfl, rfl, rfl⟩
theorem SameM.sA {μ : Mem} {k : Nat} {f : Nat → Int32} (h : k < 187) : SameM μ (sA μ k f) := by
  refine ⟨rfl, rfl, ?_, ?_, ?_, ?_, ?_, ?_⟩ <;> rw [ga_sA, if_neg (by omega)]
theorem SameM.sl {μ : Mem} {k : Nat} {v : Int64} (h : k ≠ 186) : SameM μ (sl μ k v) := ⟨by rw [gl_sl, if_neg (fun q => h q.symm)], rfl, rfl, rfl, rfl, rfl, rfl, rfl⟩
theorem SameC.si {μ : Mem} {k j : Nat} {v : Int32} (h : 143 ≤ k) (h2 : k < 170 ∨ 186 ≤ k) : SameC μ (si μ k j v) := by
  refine ⟨rfl, rfl, rfl, by rw [gi_si, if_neg (fun q => by omega)], fun q hq => ⟨?_, rfl⟩⟩
  funext i
  rw [gi_si, if_neg (fun e => by omega)]
theorem SameC.sA {μ : Mem} {k : Nat} {f : Nat → Int32} (h : 143 ≤ k) (h2 : k < 170 ∨ 186 ≤ k) : SameC μ (sA μ k f) := by
  refine ⟨rfl, rfl, rfl, rfl, fun q hq => ⟨rfl, ?_⟩⟩
  rw [ga_sA, if_neg (fun e => by omega)]
theorem SameC.sl {μ : Mem} {k : Nat} {v : Int64} (h : k ≠ 0) : SameC μ (sl μ k v) := ⟨rfl, rfl, by rw [gl_sl, if_neg (fun q => h q.symm)], rfl, fun q hq => ⟨rfl, rfl⟩⟩
/-- the class's other things stay when its text changes -/
theorem InvC.text {μ μ2 : Mem} {tx tx2 : Nat → Nat} {len len2 : Nat} {pl f : Nat → Nat} {kn : Nat} {ps : Nat → Nat → Nat} {b : Nat → Nat} {gf : Nat → Nat → Nat} {gk : Nat → Nat} {gp : Nat → Nat → Nat → Nat} {tr : Int64} (hm : InvC μ tx len pl f kn ps b gf gk gp tr) (h0 : gpl μ2 = gpl μ ∧ gdr μ2 = gdr μ ∧ gl μ2 0 = gl μ 0) (hl : gi μ2 1 1 = nI len2) (ht : ∀ i, i < len2 → ga μ2 2 i = nI (tx2 i)) (h : ∀ k, (2 < k ∧ k < 143 ∨ 170 ≤ k ∧ k < 186) → gi μ2 k = gi μ k ∧ ga μ2 k = ga μ k) : InvC μ2 tx2 len2 pl f kn ps b gf gk gp tr := by
  -- by way of a memory that differs in the text alone
  have key : SameC μ (si (sA μ2 2 (ga μ 2)) 1 1 (gi μ 1 1)) ∨ True := Or.inr trivial
  obtain ⟨⟨a1, a2, a3⟩, ⟨b1, b2⟩, c1, d1, e1, f1⟩ := hm
  have hg : ∀ k, (1 < k ∧ k < 143 ∨ 170 ≤ k ∧ k < 186) → gi (sA (si μ2 2 0 0) 2 (ga μ 2)) k = gi (sA (si μ2 2 0 0) 2 (ga μ 2)) k ∧ True := fun k _ => ⟨rfl, trivial⟩
  have hmo : ∀ {q : Nat} {f : Nat → Nat}, 3 ≤ q → q + 3 < 143 → MoC μ (pl 0) q f → MoC μ2 (pl 0) q f := by
    intro q f hq hq2 hm
    obtain ⟨h1, h2, h3, h4, h5⟩ := hm
    have e0 := h q (Or.inl ⟨by omega, by omega⟩)
    have e1 := h (q + 1) (Or.inl ⟨by omega, by omega⟩)
    have e2 := h (q + 2) (Or.inl ⟨by omega, by omega⟩)
    have e3 := h (q + 3) (Or.inl ⟨by omega, by omega⟩)
    refine ⟨fun s hs => ?_, fun s hs => ?_, fun k hk => ?_, ?_, ?_⟩
    · rw [e1.2]; exact h1 s hs
    · rw [e2.2]; exact h2 s hs
    · rw [e3.2]; exact h3 k hk
    · rw [e0.1]; exact h4
    · rw [e0.1]; exact h5
  have hle : ∀ {o : Nat} {f : Nat → Nat} {kn : Nat} {ps : Nat → Nat → Nat}, 3 ≤ o → o ≤ 96 → LeC μ (pl 0) o f kn ps → LeC μ2 (pl 0) o f kn ps := by
    intro o f kn ps ho ho2 hm
    obtain ⟨h1, h2, nx, hn, h3, h4⟩ := hm
    have e0 := h o (Or.inl ⟨by omega, by omega⟩)
    exact ⟨hmo (by omega) (by omega) h1, by rw [e0.1]; exact h2, nx, hn, by rw [e0.1]; exact h3, fun j hj => hmo (by omega) (by omega) (h4 j hj)⟩
  refine ⟨by rw [h0.1, h0.2.1]; exact ⟨a1, a2, a3⟩, ⟨hl, ht⟩, ?_, hle (by omega) (by omega) d1, fun e he => ?_, by rw [h0.2.2]; exact f1⟩
  · have hc := isPl_cases a1
    rw [h0.1]
    obtain ⟨h1, h2, h3, h4, h5, h6⟩ := c1
    have e0 := h (gpl μ) (by omega)
    have e1 := h (gpl μ + 1) (by omega)
    have e2 := h (gpl μ + 2) (by omega)
    have e3 := h (gpl μ + 3) (by omega)
    have e4 := h (gpl μ + 4) (by omega)
    have e5 := h (gpl μ + 5) (by omega)
    have e6 := h (gpl μ + 6) (by omega)
    have e7 := h (gpl μ + 7) (by omega)
    refine ⟨by rw [e0.1]; exact h1, by rw [e0.1]; exact h2, by rw [e0.1]; exact h3, by rw [e0.1]; exact h4, fun s hs => ?_, fun p hp => ?_⟩
    · rw [e1.2, e2.2, e3.2, e4.2]; exact h5 s hs
    · rw [e5.2, e6.2, e7.2]; exact h6 p hp
  · rw [(h 142 (by omega)).2]
    exact ⟨(e1 e he).1, fun hb => hle (by omega) (by omega) ((e1 e he).2 hb)⟩
theorem sp_clear : Sp_clear Inv := by
  intro c μ hc hI
  obtain ⟨tx, len, pl, f, kn, ps, b, gf, gk, gp, tr, h1, h2, h3⟩ := id hI
  refine ⟨nI len, si μ 1 1 0, si (si μ 1 1 0) 186 2 0, ?_, ?_, ?_⟩
  · unfold f_X8_clear f_X4_empty
    rw [h1.2.1.1]
    rfl
  · unfold f_X9_clear
    rw [stI_eq, Option.bind_some]
    simp only [gi_si]
    simp [h2.1.1]
  · refine ⟨tx, 0, pl, f, kn, ps, b, gf, gk, gp, tr, ?_, ?_, ?_⟩
    · refine InvC.same (SameC.si (by omega) (by omega)) (h1.text ⟨rfl, rfl, rfl⟩ (by simp [gi_si]; rfl) (fun i hi => absurd hi (by omega)) (fun k hk => ⟨?_, rfl⟩))
      funext i
      rw [gi_si, if_neg (fun e => by omega)]
    · have h4 := h2.same (SameM.si (μ := μ) (k := 1) (j := 1) (v := 0) (by omega))
      exact ⟨⟨by simp [gi_si]; rfl, fun i hi => absurd hi (by omega)⟩, h4.2⟩
    · have h5 := h3.up
      exact ⟨⟨by omega, fun i hi => absurd hi (by omega)⟩, h5.2⟩
theorem sp_type : Sp_type Inv := by
  intro c μ a hc hI
  obtain ⟨tx, len, pl, f, kn, ps, b, gf, gk, gp, tr, h1, h2, h3⟩ := id hI
  have hb8 : f_X8_type μ a = if ck a 256 then (f_X4_take μ a).bind fun z1 => if z1.1 = 0 then some (-3, z1.2) else some (gi z1.2 1 1, z1.2) else some (-1, μ) := by
    unfold f_X8_type
    rcases int_range a (n := 256) (by omega) with ⟨e1, e2⟩ | ⟨e1, e2, e3⟩ | ⟨j, e1, rfl, e3⟩
    · rw [if_pos e1, e2]; rfl
    · rw [if_neg e1, e3, if_neg]; rfl
      intro q
      exact absurd (Int32.le_trans e2 q) (by decide)
    · rw [if_neg (nI_pos (by omega)), e3, if_pos (show nI j ≤ 255 from nI_le (a := j) (b := 255) (by omega) (by omega))]; rfl
  have hb9 : f_X9_type μ a = if ck a 256 then (if gi μ 186 2 = 200 then some (-3, μ) else (stA μ 187 200 (gi μ 186 2) a).bind fun m2 => (stI m2 186 2 (gi m2 186 2 + 1)).bind fun m3 => some (gi m3 186 2, m3)) else some (-1, μ) := by
    unfold f_X9_type
    rw [in_eq (N := 256) (by omega) a 255 rfl (by decide), Option.bind_some]
    cases hck : ck a 256 with
    | true => rfl
    | false => rfl
  cases hck : ck a 256 with
  | false =>
    refine ⟨-1, μ, μ, ?_, ?_, hI.up⟩
    · rw [hb8, hck]; rfl
    · rw [hb9, hck]; rfl
  | true =>
    obtain ⟨j, hj, rfl⟩ := ck_nat hck (by omega)
    by_cases hl : len = 200
    · refine ⟨-3, μ, μ, ?_, ?_, hI.up⟩
      · rw [hb8, hck, if_pos rfl]
        unfold f_X4_take
        rw [h1.2.1.1, if_neg (show ¬ nI len < 200 from nI_nlt (a := len) (b := 200) (by omega) (by omega))]
        rfl
      · rw [hb9, hck, if_pos rfl, h2.1.1, hl]
        rfl
    · have hl2 : len < 200 := by have := h3.1.1; omega
      refine ⟨nI (len + 1), si (sA μ 2 (upd (ga μ 2) len (nI j))) 1 1 (nI (len + 1)), si (sA (si (sA μ 2 (upd (ga μ 2) len (nI j))) 1 1 (nI (len + 1))) 187 (upd (ga μ 187) len (nI j))) 186 2 (nI (len + 1)), ?_, ?_, ?_⟩
      · rw [hb8, hck, if_pos rfl]
        unfold f_X4_take
        rw [h1.2.1.1, if_pos (show nI len < 200 from nI_lt (a := len) (b := 200) hl2 (by omega)), stA_nI hl2 (by omega), Option.bind_some, gi_sA, h1.2.1.1, nI_1, stI_eq, Option.bind_some, Option.bind_some]
        show some (gi (si (sA μ 2 (upd (ga μ 2) len (nI j))) 1 1 (nI (len + 1))) 1 1, _) = _
        rw [gi_si, if_pos ⟨rfl, rfl⟩]
      · have h4 := h2.same ((SameM.sA (μ := μ) (k := 2) (f := upd (ga μ 2) len (nI j)) (by omega)).tr (SameM.si (k := 1) (j := 1) (v := nI (len + 1)) (by omega)))
        generalize hm : si (sA μ 2 (upd (ga μ 2) len (nI j))) 1 1 (nI (len + 1)) = m at h4
        have e187 : ga m 187 = ga μ 187 := by rw [← hm, ga_si, ga_sA]; rfl
        unfold f_X9_type
        rw [in_eq (N := 256) (by omega) _ 255 rfl (by decide), Option.bind_some, hck, if_neg (by decide), h4.1.1, if_neg (show ¬ nI len = 200 from fun q => hl ((nI_eq (b := 200) (by omega) (by omega)).mp q)), stA_nI hl2 (by omega), Option.bind_some, gi_sA, h4.1.1, nI_1, stI_eq, Option.bind_some, gi_si, if_pos ⟨rfl, rfl⟩, e187]
      · refine ⟨fun i => if i = len then j else tx i, len + 1, pl, f, kn, ps, b, gf, gk, gp, tr, ?_, ?_, ?_⟩
        · refine InvC.same ((SameC.sA (k := 187) (by omega) (by omega)).tr (SameC.si (by omega) (by omega))) (h1.text ⟨rfl, rfl, rfl⟩ (by rw [gi_si, if_pos ⟨rfl, rfl⟩]) (fun i hi => ?_) (fun k hk => ⟨?_, ?_⟩))
          · rw [ga_si, ga_sA, if_pos rfl, upd_at]
            by_cases e : i = len
            · rw [if_pos e]; show nI j = nI (if i = len then j else tx i); rw [if_pos e]
            · rw [if_neg e]; show ga μ 2 i = nI (if i = len then j else tx i); rw [if_neg e]; exact h1.2.1.2 i (by omega)
          · funext i
            rw [gi_si, if_neg (fun e => by omega), gi_sA]
          · rw [ga_si, ga_sA, if_neg (by omega)]
        · have h4 := h2.same ((SameM.sA (μ := μ) (k := 2) (f := upd (ga μ 2) len (nI j)) (by omega)).tr (SameM.si (k := 1) (j := 1) (v := nI (len + 1)) (by omega)))
          refine ⟨⟨by rw [gi_si, if_pos ⟨rfl, rfl⟩], fun i hi => ?_⟩, ?_⟩
          · rw [ga_si, ga_sA, if_pos rfl, upd_at]
            by_cases e : i = len
            · rw [if_pos e]; show nI j = nI (if i = len then j else tx i); rw [if_pos e]
            · rw [if_neg e]; show ga μ 187 i = nI (if i = len then j else tx i); rw [if_neg e]; exact h2.1.2 i (by omega)
          · have h5 := h4.2
            refine ⟨fun k hk => ?_, ?_, ?_, h5.2.2.2⟩
            · exact h5.1 k hk
            · exact h5.2.1
            · exact h5.2.2.1
        · have h5 := h3.up
          refine ⟨⟨by omega, fun i hi => ?_⟩, h5.2⟩
          show (if i = len then j else tx i) ≤ 255
          by_cases e : i = len
          · rw [if_pos e]; omega
          · rw [if_neg e]; exact h3.1.2 i (by omega)
theorem sp_stair : Sp_stair Inv := by
  intro c μ a1 a2 hc hI
  obtain ⟨tx, len, pl, f, kn, ps, b, gf, gk, gp, tr, h1, h2, h3⟩ := id hI
  have hq := h1.1.1
  have hns := h3.2.1.1
  suffices h : ∃ r, f_X8_stair μ a1 a2 = some r ∧ f_X9_stair μ a1 a2 = some r by
    obtain ⟨r, e1, e2⟩ := h
    exact ⟨r, μ, μ, ⟨e1, rfl⟩, ⟨e2, rfl⟩, hI.up⟩
  unfold f_X8_stair f_X9_stair
  simp only [rfG_eq hq, Option.bind_some, hasStair_eq h1.2.2.1.1 hns a1, isStair_eq h2.2.1 hns a1]
  cases hck : ck a1 (pl 0) with
  | false => exact ⟨-1, rfl, rfl⟩
  | true =>
    obtain ⟨j, hj, rfl⟩ := ck_nat hck (by omega)
    obtain ⟨p1, p2, p3, p4⟩ := h1.2.2.1.2.2.2.2.1 j hj
    have hM := h2.2.1
    have hS := h2.2.2.1.1
    have hC := h1.2.2.2.1.1
    rw [if_neg (show ¬ bi true = 0 by decide), if_neg (show ¬ bi true = 0 by decide)]
    have i6 : (6 : Int32) + nI j = nI (6 + j) := nI_add 6 j
    have i13 : (13 : Int32) + nI j = nI (13 + j) := nI_add 13 j
    have i20 : (20 : Int32) + nI j = nI (20 + j) := nI_add 20 j
    have i27 : (27 : Int32) + nI j = nI (27 + j) := nI_add 27 j
    have i7 : (7 : Int32) + nI j = nI (7 + j) := nI_add 7 j
    have s0 := hS j (by omega)
    have s7 := hS (7 + j) (by omega)
    rw [Nat.zero_add] at s0 s7
    simp (disch := omega) only [f_X8_priceOf, f_X9_price, i6, i13, i20, i27, i7, ldA_nI, Option.bind_some, rfG_eq hq, p1, p2, p3, p4, hM _ (show 6 + j < 49 by omega), hM _ (show 13 + j < 49 by omega), hM _ (show 20 + j < 49 by omega), hM _ (show 27 + j < 49 by omega), s0, s7, hC.1 j hj, hC.2.1 j hj]
    split
    · exact ⟨_, rfl, rfl⟩
    · split
      · exact ⟨_, rfl, rfl⟩
      · split
        · exact ⟨_, rfl, rfl⟩
        · split
          · exact ⟨_, rfl, rfl⟩
          · split
            · exact ⟨_, rfl, rfl⟩
            · split
              · exact ⟨_, rfl, rfl⟩
              · split
                · unfold mxI
                  split
                  · next h => rw [if_pos (Int32.le_of_lt h)]; exact ⟨_, rfl, rfl⟩
                  · next h =>
                    split
                    · next h2 =>
                      have := Int32.le_antisymm (Int32.not_lt.mp h) h2
                      rw [this]
                      exact ⟨_, rfl, rfl⟩
                    · exact ⟨_, rfl, rfl⟩
                · exact ⟨_, rfl, rfl⟩

/-! the beginning: an empty text is read -/
theorem init_ok : ∃ (z1 : Int32 × Mem) (μ2 : Mem), f_X9_reads gM0 = some z1 ∧ f_X9_tells z1.2 = some μ2 ∧ Inv 0 μ2 := by
  obtain ⟨w0, g1, g2, g3, g4⟩ := reads_pre (m9 := gM0)
  have T1 : Tx1 gM0 (fun _ => 0) 0 := ⟨rfl, fun i hi => by omega⟩
  have T9 : Tx9 gM0 (fun _ => 0) 0 := ⟨rfl, fun i hi => by omega⟩
  obtain ⟨s, k, e, c, r, z, z9, y1, y9, ⟨a1, a2, a3, a4, a5⟩, ⟨b1, b2, b3, b4, b5⟩, c1, c2, c3, c4, c5, c6⟩ := tok_ex (m := gM0) (m9 := w0) (tx := fun _ => 0) (len := 0) (p := 0) T1 (g1.tx T9) (by omega) (fun i hi => by omega) rfl g2 (by omega)
  have k0 : k = 0 := by
    by_cases h : k = 0
    · exact h
    · have := c5 h; omega
  have D := g1.tr b1.d9
  have hd : ∀ k, k < 49 → ga z9 189 k = nI (dr0 k) := fun k hk => by rw [ga_of b1.1]; exact g3 k hk
  obtain ⟨m3, t1, t2, t3, t4, t5⟩ := tells_ok hd (by decide)
  refine ⟨(1, z9), m3, ?_, t1, ?_⟩
  · rw [g4, y9, Option.bind_some, iter_done (e := .inr (.inr z9)) (by unfold f_X9_reads_b44; rw [b3, if_pos (by rw [k0]; rfl)]), Option.bind_some]
    rfl
  · have F : Fr (fun k => 186 ≤ k) gM0 m3 := (D.1.mono (fun k hk => by omega)).tr (t2.mono (fun k hk => by omega))
    have G : ∀ k, k < 186 → ga m3 k = fun _ => 0 := fun k hk => (F.2.2.2 k (by omega)).2
    have I : ∀ k, k < 186 → gi m3 k = gi gM0 k := fun k hk => (F.2.2.2 k (by omega)).1
    have hgp : gpl m3 = 170 := F.1
    have hgd : gdr m3 = 178 := F.2.1
    refine told_inv (q := 0) (dr := dr0) (by rw [hgp, hgd]; decide) ?_ (by rw [hgp]; exact ⟨by rw [I 170 (by omega)]; rfl, by rw [I 170 (by omega)]; rfl, by rw [I 170 (by omega)]; rfl, by rw [I 170 (by omega)]; rfl, fun s hs => absurd hs (Nat.not_lt_zero _), fun s hs => absurd hs (Nat.not_lt_zero _)⟩) dr0_ok (fun k hk => absurd hk (Nat.not_lt_zero _)) (fun k hk => ?_) (fun k hk => ?_) ?_ ?_ ?_ ?_ (fun e he => ?_) ?_ t3 t4 t5 ?_ ?_
    · rw [I 1 (by omega)]; rfl
    · rw [G 6 (by omega)]; rfl
    · rw [G 7 (by omega)]; rfl
    · rw [I 4 (by omega)]; rfl
    · rw [I 4 (by omega)]; rfl
    · rw [I 3 (by omega)]; rfl
    · rw [I 3 (by omega)]; rfl
    · rw [G 142 (by omega)]; rfl
    · rw [(t2.2.2.2 186 (by omega)).1, D.2 2 (by omega)]; rfl
    · rw [F.2.2.1, F.2.2.1]; rfl
    · rw [(t2.2.2.2 196 (by omega)).2, (D.1.2.2.2 196 (by omega)).2]; rfl

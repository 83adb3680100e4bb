theorem gNest_in : ∀ q ∈ gNest, Cond.methodLinkNest q.1 q.2.1 q.2.2.1 q.2.2.2 ∈ lw_tbl := by decide +kernel
theorem ao_mo : Cond.arrayOver (.object "OwedFalls$Moment") ∈ lw_tbl := List.mem_append_right _ (List.mem_of_getElem? (i := 85) (by decide +kernel))
theorem ao_le : Cond.arrayOver (.object "OwedFalls$Ledger") ∈ lw_tbl := List.mem_append_right _ (List.mem_of_getElem? (i := 101) (by decide +kernel))
theorem ao_ii : Cond.arrayOver (.array .int) ∈ lw_tbl := List.mem_append_right _ (List.mem_of_getElem? (i := 120) (by decide +kernel))
set_option maxRecDepth 100000 in
set_option maxHeartbeats 4000000 in
theorem law_start {l : Launch} {D : va_G} {cy : Nat → ClassId} {base b L : Nat} {xs : Nat → Int32} {Inv : Nat → Mem → Prop} {z1 : Int32 × Mem} {μ2 : Mem} (hL : L ≤ 2560) (hI : LawOK Inv) (hr : f_X9_reads gM0 = some z1) (ht : f_X9_tells z1.2 = some μ2) (h0 : Inv 0 μ2) : G l D cy base RL code 4 (some .boolean) room_1 (lX base b L xs) lZ 0 [(0, .ref b)] [] 0 0 0 (gH cy base gM0) := by
  refine g_new (ci := 8) (N := 11) (ty := tyX8) (fs := [.null, .null, .null, .null, .null, .null, .null, .null, .null, .null, .long 0]) (by decide) cw_RL_7 iw_X8 nw_X8 rfl jnX8 tyX8_ok dfX8 (by decide) (by decide) dL_law_0 ?_
  refine g_dup dL_law_3 rfl ?_
  refine g_callI (rt := none) (As := []) (st := [.ref (base + 0)]) (kr := 0) k_X8_init cl_RL_9 sv_X8_init rfl rfl rfl ⟨by decide, by decide⟩ (Nat.le_of_ble_eq_true rfl) ⟨by decide, by decide⟩ rfl dL_law_4 rfl ?_
  refine g_astore_n (lvx := [(1, .ref (base + 0)), (0, .ref b)]) dL_law_7 rfl (by decide) rfl ?_
  refine g_new (ci := 9) (N := 18) (ty := tyX9) (fs := [.long 0, .null, .int 0, .null, .null, .null, .null, .null, .int 0, .int 0, .int 0, .int 0, .null, .null, .null, .null, .null, .null]) (by decide) cw_RL_10 iw_X9 nw_X9 rfl jnX9 tyX9_ok dfX9 (by decide) (by decide) dL_law_8 ?_
  refine g_dup dL_law_11 rfl ?_
  refine g_callI (rt := none) (As := []) (st := [.ref (base + 186)]) (kr := 186) (k_X9_init hr ht) cl_RL_12 sv_X9_init rfl rfl rfl ⟨by decide, by decide⟩ (Nat.le_of_ble_eq_true rfl) ⟨by decide, by decide⟩ rfl dL_law_12 rfl ?_
  refine g_astore_n (lvx := [(2, .ref (base + 186)), (1, .ref (base + 0)), (0, .ref b)]) dL_law_15 rfl (by decide) rfl ?_
  refine g_iconst (v := 0) dL_law_16 (by decide) ?_
  refine g_istore_n (lvx := [(3, .int 0), (2, .ref (base + 186)), (1, .ref (base + 0)), (0, .ref b)]) dL_law_17 rfl (by decide) rfl ?_
  refine g_sub (lvx := [(0, .ref b), (1, .ref (base + 0)), (2, .ref (base + 186)), (3, .int (nI 0))]) [3, 2, 1, 0] rfl ?_
  exact law_loop hI hL (L + 1) 0 0 μ2 rfl (Nat.zero_le _) (by omega) h0
set_option maxRecDepth 100000 in
set_option maxHeartbeats 4000000 in
theorem whole_open {p : Program} {e : Env} {s : State} {m : MethodId} {below : List Frame} {meth : Method} {c : Code} (l : Launch) {b L : Nat} {xs : Nat → Int32} {Inv : Nat → Mem → Prop} {z1 : Int32 × Mem} {μ2 : Mem} (hL : L ≤ 2560) (hI : LawOK Inv) (hr : f_X9_reads gM0 = some z1) (ht : f_X9_tells z1.2 = some μ2) (h0 : Inv 0 μ2) (C0 : lw_At p s m meth c b L xs) : W p l e room_1 s m #[Value.ref b] below meth c s.heap [] 0 0 (lw_Z below #[Value.ref b] s) (entryFrame m ([Value.ref b] : List Value).toArray 4) := by
  obtain ⟨hx, hb, hret, hml, hown, hts, hX, hbl, hlocks, hgv⟩ := id C0
  obtain ⟨c0, iS0, hKn0⟩ := u_known (C := RX0) (T := TX0) (N := 4) (n := 4) hts inX0 (hts (.instantiable RX0 4) (List.mem_filter.mp iw_X0).1)
  obtain ⟨c1, iS1, hKn1⟩ := u_known (C := RX1) (T := TX1) (N := 5) (n := 5) hts inX1 (hts (.instantiable RX1 5) (List.mem_filter.mp iw_X1).1)
  obtain ⟨c2, iS2, hKn2⟩ := u_known (C := RX2) (T := TX2) (N := 4) (n := 4) hts inX2 (hts (.instantiable RX2 4) (List.mem_filter.mp iw_X2).1)
  obtain ⟨c3, iS3, hKn3⟩ := u_known (C := RX3) (T := TX3) (N := 13) (n := 13) hts inX3 (hts (.instantiable RX3 13) (List.mem_filter.mp iw_X3).1)
  obtain ⟨c4, iS4, hKn4⟩ := u_known (C := RX4) (T := TX4) (N := 6) (n := 6) hts inX4 (hts (.instantiable RX4 6) (List.mem_filter.mp iw_X4).1)
  obtain ⟨c5, iS5, hKn5⟩ := u_known (C := RX5) (T := TX5) (N := 5) (n := 5) hts inX5 (hts (.instantiable RX5 5) (List.mem_filter.mp iw_X5).1)
  obtain ⟨c6, iS6, hKn6⟩ := u_known (C := RX6) (T := TX6) (N := 4) (n := 4) hts inX6 (hts (.instantiable RX6 4) (List.mem_filter.mp iw_X6).1)
  obtain ⟨c7, iS7, hKn7⟩ := u_known (C := RX7) (T := TX7) (N := 1) (n := 1) hts inX7 (hts (.instantiable RX7 1) (List.mem_filter.mp iw_X7).1)
  obtain ⟨c8, iS8, hKn8⟩ := u_known (C := RX8) (T := TX8) (N := 11) (n := 11) hts inX8 (hts (.instantiable RX8 11) (List.mem_filter.mp iw_X8).1)
  obtain ⟨c9, iS9, hKn9⟩ := u_known (C := RX9) (T := TX9) (N := 18) (n := 18) hts inX9 (hts (.instantiable RX9 18) (List.mem_filter.mp iw_X9).1)
  obtain ⟨dC, dI, hKc⟩ : ∃ (dC : Nat → ClassId) (dI : Nat → Nat → Nat), ∀ (k : Nat) (q : vw_C), vwCl[k]? = some q → u_Kn s q.1 q.2.1 q.2.2 (dC k) (dI k) := by
    refine ⟨fun k => if k = 0 then c0 else if k = 1 then c1 else if k = 2 then c2 else if k = 3 then c3 else if k = 4 then c4 else if k = 5 then c5 else if k = 6 then c6 else if k = 7 then c7 else if k = 8 then c8 else c9, fun k => if k = 0 then iS0 else if k = 1 then iS1 else if k = 2 then iS2 else if k = 3 then iS3 else if k = 4 then iS4 else if k = 5 then iS5 else if k = 6 then iS6 else if k = 7 then iS7 else if k = 8 then iS8 else iS9, ?_⟩
    intro k q hq
    match k, hq with
    | 0, hq => cases hq; exact hKn0
    | 1, hq => cases hq; exact hKn1
    | 2, hq => cases hq; exact hKn2
    | 3, hq => cases hq; exact hKn3
    | 4, hq => cases hq; exact hKn4
    | 5, hq => cases hq; exact hKn5
    | 6, hq => cases hq; exact hKn6
    | 7, hq => cases hq; exact hKn7
    | 8, hq => cases hq; exact hKn8
    | 9, hq => cases hq; exact hKn9
    | k + 10, hq => simp [vwCl] at hq
  obtain ⟨y0, k0, p0, a01, a02, a03⟩ := Cond.arrayClass_spec (hts (.arrayClass .int) (List.mem_filter.mp ac_int).1)
  obtain ⟨y1, k1, p1, a11, a12, a13⟩ := Cond.arrayClass_spec (hts (.arrayClass .boolean) (List.mem_filter.mp ac_boolean).1)
  obtain ⟨p2, y2, k2, a21, -, a22, a23, a24⟩ := Cond.arrayOver_spec (hts (.arrayOver (.object "OwedFalls$Ledger")) ao_le)
  obtain ⟨p3, y3, k3, a31, -, a32, a33, a34⟩ := Cond.arrayOver_spec (hts (.arrayOver (.object "OwedFalls$Moment")) ao_mo)
  obtain ⟨p4, y4, k4, a41, -, a42, a43, a44⟩ := Jvm.Stand.arrayOver_specB (hts (.arrayOver (.array .int)) ao_ii)
  obtain ⟨cy, hcy⟩ : ∃ cy : Nat → ClassId, cy 0 = y0 ∧ cy 1 = y1 ∧ cy 2 = y2 ∧ cy 3 = y3 ∧ cy 4 = y4 := ⟨fun k => if k = 0 then y0 else if k = 1 then y1 else if k = 2 then y2 else if k = 3 then y3 else y4, rfl, rfl, rfl, rfl, rfl⟩
  obtain ⟨rfl, rfl, rfl, rfl, rfl⟩ := hcy
  have hK : va_K (dC, dI) vwCl (gT cy) s := by
    refine ⟨hKc, fun k q hq => ?_⟩
    match k, hq with
    | 0, hq => cases hq; exact ⟨fun n z => ⟨fun q h => (by cases h), k0, a02, p0, a03⟩, a01⟩
    | 1, hq => cases hq; exact ⟨fun n z => ⟨fun q h => (by cases h), k1, a12, p1, a13⟩, a11⟩
    | 2, hq => cases hq; exact ⟨fun n z => ⟨fun q h => (by cases h), k2, a22, p2, a23⟩, k2, p2, a22, a23, a21, a24⟩
    | 3, hq => cases hq; exact ⟨fun n z => ⟨fun q h => (by cases h), k3, a32, p3, a33⟩, k3, p3, a32, a33, a31, a34⟩
    | 4, hq => cases hq; exact ⟨fun n z => ⟨fun q h => (by cases h), k4, a42, p4, a43⟩, a44⟩
    | k + 5, hq => simp [gT] at hq
  have hBd : gBd s := ⟨fun q hq => va_Nw.of rfl (hts _ (gNest_in q hq)), va_AO.of (hts _ ao_mo), va_AO.of (hts _ ao_le), hts _ ao_ii⟩
  have hl := lv_entry ([.ref b]) (n := 4) (Nat.le_of_ble_eq_true rfl)
  rw [lg_entry_eq]
  have K : G l (dC, dI) cy s.heap.size RL code 4 (some .boolean) room_1 (lX s.heap.size b L xs) lZ 0 [(0, .ref b)] [] 0 0 0 (gH cy s.heap.size gM0) := law_start hL hI hr ht h0
  exact K p e s m #[Value.ref b] below meth c s.heap [] _ ⟨⟨hx, hb, hret, hml, hown, fun w hw => hts w (List.mem_filter.mp hw).1, hlocks⟩, ⟨hK, Nat.le_refl _, ⟨rfl, hX, hbl, rfl⟩, hBd⟩, Or.inr rfl, fun k q h => by simp [gW] at h, va_S.rf, hl⟩

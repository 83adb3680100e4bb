def Sp_type (Inv : Nat → Mem → Prop) : Prop := ∀ (c : Nat) (μ : Mem) (a1 : Int32) (_ : c < 512) (_ : Inv c μ), ∃ (r : Int32) (μ1 μ2 : Mem), (f_X8_type μ a1 = some (r, μ1)) ∧ (f_X9_type μ1 a1 = some (r, μ2)) ∧ Inv (c + 1) μ2
def Sp_clear (Inv : Nat → Mem → Prop) : Prop := ∀ (c : Nat) (μ : Mem) (_ : c < 512) (_ : Inv c μ), ∃ (r : Int32) (μ1 μ2 : Mem), (f_X8_clear μ  = some (r, μ1)) ∧ (f_X9_clear μ1  = some (r, μ2)) ∧ Inv (c + 1) μ2
def Sp_house (Inv : Nat → Mem → Prop) : Prop := ∀ (c : Nat) (μ : Mem) (_ : c < 512) (_ : Inv c μ), ∃ (r : Int32) (μ1 μ2 : Mem), (f_X8_house μ  = some (r, μ1)) ∧ (f_X9_house μ1  = some (r, μ2)) ∧ Inv (c + 1) μ2
def Sp_stair (Inv : Nat → Mem → Prop) : Prop := ∀ (c : Nat) (μ : Mem) (a1 a2 : Int32) (_ : c < 512) (_ : Inv c μ), ∃ (r : Int32) (μ1 μ2 : Mem), (f_X8_stair μ a1 a2 = some r ∧ μ1 = μ) ∧ (f_X9_stair μ1 a1 a2 = some r ∧ μ2 = μ1) ∧ Inv (c + 1) μ2
def Sp_person (Inv : Nat → Mem → Prop) : Prop := ∀ (c : Nat) (μ : Mem) (a1 a2 : Int32) (_ : c < 512) (_ : Inv c μ), ∃ (r : Int32) (μ1 μ2 : Mem), (f_X8_person μ a1 a2 = some r ∧ μ1 = μ) ∧ (f_X9_person μ1 a1 a2 = some r ∧ μ2 = μ1) ∧ Inv (c + 1) μ2
def Sp_bond (Inv : Nat → Mem → Prop) : Prop := ∀ (c : Nat) (μ : Mem) (a1 a2 : Int32) (_ : c < 512) (_ : Inv c μ), ∃ (r : Int32) (μ1 μ2 : Mem), (f_X8_bond μ a1 a2 = some r ∧ μ1 = μ) ∧ (f_X9_bond μ1 a1 a2 = some r ∧ μ2 = μ1) ∧ Inv (c + 1) μ2
def Sp_falls (Inv : Nat → Mem → Prop) : Prop := ∀ (c : Nat) (μ : Mem) (a1 a2 : Int32) (_ : c < 512) (_ : Inv c μ), ∃ (r : Int32) (μ1 μ2 : Mem), (f_X8_falls μ a1 a2 = some (r, μ1)) ∧ (f_X9_falls μ1 a1 a2 = some (r, μ2)) ∧ Inv (c + 1) μ2
def Sp_together (Inv : Nat → Mem → Prop) : Prop := ∀ (c : Nat) (μ : Mem) (a1 a2 a3 : Int32) (_ : c < 512) (_ : Inv c μ), ∃ (r : Int32) (μ1 μ2 : Mem), (f_X8_together μ a1 a2 a3 = some (r, μ1)) ∧ (f_X9_together μ1 a1 a2 a3 = some (r, μ2)) ∧ Inv (c + 1) μ2
def Sp_throwsDoll (Inv : Nat → Mem → Prop) : Prop := ∀ (c : Nat) (μ : Mem) (a1 : Int32) (_ : c < 512) (_ : Inv c μ), ∃ (r : Int32) (μ1 μ2 : Mem), (f_X8_throwsDoll μ a1 = some (r, μ1)) ∧ (f_X9_throwsDoll μ1 a1 = some (r, μ2)) ∧ Inv (c + 1) μ2
def Sp_sells (Inv : Nat → Mem → Prop) : Prop := ∀ (c : Nat) (μ : Mem) (a1 a2 a3 : Int32) (_ : c < 512) (_ : Inv c μ), ∃ (r : Int32) (μ1 μ2 : Mem), (f_X8_sells μ a1 a2 a3 = some (r, μ1)) ∧ (f_X9_sells μ1 a1 a2 a3 = some (r, μ2)) ∧ Inv (c + 1) μ2
def Sp_redeems (Inv : Nat → Mem → Prop) : Prop := ∀ (c : Nat) (μ : Mem) (a1 : Int32) (_ : c < 512) (_ : Inv c μ), ∃ (r : Int32) (μ1 μ2 : Mem), (f_X8_redeems μ a1 = some (r, μ1)) ∧ (f_X9_redeems μ1 a1 = some (r, μ2)) ∧ Inv (c + 1) μ2
def Sp_ends (Inv : Nat → Mem → Prop) : Prop := ∀ (c : Nat) (μ : Mem) (_ : c < 512) (_ : Inv c μ), ∃ (r : Int32) (μ1 μ2 : Mem), (f_X8_ends μ  = some (r, μ1)) ∧ (f_X9_ends μ1  = some (r, μ2)) ∧ Inv (c + 1) μ2
def Sp_undo (Inv : Nat → Mem → Prop) : Prop := ∀ (c : Nat) (μ : Mem) (_ : c < 512) (_ : Inv c μ), ∃ (r : Int32) (μ1 μ2 : Mem), (f_X8_undo μ  = some (r, μ1)) ∧ (f_X9_undo μ1  = some (r, μ2)) ∧ Inv (c + 1) μ2
def Sp_now (Inv : Nat → Mem → Prop) : Prop := ∀ (c : Nat) (μ : Mem) (a1 : Int32) (_ : c < 512) (_ : Inv c μ), ∃ (r : Int32) (μ1 μ2 : Mem), (f_X8_now μ a1 = some (r, μ1)) ∧ (f_X9_now μ1 a1 = some (r, μ2)) ∧ Inv (c + 1) μ2
def Sp_surest (Inv : Nat → Mem → Prop) : Prop := ∀ (c : Nat) (μ : Mem) (a1 a2 a3 : Int32) (_ : c < 512) (_ : Inv c μ), ∃ (r : Int32) (μ1 μ2 : Mem), (f_X8_surest μ a1 a2 a3 = some (r, μ1)) ∧ (f_X9_surest μ1 a1 a2 a3 = some (r, μ2)) ∧ Inv (c + 1) μ2
def Sp_bars (Inv : Nat → Mem → Prop) : Prop := ∀ (c : Nat) (μ : Mem) (a1 a2 : Int32) (_ : c < 512) (_ : Inv c μ), ∃ (r : Int32) (μ1 μ2 : Mem), (f_X8_bars μ a1 a2 = some (r, μ1)) ∧ (f_X9_bars μ1 a1 a2 = some r ∧ μ2 = μ1) ∧ Inv (c + 1) μ2
def Sp_paid (Inv : Nat → Mem → Prop) : Prop := ∀ (c : Nat) (μ : Mem) (a1 a2 : Int32) (_ : c < 512) (_ : Inv c μ), ∃ (r : Int32) (μ1 μ2 : Mem), (f_X8_paid μ a1 a2 = some (r, μ1)) ∧ (f_X9_paid μ1 a1 a2 = some (r, μ2)) ∧ Inv (c + 1) μ2
def Sp_coins (Inv : Nat → Mem → Prop) : Prop := ∀ (c : Nat) (μ : Mem) (a1 a2 : Int32) (_ : c < 512) (_ : Inv c μ), ∃ (r : Int32) (μ1 μ2 : Mem), (f_X8_coins μ a1 a2 = some (r, μ1)) ∧ (f_X9_coins μ1 a1 a2 = some (r, μ2)) ∧ Inv (c + 1) μ2
def Sp_free (Inv : Nat → Mem → Prop) : Prop := ∀ (c : Nat) (μ : Mem) (a1 a2 : Int32) (_ : c < 512) (_ : Inv c μ), ∃ (r : Int32) (μ1 μ2 : Mem), (f_X8_free μ a1 a2 = some r ∧ μ1 = μ) ∧ (f_X9_free μ1 a1 a2 = some r ∧ μ2 = μ1) ∧ Inv (c + 1) μ2
def Sp_who (Inv : Nat → Mem → Prop) : Prop := ∀ (c : Nat) (μ : Mem) (a1 a2 a3 a4 : Int32) (_ : c < 512) (_ : Inv c μ), ∃ (r : Int32) (μ1 μ2 : Mem), (f_X8_who μ a1 a2 a3 a4 = some (r, μ1)) ∧ (f_X9_who μ1 a1 a2 a3 a4 = some r ∧ μ2 = μ1) ∧ Inv (c + 1) μ2
def Sp_odds (Inv : Nat → Mem → Prop) : Prop := ∀ (c : Nat) (μ : Mem) (a1 a2 : Int32) (_ : c < 512) (_ : Inv c μ), ∃ (r : Int32) (μ1 μ2 : Mem), (f_X8_odds μ a1 a2 = some (r, μ1)) ∧ (f_X9_odds μ1 a1 a2 = some r ∧ μ2 = μ1) ∧ Inv (c + 1) μ2
def Sp_mark (Inv : Nat → Mem → Prop) : Prop := ∀ (c : Nat) (μ : Mem) (a1 a2 : Int32) (_ : c < 512) (_ : Inv c μ), ∃ (r : Int32) (μ1 μ2 : Mem), (f_X8_mark μ a1 a2 = some (r, μ1)) ∧ (f_X9_mark μ1 a1 a2 = some (r, μ2)) ∧ Inv (c + 1) μ2
def Sp_keep (Inv : Nat → Mem → Prop) : Prop := ∀ (c : Nat) (μ : Mem) (a1 : Int32) (_ : c < 512) (_ : Inv c μ), ∃ (r : Int32) (μ1 μ2 : Mem), (f_X8_keep μ a1 = some (r, μ1)) ∧ (f_X9_keep μ1 a1 = some (r, μ2)) ∧ Inv (c + 1) μ2
def Sp_back (Inv : Nat → Mem → Prop) : Prop := ∀ (c : Nat) (μ : Mem) (a1 : Int32) (_ : c < 512) (_ : Inv c μ), ∃ (r : Int32) (μ1 μ2 : Mem), (f_X8_back μ a1 = some (r, μ1)) ∧ (f_X9_back μ1 a1 = some (r, μ2)) ∧ Inv (c + 1) μ2
def Sp_count (Inv : Nat → Mem → Prop) : Prop := ∀ (c : Nat) (μ : Mem) (a1 : Int32) (_ : c < 512) (_ : Inv c μ), ∃ (r : Int32) (μ1 μ2 : Mem), (f_X8_count μ a1 = some r ∧ μ1 = μ) ∧ (f_X9_count μ1 a1 = some r ∧ μ2 = μ1) ∧ Inv (c + 1) μ2
def Sp_trace (Inv : Nat → Mem → Prop) : Prop := ∀ (c : Nat) (μ : Mem) (_ : c < 512) (_ : Inv c μ), ∃ (r : Int64) (μ1 μ2 : Mem), (f_X8_trace μ  = some r ∧ μ1 = μ) ∧ (f_X9_trace μ1  = some r ∧ μ2 = μ1) ∧ Inv (c + 1) μ2
/-- what the pure functions must say: an invariant that holds of the start, and that each call keeps, answering alike -/
def LawOK (Inv : Nat → Mem → Prop) : Prop := Sp_type Inv ∧ Sp_clear Inv ∧ Sp_house Inv ∧ Sp_stair Inv ∧ Sp_person Inv ∧ Sp_bond Inv ∧ Sp_falls Inv ∧ Sp_together Inv ∧ Sp_throwsDoll Inv ∧ Sp_sells Inv ∧ Sp_redeems Inv ∧ Sp_ends Inv ∧ Sp_undo Inv ∧ Sp_now Inv ∧ Sp_surest Inv ∧ Sp_bars Inv ∧ Sp_paid Inv ∧ Sp_coins Inv ∧ Sp_free Inv ∧ Sp_who Inv ∧ Sp_odds Inv ∧ Sp_mark Inv ∧ Sp_keep Inv ∧ Sp_back Inv ∧ Sp_count Inv ∧ Sp_trace Inv ∧ (∀ c μ, Inv c μ → Inv (c + 1) μ)
theorem law_in {L i : Nat} (hL : L ≤ 2560) (hi : i ≤ L) (hc : ¬ Int32.ofNat L - 5 < nI i) : i + 5 ≤ L := by
  have h1 : (nI L - nI 5).toInt = (L : Int) - 5 := pk_sub_toInt (by omega) (by omega)
  have h2 : (nI i).toInt = (i : Int) := nI_toInt (by omega)
  have h3 : ¬ (nI L - nI 5) < nI i := hc
  rw [Int32.lt_iff_toInt_lt, h1, h2] at h3
  omega
theorem law_ix {L i t : Nat} (hi : i + 5 ≤ L) (hL : L ≤ 2560) (ht : t < 5) : vp_in (nI i + nI t) L := by
  rw [nI_add]
  exact vp_in_nI (by omega) (by omega)
def lX (base b L : Nat) (xs : Nat → Int32) : gX := fun s args _ => args = #[.ref b] ∧ va_X b L xs s s.heap ∧ b < s.heap.size ∧ s.heap.size = base
def lZ : gZ := fun below args s => lw_Z below args s
section GLaw
variable {l : Launch} {D : va_G} {cy : Nat → ClassId} {base : Nat} {own : String} {cc : ByteArray} {nL : Nat} {ret : Option FieldType} {R : Room} {Z : gZ} {pc : Nat} {lv : List (Nat × Value)} {st : List Value} {cells slots n : Nat} {h : Nat → va_E} {b L : Nat} {xs : Nat → Int32}
theorem gl_sld {i : Int32} (hin : vp_in i L) (hdg : decode cc pc = .ok (.iaload, 1)) (k : G l D cy base own cc nL ret R (lX base b L xs) Z (pc + 1) lv (.int (xs i.toNatClampNeg) :: st) cells slots n h) : G l D cy base own cc nL ret R (lX base b L xs) Z pc lv (.int i :: .ref b :: st) cells slots n h := by
  intro p e s m args below meth c H locs ls C
  obtain ⟨ha, hX, hb, hs⟩ := C.2.1.2.2.1
  exact va_sld C.1.1 C.1.2.1 hX hb (by unfold gA; omega) C.2.2.2.2.1 hin hdg (k p e s m args below meth c H locs ls C)
theorem gl_slen (hdg : decode cc pc = .ok (.arraylength, 1)) (k : G l D cy base own cc nL ret R (lX base b L xs) Z (pc + 1) lv (.int (Int32.ofNat L) :: st) cells slots n h) : G l D cy base own cc nL ret R (lX base b L xs) Z pc lv (.ref b :: st) cells slots n h := by
  intro p e s m args below meth c H locs ls C
  obtain ⟨ha, hX, hb, hs⟩ := C.2.1.2.2.1
  exact va_slen C.1.1 C.1.2.1 hX hb (by unfold gA; omega) C.2.2.2.2.1 hdg (k p e s m args below meth c H locs ls C)
theorem gl_ret (hc : cells ≤ 600000) (hs : slots ≤ 7302250) (hdg : decode code pc = .ok (.ireturn, 1)) : G l D cy base RL code 4 (some .boolean) room_1 (lX base b L xs) lZ pc lv [.int 1] cells slots n h := by
  intro p e s m args below meth c H locs ls C
  obtain ⟨ha, hX, hb, hz⟩ := C.2.1.2.2.1
  subst ha
  refine va_forget (fun q hq => ?_) ?_
  · have := C.2.2.2.2.1.2.2 q hq
    unfold gA at this
    omega
  · refine W.widen hc hs ?_
    exact lw_ret C.1.1 C.1.2.1 C.1.2.2.1 C.1.2.2.2.2.2.2 hdg
end GLaw
theorem lg_cmp_self (x : Int64) : lg_cmp x x = 0 := by simp [lg_cmp]
set_option maxRecDepth 100000 in
set_option maxHeartbeats 4000000 in
theorem law_type {l : Launch} {D : va_G} {cy : Nat → ClassId} {base b L i c : Nat} {xs : Nat → Int32} {μ : Mem} {Inv : Nat → Mem → Prop} (hI : Sp_type Inv) (hc5 : c < 512) (hinv : Inv c μ) (hi5 : i + 5 ≤ L) (hL5 : L ≤ 2560) (hk : ∀ μ2, Inv (c + 1) μ2 → G l D cy base RL code 4 (some .boolean) room_1 (lX base b L xs) lZ 891 [(0, .ref b), (1, .ref (base + 0)), (2, .ref (base + 186)), (3, .int (nI i))] [] 199 9753 gNN (gH cy base μ2)) : G l D cy base RL code 4 (some .boolean) room_1 (lX base b L xs) lZ 152 [(0, .ref b), (1, .ref (base + 0)), (2, .ref (base + 186)), (3, .int (nI i))] [] 199 9753 gNN (gH cy base μ) := by
  obtain ⟨r, μ1, μ2, e8, e9, hI2⟩ := hI c μ (xs (nI i + (1 : Int32)).toNatClampNeg) hc5 hinv
  refine g_aload_n (j := 1) (x := base + 0) dL_law_152 rfl rfl ?_
  refine g_aload_n (j := 0) (x := b) dL_law_153 rfl rfl ?_
  refine g_iload_n (j := 3) (x := nI i) dL_law_154 rfl rfl ?_
  refine g_iconst (v := 1) dL_law_155 (by decide) ?_
  refine g_iadd dL_law_156 ?_
  refine gl_sld (law_ix (t := 1) hi5 hL5 (by decide)) dL_law_157 ?_
  refine gs_callVi (As := [.int (xs (nI i + (1 : Int32)).toNatClampNeg)]) (st := []) (kr := 0) (k_X8_type μ (xs (nI i + (1 : Int32)).toNatClampNeg) e8) cl_RL_13 sv_X8_type ckk_X8_type (tk_0 _) ⟨by decide, by decide⟩ (Nat.le_of_ble_eq_true rfl) ⟨by decide, by decide⟩ rfl dL_law_158 rfl ?_
  refine g_aload_n (j := 2) (x := base + 186) dL_law_161 rfl rfl ?_
  refine g_aload_n (j := 0) (x := b) dL_law_162 rfl rfl ?_
  refine g_iload_n (j := 3) (x := nI i) dL_law_163 rfl rfl ?_
  refine g_iconst (v := 1) dL_law_164 (by decide) ?_
  refine g_iadd dL_law_165 ?_
  refine gl_sld (law_ix (t := 1) hi5 hL5 (by decide)) dL_law_166 ?_
  refine gs_callVi (As := [.int (xs (nI i + (1 : Int32)).toNatClampNeg)]) (st := [.int r]) (kr := 186) (k_X9_type μ1 (xs (nI i + (1 : Int32)).toNatClampNeg) e9) cl_RL_17 sv_X9_type ckk_X9_type (tk_186 _) ⟨by decide, by decide⟩ (Nat.le_of_ble_eq_true rfl) ⟨by decide, by decide⟩ rfl dL_law_167 rfl ?_
  refine g_icmp_eq 891 dL_law_170 (by decide) (fun _ => ?_) (fun hc => absurd rfl hc)
  exact hk _ hI2
set_option maxRecDepth 100000 in
set_option maxHeartbeats 4000000 in
theorem law_clear {l : Launch} {D : va_G} {cy : Nat → ClassId} {base b L i c : Nat} {xs : Nat → Int32} {μ : Mem} {Inv : Nat → Mem → Prop} (hI : Sp_clear Inv) (hc5 : c < 512) (hinv : Inv c μ) (hi5 : i + 5 ≤ L) (hL5 : L ≤ 2560) (hk : ∀ μ2, Inv (c + 1) μ2 → G l D cy base RL code 4 (some .boolean) room_1 (lX base b L xs) lZ 891 [(0, .ref b), (1, .ref (base + 0)), (2, .ref (base + 186)), (3, .int (nI i))] [] 199 9753 gNN (gH cy base μ2)) : G l D cy base RL code 4 (some .boolean) room_1 (lX base b L xs) lZ 175 [(0, .ref b), (1, .ref (base + 0)), (2, .ref (base + 186)), (3, .int (nI i))] [] 199 9753 gNN (gH cy base μ) := by
  obtain ⟨r, μ1, μ2, e8, e9, hI2⟩ := hI c μ  hc5 hinv
  refine g_aload_n (j := 1) (x := base + 0) dL_law_175 rfl rfl ?_
  refine gs_callVi (As := []) (st := []) (kr := 0) (k_X8_clear μ  e8) cl_RL_18 sv_X8_clear ckk_X8_clear (tk_0 _) ⟨by decide, by decide⟩ (Nat.le_of_ble_eq_true rfl) ⟨by decide, by decide⟩ rfl dL_law_176 rfl ?_
  refine g_aload_n (j := 2) (x := base + 186) dL_law_179 rfl rfl ?_
  refine gs_callVi (As := []) (st := [.int r]) (kr := 186) (k_X9_clear μ1  e9) cl_RL_22 sv_X9_clear ckk_X9_clear (tk_186 _) ⟨by decide, by decide⟩ (Nat.le_of_ble_eq_true rfl) ⟨by decide, by decide⟩ rfl dL_law_180 rfl ?_
  refine g_icmp_eq 891 dL_law_183 (by decide) (fun _ => ?_) (fun hc => absurd rfl hc)
  exact hk _ hI2
set_option maxRecDepth 100000 in
set_option maxHeartbeats 4000000 in
theorem law_house {l : Launch} {D : va_G} {cy : Nat → ClassId} {base b L i c : Nat} {xs : Nat → Int32} {μ : Mem} {Inv : Nat → Mem → Prop} (hI : Sp_house Inv) (hc5 : c < 512) (hinv : Inv c μ) (hi5 : i + 5 ≤ L) (hL5 : L ≤ 2560) (hk : ∀ μ2, Inv (c + 1) μ2 → G l D cy base RL code 4 (some .boolean) room_1 (lX base b L xs) lZ 891 [(0, .ref b), (1, .ref (base + 0)), (2, .ref (base + 186)), (3, .int (nI i))] [] 199 9753 gNN (gH cy base μ2)) : G l D cy base RL code 4 (some .boolean) room_1 (lX base b L xs) lZ 188 [(0, .ref b), (1, .ref (base + 0)), (2, .ref (base + 186)), (3, .int (nI i))] [] 199 9753 gNN (gH cy base μ) := by
  obtain ⟨r, μ1, μ2, e8, e9, hI2⟩ := hI c μ  hc5 hinv
  refine g_aload_n (j := 1) (x := base + 0) dL_law_188 rfl rfl ?_
  refine gs_callVi (As := []) (st := []) (kr := 0) (k_X8_house μ  e8) cl_RL_23 sv_X8_house ckk_X8_house (tk_0 _) ⟨by decide, by decide⟩ (Nat.le_of_ble_eq_true rfl) ⟨by decide, by decide⟩ rfl dL_law_189 rfl ?_
  refine g_aload_n (j := 2) (x := base + 186) dL_law_192 rfl rfl ?_
  refine gs_callVi (As := []) (st := [.int r]) (kr := 186) (k_X9_house μ1  e9) cl_RL_26 sv_X9_house ckk_X9_house (tk_186 _) ⟨by decide, by decide⟩ (Nat.le_of_ble_eq_true rfl) ⟨by decide, by decide⟩ rfl dL_law_193 rfl ?_
  refine g_icmp_eq 891 dL_law_196 (by decide) (fun _ => ?_) (fun hc => absurd rfl hc)
  exact hk _ hI2
set_option maxRecDepth 100000 in
set_option maxHeartbeats 4000000 in
theorem law_stair {l : Launch} {D : va_G} {cy : Nat → ClassId} {base b L i c : Nat} {xs : Nat → Int32} {μ : Mem} {Inv : Nat → Mem → Prop} (hI : Sp_stair Inv) (hc5 : c < 512) (hinv : Inv c μ) (hi5 : i + 5 ≤ L) (hL5 : L ≤ 2560) (hk : ∀ μ2, Inv (c + 1) μ2 → G l D cy base RL code 4 (some .boolean) room_1 (lX base b L xs) lZ 891 [(0, .ref b), (1, .ref (base + 0)), (2, .ref (base + 186)), (3, .int (nI i))] [] 199 9753 gNN (gH cy base μ2)) : G l D cy base RL code 4 (some .boolean) room_1 (lX base b L xs) lZ 201 [(0, .ref b), (1, .ref (base + 0)), (2, .ref (base + 186)), (3, .int (nI i))] [] 199 9753 gNN (gH cy base μ) := by
  obtain ⟨r, μ1, μ2, e8, e9, hI2⟩ := hI c μ (xs (nI i + (1 : Int32)).toNatClampNeg) (xs (nI i + (2 : Int32)).toNatClampNeg) hc5 hinv
  obtain ⟨e8, rfl⟩ := e8
  obtain ⟨e9, rfl⟩ := e9
  refine g_aload_n (j := 1) (x := base + 0) dL_law_201 rfl rfl ?_
  refine g_aload_n (j := 0) (x := b) dL_law_202 rfl rfl ?_
  refine g_iload_n (j := 3) (x := nI i) dL_law_203 rfl rfl ?_
  refine g_iconst (v := 1) dL_law_204 (by decide) ?_
  refine g_iadd dL_law_205 ?_
  refine gl_sld (law_ix (t := 1) hi5 hL5 (by decide)) dL_law_206 ?_
  refine g_aload_n (j := 0) (x := b) dL_law_207 rfl rfl ?_
  refine g_iload_n (j := 3) (x := nI i) dL_law_208 rfl rfl ?_
  refine g_iconst (v := 2) dL_law_209 (by decide) ?_
  refine g_iadd dL_law_210 ?_
  refine gl_sld (law_ix (t := 2) hi5 hL5 (by decide)) dL_law_211 ?_
  refine gs_callVi (As := [.int (xs (nI i + (1 : Int32)).toNatClampNeg), .int (xs (nI i + (2 : Int32)).toNatClampNeg)]) (st := []) (kr := 0) (k_X8_stair μ2 (xs (nI i + (1 : Int32)).toNatClampNeg) (xs (nI i + (2 : Int32)).toNatClampNeg) e8) cl_RL_27 sv_X8_stair ckk_X8_stair (tk_0 _) ⟨by decide, by decide⟩ (Nat.le_of_ble_eq_true rfl) ⟨by decide, by decide⟩ rfl dL_law_212 rfl ?_
  refine g_aload_n (j := 2) (x := base + 186) dL_law_215 rfl rfl ?_
  refine g_aload_n (j := 0) (x := b) dL_law_216 rfl rfl ?_
  refine g_iload_n (j := 3) (x := nI i) dL_law_217 rfl rfl ?_
  refine g_iconst (v := 1) dL_law_218 (by decide) ?_
  refine g_iadd dL_law_219 ?_
  refine gl_sld (law_ix (t := 1) hi5 hL5 (by decide)) dL_law_220 ?_
  refine g_aload_n (j := 0) (x := b) dL_law_221 rfl rfl ?_
  refine g_iload_n (j := 3) (x := nI i) dL_law_222 rfl rfl ?_
  refine g_iconst (v := 2) dL_law_223 (by decide) ?_
  refine g_iadd dL_law_224 ?_
  refine gl_sld (law_ix (t := 2) hi5 hL5 (by decide)) dL_law_225 ?_
  refine gs_callVi (As := [.int (xs (nI i + (1 : Int32)).toNatClampNeg), .int (xs (nI i + (2 : Int32)).toNatClampNeg)]) (st := [.int r]) (kr := 186) (k_X9_stair μ2 (xs (nI i + (1 : Int32)).toNatClampNeg) (xs (nI i + (2 : Int32)).toNatClampNeg) e9) cl_RL_31 sv_X9_stair ckk_X9_stair (tk_186 _) ⟨by decide, by decide⟩ (Nat.le_of_ble_eq_true rfl) ⟨by decide, by decide⟩ rfl dL_law_226 rfl ?_
  refine g_icmp_eq 891 dL_law_229 (by decide) (fun _ => ?_) (fun hc => absurd rfl hc)
  exact hk _ hI2
set_option maxRecDepth 100000 in
set_option maxHeartbeats 4000000 in
theorem law_person {l : Launch} {D : va_G} {cy : Nat → ClassId} {base b L i c : Nat} {xs : Nat → Int32} {μ : Mem} {Inv : Nat → Mem → Prop} (hI : Sp_person Inv) (hc5 : c < 512) (hinv : Inv c μ) (hi5 : i + 5 ≤ L) (hL5 : L ≤ 2560) (hk : ∀ μ2, Inv (c + 1) μ2 → G l D cy base RL code 4 (some .boolean) room_1 (lX base b L xs) lZ 891 [(0, .ref b), (1, .ref (base + 0)), (2, .ref (base + 186)), (3, .int (nI i))] [] 199 9753 gNN (gH cy base μ2)) : G l D cy base RL code 4 (some .boolean) room_1 (lX base b L xs) lZ 234 [(0, .ref b), (1, .ref (base + 0)), (2, .ref (base + 186)), (3, .int (nI i))] [] 199 9753 gNN (gH cy base μ) := by
  obtain ⟨r, μ1, μ2, e8, e9, hI2⟩ := hI c μ (xs (nI i + (1 : Int32)).toNatClampNeg) (xs (nI i + (2 : Int32)).toNatClampNeg) hc5 hinv
  obtain ⟨e8, rfl⟩ := e8
  obtain ⟨e9, rfl⟩ := e9
  refine g_aload_n (j := 1) (x := base + 0) dL_law_234 rfl rfl ?_
  refine g_aload_n (j := 0) (x := b) dL_law_235 rfl rfl ?_
  refine g_iload_n (j := 3) (x := nI i) dL_law_236 rfl rfl ?_
  refine g_iconst (v := 1) dL_law_237 (by decide) ?_
  refine g_iadd dL_law_238 ?_
  refine gl_sld (law_ix (t := 1) hi5 hL5 (by decide)) dL_law_239 ?_
  refine g_aload_n (j := 0) (x := b) dL_law_240 rfl rfl ?_
  refine g_iload_n (j := 3) (x := nI i) dL_law_241 rfl rfl ?_
  refine g_iconst (v := 2) dL_law_242 (by decide) ?_
  refine g_iadd dL_law_243 ?_
  refine gl_sld (law_ix (t := 2) hi5 hL5 (by decide)) dL_law_244 ?_
  refine gs_callVi (As := [.int (xs (nI i + (1 : Int32)).toNatClampNeg), .int (xs (nI i + (2 : Int32)).toNatClampNeg)]) (st := []) (kr := 0) (k_X8_person μ2 (xs (nI i + (1 : Int32)).toNatClampNeg) (xs (nI i + (2 : Int32)).toNatClampNeg) e8) cl_RL_32 sv_X8_person ckk_X8_person (tk_0 _) ⟨by decide, by decide⟩ (Nat.le_of_ble_eq_true rfl) ⟨by decide, by decide⟩ rfl dL_law_245 rfl ?_
  refine g_aload_n (j := 2) (x := base + 186) dL_law_248 rfl rfl ?_
  refine g_aload_n (j := 0) (x := b) dL_law_249 rfl rfl ?_
  refine g_iload_n (j := 3) (x := nI i) dL_law_250 rfl rfl ?_
  refine g_iconst (v := 1) dL_law_251 (by decide) ?_
  refine g_iadd dL_law_252 ?_
  refine gl_sld (law_ix (t := 1) hi5 hL5 (by decide)) dL_law_253 ?_
  refine g_aload_n (j := 0) (x := b) dL_law_254 rfl rfl ?_
  refine g_iload_n (j := 3) (x := nI i) dL_law_255 rfl rfl ?_
  refine g_iconst (v := 2) dL_law_256 (by decide) ?_
  refine g_iadd dL_law_257 ?_
  refine gl_sld (law_ix (t := 2) hi5 hL5 (by decide)) dL_law_258 ?_
  refine gs_callVi (As := [.int (xs (nI i + (1 : Int32)).toNatClampNeg), .int (xs (nI i + (2 : Int32)).toNatClampNeg)]) (st := [.int r]) (kr := 186) (k_X9_person μ2 (xs (nI i + (1 : Int32)).toNatClampNeg) (xs (nI i + (2 : Int32)).toNatClampNeg) e9) cl_RL_35 sv_X9_person ckk_X9_person (tk_186 _) ⟨by decide, by decide⟩ (Nat.le_of_ble_eq_true rfl) ⟨by decide, by decide⟩ rfl dL_law_259 rfl ?_
  refine g_icmp_eq 891 dL_law_262 (by decide) (fun _ => ?_) (fun hc => absurd rfl hc)
  exact hk _ hI2
set_option maxRecDepth 100000 in
set_option maxHeartbeats 4000000 in
theorem law_bond {l : Launch} {D : va_G} {cy : Nat → ClassId} {base b L i c : Nat} {xs : Nat → Int32} {μ : Mem} {Inv : Nat → Mem → Prop} (hI : Sp_bond Inv) (hc5 : c < 512) (hinv : Inv c μ) (hi5 : i + 5 ≤ L) (hL5 : L ≤ 2560) (hk : ∀ μ2, Inv (c + 1) μ2 → G l D cy base RL code 4 (some .boolean) room_1 (lX base b L xs) lZ 891 [(0, .ref b), (1, .ref (base + 0)), (2, .ref (base + 186)), (3, .int (nI i))] [] 199 9753 gNN (gH cy base μ2)) : G l D cy base RL code 4 (some .boolean) room_1 (lX base b L xs) lZ 267 [(0, .ref b), (1, .ref (base + 0)), (2, .ref (base + 186)), (3, .int (nI i))] [] 199 9753 gNN (gH cy base μ) := by
  obtain ⟨r, μ1, μ2, e8, e9, hI2⟩ := hI c μ (xs (nI i + (1 : Int32)).toNatClampNeg) (xs (nI i + (2 : Int32)).toNatClampNeg) hc5 hinv
  obtain ⟨e8, rfl⟩ := e8
  obtain ⟨e9, rfl⟩ := e9
  refine g_aload_n (j := 1) (x := base + 0) dL_law_267 rfl rfl ?_
  refine g_aload_n (j := 0) (x := b) dL_law_268 rfl rfl ?_
  refine g_iload_n (j := 3) (x := nI i) dL_law_269 rfl rfl ?_
  refine g_iconst (v := 1) dL_law_270 (by decide) ?_
  refine g_iadd dL_law_271 ?_
  refine gl_sld (law_ix (t := 1) hi5 hL5 (by decide)) dL_law_272 ?_
  refine g_aload_n (j := 0) (x := b) dL_law_273 rfl rfl ?_
  refine g_iload_n (j := 3) (x := nI i) dL_law_274 rfl rfl ?_
  refine g_iconst (v := 2) dL_law_275 (by decide) ?_
  refine g_iadd dL_law_276 ?_
  refine gl_sld (law_ix (t := 2) hi5 hL5 (by decide)) dL_law_277 ?_
  refine gs_callVi (As := [.int (xs (nI i + (1 : Int32)).toNatClampNeg), .int (xs (nI i + (2 : Int32)).toNatClampNeg)]) (st := []) (kr := 0) (k_X8_bond μ2 (xs (nI i + (1 : Int32)).toNatClampNeg) (xs (nI i + (2 : Int32)).toNatClampNeg) e8) cl_RL_36 sv_X8_bond ckk_X8_bond (tk_0 _) ⟨by decide, by decide⟩ (Nat.le_of_ble_eq_true rfl) ⟨by decide, by decide⟩ rfl dL_law_278 rfl ?_
  refine g_aload_n (j := 2) (x := base + 186) dL_law_281 rfl rfl ?_
  refine g_aload_n (j := 0) (x := b) dL_law_282 rfl rfl ?_
  refine g_iload_n (j := 3) (x := nI i) dL_law_283 rfl rfl ?_
  refine g_iconst (v := 1) dL_law_284 (by decide) ?_
  refine g_iadd dL_law_285 ?_
  refine gl_sld (law_ix (t := 1) hi5 hL5 (by decide)) dL_law_286 ?_
  refine g_aload_n (j := 0) (x := b) dL_law_287 rfl rfl ?_
  refine g_iload_n (j := 3) (x := nI i) dL_law_288 rfl rfl ?_
  refine g_iconst (v := 2) dL_law_289 (by decide) ?_
  refine g_iadd dL_law_290 ?_
  refine gl_sld (law_ix (t := 2) hi5 hL5 (by decide)) dL_law_291 ?_
  refine gs_callVi (As := [.int (xs (nI i + (1 : Int32)).toNatClampNeg), .int (xs (nI i + (2 : Int32)).toNatClampNeg)]) (st := [.int r]) (kr := 186) (k_X9_bond μ2 (xs (nI i + (1 : Int32)).toNatClampNeg) (xs (nI i + (2 : Int32)).toNatClampNeg) e9) cl_RL_39 sv_X9_bond ckk_X9_bond (tk_186 _) ⟨by decide, by decide⟩ (Nat.le_of_ble_eq_true rfl) ⟨by decide, by decide⟩ rfl dL_law_292 rfl ?_
  refine g_icmp_eq 891 dL_law_295 (by decide) (fun _ => ?_) (fun hc => absurd rfl hc)
  exact hk _ hI2
set_option maxRecDepth 100000 in
set_option maxHeartbeats 4000000 in
theorem law_falls {l : Launch} {D : va_G} {cy : Nat → ClassId} {base b L i c : Nat} {xs : Nat → Int32} {μ : Mem} {Inv : Nat → Mem → Prop} (hI : Sp_falls Inv) (hc5 : c < 512) (hinv : Inv c μ) (hi5 : i + 5 ≤ L) (hL5 : L ≤ 2560) (hk : ∀ μ2, Inv (c + 1) μ2 → G l D cy base RL code 4 (some .boolean) room_1 (lX base b L xs) lZ 891 [(0, .ref b), (1, .ref (base + 0)), (2, .ref (base + 186)), (3, .int (nI i))] [] 199 9753 gNN (gH cy base μ2)) : G l D cy base RL code 4 (some .boolean) room_1 (lX base b L xs) lZ 300 [(0, .ref b), (1, .ref (base + 0)), (2, .ref (base + 186)), (3, .int (nI i))] [] 199 9753 gNN (gH cy base μ) := by
  obtain ⟨r, μ1, μ2, e8, e9, hI2⟩ := hI c μ (xs (nI i + (1 : Int32)).toNatClampNeg) (xs (nI i + (2 : Int32)).toNatClampNeg) hc5 hinv
  refine g_aload_n (j := 1) (x := base + 0) dL_law_300 rfl rfl ?_
  refine g_aload_n (j := 0) (x := b) dL_law_301 rfl rfl ?_
  refine g_iload_n (j := 3) (x := nI i) dL_law_302 rfl rfl ?_
  refine g_iconst (v := 1) dL_law_303 (by decide) ?_
  refine g_iadd dL_law_304 ?_
  refine gl_sld (law_ix (t := 1) hi5 hL5 (by decide)) dL_law_305 ?_
  refine g_aload_n (j := 0) (x := b) dL_law_306 rfl rfl ?_
  refine g_iload_n (j := 3) (x := nI i) dL_law_307 rfl rfl ?_
  refine g_iconst (v := 2) dL_law_308 (by decide) ?_
  refine g_iadd dL_law_309 ?_
  refine gl_sld (law_ix (t := 2) hi5 hL5 (by decide)) dL_law_310 ?_
  refine gs_callVi (As := [.int (xs (nI i + (1 : Int32)).toNatClampNeg), .int (xs (nI i + (2 : Int32)).toNatClampNeg)]) (st := []) (kr := 0) (k_X8_falls μ (xs (nI i + (1 : Int32)).toNatClampNeg) (xs (nI i + (2 : Int32)).toNatClampNeg) e8) cl_RL_40 sv_X8_falls ckk_X8_falls (tk_0 _) ⟨by decide, by decide⟩ (Nat.le_of_ble_eq_true rfl) ⟨by decide, by decide⟩ rfl dL_law_311 rfl ?_
  refine g_aload_n (j := 2) (x := base + 186) dL_law_314 rfl rfl ?_
  refine g_aload_n (j := 0) (x := b) dL_law_315 rfl rfl ?_
  refine g_iload_n (j := 3) (x := nI i) dL_law_316 rfl rfl ?_
  refine g_iconst (v := 1) dL_law_317 (by decide) ?_
  refine g_iadd dL_law_318 ?_
  refine gl_sld (law_ix (t := 1) hi5 hL5 (by decide)) dL_law_319 ?_
  refine g_aload_n (j := 0) (x := b) dL_law_320 rfl rfl ?_
  refine g_iload_n (j := 3) (x := nI i) dL_law_321 rfl rfl ?_
  refine g_iconst (v := 2) dL_law_322 (by decide) ?_
  refine g_iadd dL_law_323 ?_
  refine gl_sld (law_ix (t := 2) hi5 hL5 (by decide)) dL_law_324 ?_
  refine gs_callVi (As := [.int (xs (nI i + (1 : Int32)).toNatClampNeg), .int (xs (nI i + (2 : Int32)).toNatClampNeg)]) (st := [.int r]) (kr := 186) (k_X9_falls μ1 (xs (nI i + (1 : Int32)).toNatClampNeg) (xs (nI i + (2 : Int32)).toNatClampNeg) e9) cl_RL_43 sv_X9_falls ckk_X9_falls (tk_186 _) ⟨by decide, by decide⟩ (Nat.le_of_ble_eq_true rfl) ⟨by decide, by decide⟩ rfl dL_law_325 rfl ?_
  refine g_icmp_eq 891 dL_law_328 (by decide) (fun _ => ?_) (fun hc => absurd rfl hc)
  exact hk _ hI2
set_option maxRecDepth 100000 in
set_option maxHeartbeats 4000000 in
theorem law_together {l : Launch} {D : va_G} {cy : Nat → ClassId} {base b L i c : Nat} {xs : Nat → Int32} {μ : Mem} {Inv : Nat → Mem → Prop} (hI : Sp_together Inv) (hc5 : c < 512) (hinv : Inv c μ) (hi5 : i + 5 ≤ L) (hL5 : L ≤ 2560) (hk : ∀ μ2, Inv (c + 1) μ2 → G l D cy base RL code 4 (some .boolean) room_1 (lX base b L xs) lZ 891 [(0, .ref b), (1, .ref (base + 0)), (2, .ref (base + 186)), (3, .int (nI i))] [] 199 9753 gNN (gH cy base μ2)) : G l D cy base RL code 4 (some .boolean) room_1 (lX base b L xs) lZ 333 [(0, .ref b), (1, .ref (base + 0)), (2, .ref (base + 186)), (3, .int (nI i))] [] 199 9753 gNN (gH cy base μ) := by
  obtain ⟨r, μ1, μ2, e8, e9, hI2⟩ := hI c μ (xs (nI i + (1 : Int32)).toNatClampNeg) (xs (nI i + (2 : Int32)).toNatClampNeg) (xs (nI i + (3 : Int32)).toNatClampNeg) hc5 hinv
  refine g_aload_n (j := 1) (x := base + 0) dL_law_333 rfl rfl ?_
  refine g_aload_n (j := 0) (x := b) dL_law_334 rfl rfl ?_
  refine g_iload_n (j := 3) (x := nI i) dL_law_335 rfl rfl ?_
  refine g_iconst (v := 1) dL_law_336 (by decide) ?_
  refine g_iadd dL_law_337 ?_
  refine gl_sld (law_ix (t := 1) hi5 hL5 (by decide)) dL_law_338 ?_
  refine g_aload_n (j := 0) (x := b) dL_law_339 rfl rfl ?_
  refine g_iload_n (j := 3) (x := nI i) dL_law_340 rfl rfl ?_
  refine g_iconst (v := 2) dL_law_341 (by decide) ?_
  refine g_iadd dL_law_342 ?_
  refine gl_sld (law_ix (t := 2) hi5 hL5 (by decide)) dL_law_343 ?_
  refine g_aload_n (j := 0) (x := b) dL_law_344 rfl rfl ?_
  refine g_iload_n (j := 3) (x := nI i) dL_law_345 rfl rfl ?_
  refine g_iconst (v := 3) dL_law_346 (by decide) ?_
  refine g_iadd dL_law_347 ?_
  refine gl_sld (law_ix (t := 3) hi5 hL5 (by decide)) dL_law_348 ?_
  refine gs_callVi (As := [.int (xs (nI i + (1 : Int32)).toNatClampNeg), .int (xs (nI i + (2 : Int32)).toNatClampNeg), .int (xs (nI i + (3 : Int32)).toNatClampNeg)]) (st := []) (kr := 0) (k_X8_together μ (xs (nI i + (1 : Int32)).toNatClampNeg) (xs (nI i + (2 : Int32)).toNatClampNeg) (xs (nI i + (3 : Int32)).toNatClampNeg) e8) cl_RL_44 sv_X8_together ckk_X8_together (tk_0 _) ⟨by decide, by decide⟩ (Nat.le_of_ble_eq_true rfl) ⟨by decide, by decide⟩ rfl dL_law_349 rfl ?_
  refine g_aload_n (j := 2) (x := base + 186) dL_law_352 rfl rfl ?_
  refine g_aload_n (j := 0) (x := b) dL_law_353 rfl rfl ?_
  refine g_iload_n (j := 3) (x := nI i) dL_law_354 rfl rfl ?_
  refine g_iconst (v := 1) dL_law_355 (by decide) ?_
  refine g_iadd dL_law_356 ?_
  refine gl_sld (law_ix (t := 1) hi5 hL5 (by decide)) dL_law_357 ?_
  refine g_aload_n (j := 0) (x := b) dL_law_358 rfl rfl ?_
  refine g_iload_n (j := 3) (x := nI i) dL_law_359 rfl rfl ?_
  refine g_iconst (v := 2) dL_law_360 (by decide) ?_
  refine g_iadd dL_law_361 ?_
  refine gl_sld (law_ix (t := 2) hi5 hL5 (by decide)) dL_law_362 ?_
  refine g_aload_n (j := 0) (x := b) dL_law_363 rfl rfl ?_
  refine g_iload_n (j := 3) (x := nI i) dL_law_364 rfl rfl ?_
  refine g_iconst (v := 3) dL_law_365 (by decide) ?_
  refine g_iadd dL_law_366 ?_
  refine gl_sld (law_ix (t := 3) hi5 hL5 (by decide)) dL_law_367 ?_
  refine gs_callVi (As := [.int (xs (nI i + (1 : Int32)).toNatClampNeg), .int (xs (nI i + (2 : Int32)).toNatClampNeg), .int (xs (nI i + (3 : Int32)).toNatClampNeg)]) (st := [.int r]) (kr := 186) (k_X9_together μ1 (xs (nI i + (1 : Int32)).toNatClampNeg) (xs (nI i + (2 : Int32)).toNatClampNeg) (xs (nI i + (3 : Int32)).toNatClampNeg) e9) cl_RL_48 sv_X9_together ckk_X9_together (tk_186 _) ⟨by decide, by decide⟩ (Nat.le_of_ble_eq_true rfl) ⟨by decide, by decide⟩ rfl dL_law_368 rfl ?_
  refine g_icmp_eq 891 dL_law_371 (by decide) (fun _ => ?_) (fun hc => absurd rfl hc)
  exact hk _ hI2
set_option maxRecDepth 100000 in
set_option maxHeartbeats 4000000 in
theorem law_throwsDoll {l : Launch} {D : va_G} {cy : Nat → ClassId} {base b L i c : Nat} {xs : Nat → Int32} {μ : Mem} {Inv : Nat → Mem → Prop} (hI : Sp_throwsDoll Inv) (hc5 : c < 512) (hinv : Inv c μ) (hi5 : i + 5 ≤ L) (hL5 : L ≤ 2560) (hk : ∀ μ2, Inv (c + 1) μ2 → G l D cy base RL code 4 (some .boolean) room_1 (lX base b L xs) lZ 891 [(0, .ref b), (1, .ref (base + 0)), (2, .ref (base + 186)), (3, .int (nI i))] [] 199 9753 gNN (gH cy base μ2)) : G l D cy base RL code 4 (some .boolean) room_1 (lX base b L xs) lZ 376 [(0, .ref b), (1, .ref (base + 0)), (2, .ref (base + 186)), (3, .int (nI i))] [] 199 9753 gNN (gH cy base μ) := by
  obtain ⟨r, μ1, μ2, e8, e9, hI2⟩ := hI c μ (xs (nI i + (1 : Int32)).toNatClampNeg) hc5 hinv
  refine g_aload_n (j := 1) (x := base + 0) dL_law_376 rfl rfl ?_
  refine g_aload_n (j := 0) (x := b) dL_law_377 rfl rfl ?_
  refine g_iload_n (j := 3) (x := nI i) dL_law_378 rfl rfl ?_
  refine g_iconst (v := 1) dL_law_379 (by decide) ?_
  refine g_iadd dL_law_380 ?_
  refine gl_sld (law_ix (t := 1) hi5 hL5 (by decide)) dL_law_381 ?_
  refine gs_callVi (As := [.int (xs (nI i + (1 : Int32)).toNatClampNeg)]) (st := []) (kr := 0) (k_X8_throwsDoll μ (xs (nI i + (1 : Int32)).toNatClampNeg) e8) cl_RL_49 sv_X8_throwsDoll ckk_X8_throwsDoll (tk_0 _) ⟨by decide, by decide⟩ (Nat.le_of_ble_eq_true rfl) ⟨by decide, by decide⟩ rfl dL_law_382 rfl ?_
  refine g_aload_n (j := 2) (x := base + 186) dL_law_385 rfl rfl ?_
  refine g_aload_n (j := 0) (x := b) dL_law_386 rfl rfl ?_
  refine g_iload_n (j := 3) (x := nI i) dL_law_387 rfl rfl ?_
  refine g_iconst (v := 1) dL_law_388 (by decide) ?_
  refine g_iadd dL_law_389 ?_
  refine gl_sld (law_ix (t := 1) hi5 hL5 (by decide)) dL_law_390 ?_
  refine gs_callVi (As := [.int (xs (nI i + (1 : Int32)).toNatClampNeg)]) (st := [.int r]) (kr := 186) (k_X9_throwsDoll μ1 (xs (nI i + (1 : Int32)).toNatClampNeg) e9) cl_RL_52 sv_X9_throwsDoll ckk_X9_throwsDoll (tk_186 _) ⟨by decide, by decide⟩ (Nat.le_of_ble_eq_true rfl) ⟨by decide, by decide⟩ rfl dL_law_391 rfl ?_
  refine g_icmp_eq 891 dL_law_394 (by decide) (fun _ => ?_) (fun hc => absurd rfl hc)
  exact hk _ hI2
set_option maxRecDepth 100000 in
set_option maxHeartbeats 4000000 in
theorem law_sells {l : Launch} {D : va_G} {cy : Nat → ClassId} {base b L i c : Nat} {xs : Nat → Int32} {μ : Mem} {Inv : Nat → Mem → Prop} (hI : Sp_sells Inv) (hc5 : c < 512) (hinv : Inv c μ) (hi5 : i + 5 ≤ L) (hL5 : L ≤ 2560) (hk : ∀ μ2, Inv (c + 1) μ2 → G l D cy base RL code 4 (some .boolean) room_1 (lX base b L xs) lZ 891 [(0, .ref b), (1, .ref (base + 0)), (2, .ref (base + 186)), (3, .int (nI i))] [] 199 9753 gNN (gH cy base μ2)) : G l D cy base RL code 4 (some .boolean) room_1 (lX base b L xs) lZ 399 [(0, .ref b), (1, .ref (base + 0)), (2, .ref (base + 186)), (3, .int (nI i))] [] 199 9753 gNN (gH cy base μ) := by
  obtain ⟨r, μ1, μ2, e8, e9, hI2⟩ := hI c μ (xs (nI i + (1 : Int32)).toNatClampNeg) (xs (nI i + (2 : Int32)).toNatClampNeg) (xs (nI i + (3 : Int32)).toNatClampNeg) hc5 hinv
  refine g_aload_n (j := 1) (x := base + 0) dL_law_399 rfl rfl ?_
  refine g_aload_n (j := 0) (x := b) dL_law_400 rfl rfl ?_
  refine g_iload_n (j := 3) (x := nI i) dL_law_401 rfl rfl ?_
  refine g_iconst (v := 1) dL_law_402 (by decide) ?_
  refine g_iadd dL_law_403 ?_
  refine gl_sld (law_ix (t := 1) hi5 hL5 (by decide)) dL_law_404 ?_
  refine g_aload_n (j := 0) (x := b) dL_law_405 rfl rfl ?_
  refine g_iload_n (j := 3) (x := nI i) dL_law_406 rfl rfl ?_
  refine g_iconst (v := 2) dL_law_407 (by decide) ?_
  refine g_iadd dL_law_408 ?_
  refine gl_sld (law_ix (t := 2) hi5 hL5 (by decide)) dL_law_409 ?_
  refine g_aload_n (j := 0) (x := b) dL_law_410 rfl rfl ?_
  refine g_iload_n (j := 3) (x := nI i) dL_law_411 rfl rfl ?_
  refine g_iconst (v := 3) dL_law_412 (by decide) ?_
  refine g_iadd dL_law_413 ?_
  refine gl_sld (law_ix (t := 3) hi5 hL5 (by decide)) dL_law_414 ?_
  refine gs_callVi (As := [.int (xs (nI i + (1 : Int32)).toNatClampNeg), .int (xs (nI i + (2 : Int32)).toNatClampNeg), .int (xs (nI i + (3 : Int32)).toNatClampNeg)]) (st := []) (kr := 0) (k_X8_sells μ (xs (nI i + (1 : Int32)).toNatClampNeg) (xs (nI i + (2 : Int32)).toNatClampNeg) (xs (nI i + (3 : Int32)).toNatClampNeg) e8) cl_RL_53 sv_X8_sells ckk_X8_sells (tk_0 _) ⟨by decide, by decide⟩ (Nat.le_of_ble_eq_true rfl) ⟨by decide, by decide⟩ rfl dL_law_415 rfl ?_
  refine g_aload_n (j := 2) (x := base + 186) dL_law_418 rfl rfl ?_
  refine g_aload_n (j := 0) (x := b) dL_law_419 rfl rfl ?_
  refine g_iload_n (j := 3) (x := nI i) dL_law_420 rfl rfl ?_
  refine g_iconst (v := 1) dL_law_421 (by decide) ?_
  refine g_iadd dL_law_422 ?_
  refine gl_sld (law_ix (t := 1) hi5 hL5 (by decide)) dL_law_423 ?_
  refine g_aload_n (j := 0) (x := b) dL_law_424 rfl rfl ?_
  refine g_iload_n (j := 3) (x := nI i) dL_law_425 rfl rfl ?_
  refine g_iconst (v := 2) dL_law_426 (by decide) ?_
  refine g_iadd dL_law_427 ?_
  refine gl_sld (law_ix (t := 2) hi5 hL5 (by decide)) dL_law_428 ?_
  refine g_aload_n (j := 0) (x := b) dL_law_429 rfl rfl ?_
  refine g_iload_n (j := 3) (x := nI i) dL_law_430 rfl rfl ?_
  refine g_iconst (v := 3) dL_law_431 (by decide) ?_
  refine g_iadd dL_law_432 ?_
  refine gl_sld (law_ix (t := 3) hi5 hL5 (by decide)) dL_law_433 ?_
  refine gs_callVi (As := [.int (xs (nI i + (1 : Int32)).toNatClampNeg), .int (xs (nI i + (2 : Int32)).toNatClampNeg), .int (xs (nI i + (3 : Int32)).toNatClampNeg)]) (st := [.int r]) (kr := 186) (k_X9_sells μ1 (xs (nI i + (1 : Int32)).toNatClampNeg) (xs (nI i + (2 : Int32)).toNatClampNeg) (xs (nI i + (3 : Int32)).toNatClampNeg) e9) cl_RL_56 sv_X9_sells ckk_X9_sells (tk_186 _) ⟨by decide, by decide⟩ (Nat.le_of_ble_eq_true rfl) ⟨by decide, by decide⟩ rfl dL_law_434 rfl ?_
  refine g_icmp_eq 891 dL_law_437 (by decide) (fun _ => ?_) (fun hc => absurd rfl hc)
  exact hk _ hI2
set_option maxRecDepth 100000 in
set_option maxHeartbeats 4000000 in
theorem law_redeems {l : Launch} {D : va_G} {cy : Nat → ClassId} {base b L i c : Nat} {xs : Nat → Int32} {μ : Mem} {Inv : Nat → Mem → Prop} (hI : Sp_redeems Inv) (hc5 : c < 512) (hinv : Inv c μ) (hi5 : i + 5 ≤ L) (hL5 : L ≤ 2560) (hk : ∀ μ2, Inv (c + 1) μ2 → G l D cy base RL code 4 (some .boolean) room_1 (lX base b L xs) lZ 891 [(0, .ref b), (1, .ref (base + 0)), (2, .ref (base + 186)), (3, .int (nI i))] [] 199 9753 gNN (gH cy base μ2)) : G l D cy base RL code 4 (some .boolean) room_1 (lX base b L xs) lZ 442 [(0, .ref b), (1, .ref (base + 0)), (2, .ref (base + 186)), (3, .int (nI i))] [] 199 9753 gNN (gH cy base μ) := by
  obtain ⟨r, μ1, μ2, e8, e9, hI2⟩ := hI c μ (xs (nI i + (1 : Int32)).toNatClampNeg) hc5 hinv
  refine g_aload_n (j := 1) (x := base + 0) dL_law_442 rfl rfl ?_
  refine g_aload_n (j := 0) (x := b) dL_law_443 rfl rfl ?_
  refine g_iload_n (j := 3) (x := nI i) dL_law_444 rfl rfl ?_
  refine g_iconst (v := 1) dL_law_445 (by decide) ?_
  refine g_iadd dL_law_446 ?_
  refine gl_sld (law_ix (t := 1) hi5 hL5 (by decide)) dL_law_447 ?_
  refine gs_callVi (As := [.int (xs (nI i + (1 : Int32)).toNatClampNeg)]) (st := []) (kr := 0) (k_X8_redeems μ (xs (nI i + (1 : Int32)).toNatClampNeg) e8) cl_RL_57 sv_X8_redeems ckk_X8_redeems (tk_0 _) ⟨by decide, by decide⟩ (Nat.le_of_ble_eq_true rfl) ⟨by decide, by decide⟩ rfl dL_law_448 rfl ?_
  refine g_aload_n (j := 2) (x := base + 186) dL_law_451 rfl rfl ?_
  refine g_aload_n (j := 0) (x := b) dL_law_452 rfl rfl ?_
  refine g_iload_n (j := 3) (x := nI i) dL_law_453 rfl rfl ?_
  refine g_iconst (v := 1) dL_law_454 (by decide) ?_
  refine g_iadd dL_law_455 ?_
  refine gl_sld (law_ix (t := 1) hi5 hL5 (by decide)) dL_law_456 ?_
  refine gs_callVi (As := [.int (xs (nI i + (1 : Int32)).toNatClampNeg)]) (st := [.int r]) (kr := 186) (k_X9_redeems μ1 (xs (nI i + (1 : Int32)).toNatClampNeg) e9) cl_RL_60 sv_X9_redeems ckk_X9_redeems (tk_186 _) ⟨by decide, by decide⟩ (Nat.le_of_ble_eq_true rfl) ⟨by decide, by decide⟩ rfl dL_law_457 rfl ?_
  refine g_icmp_eq 891 dL_law_460 (by decide) (fun _ => ?_) (fun hc => absurd rfl hc)
  exact hk _ hI2
set_option maxRecDepth 100000 in
set_option maxHeartbeats 4000000 in
theorem law_ends {l : Launch} {D : va_G} {cy : Nat → ClassId} {base b L i c : Nat} {xs : Nat → Int32} {μ : Mem} {Inv : Nat → Mem → Prop} (hI : Sp_ends Inv) (hc5 : c < 512) (hinv : Inv c μ) (hi5 : i + 5 ≤ L) (hL5 : L ≤ 2560) (hk : ∀ μ2, Inv (c + 1) μ2 → G l D cy base RL code 4 (some .boolean) room_1 (lX base b L xs) lZ 891 [(0, .ref b), (1, .ref (base + 0)), (2, .ref (base + 186)), (3, .int (nI i))] [] 199 9753 gNN (gH cy base μ2)) : G l D cy base RL code 4 (some .boolean) room_1 (lX base b L xs) lZ 465 [(0, .ref b), (1, .ref (base + 0)), (2, .ref (base + 186)), (3, .int (nI i))] [] 199 9753 gNN (gH cy base μ) := by
  obtain ⟨r, μ1, μ2, e8, e9, hI2⟩ := hI c μ  hc5 hinv
  refine g_aload_n (j := 1) (x := base + 0) dL_law_465 rfl rfl ?_
  refine gs_callVi (As := []) (st := []) (kr := 0) (k_X8_ends μ  e8) cl_RL_61 sv_X8_ends ckk_X8_ends (tk_0 _) ⟨by decide, by decide⟩ (Nat.le_of_ble_eq_true rfl) ⟨by decide, by decide⟩ rfl dL_law_466 rfl ?_
  refine g_aload_n (j := 2) (x := base + 186) dL_law_469 rfl rfl ?_
  refine gs_callVi (As := []) (st := [.int r]) (kr := 186) (k_X9_ends μ1  e9) cl_RL_64 sv_X9_ends ckk_X9_ends (tk_186 _) ⟨by decide, by decide⟩ (Nat.le_of_ble_eq_true rfl) ⟨by decide, by decide⟩ rfl dL_law_470 rfl ?_
  refine g_icmp_eq 891 dL_law_473 (by decide) (fun _ => ?_) (fun hc => absurd rfl hc)
  exact hk _ hI2
set_option maxRecDepth 100000 in
set_option maxHeartbeats 4000000 in
theorem law_undo {l : Launch} {D : va_G} {cy : Nat → ClassId} {base b L i c : Nat} {xs : Nat → Int32} {μ : Mem} {Inv : Nat → Mem → Prop} (hI : Sp_undo Inv) (hc5 : c < 512) (hinv : Inv c μ) (hi5 : i + 5 ≤ L) (hL5 : L ≤ 2560) (hk : ∀ μ2, Inv (c + 1) μ2 → G l D cy base RL code 4 (some .boolean) room_1 (lX base b L xs) lZ 891 [(0, .ref b), (1, .ref (base + 0)), (2, .ref (base + 186)), (3, .int (nI i))] [] 199 9753 gNN (gH cy base μ2)) : G l D cy base RL code 4 (some .boolean) room_1 (lX base b L xs) lZ 478 [(0, .ref b), (1, .ref (base + 0)), (2, .ref (base + 186)), (3, .int (nI i))] [] 199 9753 gNN (gH cy base μ) := by
  obtain ⟨r, μ1, μ2, e8, e9, hI2⟩ := hI c μ  hc5 hinv
  refine g_aload_n (j := 1) (x := base + 0) dL_law_478 rfl rfl ?_
  refine gs_callVi (As := []) (st := []) (kr := 0) (k_X8_undo μ  e8) cl_RL_65 sv_X8_undo ckk_X8_undo (tk_0 _) ⟨by decide, by decide⟩ (Nat.le_of_ble_eq_true rfl) ⟨by decide, by decide⟩ rfl dL_law_479 rfl ?_
  refine g_aload_n (j := 2) (x := base + 186) dL_law_482 rfl rfl ?_
  refine gs_callVi (As := []) (st := [.int r]) (kr := 186) (k_X9_undo μ1  e9) cl_RL_68 sv_X9_undo ckk_X9_undo (tk_186 _) ⟨by decide, by decide⟩ (Nat.le_of_ble_eq_true rfl) ⟨by decide, by decide⟩ rfl dL_law_483 rfl ?_
  refine g_icmp_eq 891 dL_law_486 (by decide) (fun _ => ?_) (fun hc => absurd rfl hc)
  exact hk _ hI2
set_option maxRecDepth 100000 in
set_option maxHeartbeats 4000000 in
theorem law_now {l : Launch} {D : va_G} {cy : Nat → ClassId} {base b L i c : Nat} {xs : Nat → Int32} {μ : Mem} {Inv : Nat → Mem → Prop} (hI : Sp_now Inv) (hc5 : c < 512) (hinv : Inv c μ) (hi5 : i + 5 ≤ L) (hL5 : L ≤ 2560) (hk : ∀ μ2, Inv (c + 1) μ2 → G l D cy base RL code 4 (some .boolean) room_1 (lX base b L xs) lZ 891 [(0, .ref b), (1, .ref (base + 0)), (2, .ref (base + 186)), (3, .int (nI i))] [] 199 9753 gNN (gH cy base μ2)) : G l D cy base RL code 4 (some .boolean) room_1 (lX base b L xs) lZ 491 [(0, .ref b), (1, .ref (base + 0)), (2, .ref (base + 186)), (3, .int (nI i))] [] 199 9753 gNN (gH cy base μ) := by
  obtain ⟨r, μ1, μ2, e8, e9, hI2⟩ := hI c μ (xs (nI i + (1 : Int32)).toNatClampNeg) hc5 hinv
  refine g_aload_n (j := 1) (x := base + 0) dL_law_491 rfl rfl ?_
  refine g_aload_n (j := 0) (x := b) dL_law_492 rfl rfl ?_
  refine g_iload_n (j := 3) (x := nI i) dL_law_493 rfl rfl ?_
  refine g_iconst (v := 1) dL_law_494 (by decide) ?_
  refine g_iadd dL_law_495 ?_
  refine gl_sld (law_ix (t := 1) hi5 hL5 (by decide)) dL_law_496 ?_
  refine gs_callVi (As := [.int (xs (nI i + (1 : Int32)).toNatClampNeg)]) (st := []) (kr := 0) (k_X8_now μ (xs (nI i + (1 : Int32)).toNatClampNeg) e8) cl_RL_69 sv_X8_now ckk_X8_now (tk_0 _) ⟨by decide, by decide⟩ (Nat.le_of_ble_eq_true rfl) ⟨by decide, by decide⟩ rfl dL_law_497 rfl ?_
  refine g_aload_n (j := 2) (x := base + 186) dL_law_500 rfl rfl ?_
  refine g_aload_n (j := 0) (x := b) dL_law_501 rfl rfl ?_
  refine g_iload_n (j := 3) (x := nI i) dL_law_502 rfl rfl ?_
  refine g_iconst (v := 1) dL_law_503 (by decide) ?_
  refine g_iadd dL_law_504 ?_
  refine gl_sld (law_ix (t := 1) hi5 hL5 (by decide)) dL_law_505 ?_
  refine gs_callVi (As := [.int (xs (nI i + (1 : Int32)).toNatClampNeg)]) (st := [.int r]) (kr := 186) (k_X9_now μ1 (xs (nI i + (1 : Int32)).toNatClampNeg) e9) cl_RL_72 sv_X9_now ckk_X9_now (tk_186 _) ⟨by decide, by decide⟩ (Nat.le_of_ble_eq_true rfl) ⟨by decide, by decide⟩ rfl dL_law_506 rfl ?_
  refine g_icmp_eq 891 dL_law_509 (by decide) (fun _ => ?_) (fun hc => absurd rfl hc)
  exact hk _ hI2
set_option maxRecDepth 100000 in
set_option maxHeartbeats 4000000 in
theorem law_surest {l : Launch} {D : va_G} {cy : Nat → ClassId} {base b L i c : Nat} {xs : Nat → Int32} {μ : Mem} {Inv : Nat → Mem → Prop} (hI : Sp_surest Inv) (hc5 : c < 512) (hinv : Inv c μ) (hi5 : i + 5 ≤ L) (hL5 : L ≤ 2560) (hk : ∀ μ2, Inv (c + 1) μ2 → G l D cy base RL code 4 (some .boolean) room_1 (lX base b L xs) lZ 891 [(0, .ref b), (1, .ref (base + 0)), (2, .ref (base + 186)), (3, .int (nI i))] [] 199 9753 gNN (gH cy base μ2)) : G l D cy base RL code 4 (some .boolean) room_1 (lX base b L xs) lZ 514 [(0, .ref b), (1, .ref (base + 0)), (2, .ref (base + 186)), (3, .int (nI i))] [] 199 9753 gNN (gH cy base μ) := by
  obtain ⟨r, μ1, μ2, e8, e9, hI2⟩ := hI c μ (xs (nI i + (1 : Int32)).toNatClampNeg) (xs (nI i + (2 : Int32)).toNatClampNeg) (xs (nI i + (3 : Int32)).toNatClampNeg) hc5 hinv
  refine g_aload_n (j := 1) (x := base + 0) dL_law_514 rfl rfl ?_
  refine g_aload_n (j := 0) (x := b) dL_law_515 rfl rfl ?_
  refine g_iload_n (j := 3) (x := nI i) dL_law_516 rfl rfl ?_
  refine g_iconst (v := 1) dL_law_517 (by decide) ?_
  refine g_iadd dL_law_518 ?_
  refine gl_sld (law_ix (t := 1) hi5 hL5 (by decide)) dL_law_519 ?_
  refine g_aload_n (j := 0) (x := b) dL_law_520 rfl rfl ?_
  refine g_iload_n (j := 3) (x := nI i) dL_law_521 rfl rfl ?_
  refine g_iconst (v := 2) dL_law_522 (by decide) ?_
  refine g_iadd dL_law_523 ?_
  refine gl_sld (law_ix (t := 2) hi5 hL5 (by decide)) dL_law_524 ?_
  refine g_aload_n (j := 0) (x := b) dL_law_525 rfl rfl ?_
  refine g_iload_n (j := 3) (x := nI i) dL_law_526 rfl rfl ?_
  refine g_iconst (v := 3) dL_law_527 (by decide) ?_
  refine g_iadd dL_law_528 ?_
  refine gl_sld (law_ix (t := 3) hi5 hL5 (by decide)) dL_law_529 ?_
  refine gs_callVi (As := [.int (xs (nI i + (1 : Int32)).toNatClampNeg), .int (xs (nI i + (2 : Int32)).toNatClampNeg), .int (xs (nI i + (3 : Int32)).toNatClampNeg)]) (st := []) (kr := 0) (k_X8_surest μ (xs (nI i + (1 : Int32)).toNatClampNeg) (xs (nI i + (2 : Int32)).toNatClampNeg) (xs (nI i + (3 : Int32)).toNatClampNeg) e8) cl_RL_73 sv_X8_surest ckk_X8_surest (tk_0 _) ⟨by decide, by decide⟩ (Nat.le_of_ble_eq_true rfl) ⟨by decide, by decide⟩ rfl dL_law_530 rfl ?_
  refine g_aload_n (j := 2) (x := base + 186) dL_law_533 rfl rfl ?_
  refine g_aload_n (j := 0) (x := b) dL_law_534 rfl rfl ?_
  refine g_iload_n (j := 3) (x := nI i) dL_law_535 rfl rfl ?_
  refine g_iconst (v := 1) dL_law_536 (by decide) ?_
  refine g_iadd dL_law_537 ?_
  refine gl_sld (law_ix (t := 1) hi5 hL5 (by decide)) dL_law_538 ?_
  refine g_aload_n (j := 0) (x := b) dL_law_539 rfl rfl ?_
  refine g_iload_n (j := 3) (x := nI i) dL_law_540 rfl rfl ?_
  refine g_iconst (v := 2) dL_law_541 (by decide) ?_
  refine g_iadd dL_law_542 ?_
  refine gl_sld (law_ix (t := 2) hi5 hL5 (by decide)) dL_law_543 ?_
  refine g_aload_n (j := 0) (x := b) dL_law_544 rfl rfl ?_
  refine g_iload_n (j := 3) (x := nI i) dL_law_545 rfl rfl ?_
  refine g_iconst (v := 3) dL_law_546 (by decide) ?_
  refine g_iadd dL_law_547 ?_
  refine gl_sld (law_ix (t := 3) hi5 hL5 (by decide)) dL_law_548 ?_
  refine gs_callVi (As := [.int (xs (nI i + (1 : Int32)).toNatClampNeg), .int (xs (nI i + (2 : Int32)).toNatClampNeg), .int (xs (nI i + (3 : Int32)).toNatClampNeg)]) (st := [.int r]) (kr := 186) (k_X9_surest μ1 (xs (nI i + (1 : Int32)).toNatClampNeg) (xs (nI i + (2 : Int32)).toNatClampNeg) (xs (nI i + (3 : Int32)).toNatClampNeg) e9) cl_RL_76 sv_X9_surest ckk_X9_surest (tk_186 _) ⟨by decide, by decide⟩ (Nat.le_of_ble_eq_true rfl) ⟨by decide, by decide⟩ rfl dL_law_549 rfl ?_
  refine g_icmp_eq 891 dL_law_552 (by decide) (fun _ => ?_) (fun hc => absurd rfl hc)
  exact hk _ hI2
set_option maxRecDepth 100000 in
set_option maxHeartbeats 4000000 in
theorem law_bars {l : Launch} {D : va_G} {cy : Nat → ClassId} {base b L i c : Nat} {xs : Nat → Int32} {μ : Mem} {Inv : Nat → Mem → Prop} (hI : Sp_bars Inv) (hc5 : c < 512) (hinv : Inv c μ) (hi5 : i + 5 ≤ L) (hL5 : L ≤ 2560) (hk : ∀ μ2, Inv (c + 1) μ2 → G l D cy base RL code 4 (some .boolean) room_1 (lX base b L xs) lZ 891 [(0, .ref b), (1, .ref (base + 0)), (2, .ref (base + 186)), (3, .int (nI i))] [] 199 9753 gNN (gH cy base μ2)) : G l D cy base RL code 4 (some .boolean) room_1 (lX base b L xs) lZ 557 [(0, .ref b), (1, .ref (base + 0)), (2, .ref (base + 186)), (3, .int (nI i))] [] 199 9753 gNN (gH cy base μ) := by
  obtain ⟨r, μ1, μ2, e8, e9, hI2⟩ := hI c μ (xs (nI i + (1 : Int32)).toNatClampNeg) (xs (nI i + (2 : Int32)).toNatClampNeg) hc5 hinv
  obtain ⟨e9, rfl⟩ := e9
  refine g_aload_n (j := 1) (x := base + 0) dL_law_557 rfl rfl ?_
  refine g_aload_n (j := 0) (x := b) dL_law_558 rfl rfl ?_
  refine g_iload_n (j := 3) (x := nI i) dL_law_559 rfl rfl ?_
  refine g_iconst (v := 1) dL_law_560 (by decide) ?_
  refine g_iadd dL_law_561 ?_
  refine gl_sld (law_ix (t := 1) hi5 hL5 (by decide)) dL_law_562 ?_
  refine g_aload_n (j := 0) (x := b) dL_law_563 rfl rfl ?_
  refine g_iload_n (j := 3) (x := nI i) dL_law_564 rfl rfl ?_
  refine g_iconst (v := 2) dL_law_565 (by decide) ?_
  refine g_iadd dL_law_566 ?_
  refine gl_sld (law_ix (t := 2) hi5 hL5 (by decide)) dL_law_567 ?_
  refine gs_callVi (As := [.int (xs (nI i + (1 : Int32)).toNatClampNeg), .int (xs (nI i + (2 : Int32)).toNatClampNeg)]) (st := []) (kr := 0) (k_X8_bars μ (xs (nI i + (1 : Int32)).toNatClampNeg) (xs (nI i + (2 : Int32)).toNatClampNeg) e8) cl_RL_77 sv_X8_bars ckk_X8_bars (tk_0 _) ⟨by decide, by decide⟩ (Nat.le_of_ble_eq_true rfl) ⟨by decide, by decide⟩ rfl dL_law_568 rfl ?_
  refine g_aload_n (j := 2) (x := base + 186) dL_law_571 rfl rfl ?_
  refine g_aload_n (j := 0) (x := b) dL_law_572 rfl rfl ?_
  refine g_iload_n (j := 3) (x := nI i) dL_law_573 rfl rfl ?_
  refine g_iconst (v := 1) dL_law_574 (by decide) ?_
  refine g_iadd dL_law_575 ?_
  refine gl_sld (law_ix (t := 1) hi5 hL5 (by decide)) dL_law_576 ?_
  refine g_aload_n (j := 0) (x := b) dL_law_577 rfl rfl ?_
  refine g_iload_n (j := 3) (x := nI i) dL_law_578 rfl rfl ?_
  refine g_iconst (v := 2) dL_law_579 (by decide) ?_
  refine g_iadd dL_law_580 ?_
  refine gl_sld (law_ix (t := 2) hi5 hL5 (by decide)) dL_law_581 ?_
  refine gs_callVi (As := [.int (xs (nI i + (1 : Int32)).toNatClampNeg), .int (xs (nI i + (2 : Int32)).toNatClampNeg)]) (st := [.int r]) (kr := 186) (k_X9_bars μ2 (xs (nI i + (1 : Int32)).toNatClampNeg) (xs (nI i + (2 : Int32)).toNatClampNeg) e9) cl_RL_80 sv_X9_bars ckk_X9_bars (tk_186 _) ⟨by decide, by decide⟩ (Nat.le_of_ble_eq_true rfl) ⟨by decide, by decide⟩ rfl dL_law_582 rfl ?_
  refine g_icmp_eq 891 dL_law_585 (by decide) (fun _ => ?_) (fun hc => absurd rfl hc)
  exact hk _ hI2
set_option maxRecDepth 100000 in
set_option maxHeartbeats 4000000 in
theorem law_paid {l : Launch} {D : va_G} {cy : Nat → ClassId} {base b L i c : Nat} {xs : Nat → Int32} {μ : Mem} {Inv : Nat → Mem → Prop} (hI : Sp_paid Inv) (hc5 : c < 512) (hinv : Inv c μ) (hi5 : i + 5 ≤ L) (hL5 : L ≤ 2560) (hk : ∀ μ2, Inv (c + 1) μ2 → G l D cy base RL code 4 (some .boolean) room_1 (lX base b L xs) lZ 891 [(0, .ref b), (1, .ref (base + 0)), (2, .ref (base + 186)), (3, .int (nI i))] [] 199 9753 gNN (gH cy base μ2)) : G l D cy base RL code 4 (some .boolean) room_1 (lX base b L xs) lZ 590 [(0, .ref b), (1, .ref (base + 0)), (2, .ref (base + 186)), (3, .int (nI i))] [] 199 9753 gNN (gH cy base μ) := by
  obtain ⟨r, μ1, μ2, e8, e9, hI2⟩ := hI c μ (xs (nI i + (1 : Int32)).toNatClampNeg) (xs (nI i + (2 : Int32)).toNatClampNeg) hc5 hinv
  refine g_aload_n (j := 1) (x := base + 0) dL_law_590 rfl rfl ?_
  refine g_aload_n (j := 0) (x := b) dL_law_591 rfl rfl ?_
  refine g_iload_n (j := 3) (x := nI i) dL_law_592 rfl rfl ?_
  refine g_iconst (v := 1) dL_law_593 (by decide) ?_
  refine g_iadd dL_law_594 ?_
  refine gl_sld (law_ix (t := 1) hi5 hL5 (by decide)) dL_law_595 ?_
  refine g_aload_n (j := 0) (x := b) dL_law_596 rfl rfl ?_
  refine g_iload_n (j := 3) (x := nI i) dL_law_597 rfl rfl ?_
  refine g_iconst (v := 2) dL_law_598 (by decide) ?_
  refine g_iadd dL_law_599 ?_
  refine gl_sld (law_ix (t := 2) hi5 hL5 (by decide)) dL_law_600 ?_
  refine gs_callVi (As := [.int (xs (nI i + (1 : Int32)).toNatClampNeg), .int (xs (nI i + (2 : Int32)).toNatClampNeg)]) (st := []) (kr := 0) (k_X8_paid μ (xs (nI i + (1 : Int32)).toNatClampNeg) (xs (nI i + (2 : Int32)).toNatClampNeg) e8) cl_RL_81 sv_X8_paid ckk_X8_paid (tk_0 _) ⟨by decide, by decide⟩ (Nat.le_of_ble_eq_true rfl) ⟨by decide, by decide⟩ rfl dL_law_601 rfl ?_
  refine g_aload_n (j := 2) (x := base + 186) dL_law_604 rfl rfl ?_
  refine g_aload_n (j := 0) (x := b) dL_law_605 rfl rfl ?_
  refine g_iload_n (j := 3) (x := nI i) dL_law_606 rfl rfl ?_
  refine g_iconst (v := 1) dL_law_607 (by decide) ?_
  refine g_iadd dL_law_608 ?_
  refine gl_sld (law_ix (t := 1) hi5 hL5 (by decide)) dL_law_609 ?_
  refine g_aload_n (j := 0) (x := b) dL_law_610 rfl rfl ?_
  refine g_iload_n (j := 3) (x := nI i) dL_law_611 rfl rfl ?_
  refine g_iconst (v := 2) dL_law_612 (by decide) ?_
  refine g_iadd dL_law_613 ?_
  refine gl_sld (law_ix (t := 2) hi5 hL5 (by decide)) dL_law_614 ?_
  refine gs_callVi (As := [.int (xs (nI i + (1 : Int32)).toNatClampNeg), .int (xs (nI i + (2 : Int32)).toNatClampNeg)]) (st := [.int r]) (kr := 186) (k_X9_paid μ1 (xs (nI i + (1 : Int32)).toNatClampNeg) (xs (nI i + (2 : Int32)).toNatClampNeg) e9) cl_RL_84 sv_X9_paid ckk_X9_paid (tk_186 _) ⟨by decide, by decide⟩ (Nat.le_of_ble_eq_true rfl) ⟨by decide, by decide⟩ rfl dL_law_615 rfl ?_
  refine g_icmp_eq 891 dL_law_618 (by decide) (fun _ => ?_) (fun hc => absurd rfl hc)
  exact hk _ hI2
set_option maxRecDepth 100000 in
set_option maxHeartbeats 4000000 in
theorem law_coins {l : Launch} {D : va_G} {cy : Nat → ClassId} {base b L i c : Nat} {xs : Nat → Int32} {μ : Mem} {Inv : Nat → Mem → Prop} (hI : Sp_coins Inv) (hc5 : c < 512) (hinv : Inv c μ) (hi5 : i + 5 ≤ L) (hL5 : L ≤ 2560) (hk : ∀ μ2, Inv (c + 1) μ2 → G l D cy base RL code 4 (some .boolean) room_1 (lX base b L xs) lZ 891 [(0, .ref b), (1, .ref (base + 0)), (2, .ref (base + 186)), (3, .int (nI i))] [] 199 9753 gNN (gH cy base μ2)) : G l D cy base RL code 4 (some .boolean) room_1 (lX base b L xs) lZ 623 [(0, .ref b), (1, .ref (base + 0)), (2, .ref (base + 186)), (3, .int (nI i))] [] 199 9753 gNN (gH cy base μ) := by
  obtain ⟨r, μ1, μ2, e8, e9, hI2⟩ := hI c μ (xs (nI i + (1 : Int32)).toNatClampNeg) (xs (nI i + (2 : Int32)).toNatClampNeg) hc5 hinv
  refine g_aload_n (j := 1) (x := base + 0) dL_law_623 rfl rfl ?_
  refine g_aload_n (j := 0) (x := b) dL_law_624 rfl rfl ?_
  refine g_iload_n (j := 3) (x := nI i) dL_law_625 rfl rfl ?_
  refine g_iconst (v := 1) dL_law_626 (by decide) ?_
  refine g_iadd dL_law_627 ?_
  refine gl_sld (law_ix (t := 1) hi5 hL5 (by decide)) dL_law_628 ?_
  refine g_aload_n (j := 0) (x := b) dL_law_629 rfl rfl ?_
  refine g_iload_n (j := 3) (x := nI i) dL_law_630 rfl rfl ?_
  refine g_iconst (v := 2) dL_law_631 (by decide) ?_
  refine g_iadd dL_law_632 ?_
  refine gl_sld (law_ix (t := 2) hi5 hL5 (by decide)) dL_law_633 ?_
  refine gs_callVi (As := [.int (xs (nI i + (1 : Int32)).toNatClampNeg), .int (xs (nI i + (2 : Int32)).toNatClampNeg)]) (st := []) (kr := 0) (k_X8_coins μ (xs (nI i + (1 : Int32)).toNatClampNeg) (xs (nI i + (2 : Int32)).toNatClampNeg) e8) cl_RL_85 sv_X8_coins ckk_X8_coins (tk_0 _) ⟨by decide, by decide⟩ (Nat.le_of_ble_eq_true rfl) ⟨by decide, by decide⟩ rfl dL_law_634 rfl ?_
  refine g_aload_n (j := 2) (x := base + 186) dL_law_637 rfl rfl ?_
  refine g_aload_n (j := 0) (x := b) dL_law_638 rfl rfl ?_
  refine g_iload_n (j := 3) (x := nI i) dL_law_639 rfl rfl ?_
  refine g_iconst (v := 1) dL_law_640 (by decide) ?_
  refine g_iadd dL_law_641 ?_
  refine gl_sld (law_ix (t := 1) hi5 hL5 (by decide)) dL_law_642 ?_
  refine g_aload_n (j := 0) (x := b) dL_law_643 rfl rfl ?_
  refine g_iload_n (j := 3) (x := nI i) dL_law_644 rfl rfl ?_
  refine g_iconst (v := 2) dL_law_645 (by decide) ?_
  refine g_iadd dL_law_646 ?_
  refine gl_sld (law_ix (t := 2) hi5 hL5 (by decide)) dL_law_647 ?_
  refine gs_callVi (As := [.int (xs (nI i + (1 : Int32)).toNatClampNeg), .int (xs (nI i + (2 : Int32)).toNatClampNeg)]) (st := [.int r]) (kr := 186) (k_X9_coins μ1 (xs (nI i + (1 : Int32)).toNatClampNeg) (xs (nI i + (2 : Int32)).toNatClampNeg) e9) cl_RL_88 sv_X9_coins ckk_X9_coins (tk_186 _) ⟨by decide, by decide⟩ (Nat.le_of_ble_eq_true rfl) ⟨by decide, by decide⟩ rfl dL_law_648 rfl ?_
  refine g_icmp_eq 891 dL_law_651 (by decide) (fun _ => ?_) (fun hc => absurd rfl hc)
  exact hk _ hI2
set_option maxRecDepth 100000 in
set_option maxHeartbeats 4000000 in
theorem law_free {l : Launch} {D : va_G} {cy : Nat → ClassId} {base b L i c : Nat} {xs : Nat → Int32} {μ : Mem} {Inv : Nat → Mem → Prop} (hI : Sp_free Inv) (hc5 : c < 512) (hinv : Inv c μ) (hi5 : i + 5 ≤ L) (hL5 : L ≤ 2560) (hk : ∀ μ2, Inv (c + 1) μ2 → G l D cy base RL code 4 (some .boolean) room_1 (lX base b L xs) lZ 891 [(0, .ref b), (1, .ref (base + 0)), (2, .ref (base + 186)), (3, .int (nI i))] [] 199 9753 gNN (gH cy base μ2)) : G l D cy base RL code 4 (some .boolean) room_1 (lX base b L xs) lZ 656 [(0, .ref b), (1, .ref (base + 0)), (2, .ref (base + 186)), (3, .int (nI i))] [] 199 9753 gNN (gH cy base μ) := by
  obtain ⟨r, μ1, μ2, e8, e9, hI2⟩ := hI c μ (xs (nI i + (1 : Int32)).toNatClampNeg) (xs (nI i + (2 : Int32)).toNatClampNeg) hc5 hinv
  obtain ⟨e8, rfl⟩ := e8
  obtain ⟨e9, rfl⟩ := e9
  refine g_aload_n (j := 1) (x := base + 0) dL_law_656 rfl rfl ?_
  refine g_aload_n (j := 0) (x := b) dL_law_657 rfl rfl ?_
  refine g_iload_n (j := 3) (x := nI i) dL_law_658 rfl rfl ?_
  refine g_iconst (v := 1) dL_law_659 (by decide) ?_
  refine g_iadd dL_law_660 ?_
  refine gl_sld (law_ix (t := 1) hi5 hL5 (by decide)) dL_law_661 ?_
  refine g_aload_n (j := 0) (x := b) dL_law_662 rfl rfl ?_
  refine g_iload_n (j := 3) (x := nI i) dL_law_663 rfl rfl ?_
  refine g_iconst (v := 2) dL_law_664 (by decide) ?_
  refine g_iadd dL_law_665 ?_
  refine gl_sld (law_ix (t := 2) hi5 hL5 (by decide)) dL_law_666 ?_
  refine gs_callVi (As := [.int (xs (nI i + (1 : Int32)).toNatClampNeg), .int (xs (nI i + (2 : Int32)).toNatClampNeg)]) (st := []) (kr := 0) (k_X8_free μ2 (xs (nI i + (1 : Int32)).toNatClampNeg) (xs (nI i + (2 : Int32)).toNatClampNeg) e8) cl_RL_89 sv_X8_free ckk_X8_free (tk_0 _) ⟨by decide, by decide⟩ (Nat.le_of_ble_eq_true rfl) ⟨by decide, by decide⟩ rfl dL_law_667 rfl ?_
  refine g_aload_n (j := 2) (x := base + 186) dL_law_670 rfl rfl ?_
  refine g_aload_n (j := 0) (x := b) dL_law_671 rfl rfl ?_
  refine g_iload_n (j := 3) (x := nI i) dL_law_672 rfl rfl ?_
  refine g_iconst (v := 1) dL_law_673 (by decide) ?_
  refine g_iadd dL_law_674 ?_
  refine gl_sld (law_ix (t := 1) hi5 hL5 (by decide)) dL_law_675 ?_
  refine g_aload_n (j := 0) (x := b) dL_law_676 rfl rfl ?_
  refine g_iload_n (j := 3) (x := nI i) dL_law_677 rfl rfl ?_
  refine g_iconst (v := 2) dL_law_678 (by decide) ?_
  refine g_iadd dL_law_679 ?_
  refine gl_sld (law_ix (t := 2) hi5 hL5 (by decide)) dL_law_680 ?_
  refine gs_callVi (As := [.int (xs (nI i + (1 : Int32)).toNatClampNeg), .int (xs (nI i + (2 : Int32)).toNatClampNeg)]) (st := [.int r]) (kr := 186) (k_X9_free μ2 (xs (nI i + (1 : Int32)).toNatClampNeg) (xs (nI i + (2 : Int32)).toNatClampNeg) e9) cl_RL_92 sv_X9_free ckk_X9_free (tk_186 _) ⟨by decide, by decide⟩ (Nat.le_of_ble_eq_true rfl) ⟨by decide, by decide⟩ rfl dL_law_681 rfl ?_
  refine g_icmp_eq 891 dL_law_684 (by decide) (fun _ => ?_) (fun hc => absurd rfl hc)
  exact hk _ hI2
set_option maxRecDepth 100000 in
set_option maxHeartbeats 4000000 in
theorem law_who {l : Launch} {D : va_G} {cy : Nat → ClassId} {base b L i c : Nat} {xs : Nat → Int32} {μ : Mem} {Inv : Nat → Mem → Prop} (hI : Sp_who Inv) (hc5 : c < 512) (hinv : Inv c μ) (hi5 : i + 5 ≤ L) (hL5 : L ≤ 2560) (hk : ∀ μ2, Inv (c + 1) μ2 → G l D cy base RL code 4 (some .boolean) room_1 (lX base b L xs) lZ 891 [(0, .ref b), (1, .ref (base + 0)), (2, .ref (base + 186)), (3, .int (nI i))] [] 199 9753 gNN (gH cy base μ2)) : G l D cy base RL code 4 (some .boolean) room_1 (lX base b L xs) lZ 689 [(0, .ref b), (1, .ref (base + 0)), (2, .ref (base + 186)), (3, .int (nI i))] [] 199 9753 gNN (gH cy base μ) := by
  obtain ⟨r, μ1, μ2, e8, e9, hI2⟩ := hI c μ (xs (nI i + (1 : Int32)).toNatClampNeg) (xs (nI i + (2 : Int32)).toNatClampNeg) (xs (nI i + (3 : Int32)).toNatClampNeg) (xs (nI i + (4 : Int32)).toNatClampNeg) hc5 hinv
  obtain ⟨e9, rfl⟩ := e9
  refine g_aload_n (j := 1) (x := base + 0) dL_law_689 rfl rfl ?_
  refine g_aload_n (j := 0) (x := b) dL_law_690 rfl rfl ?_
  refine g_iload_n (j := 3) (x := nI i) dL_law_691 rfl rfl ?_
  refine g_iconst (v := 1) dL_law_692 (by decide) ?_
  refine g_iadd dL_law_693 ?_
  refine gl_sld (law_ix (t := 1) hi5 hL5 (by decide)) dL_law_694 ?_
  refine g_aload_n (j := 0) (x := b) dL_law_695 rfl rfl ?_
  refine g_iload_n (j := 3) (x := nI i) dL_law_696 rfl rfl ?_
  refine g_iconst (v := 2) dL_law_697 (by decide) ?_
  refine g_iadd dL_law_698 ?_
  refine gl_sld (law_ix (t := 2) hi5 hL5 (by decide)) dL_law_699 ?_
  refine g_aload_n (j := 0) (x := b) dL_law_700 rfl rfl ?_
  refine g_iload_n (j := 3) (x := nI i) dL_law_701 rfl rfl ?_
  refine g_iconst (v := 3) dL_law_702 (by decide) ?_
  refine g_iadd dL_law_703 ?_
  refine gl_sld (law_ix (t := 3) hi5 hL5 (by decide)) dL_law_704 ?_
  refine g_aload_n (j := 0) (x := b) dL_law_705 rfl rfl ?_
  refine g_iload_n (j := 3) (x := nI i) dL_law_706 rfl rfl ?_
  refine g_iconst (v := 4) dL_law_707 (by decide) ?_
  refine g_iadd dL_law_708 ?_
  refine gl_sld (law_ix (t := 4) hi5 hL5 (by decide)) dL_law_709 ?_
  refine gs_callVi (As := [.int (xs (nI i + (1 : Int32)).toNatClampNeg), .int (xs (nI i + (2 : Int32)).toNatClampNeg), .int (xs (nI i + (3 : Int32)).toNatClampNeg), .int (xs (nI i + (4 : Int32)).toNatClampNeg)]) (st := []) (kr := 0) (k_X8_who μ (xs (nI i + (1 : Int32)).toNatClampNeg) (xs (nI i + (2 : Int32)).toNatClampNeg) (xs (nI i + (3 : Int32)).toNatClampNeg) (xs (nI i + (4 : Int32)).toNatClampNeg) e8) cl_RL_93 sv_X8_who ckk_X8_who (tk_0 _) ⟨by decide, by decide⟩ (Nat.le_of_ble_eq_true rfl) ⟨by decide, by decide⟩ rfl dL_law_710 rfl ?_
  refine g_aload_n (j := 2) (x := base + 186) dL_law_713 rfl rfl ?_
  refine g_aload_n (j := 0) (x := b) dL_law_714 rfl rfl ?_
  refine g_iload_n (j := 3) (x := nI i) dL_law_715 rfl rfl ?_
  refine g_iconst (v := 1) dL_law_716 (by decide) ?_
  refine g_iadd dL_law_717 ?_
  refine gl_sld (law_ix (t := 1) hi5 hL5 (by decide)) dL_law_718 ?_
  refine g_aload_n (j := 0) (x := b) dL_law_719 rfl rfl ?_
  refine g_iload_n (j := 3) (x := nI i) dL_law_720 rfl rfl ?_
  refine g_iconst (v := 2) dL_law_721 (by decide) ?_
  refine g_iadd dL_law_722 ?_
  refine gl_sld (law_ix (t := 2) hi5 hL5 (by decide)) dL_law_723 ?_
  refine g_aload_n (j := 0) (x := b) dL_law_724 rfl rfl ?_
  refine g_iload_n (j := 3) (x := nI i) dL_law_725 rfl rfl ?_
  refine g_iconst (v := 3) dL_law_726 (by decide) ?_
  refine g_iadd dL_law_727 ?_
  refine gl_sld (law_ix (t := 3) hi5 hL5 (by decide)) dL_law_728 ?_
  refine g_aload_n (j := 0) (x := b) dL_law_729 rfl rfl ?_
  refine g_iload_n (j := 3) (x := nI i) dL_law_730 rfl rfl ?_
  refine g_iconst (v := 4) dL_law_731 (by decide) ?_
  refine g_iadd dL_law_732 ?_
  refine gl_sld (law_ix (t := 4) hi5 hL5 (by decide)) dL_law_733 ?_
  refine gs_callVi (As := [.int (xs (nI i + (1 : Int32)).toNatClampNeg), .int (xs (nI i + (2 : Int32)).toNatClampNeg), .int (xs (nI i + (3 : Int32)).toNatClampNeg), .int (xs (nI i + (4 : Int32)).toNatClampNeg)]) (st := [.int r]) (kr := 186) (k_X9_who μ2 (xs (nI i + (1 : Int32)).toNatClampNeg) (xs (nI i + (2 : Int32)).toNatClampNeg) (xs (nI i + (3 : Int32)).toNatClampNeg) (xs (nI i + (4 : Int32)).toNatClampNeg) e9) cl_RL_97 sv_X9_who ckk_X9_who (tk_186 _) ⟨by decide, by decide⟩ (Nat.le_of_ble_eq_true rfl) ⟨by decide, by decide⟩ rfl dL_law_734 rfl ?_
  refine g_icmp_eq 891 dL_law_737 (by decide) (fun _ => ?_) (fun hc => absurd rfl hc)
  exact hk _ hI2
set_option maxRecDepth 100000 in
set_option maxHeartbeats 4000000 in
theorem law_odds {l : Launch} {D : va_G} {cy : Nat → ClassId} {base b L i c : Nat} {xs : Nat → Int32} {μ : Mem} {Inv : Nat → Mem → Prop} (hI : Sp_odds Inv) (hc5 : c < 512) (hinv : Inv c μ) (hi5 : i + 5 ≤ L) (hL5 : L ≤ 2560) (hk : ∀ μ2, Inv (c + 1) μ2 → G l D cy base RL code 4 (some .boolean) room_1 (lX base b L xs) lZ 891 [(0, .ref b), (1, .ref (base + 0)), (2, .ref (base + 186)), (3, .int (nI i))] [] 199 9753 gNN (gH cy base μ2)) : G l D cy base RL code 4 (some .boolean) room_1 (lX base b L xs) lZ 742 [(0, .ref b), (1, .ref (base + 0)), (2, .ref (base + 186)), (3, .int (nI i))] [] 199 9753 gNN (gH cy base μ) := by
  obtain ⟨r, μ1, μ2, e8, e9, hI2⟩ := hI c μ (xs (nI i + (1 : Int32)).toNatClampNeg) (xs (nI i + (2 : Int32)).toNatClampNeg) hc5 hinv
  obtain ⟨e9, rfl⟩ := e9
  refine g_aload_n (j := 1) (x := base + 0) dL_law_742 rfl rfl ?_
  refine g_aload_n (j := 0) (x := b) dL_law_743 rfl rfl ?_
  refine g_iload_n (j := 3) (x := nI i) dL_law_744 rfl rfl ?_
  refine g_iconst (v := 1) dL_law_745 (by decide) ?_
  refine g_iadd dL_law_746 ?_
  refine gl_sld (law_ix (t := 1) hi5 hL5 (by decide)) dL_law_747 ?_
  refine g_aload_n (j := 0) (x := b) dL_law_748 rfl rfl ?_
  refine g_iload_n (j := 3) (x := nI i) dL_law_749 rfl rfl ?_
  refine g_iconst (v := 2) dL_law_750 (by decide) ?_
  refine g_iadd dL_law_751 ?_
  refine gl_sld (law_ix (t := 2) hi5 hL5 (by decide)) dL_law_752 ?_
  refine gs_callVi (As := [.int (xs (nI i + (1 : Int32)).toNatClampNeg), .int (xs (nI i + (2 : Int32)).toNatClampNeg)]) (st := []) (kr := 0) (k_X8_odds μ (xs (nI i + (1 : Int32)).toNatClampNeg) (xs (nI i + (2 : Int32)).toNatClampNeg) e8) cl_RL_98 sv_X8_odds ckk_X8_odds (tk_0 _) ⟨by decide, by decide⟩ (Nat.le_of_ble_eq_true rfl) ⟨by decide, by decide⟩ rfl dL_law_753 rfl ?_
  refine g_aload_n (j := 2) (x := base + 186) dL_law_756 rfl rfl ?_
  refine g_aload_n (j := 0) (x := b) dL_law_757 rfl rfl ?_
  refine g_iload_n (j := 3) (x := nI i) dL_law_758 rfl rfl ?_
  refine g_iconst (v := 1) dL_law_759 (by decide) ?_
  refine g_iadd dL_law_760 ?_
  refine gl_sld (law_ix (t := 1) hi5 hL5 (by decide)) dL_law_761 ?_
  refine g_aload_n (j := 0) (x := b) dL_law_762 rfl rfl ?_
  refine g_iload_n (j := 3) (x := nI i) dL_law_763 rfl rfl ?_
  refine g_iconst (v := 2) dL_law_764 (by decide) ?_
  refine g_iadd dL_law_765 ?_
  refine gl_sld (law_ix (t := 2) hi5 hL5 (by decide)) dL_law_766 ?_
  refine gs_callVi (As := [.int (xs (nI i + (1 : Int32)).toNatClampNeg), .int (xs (nI i + (2 : Int32)).toNatClampNeg)]) (st := [.int r]) (kr := 186) (k_X9_odds μ2 (xs (nI i + (1 : Int32)).toNatClampNeg) (xs (nI i + (2 : Int32)).toNatClampNeg) e9) cl_RL_101 sv_X9_odds ckk_X9_odds (tk_186 _) ⟨by decide, by decide⟩ (Nat.le_of_ble_eq_true rfl) ⟨by decide, by decide⟩ rfl dL_law_767 rfl ?_
  refine g_icmp_eq 891 dL_law_770 (by decide) (fun _ => ?_) (fun hc => absurd rfl hc)
  exact hk _ hI2
set_option maxRecDepth 100000 in
set_option maxHeartbeats 4000000 in
theorem law_mark {l : Launch} {D : va_G} {cy : Nat → ClassId} {base b L i c : Nat} {xs : Nat → Int32} {μ : Mem} {Inv : Nat → Mem → Prop} (hI : Sp_mark Inv) (hc5 : c < 512) (hinv : Inv c μ) (hi5 : i + 5 ≤ L) (hL5 : L ≤ 2560) (hk : ∀ μ2, Inv (c + 1) μ2 → G l D cy base RL code 4 (some .boolean) room_1 (lX base b L xs) lZ 891 [(0, .ref b), (1, .ref (base + 0)), (2, .ref (base + 186)), (3, .int (nI i))] [] 199 9753 gNN (gH cy base μ2)) : G l D cy base RL code 4 (some .boolean) room_1 (lX base b L xs) lZ 775 [(0, .ref b), (1, .ref (base + 0)), (2, .ref (base + 186)), (3, .int (nI i))] [] 199 9753 gNN (gH cy base μ) := by
  obtain ⟨r, μ1, μ2, e8, e9, hI2⟩ := hI c μ (xs (nI i + (1 : Int32)).toNatClampNeg) (xs (nI i + (2 : Int32)).toNatClampNeg) hc5 hinv
  refine g_aload_n (j := 1) (x := base + 0) dL_law_775 rfl rfl ?_
  refine g_aload_n (j := 0) (x := b) dL_law_776 rfl rfl ?_
  refine g_iload_n (j := 3) (x := nI i) dL_law_777 rfl rfl ?_
  refine g_iconst (v := 1) dL_law_778 (by decide) ?_
  refine g_iadd dL_law_779 ?_
  refine gl_sld (law_ix (t := 1) hi5 hL5 (by decide)) dL_law_780 ?_
  refine g_aload_n (j := 0) (x := b) dL_law_781 rfl rfl ?_
  refine g_iload_n (j := 3) (x := nI i) dL_law_782 rfl rfl ?_
  refine g_iconst (v := 2) dL_law_783 (by decide) ?_
  refine g_iadd dL_law_784 ?_
  refine gl_sld (law_ix (t := 2) hi5 hL5 (by decide)) dL_law_785 ?_
  refine gs_callVi (As := [.int (xs (nI i + (1 : Int32)).toNatClampNeg), .int (xs (nI i + (2 : Int32)).toNatClampNeg)]) (st := []) (kr := 0) (k_X8_mark μ (xs (nI i + (1 : Int32)).toNatClampNeg) (xs (nI i + (2 : Int32)).toNatClampNeg) e8) cl_RL_102 sv_X8_mark ckk_X8_mark (tk_0 _) ⟨by decide, by decide⟩ (Nat.le_of_ble_eq_true rfl) ⟨by decide, by decide⟩ rfl dL_law_786 rfl ?_
  refine g_aload_n (j := 2) (x := base + 186) dL_law_789 rfl rfl ?_
  refine g_aload_n (j := 0) (x := b) dL_law_790 rfl rfl ?_
  refine g_iload_n (j := 3) (x := nI i) dL_law_791 rfl rfl ?_
  refine g_iconst (v := 1) dL_law_792 (by decide) ?_
  refine g_iadd dL_law_793 ?_
  refine gl_sld (law_ix (t := 1) hi5 hL5 (by decide)) dL_law_794 ?_
  refine g_aload_n (j := 0) (x := b) dL_law_795 rfl rfl ?_
  refine g_iload_n (j := 3) (x := nI i) dL_law_796 rfl rfl ?_
  refine g_iconst (v := 2) dL_law_797 (by decide) ?_
  refine g_iadd dL_law_798 ?_
  refine gl_sld (law_ix (t := 2) hi5 hL5 (by decide)) dL_law_799 ?_
  refine gs_callVi (As := [.int (xs (nI i + (1 : Int32)).toNatClampNeg), .int (xs (nI i + (2 : Int32)).toNatClampNeg)]) (st := [.int r]) (kr := 186) (k_X9_mark μ1 (xs (nI i + (1 : Int32)).toNatClampNeg) (xs (nI i + (2 : Int32)).toNatClampNeg) e9) cl_RL_105 sv_X9_mark ckk_X9_mark (tk_186 _) ⟨by decide, by decide⟩ (Nat.le_of_ble_eq_true rfl) ⟨by decide, by decide⟩ rfl dL_law_800 rfl ?_
  refine g_icmp_eq 891 dL_law_803 (by decide) (fun _ => ?_) (fun hc => absurd rfl hc)
  exact hk _ hI2
set_option maxRecDepth 100000 in
set_option maxHeartbeats 4000000 in
theorem law_keep {l : Launch} {D : va_G} {cy : Nat → ClassId} {base b L i c : Nat} {xs : Nat → Int32} {μ : Mem} {Inv : Nat → Mem → Prop} (hI : Sp_keep Inv) (hc5 : c < 512) (hinv : Inv c μ) (hi5 : i + 5 ≤ L) (hL5 : L ≤ 2560) (hk : ∀ μ2, Inv (c + 1) μ2 → G l D cy base RL code 4 (some .boolean) room_1 (lX base b L xs) lZ 891 [(0, .ref b), (1, .ref (base + 0)), (2, .ref (base + 186)), (3, .int (nI i))] [] 199 9753 gNN (gH cy base μ2)) : G l D cy base RL code 4 (some .boolean) room_1 (lX base b L xs) lZ 808 [(0, .ref b), (1, .ref (base + 0)), (2, .ref (base + 186)), (3, .int (nI i))] [] 199 9753 gNN (gH cy base μ) := by
  obtain ⟨r, μ1, μ2, e8, e9, hI2⟩ := hI c μ (xs (nI i + (1 : Int32)).toNatClampNeg) hc5 hinv
  refine g_aload_n (j := 1) (x := base + 0) dL_law_808 rfl rfl ?_
  refine g_aload_n (j := 0) (x := b) dL_law_809 rfl rfl ?_
  refine g_iload_n (j := 3) (x := nI i) dL_law_810 rfl rfl ?_
  refine g_iconst (v := 1) dL_law_811 (by decide) ?_
  refine g_iadd dL_law_812 ?_
  refine gl_sld (law_ix (t := 1) hi5 hL5 (by decide)) dL_law_813 ?_
  refine gs_callVi (As := [.int (xs (nI i + (1 : Int32)).toNatClampNeg)]) (st := []) (kr := 0) (k_X8_keep μ (xs (nI i + (1 : Int32)).toNatClampNeg) e8) cl_RL_106 sv_X8_keep ckk_X8_keep (tk_0 _) ⟨by decide, by decide⟩ (Nat.le_of_ble_eq_true rfl) ⟨by decide, by decide⟩ rfl dL_law_814 rfl ?_
  refine g_aload_n (j := 2) (x := base + 186) dL_law_817 rfl rfl ?_
  refine g_aload_n (j := 0) (x := b) dL_law_818 rfl rfl ?_
  refine g_iload_n (j := 3) (x := nI i) dL_law_819 rfl rfl ?_
  refine g_iconst (v := 1) dL_law_820 (by decide) ?_
  refine g_iadd dL_law_821 ?_
  refine gl_sld (law_ix (t := 1) hi5 hL5 (by decide)) dL_law_822 ?_
  refine gs_callVi (As := [.int (xs (nI i + (1 : Int32)).toNatClampNeg)]) (st := [.int r]) (kr := 186) (k_X9_keep μ1 (xs (nI i + (1 : Int32)).toNatClampNeg) e9) cl_RL_109 sv_X9_keep ckk_X9_keep (tk_186 _) ⟨by decide, by decide⟩ (Nat.le_of_ble_eq_true rfl) ⟨by decide, by decide⟩ rfl dL_law_823 rfl ?_
  refine g_icmp_eq 891 dL_law_826 (by decide) (fun _ => ?_) (fun hc => absurd rfl hc)
  exact hk _ hI2
set_option maxRecDepth 100000 in
set_option maxHeartbeats 4000000 in
theorem law_back {l : Launch} {D : va_G} {cy : Nat → ClassId} {base b L i c : Nat} {xs : Nat → Int32} {μ : Mem} {Inv : Nat → Mem → Prop} (hI : Sp_back Inv) (hc5 : c < 512) (hinv : Inv c μ) (hi5 : i + 5 ≤ L) (hL5 : L ≤ 2560) (hk : ∀ μ2, Inv (c + 1) μ2 → G l D cy base RL code 4 (some .boolean) room_1 (lX base b L xs) lZ 891 [(0, .ref b), (1, .ref (base + 0)), (2, .ref (base + 186)), (3, .int (nI i))] [] 199 9753 gNN (gH cy base μ2)) : G l D cy base RL code 4 (some .boolean) room_1 (lX base b L xs) lZ 831 [(0, .ref b), (1, .ref (base + 0)), (2, .ref (base + 186)), (3, .int (nI i))] [] 199 9753 gNN (gH cy base μ) := by
  obtain ⟨r, μ1, μ2, e8, e9, hI2⟩ := hI c μ (xs (nI i + (1 : Int32)).toNatClampNeg) hc5 hinv
  refine g_aload_n (j := 1) (x := base + 0) dL_law_831 rfl rfl ?_
  refine g_aload_n (j := 0) (x := b) dL_law_832 rfl rfl ?_
  refine g_iload_n (j := 3) (x := nI i) dL_law_833 rfl rfl ?_
  refine g_iconst (v := 1) dL_law_834 (by decide) ?_
  refine g_iadd dL_law_835 ?_
  refine gl_sld (law_ix (t := 1) hi5 hL5 (by decide)) dL_law_836 ?_
  refine gs_callVi (As := [.int (xs (nI i + (1 : Int32)).toNatClampNeg)]) (st := []) (kr := 0) (k_X8_back μ (xs (nI i + (1 : Int32)).toNatClampNeg) e8) cl_RL_110 sv_X8_back ckk_X8_back (tk_0 _) ⟨by decide, by decide⟩ (Nat.le_of_ble_eq_true rfl) ⟨by decide, by decide⟩ rfl dL_law_837 rfl ?_
  refine g_aload_n (j := 2) (x := base + 186) dL_law_840 rfl rfl ?_
  refine g_aload_n (j := 0) (x := b) dL_law_841 rfl rfl ?_
  refine g_iload_n (j := 3) (x := nI i) dL_law_842 rfl rfl ?_
  refine g_iconst (v := 1) dL_law_843 (by decide) ?_
  refine g_iadd dL_law_844 ?_
  refine gl_sld (law_ix (t := 1) hi5 hL5 (by decide)) dL_law_845 ?_
  refine gs_callVi (As := [.int (xs (nI i + (1 : Int32)).toNatClampNeg)]) (st := [.int r]) (kr := 186) (k_X9_back μ1 (xs (nI i + (1 : Int32)).toNatClampNeg) e9) cl_RL_113 sv_X9_back ckk_X9_back (tk_186 _) ⟨by decide, by decide⟩ (Nat.le_of_ble_eq_true rfl) ⟨by decide, by decide⟩ rfl dL_law_846 rfl ?_
  refine g_icmp_eq 891 dL_law_849 (by decide) (fun _ => ?_) (fun hc => absurd rfl hc)
  exact hk _ hI2
set_option maxRecDepth 100000 in
set_option maxHeartbeats 4000000 in
theorem law_count {l : Launch} {D : va_G} {cy : Nat → ClassId} {base b L i c : Nat} {xs : Nat → Int32} {μ : Mem} {Inv : Nat → Mem → Prop} (hI : Sp_count Inv) (hc5 : c < 512) (hinv : Inv c μ) (hi5 : i + 5 ≤ L) (hL5 : L ≤ 2560) (hk : ∀ μ2, Inv (c + 1) μ2 → G l D cy base RL code 4 (some .boolean) room_1 (lX base b L xs) lZ 891 [(0, .ref b), (1, .ref (base + 0)), (2, .ref (base + 186)), (3, .int (nI i))] [] 199 9753 gNN (gH cy base μ2)) : G l D cy base RL code 4 (some .boolean) room_1 (lX base b L xs) lZ 854 [(0, .ref b), (1, .ref (base + 0)), (2, .ref (base + 186)), (3, .int (nI i))] [] 199 9753 gNN (gH cy base μ) := by
  obtain ⟨r, μ1, μ2, e8, e9, hI2⟩ := hI c μ (xs (nI i + (1 : Int32)).toNatClampNeg) hc5 hinv
  obtain ⟨e8, rfl⟩ := e8
  obtain ⟨e9, rfl⟩ := e9
  refine g_aload_n (j := 1) (x := base + 0) dL_law_854 rfl rfl ?_
  refine g_aload_n (j := 0) (x := b) dL_law_855 rfl rfl ?_
  refine g_iload_n (j := 3) (x := nI i) dL_law_856 rfl rfl ?_
  refine g_iconst (v := 1) dL_law_857 (by decide) ?_
  refine g_iadd dL_law_858 ?_
  refine gl_sld (law_ix (t := 1) hi5 hL5 (by decide)) dL_law_859 ?_
  refine gs_callVi (As := [.int (xs (nI i + (1 : Int32)).toNatClampNeg)]) (st := []) (kr := 0) (k_X8_count μ2 (xs (nI i + (1 : Int32)).toNatClampNeg) e8) cl_RL_114 sv_X8_count ckk_X8_count (tk_0 _) ⟨by decide, by decide⟩ (Nat.le_of_ble_eq_true rfl) ⟨by decide, by decide⟩ rfl dL_law_860 rfl ?_
  refine g_aload_n (j := 2) (x := base + 186) dL_law_863 rfl rfl ?_
  refine g_aload_n (j := 0) (x := b) dL_law_864 rfl rfl ?_
  refine g_iload_n (j := 3) (x := nI i) dL_law_865 rfl rfl ?_
  refine g_iconst (v := 1) dL_law_866 (by decide) ?_
  refine g_iadd dL_law_867 ?_
  refine gl_sld (law_ix (t := 1) hi5 hL5 (by decide)) dL_law_868 ?_
  refine gs_callVi (As := [.int (xs (nI i + (1 : Int32)).toNatClampNeg)]) (st := [.int r]) (kr := 186) (k_X9_count μ2 (xs (nI i + (1 : Int32)).toNatClampNeg) e9) cl_RL_117 sv_X9_count ckk_X9_count (tk_186 _) ⟨by decide, by decide⟩ (Nat.le_of_ble_eq_true rfl) ⟨by decide, by decide⟩ rfl dL_law_869 rfl ?_
  refine g_icmp_eq 891 dL_law_872 (by decide) (fun _ => ?_) (fun hc => absurd rfl hc)
  exact hk _ hI2
set_option maxRecDepth 100000 in
set_option maxHeartbeats 4000000 in
theorem law_trace {l : Launch} {D : va_G} {cy : Nat → ClassId} {base b L i c : Nat} {xs : Nat → Int32} {μ : Mem} {Inv : Nat → Mem → Prop} (hI : Sp_trace Inv) (hc5 : c < 512) (hinv : Inv c μ) (hi5 : i + 5 ≤ L) (hL5 : L ≤ 2560) (hk : ∀ μ2, Inv (c + 1) μ2 → G l D cy base RL code 4 (some .boolean) room_1 (lX base b L xs) lZ 891 [(0, .ref b), (1, .ref (base + 0)), (2, .ref (base + 186)), (3, .int (nI i))] [] 199 9753 gNN (gH cy base μ2)) : G l D cy base RL code 4 (some .boolean) room_1 (lX base b L xs) lZ 877 [(0, .ref b), (1, .ref (base + 0)), (2, .ref (base + 186)), (3, .int (nI i))] [] 199 9753 gNN (gH cy base μ) := by
  obtain ⟨r, μ1, μ2, e8, e9, hI2⟩ := hI c μ  hc5 hinv
  obtain ⟨e8, rfl⟩ := e8
  obtain ⟨e9, rfl⟩ := e9
  refine g_aload_n (j := 1) (x := base + 0) dL_law_877 rfl rfl ?_
  refine gs_callVl (As := []) (st := []) (kr := 0) (k_X8_trace μ2  e8) cl_RL_118 sv_X8_trace ckk_X8_trace (tk_0 _) ⟨by decide, by decide⟩ (Nat.le_of_ble_eq_true rfl) ⟨by decide, by decide⟩ rfl dL_law_878 rfl ?_
  refine g_aload_n (j := 2) (x := base + 186) dL_law_881 rfl rfl ?_
  refine gs_callVl (As := []) (st := [.long r]) (kr := 186) (k_X9_trace μ2  e9) cl_RL_122 sv_X9_trace ckk_X9_trace (tk_186 _) ⟨by decide, by decide⟩ (Nat.le_of_ble_eq_true rfl) ⟨by decide, by decide⟩ rfl dL_law_882 rfl ?_
  refine g_lcmp dL_law_885 ?_
  refine g_if_eq 891 dL_law_886 (by decide) (fun _ => ?_) (fun hc => absurd (lg_cmp_self _) hc)
  exact hk _ hI2
set_option maxRecDepth 100000 in
set_option maxHeartbeats 4000000 in
theorem law_loop {l : Launch} {D : va_G} {cy : Nat → ClassId} {base b L : Nat} {xs : Nat → Int32} {Inv : Nat → Mem → Prop} (hI : LawOK Inv) (hL5 : L ≤ 2560) : ∀ (n i c : Nat) (μ : Mem) (_ : i = 5 * c) (_ : i ≤ L) (_ : L - i < n) (_ : Inv c μ), G l D cy base RL code 4 (some .boolean) room_1 (lX base b L xs) lZ 18 [(0, .ref b), (1, .ref (base + 0)), (2, .ref (base + 186)), (3, .int (nI i))] [] 199 9753 gNN (gH cy base μ) := by
  intro n
  induction n with
  | zero => intro i c μ hic hL1 hn; omega
  | succ n ih =>
    intro i c μ hic hL1 hn hinv
    refine g_iload_n (j := 3) (x := nI i) dL_law_18 rfl rfl ?_
    refine g_aload_n (j := 0) (x := b) dL_law_19 rfl rfl ?_
    refine gl_slen dL_law_20 ?_
    refine g_iconst (v := 5) dL_law_21 (by decide) ?_
    refine g_isub dL_law_22 ?_
    refine g_icmp_gt 897 dL_law_23 (by decide) (fun _ => ?_) (fun hc => ?_)
    · refine g_iconst (v := 1) dL_law_897 (by decide) ?_
      exact gl_ret (by decide) (by decide) dL_law_898
    · have hi5 : i + 5 ≤ L := law_in hL5 hL1 hc
      have hc5 : c < 512 := by omega
      have hk : ∀ μ2, Inv (c + 1) μ2 → G l D cy base RL code 4 (some .boolean) room_1 (lX base b L xs) lZ 891 [(0, .ref b), (1, .ref (base + 0)), (2, .ref (base + 186)), (3, .int (nI i))] [] 199 9753 gNN (gH cy base μ2) := by
        intro μ2 hI2
        refine g_iinc (j := 3) (x := nI i) (v := nI (i + 5)) (lvx := [(3, .int (nI (i + 5))), (0, .ref b), (1, .ref (base + 0)), (2, .ref (base + 186))]) dL_law_891 rfl (nI_add i 5) (by decide) rfl ?_
        refine g_goto 18 dL_law_894 (by decide) ?_
        refine g_sub (lvx := [(0, .ref b), (1, .ref (base + 0)), (2, .ref (base + 186)), (3, .int (nI (i + 5)))]) [1, 2, 3, 0] rfl ?_
        exact ih (i + 5) (c + 1) μ2 (by omega) (by omega) (by omega) hI2
      refine g_aload_n (j := 0) (x := b) dL_law_26 rfl rfl ?_
      refine g_iload_n (j := 3) (x := nI i) dL_law_27 rfl rfl ?_
      refine gl_sld (vp_in_nI (by omega) (by omega)) dL_law_28 ?_
      refine g_bipush (v := 31) dL_law_29 (by decide) ?_
      refine g_iand dL_law_31 ?_
      generalize (xs (nI i).toNatClampNeg &&& 31) = x
      by_cases hs0 : x = (0 : Int32)
      · refine gs_table hs0 152 dL_law_32 (by decide) (by decide) rfl (by decide) ?_
        exact law_type hI.1 hc5 hinv hi5 hL5 hk
      by_cases hs1 : x = (1 : Int32)
      · refine gs_table hs1 175 dL_law_32 (by decide) (by decide) rfl (by decide) ?_
        exact law_clear hI.2.1 hc5 hinv hi5 hL5 hk
      by_cases hs2 : x = (2 : Int32)
      · refine gs_table hs2 188 dL_law_32 (by decide) (by decide) rfl (by decide) ?_
        exact law_house hI.2.2.1 hc5 hinv hi5 hL5 hk
      by_cases hs3 : x = (3 : Int32)
      · refine gs_table hs3 201 dL_law_32 (by decide) (by decide) rfl (by decide) ?_
        exact law_stair hI.2.2.2.1 hc5 hinv hi5 hL5 hk
      by_cases hs4 : x = (4 : Int32)
      · refine gs_table hs4 234 dL_law_32 (by decide) (by decide) rfl (by decide) ?_
        exact law_person hI.2.2.2.2.1 hc5 hinv hi5 hL5 hk
      by_cases hs5 : x = (5 : Int32)
      · refine gs_table hs5 267 dL_law_32 (by decide) (by decide) rfl (by decide) ?_
        exact law_bond hI.2.2.2.2.2.1 hc5 hinv hi5 hL5 hk
      by_cases hs6 : x = (6 : Int32)
      · refine gs_table hs6 300 dL_law_32 (by decide) (by decide) rfl (by decide) ?_
        exact law_falls hI.2.2.2.2.2.2.1 hc5 hinv hi5 hL5 hk
      by_cases hs7 : x = (7 : Int32)
      · refine gs_table hs7 333 dL_law_32 (by decide) (by decide) rfl (by decide) ?_
        exact law_together hI.2.2.2.2.2.2.2.1 hc5 hinv hi5 hL5 hk
      by_cases hs8 : x = (8 : Int32)
      · refine gs_table hs8 376 dL_law_32 (by decide) (by decide) rfl (by decide) ?_
        exact law_throwsDoll hI.2.2.2.2.2.2.2.2.1 hc5 hinv hi5 hL5 hk
      by_cases hs9 : x = (9 : Int32)
      · refine gs_table hs9 399 dL_law_32 (by decide) (by decide) rfl (by decide) ?_
        exact law_sells hI.2.2.2.2.2.2.2.2.2.1 hc5 hinv hi5 hL5 hk
      by_cases hs10 : x = (10 : Int32)
      · refine gs_table hs10 442 dL_law_32 (by decide) (by decide) rfl (by decide) ?_
        exact law_redeems hI.2.2.2.2.2.2.2.2.2.2.1 hc5 hinv hi5 hL5 hk
      by_cases hs11 : x = (11 : Int32)
      · refine gs_table hs11 465 dL_law_32 (by decide) (by decide) rfl (by decide) ?_
        exact law_ends hI.2.2.2.2.2.2.2.2.2.2.2.1 hc5 hinv hi5 hL5 hk
      by_cases hs12 : x = (12 : Int32)
      · refine gs_table hs12 478 dL_law_32 (by decide) (by decide) rfl (by decide) ?_
        exact law_undo hI.2.2.2.2.2.2.2.2.2.2.2.2.1 hc5 hinv hi5 hL5 hk
      by_cases hs13 : x = (13 : Int32)
      · refine gs_table hs13 491 dL_law_32 (by decide) (by decide) rfl (by decide) ?_
        exact law_now hI.2.2.2.2.2.2.2.2.2.2.2.2.2.1 hc5 hinv hi5 hL5 hk
      by_cases hs14 : x = (14 : Int32)
      · refine gs_table hs14 514 dL_law_32 (by decide) (by decide) rfl (by decide) ?_
        exact law_surest hI.2.2.2.2.2.2.2.2.2.2.2.2.2.2.1 hc5 hinv hi5 hL5 hk
      by_cases hs15 : x = (15 : Int32)
      · refine gs_table hs15 557 dL_law_32 (by decide) (by decide) rfl (by decide) ?_
        exact law_bars hI.2.2.2.2.2.2.2.2.2.2.2.2.2.2.2.1 hc5 hinv hi5 hL5 hk
      by_cases hs16 : x = (16 : Int32)
      · refine gs_table hs16 590 dL_law_32 (by decide) (by decide) rfl (by decide) ?_
        exact law_paid hI.2.2.2.2.2.2.2.2.2.2.2.2.2.2.2.2.1 hc5 hinv hi5 hL5 hk
      by_cases hs17 : x = (17 : Int32)
      · refine gs_table hs17 623 dL_law_32 (by decide) (by decide) rfl (by decide) ?_
        exact law_coins hI.2.2.2.2.2.2.2.2.2.2.2.2.2.2.2.2.2.1 hc5 hinv hi5 hL5 hk
      by_cases hs18 : x = (18 : Int32)
      · refine gs_table hs18 656 dL_law_32 (by decide) (by decide) rfl (by decide) ?_
        exact law_free hI.2.2.2.2.2.2.2.2.2.2.2.2.2.2.2.2.2.2.1 hc5 hinv hi5 hL5 hk
      by_cases hs19 : x = (19 : Int32)
      · refine gs_table hs19 689 dL_law_32 (by decide) (by decide) rfl (by decide) ?_
        exact law_who hI.2.2.2.2.2.2.2.2.2.2.2.2.2.2.2.2.2.2.2.1 hc5 hinv hi5 hL5 hk
      by_cases hs20 : x = (20 : Int32)
      · refine gs_table hs20 742 dL_law_32 (by decide) (by decide) rfl (by decide) ?_
        exact law_odds hI.2.2.2.2.2.2.2.2.2.2.2.2.2.2.2.2.2.2.2.2.1 hc5 hinv hi5 hL5 hk
      by_cases hs21 : x = (21 : Int32)
      · refine gs_table hs21 775 dL_law_32 (by decide) (by decide) rfl (by decide) ?_
        exact law_mark hI.2.2.2.2.2.2.2.2.2.2.2.2.2.2.2.2.2.2.2.2.2.1 hc5 hinv hi5 hL5 hk
      by_cases hs22 : x = (22 : Int32)
      · refine gs_table hs22 808 dL_law_32 (by decide) (by decide) rfl (by decide) ?_
        exact law_keep hI.2.2.2.2.2.2.2.2.2.2.2.2.2.2.2.2.2.2.2.2.2.2.1 hc5 hinv hi5 hL5 hk
      by_cases hs23 : x = (23 : Int32)
      · refine gs_table hs23 831 dL_law_32 (by decide) (by decide) rfl (by decide) ?_
        exact law_back hI.2.2.2.2.2.2.2.2.2.2.2.2.2.2.2.2.2.2.2.2.2.2.2.1 hc5 hinv hi5 hL5 hk
      by_cases hs24 : x = (24 : Int32)
      · refine gs_table hs24 854 dL_law_32 (by decide) (by decide) rfl (by decide) ?_
        exact law_count hI.2.2.2.2.2.2.2.2.2.2.2.2.2.2.2.2.2.2.2.2.2.2.2.2.1 hc5 hinv hi5 hL5 hk
      by_cases hs25 : x = (25 : Int32)
      · refine gs_table hs25 877 dL_law_32 (by decide) (by decide) rfl (by decide) ?_
        exact law_trace hI.2.2.2.2.2.2.2.2.2.2.2.2.2.2.2.2.2.2.2.2.2.2.2.2.2.1 hc5 hinv hi5 hL5 hk
      refine gs_tableOut 26 891 dL_law_32 (by decide) (by decide) (fun j hj => by match j, hj with | 0, _ => exact hs0 | 1, _ => exact hs1 | 2, _ => exact hs2 | 3, _ => exact hs3 | 4, _ => exact hs4 | 5, _ => exact hs5 | 6, _ => exact hs6 | 7, _ => exact hs7 | 8, _ => exact hs8 | 9, _ => exact hs9 | 10, _ => exact hs10 | 11, _ => exact hs11 | 12, _ => exact hs12 | 13, _ => exact hs13 | 14, _ => exact hs14 | 15, _ => exact hs15 | 16, _ => exact hs16 | 17, _ => exact hs17 | 18, _ => exact hs18 | 19, _ => exact hs19 | 20, _ => exact hs20 | 21, _ => exact hs21 | 22, _ => exact hs22 | 23, _ => exact hs23 | 24, _ => exact hs24 | 25, _ => exact hs25 | j + 26, hj => exact absurd hj (by omega)) (by decide) ?_
      exact hk μ (hI.2.2.2.2.2.2.2.2.2.2.2.2.2.2.2.2.2.2.2.2.2.2.2.2.2.2 c μ hinv)

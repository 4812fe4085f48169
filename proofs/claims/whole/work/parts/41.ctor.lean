/-! by program (wip/whole/gen_ctor.py): the constructors -/
def g0 : gSt := fun F _ k => if F = 7 ∨ F = 8 then -1 else if F = 33 then 1 else if F = 154 ∨ F = 195 then (if k < 10 then -1 else 0) else 0
def gc0 (E : gE) (o : Nat) : va_E := gC E (fun _ => 0) g0 o
theorem c0_arr {E : gE} {F i : Nat} (h : F < 206) (hi : i < nA F) (hA : isArr F = true) : gc0 E (oA F i) = .inl (eT E (tA F), lA F, .inl (fun k => g0 F i k)) := by
  have h1 := (dec_arr F h i hi hA).1
  simp only [gc0, gC, h1, cellK]
theorem oHw_art : ∀ i, i < 24 → oHw i = oArt i + 1 := by decide +kernel
theorem oRa_art (i : Nat) : oRa i = oArt i + 4 := by simp only [oRa, oArt]; omega
theorem oRef_art : ∀ i, i < 24 → ∀ r, r < 4 → oRef (4 * i + r) = oArt i + 7 + 4 * r := by decide +kernel
theorem oHw_ref : ∀ r, r < 96 → oHw (24 + r) = oRef r + 1 := by decide +kernel
abbrev rm_X3_init : Room := { frames := 1, cells := 2, slots := 16, locals := 20 }
abbrev rm_X4_init : Room := { frames := 2, cells := 3, slots := 20, locals := 40 }
abbrev rm_X5_init : Room := { frames := 1, cells := 0, slots := 0, locals := 20 }
abbrev rm_X1_init : Room := { frames := 1, cells := 2, slots := 30, locals := 20 }
abbrev rm_X0_init : Room := { frames := 3, cells := 22, slots := 128, locals := 64 }
set_option maxRecDepth 100000 in
theorem i_X3 {l : Launch} {E : gE} {CC : Nat → va_E} {h : Nat} (hh : h < 121) (h0 : CC (oHw h) = .inr (2, [.null, .null, .int 0, .int 0])) : gI l yX3_init cX3_init 1 rm_X3_init E CC (oHw h + 1) (oHw h) (fun C2 => (∀ q, q < oHw h → C2 q = CC q) ∧ (∀ q, oHw h ≤ q → q < oHw h + 3 → C2 q = gc0 E q)) :=
  gI_of (by decide +kernel) rfl (by decide) (Nat.succ_pos _) (fun p e s m args below meth c hC hin hO hs => by
    have hlow : ∀ q, q < oHw h → CC q = CC q := fun _ _ => rfl
    refine J_aload_n (q := 1) hC dX3_init_0 rfl rfl ?_
    refine J_obj (q := 4) hC dX3_init_1 rfl (wall (by decide +kernel) rfl) (wall (by decide +kernel) rfl) (wall (by decide +kernel) rfl) (Nat.le_of_ble_eq_true rfl) (Nat.le_of_ble_eq_true rfl) ?_
    refine J_aload_n (q := 5) hC dX3_init_4 rfl rfl ?_
    refine J_bipush (v := 8) (q := 7) hC dX3_init_5 rfl (by decide) ?_
    refine J_newa (q := 9) (t := 0) (N := 8) (ty := .char) (a0 := (8, .inl (fun _ => 0))) hC dX3_init_7 rfl (by omega) (wall (by decide +kernel) rfl) rfl rfl (fun _ => rfl) id (by decide) (by decide) (Nat.le_of_ble_eq_true rfl) ⟨(Nat.le_of_ble_eq_true rfl), (Nat.le_of_ble_eq_true rfl)⟩ (fun C1 c1n c1k => ?_)
    have hlow : ∀ q, q < oHw h → C1 q = CC q := fun q h9 => (c1k q (by omega)).trans (hlow q h9)
    have h0 := (c1k (oHw h) (by omega)).trans h0
    refine J_putF (q := 12) (T := TX3) (k := 0) hC dX3_init_9 rfl hin (by omega) h0 rfl inW3 (by decide) (wall (by decide +kernel) rfl) rfl tyX3 tyX3_ok nmX3 rfl rfl (ty := tyX3 0) (by decide +kernel) rfl rfl (Nat.le_of_ble_eq_true rfl) (fun C2 c2n c2k => ?_)
    have hlow : ∀ q, q < oHw h → C2 q = CC q := fun q h9 => (c2k q (by omega)).trans (hlow q h9)
    have c1n := (c2k (oHw h + 1) (by omega)).trans c1n
    refine J_aload_n (q := 13) hC dX3_init_12 rfl rfl ?_
    refine J_bipush (v := 8) (q := 15) hC dX3_init_13 rfl (by decide) ?_
    refine J_newa (q := 17) (t := 0) (N := 8) (ty := .char) (a0 := (8, .inl (fun _ => 0))) hC dX3_init_15 rfl (by omega) (wall (by decide +kernel) rfl) rfl rfl (fun _ => rfl) id (by decide) (by decide) (Nat.le_of_ble_eq_true rfl) ⟨(Nat.le_of_ble_eq_true rfl), (Nat.le_of_ble_eq_true rfl)⟩ (fun C3 c3n c3k => ?_)
    have hlow : ∀ q, q < oHw h → C3 q = CC q := fun q h9 => (c3k q (by omega)).trans (hlow q h9)
    have c1n := (c3k (oHw h + 1) (by omega)).trans c1n
    have c2n := (c3k (oHw h) (by omega)).trans c2n
    refine J_putF (q := 20) (T := TX3) (k := 1) hC dX3_init_17 rfl hin (by omega) c2n rfl inW3 (by decide) (wall (by decide +kernel) rfl) rfl tyX3 tyX3_ok nmX3 rfl rfl (ty := tyX3 1) (by decide +kernel) rfl rfl (Nat.le_of_ble_eq_true rfl) (fun C4 c4n c4k => ?_)
    have hlow : ∀ q, q < oHw h → C4 q = CC q := fun q h9 => (c4k q (by omega)).trans (hlow q h9)
    have c1n := (c4k (oHw h + 1) (by omega)).trans c1n
    have c3n := (c4k (oHw h + 1 + 1) (by omega)).trans c3n
    refine J_ret hC dX3_init_20 rfl ⟨hlow, fun q h8 h9 => ?_⟩ rfl (Nat.le_of_ble_eq_true rfl) (Nat.le_of_ble_eq_true rfl)
    rcases (show q = oHw h ∨ q = oHw h + 1 ∨ q = oHw h + 1 + 1 by omega) with rfl | rfl | rfl
    · exact c4n.trans (cell_Hw (w := fun _ => 0) (σ := g0) hh).symm
    · exact c1n.trans (c0_arr (E := E) (F := 60) (i := h) (by decide) hh rfl).symm
    · exact c3n.trans (c0_arr (E := E) (F := 61) (i := h) (by decide) hh rfl).symm)
set_option maxRecDepth 100000 in
theorem i_X4 {l : Launch} {E : gE} {CC : Nat → va_E} {r : Nat} (hr : r < 96) (h0 : CC (oRef r) = .inr (3, [.null, .null])) : gI l yX4_init cX4_init 1 rm_X4_init E CC (oRef r + 1) (oRef r) (fun C2 => (∀ q, q < oRef r → C2 q = CC q) ∧ (∀ q, oRef r ≤ q → q < oRef r + 4 → C2 q = gc0 E q)) :=
  gI_of (by decide +kernel) rfl (by decide) (Nat.succ_pos _) (fun p e s m args below meth c hC hin hO hs => by
    have hw := oHw_ref r hr
    have hr2 := hwR hr
    have hlow : ∀ q, q < oRef r → CC q = CC q := fun _ _ => rfl
    refine J_aload_n (q := 1) hC dX4_init_0 rfl rfl ?_
    refine J_obj (q := 4) hC dX4_init_1 rfl (wall (by decide +kernel) rfl) (wall (by decide +kernel) rfl) (wall (by decide +kernel) rfl) (Nat.le_of_ble_eq_true rfl) (Nat.le_of_ble_eq_true rfl) ?_
    refine J_aload_n (q := 5) hC dX4_init_4 rfl rfl ?_
    refine J_new (q := 8) (ci := 2) (T := TX3) (N := 4) (fs := [.null, .null, .int 0, .int 0]) hC dX4_init_5 rfl (by omega) tyX3 tyX3_ok inW3 rfl (wall (by decide +kernel) rfl) (wall (by decide +kernel) rfl) (wall (by decide +kernel) rfl) (fun j hj => by rcases (show j = 0 ∨ j = 1 ∨ j = 2 ∨ j = 3 by omega) with rfl | rfl | rfl | rfl <;> rfl) ⟨(Nat.le_of_ble_eq_true rfl), (Nat.le_of_ble_eq_true rfl)⟩ (fun C1 c1n c1k => ?_)
    have hlow : ∀ q, q < oRef r → C1 q = CC q := fun q h9 => (c1k q (by omega)).trans (hlow q h9)
    have h0 := (c1k (oRef r) (by omega)).trans h0
    refine J_dup (q := 9) hC dX4_init_8 rfl rfl ?_
    rw [← hw] at c1n ⊢
    refine J_callIN (q := 12) (host := RX6) hC dX4_init_9 rfl hO (by omega) (i_X3 hr2 c1n) rfl (wall (by decide +kernel) rfl) (wall (by decide +kernel) rfl) (wall (by decide +kernel) rfl) (by decide +kernel) ⟨by decide +kernel, by decide +kernel, by decide +kernel⟩ ⟨(Nat.le_of_ble_eq_true rfl), (Nat.le_of_ble_eq_true rfl)⟩ (Nat.le_of_ble_eq_true rfl) ⟨(Nat.le_of_ble_eq_true rfl), (Nat.le_of_ble_eq_true rfl)⟩ (by omega) (fun C2 c2p => ?_)
    obtain ⟨c2k, c2r⟩ := c2p
    have hrm2 : rm_X3_init.cells = 2 := rfl
    have hlow : ∀ q, q < oRef r → C2 q = CC q := fun q h9 => (c2k q (by omega)).trans (hlow q h9)
    have h0 := (c2k (oRef r) (by omega)).trans h0
    refine J_putF (q := 15) (T := TX4) (k := 0) hC dX4_init_12 rfl hin (by omega) h0 rfl inW4 (by decide) (wall (by decide +kernel) rfl) rfl tyX4 tyX4_ok nmX4 rfl rfl (ty := tyX4 0) (by decide +kernel) rfl rfl (Nat.le_of_ble_eq_true rfl) (fun C3 c3n c3k => ?_)
    have hlow : ∀ q, q < oRef r → C3 q = CC q := fun q h9 => (c3k q (by omega)).trans (hlow q h9)
    have c2r : ∀ q, oHw (24 + r) ≤ q → q < oHw (24 + r) + 3 → C3 q = gc0 E q := fun q h8 h9 => (c3k q (by omega)).trans (c2r q h8 h9)
    refine J_aload_n (q := 16) hC dX4_init_15 rfl rfl ?_
    refine J_fate (q := 19) (n := 0) hC dX4_init_16 rfl rfl (wall (by decide +kernel) rfl) ?_
    refine J_put (q := 22) (T := TX4) (k := 1) hC dX4_init_19 rfl (by omega) c3n rfl inW4 (by decide) (wall (by decide +kernel) rfl) rfl tyX4 tyX4_ok nmX4 rfl (ty := tyX4 1) (by decide +kernel) rfl rfl (Nat.le_of_ble_eq_true rfl) (fun C4 c4n c4k => ?_)
    have hlow : ∀ q, q < oRef r → C4 q = CC q := fun q h9 => (c4k q (by omega)).trans (hlow q h9)
    have c2r : ∀ q, oHw (24 + r) ≤ q → q < oHw (24 + r) + 3 → C4 q = gc0 E q := fun q h8 h9 => (c4k q (by omega)).trans (c2r q h8 h9)
    refine J_ret hC dX4_init_22 rfl ⟨hlow, fun q h8 h9 => ?_⟩ (by rw [hw]; show oRef r + 1 + 1 + 2 = oRef r + 1 + 3; omega) (Nat.le_of_ble_eq_true rfl) (Nat.le_of_ble_eq_true rfl)
    rcases (show q = oRef r ∨ (oHw (24 + r) ≤ q ∧ q < oHw (24 + r) + 3) by omega) with rfl | h7
    · exact c4n.trans (cell_Ref (w := fun _ => 0) (σ := g0) hr).symm
    · exact c2r q h7.1 h7.2)
set_option maxRecDepth 100000 in
theorem i_X5 {l : Launch} {E : gE} {CC : Nat → va_E} {v : Nat} (hv : v < 4) (h0 : CC (oVol v) = .inr (4, [.int 0, .int 0])) : gI l yX5_init cX5_init 1 rm_X5_init E CC (oVol v + 1) (oVol v) (fun C2 => (∀ q, q < oVol v → C2 q = CC q) ∧ (∀ q, oVol v ≤ q → q < oVol v + 1 → C2 q = gc0 E q)) :=
  gI_of (by decide +kernel) rfl (by decide) (Nat.succ_pos _) (fun p e s m args below meth c hC hin hO hs => by
    refine J_aload_n (q := 1) hC dX5_init_0 rfl rfl ?_
    refine J_obj (q := 4) hC dX5_init_1 rfl (wall (by decide +kernel) rfl) (wall (by decide +kernel) rfl) (wall (by decide +kernel) rfl) (Nat.le_of_ble_eq_true rfl) (Nat.le_of_ble_eq_true rfl) ?_
    refine J_ret hC dX5_init_4 rfl ⟨fun _ _ => rfl, fun q h8 h9 => ?_⟩ rfl (Nat.le_of_ble_eq_true rfl) (Nat.le_of_ble_eq_true rfl)
    obtain rfl : q = oVol v := by omega
    exact h0.trans (cell_Vol (w := fun _ => 0) (σ := g0) hv).symm)
set_option maxRecDepth 100000 in
theorem i_X1 {l : Launch} {E : gE} {CC : Nat → va_E} {v : Nat} (hv : v < 6) (h0 : CC (oCon v) = .inr (1, [.null, .null, .int 0, .int 0, .int 0, .int 0])) : gI l yX1_init cX1_init 1 rm_X1_init E CC (oCon v + 1) (oCon v) (fun C2 => (∀ q, q < oCon v → C2 q = CC q) ∧ (∀ q, oCon v ≤ q → q < oCon v + 3 → C2 q = gc0 E q)) :=
  gI_of (by decide +kernel) rfl (by decide) (Nat.succ_pos _) (fun p e s m args below meth c hC hin hO hs => by
    have hlow : ∀ q, q < oCon v → CC q = CC q := fun _ _ => rfl
    refine J_aload_n (q := 1) hC dX1_init_0 rfl rfl ?_
    refine J_obj (q := 4) hC dX1_init_1 rfl (wall (by decide +kernel) rfl) (wall (by decide +kernel) rfl) (wall (by decide +kernel) rfl) (Nat.le_of_ble_eq_true rfl) (Nat.le_of_ble_eq_true rfl) ?_
    refine J_aload_n (q := 5) hC dX1_init_4 rfl rfl ?_
    refine J_bipush (v := 24) (q := 7) hC dX1_init_5 rfl (by decide) ?_
    refine J_newa (q := 9) (t := 1) (N := 24) (ty := .int) (a0 := (24, .inl (fun _ => 0))) hC dX1_init_7 rfl (by omega) (wall (by decide +kernel) rfl) rfl rfl (fun _ => rfl) id (by decide) (by decide) (Nat.le_of_ble_eq_true rfl) ⟨(Nat.le_of_ble_eq_true rfl), (Nat.le_of_ble_eq_true rfl)⟩ (fun C1 c1n c1k => ?_)
    have hlow : ∀ q, q < oCon v → C1 q = CC q := fun q h9 => (c1k q (by omega)).trans (hlow q h9)
    have h0 := (c1k (oCon v) (by omega)).trans h0
    refine J_putF (q := 12) (T := TX1) (k := 0) hC dX1_init_9 rfl hin (by omega) h0 rfl inW1 (by decide) (wall (by decide +kernel) rfl) rfl tyX1 tyX1_ok nmX1 rfl rfl (ty := tyX1 0) (by decide +kernel) rfl rfl (Nat.le_of_ble_eq_true rfl) (fun C2 c2n c2k => ?_)
    have hlow : ∀ q, q < oCon v → C2 q = CC q := fun q h9 => (c2k q (by omega)).trans (hlow q h9)
    have c1n := (c2k (oCon v + 1) (by omega)).trans c1n
    refine J_aload_n (q := 13) hC dX1_init_12 rfl rfl ?_
    refine J_bipush (v := 6) (q := 15) hC dX1_init_13 rfl (by decide) ?_
    refine J_newa (q := 17) (t := 2) (N := 6) (ty := .boolean) (a0 := (6, .inl (fun _ => 0))) hC dX1_init_15 rfl (by omega) (wall (by decide +kernel) rfl) rfl rfl (fun _ => rfl) id (by decide) (by decide) (Nat.le_of_ble_eq_true rfl) ⟨(Nat.le_of_ble_eq_true rfl), (Nat.le_of_ble_eq_true rfl)⟩ (fun C3 c3n c3k => ?_)
    have hlow : ∀ q, q < oCon v → C3 q = CC q := fun q h9 => (c3k q (by omega)).trans (hlow q h9)
    have c1n := (c3k (oCon v + 1) (by omega)).trans c1n
    have c2n := (c3k (oCon v) (by omega)).trans c2n
    refine J_putF (q := 20) (T := TX1) (k := 1) hC dX1_init_17 rfl hin (by omega) c2n rfl inW1 (by decide) (wall (by decide +kernel) rfl) rfl tyX1 tyX1_ok nmX1 rfl rfl (ty := tyX1 1) (by decide +kernel) rfl rfl (Nat.le_of_ble_eq_true rfl) (fun C4 c4n c4k => ?_)
    have hlow : ∀ q, q < oCon v → C4 q = CC q := fun q h9 => (c4k q (by omega)).trans (hlow q h9)
    have c1n := (c4k (oCon v + 1) (by omega)).trans c1n
    have c3n := (c4k (oCon v + 1 + 1) (by omega)).trans c3n
    refine J_aload_n (q := 21) hC dX1_init_20 rfl rfl ?_
    refine J_iconst (q := 22) hC dX1_init_21 rfl ic_1 ?_
    refine J_put (q := 25) (T := TX1) (k := 3) hC dX1_init_22 rfl (by omega) c4n rfl inW1 (by decide) (wall (by decide +kernel) rfl) rfl tyX1 tyX1_ok nmX1 rfl (ty := tyX1 3) (by decide +kernel) rfl rfl (Nat.le_of_ble_eq_true rfl) (fun C5 c5n c5k => ?_)
    have hlow : ∀ q, q < oCon v → C5 q = CC q := fun q h9 => (c5k q (by omega)).trans (hlow q h9)
    have c1n := (c5k (oCon v + 1) (by omega)).trans c1n
    have c3n := (c5k (oCon v + 1 + 1) (by omega)).trans c3n
    refine J_ret hC dX1_init_25 rfl ⟨hlow, fun q h8 h9 => ?_⟩ rfl (Nat.le_of_ble_eq_true rfl) (Nat.le_of_ble_eq_true rfl)
    rcases (show q = oCon v ∨ q = oCon v + 1 ∨ q = oCon v + 1 + 1 by omega) with rfl | rfl | rfl
    · exact c5n.trans (cell_Con (w := fun _ => 0) (σ := g0) hv).symm
    · exact c1n.trans (c0_arr (E := E) (F := 30) (i := v) (by decide) hv rfl).symm
    · exact c3n.trans (c0_arr (E := E) (F := 31) (i := v) (by decide) hv rfl).symm)
set_option maxRecDepth 100000 in
theorem i_X0_loop {p : Program} {l : Launch} {e : Env} {s : State} {m : MethodId} {args : Array Value} {below : List Frame} {meth : Method} {c : Code} {E : gE} {CC : Nat → va_E} {i : Nat} (hi : i < 24) (hC : gCx p s m args meth c cX0_init 2 RX0 none E) (hO : gO s) (hs : s.heap.size + 0 = eB E + (oArt i + 1)) (n : Nat) : ∀ (k : Nat) (C1 : Nat → va_E), k + n = 4 → (∀ q, q < oArt i → C1 q = CC q) → C1 (oArt i) = .inr (0, [.ref (eB E + oHw i), .ref (eB E + oRa i), .ref (eB E + oA 2 i), .ref (eB E + oA 3 i), .int 0, .int 0, .int 0, .int (-1), .int (-1), .int 0, .int 0, .int 0]) → C1 (oArt i + 4) = .inl (eT E 5, 4, .inr (.inr (.inr (.inr (fun j => if j < k then some (eB E + oRef (4 * i + j)) else none))))) → (∀ q, oArt i < q → q < oArt i + 7 + 4 * k → q ≠ oArt i + 4 → C1 q = gc0 E q) →
  J p l e rm_X0_init s m args below meth c 2 (6 + 4 * k) (40 + 22 * k) (MQ below (fun _ st oc t => oc = .returned none ∧ (∃ C2 : Nat → va_E, (fun C2 => (∀ q, q < oArt i → C2 q = CC q) ∧ (∀ q, oArt i ≤ q → q < oArt i + 23 → C2 q = gc0 E q)) C2 ∧ va_P (eD E) vwCl (gV E C2 (oArt i + 1 + rm_X0_init.cells)) t.heap) ∧ va_F (fun q => eB E ≤ q) st t) args s rm_X0_init.cells rm_X0_init.slots (fun q => eB E ≤ q)) E C1 (oArt i + 7 + 4 * k) 51 [(1, .int (nI k)), (0, .ref (eB E + oArt i))] [] := by
  induction n with
  | zero =>
    intro k C1 hk hlow h0 hra hrg
    obtain rfl : k = 4 := by omega
    refine J_iload_n (q := 52) hC dX0_init_51 rfl rfl ?_
    refine J_iconst (q := 53) hC dX0_init_52 rfl ic_4 ?_
    refine J_icmp_ge (tgt := 75) (q := 56) hC dX0_init_53 (by decide) rfl (fun _ => ?_) (fun h => absurd (by decide) h)
    refine J_conv (o := oArt i + 4) (g := fun j => some (eB E + oRef (4 * i + j))) (by omega) hra (fun j hj => by simp only [if_pos hj]) (fun C2 c2n c2k => ?_)
    refine J_ret hC dX0_init_75 rfl ⟨fun q hq => (c2k q (by omega)).trans (hlow q hq), fun q h8 h9 => ?_⟩ rfl (Nat.le_of_ble_eq_true rfl) (Nat.le_of_ble_eq_true rfl)
    by_cases e1 : q = oArt i
    · subst e1; exact ((c2k _ (by omega)).trans h0).trans (cell_Art (w := fun _ => 0) (σ := g0) hi).symm
    by_cases e2 : q = oArt i + 4
    · subst e2; refine c2n.trans ?_; rw [← oRa_art i, gc0, gC, (dec_ra i hi).1]; rfl
    exact (c2k q e2).trans (hrg q (by omega) (by omega) e2)
  | succ n ih =>
    intro k C1 hk hlow h0 hra hrg
    have hk4 : k < 4 := by omega
    have hor := oRef_art i hi k hk4
    have hrr : 4 * i + k < 96 := by omega
    refine J_iload_n (q := 52) hC dX0_init_51 rfl rfl ?_
    refine J_iconst (q := 53) hC dX0_init_52 rfl ic_4 ?_
    refine J_icmp_ge (tgt := 75) (q := 56) hC dX0_init_53 (by decide) rfl (fun h => absurd h (nI_ge (b := 4) hk4 (by decide))) (fun _ => ?_)
    refine J_aload_n (q := 57) hC dX0_init_56 rfl rfl ?_
    refine J_get (q := 60) (T := TX0) (k := 1) hC dX0_init_57 rfl (by omega) h0 rfl inW0 (by decide) (wall (by decide +kernel) rfl) rfl rfl ?_
    refine J_iload_n (q := 61) hC dX0_init_60 rfl rfl ?_
    refine J_new (q := 64) (ci := 3) (T := TX4) (N := 2) (fs := [.null, .null]) hC dX0_init_61 rfl (by omega) tyX4 tyX4_ok inW4 rfl (wall (by decide +kernel) rfl) (wall (by decide +kernel) rfl) (wall (by decide +kernel) rfl) (fun j hj => by rcases (show j = 0 ∨ j = 1 by omega) with rfl | rfl <;> rfl) ⟨by show 6 + 4 * k + 1 ≤ 22; omega, by show 40 + 22 * k + 2 ≤ 128; omega⟩ (fun C2 c2n c2k => ?_)
    refine J_dup (q := 65) hC dX0_init_64 rfl rfl ?_
    rw [← hor] at c2n ⊢
    refine J_callIN (q := 68) (host := RX6) hC dX0_init_65 rfl hO (by omega) (i_X4 hrr c2n) rfl (wall (by decide +kernel) rfl) (wall (by decide +kernel) rfl) (wall (by decide +kernel) rfl) (by decide +kernel) ⟨by decide +kernel, by decide +kernel, by decide +kernel⟩ ⟨(Nat.le_of_ble_eq_true rfl), (Nat.le_of_ble_eq_true rfl)⟩ (Nat.le_of_ble_eq_true rfl) ⟨by show 6 + 4 * k + 1 + 3 ≤ 22; omega, by show 40 + 22 * k + 2 + 20 ≤ 128; omega⟩ (by omega) (fun C3 c3p => ?_)
    obtain ⟨c3k, c3r⟩ := c3p
    have k3 : ∀ q, q < oArt i + 7 + 4 * k → C3 q = C1 q := fun q hq => (c3k q (by omega)).trans (c2k q (by omega))
    have v3 := (c3r (oRef (4 * i + k)) (by omega) (by omega)).trans (cell_Ref (w := fun _ => 0) (σ := g0) hrr)
    rw [oRa_art i]
    refine J_aast (q := 69) (r := (RX4, TX4, 2)) hC dX0_init_68 rfl (by omega) ((k3 _ (by omega)).trans hra) rfl (by omega) v3 rfl (by have := nI_clamp (n := k) (by omega); simp only [inb, this]; rcases (show k = 0 ∨ k = 1 ∨ k = 2 ∨ k = 3 by omega) with rfl | rfl | rfl | rfl <;> decide) (fun C4 c4n c4k => ?_)
    refine J_iinc (q := 72) (n := 0) (lv' := [(1, .int (nI (k + 1))), (0, .ref (eB E + oArt i))]) hC dX0_init_69 rfl rfl (by rw [ii_1, nI_1]) (by decide) rfl ?_
    refine J_goto (tgt := 51) hC dX0_init_72 (by decide) ?_
    have ck := nI_clamp (n := k) (by omega)
    rw [ck] at c4n
    have hn2 : oRef (4 * i + k) + 1 + rm_X4_init.cells = oArt i + 7 + 4 * (k + 1) := by show oRef (4 * i + k) + 1 + 3 = _; omega
    rw [hn2]
    have hcc : 6 + 4 * k + 1 + rm_X4_init.cells = 6 + 4 * (k + 1) := by show 6 + 4 * k + 1 + 3 = _; omega
    have hss : 40 + 22 * k + 2 + rm_X4_init.slots = 40 + 22 * (k + 1) := by show 40 + 22 * k + 2 + 20 = _; omega
    rw [hcc, hss]
    refine ih (k + 1) C4 (by omega) (fun q hq => (c4k q (by omega)).trans ((k3 q (by omega)).trans (hlow q hq))) ((c4k _ (by omega)).trans ((k3 _ (by omega)).trans h0)) (c4n.trans ?_) (fun q h1 h2 h3 => ?_)
    · rw [show va_up (fun j => if j < k then some (eB E + oRef (4 * i + j)) else none) k (some (eB E + oRef (4 * i + k))) = (fun j => if j < k + 1 then some (eB E + oRef (4 * i + j)) else none) from funext fun j => ?_]
      simp only [va_up]
      by_cases e1 : j = k
      · subst e1; simp
      · by_cases e2 : j < k
        · simp [e1, e2, Nat.lt_succ_of_lt e2]
        · simp [e1, e2, show ¬ j < k + 1 by omega]
    · refine (c4k q h3).trans ?_
      by_cases e1 : q < oArt i + 7 + 4 * k
      · exact (k3 q e1).trans (hrg q h1 e1 h3)
      · exact c3r q (by omega) (by omega)
set_option maxRecDepth 100000 in
theorem i_X0 {l : Launch} {E : gE} {CC : Nat → va_E} {i : Nat} (hi : i < 24) (h0 : CC (oArt i) = .inr (0, [.null, .null, .null, .null, .int 0, .int 0, .int 0, .int 0, .int 0, .int 0, .int 0, .int 0])) : gI l yX0_init cX0_init 2 rm_X0_init E CC (oArt i + 1) (oArt i) (fun C2 => (∀ q, q < oArt i → C2 q = CC q) ∧ (∀ q, oArt i ≤ q → q < oArt i + 23 → C2 q = gc0 E q)) :=
  gI_of (by decide +kernel) rfl (by decide) (Nat.succ_pos _) (fun p e s m args below meth c hC hin hO hs => by
    have hw := oHw_art i hi
    have hi2 := hwA hi
    have hlow : ∀ q, q < oArt i → CC q = CC q := fun _ _ => rfl
    refine J_aload_n (q := 1) hC dX0_init_0 rfl rfl ?_
    refine J_obj (q := 4) hC dX0_init_1 rfl (wall (by decide +kernel) rfl) (wall (by decide +kernel) rfl) (wall (by decide +kernel) rfl) (Nat.le_of_ble_eq_true rfl) (Nat.le_of_ble_eq_true rfl) ?_
    refine J_aload_n (q := 5) hC dX0_init_4 rfl rfl ?_
    refine J_new (q := 8) (ci := 2) (T := TX3) (N := 4) (fs := [.null, .null, .int 0, .int 0]) hC dX0_init_5 rfl (by omega) tyX3 tyX3_ok inW3 rfl (wall (by decide +kernel) rfl) (wall (by decide +kernel) rfl) (wall (by decide +kernel) rfl) (fun j hj => by rcases (show j = 0 ∨ j = 1 ∨ j = 2 ∨ j = 3 by omega) with rfl | rfl | rfl | rfl <;> rfl) ⟨(Nat.le_of_ble_eq_true rfl), (Nat.le_of_ble_eq_true rfl)⟩ (fun C1 c1n c1k => ?_)
    have hlow : ∀ q, q < oArt i → C1 q = CC q := fun q h9 => (c1k q (by omega)).trans (hlow q h9)
    have h0 := (c1k (oArt i) (by omega)).trans h0
    refine J_dup (q := 9) hC dX0_init_8 rfl rfl ?_
    rw [← hw] at c1n ⊢
    refine J_callIN (q := 12) (host := RX6) hC dX0_init_9 rfl hO (by omega) (i_X3 hi2 c1n) rfl (wall (by decide +kernel) rfl) (wall (by decide +kernel) rfl) (wall (by decide +kernel) rfl) (by decide +kernel) ⟨by decide +kernel, by decide +kernel, by decide +kernel⟩ ⟨(Nat.le_of_ble_eq_true rfl), (Nat.le_of_ble_eq_true rfl)⟩ (Nat.le_of_ble_eq_true rfl) ⟨(Nat.le_of_ble_eq_true rfl), (Nat.le_of_ble_eq_true rfl)⟩ (by omega) (fun C2 c2p => ?_)
    obtain ⟨c2k, c2r⟩ := c2p
    have hrm2 : rm_X3_init.cells = 2 := rfl
    have hlow : ∀ q, q < oArt i → C2 q = CC q := fun q h9 => (c2k q (by omega)).trans (hlow q h9)
    have h0 := (c2k (oArt i) (by omega)).trans h0
    refine J_putF (q := 15) (T := TX0) (k := 0) hC dX0_init_12 rfl hin (by omega) h0 rfl inW0 (by decide) (wall (by decide +kernel) rfl) rfl tyX0 tyX0_ok nmX0 rfl rfl (ty := tyX0 0) (by decide +kernel) rfl rfl (Nat.le_of_ble_eq_true rfl) (fun C3 c3n c3k => ?_)
    have hlow : ∀ q, q < oArt i → C3 q = CC q := fun q h9 => (c3k q (by omega)).trans (hlow q h9)
    have c2r : ∀ q, oHw i ≤ q → q < oHw i + 3 → C3 q = gc0 E q := fun q h8 h9 => (c3k q (by omega)).trans (c2r q h8 h9)
    refine J_aload_n (q := 16) hC dX0_init_15 rfl rfl ?_
    refine J_iconst (q := 17) hC dX0_init_16 rfl ic_4 ?_
    refine J_newq (q := 20) (t := 5) (N := 4) (C := RX4) hC dX0_init_17 rfl (by omega) (wall (by decide +kernel) rfl) (hO RX4 (by decide +kernel)) rfl (by decide) (by decide) (Nat.le_of_ble_eq_true rfl) ⟨(Nat.le_of_ble_eq_true rfl), (Nat.le_of_ble_eq_true rfl)⟩ (fun C4 c4n c4k => ?_)
    have hlow : ∀ q, q < oArt i → C4 q = CC q := fun q h9 => (c4k q (by omega)).trans (hlow q h9)
    have c2r : ∀ q, oHw i ≤ q → q < oHw i + 3 → C4 q = gc0 E q := fun q h8 h9 => (c4k q (by omega)).trans (c2r q h8 h9)
    have c3n := (c4k (oArt i) (by omega)).trans c3n
    refine J_putF (q := 23) (T := TX0) (k := 1) hC dX0_init_20 rfl hin (by omega) c3n rfl inW0 (by decide) (wall (by decide +kernel) rfl) rfl tyX0 tyX0_ok nmX0 rfl rfl (ty := tyX0 1) (by decide +kernel) rfl rfl (Nat.le_of_ble_eq_true rfl) (fun C5 c5n c5k => ?_)
    have hlow : ∀ q, q < oArt i → C5 q = CC q := fun q h9 => (c5k q (by omega)).trans (hlow q h9)
    have c2r : ∀ q, oHw i ≤ q → q < oHw i + 3 → C5 q = gc0 E q := fun q h8 h9 => (c5k q (by omega)).trans (c2r q h8 h9)
    have c4n := (c5k (oHw i + 1 + 2) (by omega)).trans c4n
    refine J_aload_n (q := 24) hC dX0_init_23 rfl rfl ?_
    refine J_bipush (v := 8) (q := 26) hC dX0_init_24 rfl (by decide) ?_
    refine J_newa (q := 28) (t := 2) (N := 8) (ty := .boolean) (a0 := (8, .inl (fun _ => 0))) hC dX0_init_26 rfl (by omega) (wall (by decide +kernel) rfl) rfl rfl (fun _ => rfl) id (by decide) (by decide) (Nat.le_of_ble_eq_true rfl) ⟨(Nat.le_of_ble_eq_true rfl), (Nat.le_of_ble_eq_true rfl)⟩ (fun C6 c6n c6k => ?_)
    have hlow : ∀ q, q < oArt i → C6 q = CC q := fun q h9 => (c6k q (by omega)).trans (hlow q h9)
    have c2r : ∀ q, oHw i ≤ q → q < oHw i + 3 → C6 q = gc0 E q := fun q h8 h9 => (c6k q (by omega)).trans (c2r q h8 h9)
    have c4n := (c6k (oHw i + 1 + 2) (by omega)).trans c4n
    have c5n := (c6k (oArt i) (by omega)).trans c5n
    refine J_putF (q := 31) (T := TX0) (k := 2) hC dX0_init_28 rfl hin (by omega) c5n rfl inW0 (by decide) (wall (by decide +kernel) rfl) rfl tyX0 tyX0_ok nmX0 rfl rfl (ty := tyX0 2) (by decide +kernel) rfl rfl (Nat.le_of_ble_eq_true rfl) (fun C7 c7n c7k => ?_)
    have hlow : ∀ q, q < oArt i → C7 q = CC q := fun q h9 => (c7k q (by omega)).trans (hlow q h9)
    have c2r : ∀ q, oHw i ≤ q → q < oHw i + 3 → C7 q = gc0 E q := fun q h8 h9 => (c7k q (by omega)).trans (c2r q h8 h9)
    have c4n := (c7k (oHw i + 1 + 2) (by omega)).trans c4n
    have c6n := (c7k (oHw i + 1 + 2 + 1) (by omega)).trans c6n
    refine J_aload_n (q := 32) hC dX0_init_31 rfl rfl ?_
    refine J_bipush (v := 8) (q := 34) hC dX0_init_32 rfl (by decide) ?_
    refine J_newa (q := 36) (t := 1) (N := 8) (ty := .int) (a0 := (8, .inl (fun _ => 0))) hC dX0_init_34 rfl (by omega) (wall (by decide +kernel) rfl) rfl rfl (fun _ => rfl) id (by decide) (by decide) (Nat.le_of_ble_eq_true rfl) ⟨(Nat.le_of_ble_eq_true rfl), (Nat.le_of_ble_eq_true rfl)⟩ (fun C8 c8n c8k => ?_)
    have hlow : ∀ q, q < oArt i → C8 q = CC q := fun q h9 => (c8k q (by omega)).trans (hlow q h9)
    have c2r : ∀ q, oHw i ≤ q → q < oHw i + 3 → C8 q = gc0 E q := fun q h8 h9 => (c8k q (by omega)).trans (c2r q h8 h9)
    have c4n := (c8k (oHw i + 1 + 2) (by omega)).trans c4n
    have c6n := (c8k (oHw i + 1 + 2 + 1) (by omega)).trans c6n
    have c7n := (c8k (oArt i) (by omega)).trans c7n
    refine J_putF (q := 39) (T := TX0) (k := 3) hC dX0_init_36 rfl hin (by omega) c7n rfl inW0 (by decide) (wall (by decide +kernel) rfl) rfl tyX0 tyX0_ok nmX0 rfl rfl (ty := tyX0 3) (by decide +kernel) rfl rfl (Nat.le_of_ble_eq_true rfl) (fun C9 c9n c9k => ?_)
    have hlow : ∀ q, q < oArt i → C9 q = CC q := fun q h9 => (c9k q (by omega)).trans (hlow q h9)
    have c2r : ∀ q, oHw i ≤ q → q < oHw i + 3 → C9 q = gc0 E q := fun q h8 h9 => (c9k q (by omega)).trans (c2r q h8 h9)
    have c4n := (c9k (oHw i + 1 + 2) (by omega)).trans c4n
    have c6n := (c9k (oHw i + 1 + 2 + 1) (by omega)).trans c6n
    have c8n := (c9k (oHw i + 1 + 2 + 1 + 1) (by omega)).trans c8n
    refine J_aload_n (q := 40) hC dX0_init_39 rfl rfl ?_
    refine J_iconst (q := 41) hC dX0_init_40 rfl ic_m1 ?_
    refine J_put (q := 44) (T := TX0) (k := 7) hC dX0_init_41 rfl (by omega) c9n rfl inW0 (by decide) (wall (by decide +kernel) rfl) rfl tyX0 tyX0_ok nmX0 rfl (ty := tyX0 7) (by decide +kernel) rfl rfl (Nat.le_of_ble_eq_true rfl) (fun C10 c10n c10k => ?_)
    have hlow : ∀ q, q < oArt i → C10 q = CC q := fun q h9 => (c10k q (by omega)).trans (hlow q h9)
    have c2r : ∀ q, oHw i ≤ q → q < oHw i + 3 → C10 q = gc0 E q := fun q h8 h9 => (c10k q (by omega)).trans (c2r q h8 h9)
    have c4n := (c10k (oHw i + 1 + 2) (by omega)).trans c4n
    have c6n := (c10k (oHw i + 1 + 2 + 1) (by omega)).trans c6n
    have c8n := (c10k (oHw i + 1 + 2 + 1 + 1) (by omega)).trans c8n
    refine J_aload_n (q := 45) hC dX0_init_44 rfl rfl ?_
    refine J_iconst (q := 46) hC dX0_init_45 rfl ic_m1 ?_
    refine J_put (q := 49) (T := TX0) (k := 8) hC dX0_init_46 rfl (by omega) c10n rfl inW0 (by decide) (wall (by decide +kernel) rfl) rfl tyX0 tyX0_ok nmX0 rfl (ty := tyX0 8) (by decide +kernel) rfl rfl (Nat.le_of_ble_eq_true rfl) (fun C11 c11n c11k => ?_)
    have hlow : ∀ q, q < oArt i → C11 q = CC q := fun q h9 => (c11k q (by omega)).trans (hlow q h9)
    have c2r : ∀ q, oHw i ≤ q → q < oHw i + 3 → C11 q = gc0 E q := fun q h8 h9 => (c11k q (by omega)).trans (c2r q h8 h9)
    have c4n := (c11k (oHw i + 1 + 2) (by omega)).trans c4n
    have c6n := (c11k (oHw i + 1 + 2 + 1) (by omega)).trans c6n
    have c8n := (c11k (oHw i + 1 + 2 + 1 + 1) (by omega)).trans c8n
    refine J_iconst (q := 50) (v := nI 0) hC dX0_init_49 rfl (by decide) ?_
    refine J_istore_n (q := 51) (lv' := [(1, .int (nI 0)), (0, .ref (eB E + oArt i))]) hC dX0_init_50 rfl (by decide) rfl ?_
    have e0 : (oHw i + 1 + rm_X3_init.cells + 1 + 1 + 1) = oArt i + 7 + 4 * 0 := by show oHw i + 1 + 2 + 1 + 1 + 1 = _; omega
    rw [e0, show oHw i + rm_X0_init.cells = oArt i + 1 + rm_X0_init.cells by rw [hw]]
    have es : C11 (oArt i) = .inr (0, [.ref (eB E + oHw i), .ref (eB E + oRa i), .ref (eB E + oA 2 i), .ref (eB E + oA 3 i), .int 0, .int 0, .int 0, .int (-1), .int (-1), .int 0, .int 0, .int 0]) := by
      refine c11n.trans ?_
      rw [oRa_art i, show oA 2 i = oArt i + 5 from rfl, show oA 3 i = oArt i + 6 from rfl, show oArt i + 4 = oHw i + 1 + 2 by omega, show oArt i + 5 = oHw i + 1 + 2 + 1 by omega, show oArt i + 6 = oHw i + 1 + 2 + 1 + 1 by omega]
      rfl
    refine i_X0_loop hi hC hO hs 4 0 C11 rfl hlow es (by rw [show oArt i + 4 = oHw i + 1 + 2 by omega]; refine c4n.trans ?_; rfl) (fun q h1 h2 h3 => ?_)
    rcases (show (oHw i ≤ q ∧ q < oHw i + 3) ∨ q = oArt i + 5 ∨ q = oArt i + 6 by omega) with h7 | h7 | h7
    · exact c2r q h7.1 h7.2
    · have e9 := c6n.trans (c0_arr (E := E) (F := 2) (i := i) (by decide) hi rfl).symm; rw [h7, show oArt i + 5 = oHw i + 1 + 2 + 1 by omega]; refine e9.trans ?_; rw [show oA 2 i = oArt i + 5 from rfl, show oArt i + 5 = oHw i + 1 + 2 + 1 by omega]
    · have e9 := c8n.trans (c0_arr (E := E) (F := 3) (i := i) (by decide) hi rfl).symm; rw [h7, show oArt i + 6 = oHw i + 1 + 2 + 1 + 1 by omega]; refine e9.trans ?_; rw [show oA 3 i = oArt i + 6 from rfl, show oArt i + 6 = oHw i + 1 + 2 + 1 + 1 by omega])

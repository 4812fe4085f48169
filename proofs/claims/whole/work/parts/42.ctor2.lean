/-! by program (wip/whole/gen_ctor2.py): the two great constructors -/
theorem J_nn {p : Program} {l : Launch} {e : Env} {R : Room} {s : State} {m : MethodId} {args : Array Value} {below : List Frame} {meth : Method} {c : Code} {nL cells slots : Nat} {Q : State → Prop} {E : gE} {CC : Nat → va_E} {nn pc : Nat} {lv : List (Nat × Value)} {st : List Value} (n2 c2 s2 : Nat) (h : nn = n2) (hc : cells = c2) (hs : slots = s2) (k : J p l e R s m args below meth c nL c2 s2 Q E CC n2 pc lv st) : J p l e R s m args below meth c nL cells slots Q E CC nn pc lv st := by
  subst h hc hs
  exact k
abbrev rm_X6_init : Room := { frames := 4, cells := 582, slots := 3656, locals := 90 }
def fsM (E : gE) : List Value := [.ref (eB E + oHw 120), .ref (eB E + 4), .ref (eB E + 5), .ref (eB E + 6), .ref (eB E + oA 154 0), .ref (eB E + oA 155 0), .int 0, .int 0, .int 0, .int 0, .int 0, .int 0]
def artA (E : gE) (k : Nat) : va_E := .inl (eT E 3, 24, .inr (.inr (.inr (.inr (fun j => if j < k then some (eB E + oArt j) else none)))))
theorem artA_up (E : gE) (k : Nat) : va_up (fun j => if j < k then some (eB E + oArt j) else none) k (some (eB E + oArt k)) = (fun j => if j < k + 1 then some (eB E + oArt j) else none) := by
  funext j
  simp only [va_up]
  by_cases e1 : j = k
  · subst e1; simp
  · by_cases e2 : j < k
    · simp [e1, e2, Nat.lt_succ_of_lt e2]
    · simp [e1, e2, show ¬ j < k + 1 by omega]
def volA (E : gE) (k : Nat) : va_E := .inl (eT E 6, 4, .inr (.inr (.inr (.inr (fun j => if j < k then some (eB E + oVol j) else none)))))
theorem volA_up (E : gE) (k : Nat) : va_up (fun j => if j < k then some (eB E + oVol j) else none) k (some (eB E + oVol k)) = (fun j => if j < k + 1 then some (eB E + oVol j) else none) := by
  funext j
  simp only [va_up]
  by_cases e1 : j = k
  · subst e1; simp
  · by_cases e2 : j < k
    · simp [e1, e2, Nat.lt_succ_of_lt e2]
    · simp [e1, e2, show ¬ j < k + 1 by omega]
def conA (E : gE) (k : Nat) : va_E := .inl (eT E 4, 6, .inr (.inr (.inr (.inr (fun j => if j < k then some (eB E + oCon j) else none)))))
theorem conA_up (E : gE) (k : Nat) : va_up (fun j => if j < k then some (eB E + oCon j) else none) k (some (eB E + oCon k)) = (fun j => if j < k + 1 then some (eB E + oCon j) else none) := by
  funext j
  simp only [va_up]
  by_cases e1 : j = k
  · subst e1; simp
  · by_cases e2 : j < k
    · simp [e1, e2, Nat.lt_succ_of_lt e2]
    · simp [e1, e2, show ¬ j < k + 1 by omega]
def abvA (E : gE) (k : Nat) : va_E := .inl (eT E 1, 10, .inl (fun j => if j < k then -1 else 0))
theorem abvA_up (k : Nat) : upd (fun j => if j < k then (-1 : Int32) else 0) k (-1) = (fun j => if j < k + 1 then (-1 : Int32) else 0) := by
  funext j
  simp only [upd]
  by_cases e1 : j = k
  · subst e1; simp
  · by_cases e2 : j < k
    · simp [e1, e2, Nat.lt_succ_of_lt e2]
    · simp [e1, e2, show ¬ j < k + 1 by omega]
def mInv (E : gE) (C : Nat → va_E) (ka kv kc ks n : Nat) : Prop := C 0 = .inr (5, fsM E) ∧ C 4 = artA E ka ∧ C 5 = volA E kv ∧ C 6 = conA E kc ∧ C 7 = abvA E ks ∧ ∀ q, q < n → q ≠ 0 → q ≠ 4 → q ≠ 5 → q ≠ 6 → q ≠ 7 → C q = gc0 E q
section CT
variable {p : Program} {l : Launch} {e : Env} {s : State} {m : MethodId} {args : Array Value} {below : List Frame} {meth : Method} {c : Code} {E : gE}
set_option maxRecDepth 100000 in
theorem i_X6_D (hC : gCx p s m args meth c cX6_init 2 RX6 none E) (hO : gO s) (hs : s.heap.size + 0 = eB E + (0 + 1)) (n : Nat) : ∀ (k : Nat) (C1 : Nat → va_E), k + n = 10 → mInv E C1 24 4 6 k 583 → J p l e rm_X6_init s m args below meth c 2 (582) (3656) (MQ below (fun _ st oc t => oc = .returned none ∧ (∃ C2 : Nat → va_E, (fun C2 : Nat → va_E => ∀ q, q < 583 → C2 q = gc0 E q) C2 ∧ va_P (eD E) vwCl (gV E C2 (0 + 1 + rm_X6_init.cells)) t.heap) ∧ va_F (fun q => eB E ≤ q) st t) args s rm_X6_init.cells rm_X6_init.slots (fun q => eB E ≤ q)) E C1 (583) 139 [(1, .int (nI k)), (0, .ref (eB E + 0))] [] := by
  induction n with
  | zero =>
    intro k C1 hk hI
    obtain rfl : k = 10 := by omega
    obtain ⟨h0, h4, h5, h6, h7, hr⟩ := hI
    refine J_iload_n (q := 140) hC dX6_init_139 rfl rfl ?_
    refine J_bipush (q := 142) (v := 10) hC dX6_init_140 rfl (by decide) ?_
    refine J_icmp_ge (tgt := 158) (q := 145) hC dX6_init_142 (by decide) rfl (fun _ => ?_) (fun h => absurd (by decide) h)
    refine J_conv (o := 4) (g := fun j => some (eB E + oArt j)) (by decide) h4 (fun j hj => by simp only [if_pos hj]) (fun C2 n2 k2 => ?_)
    refine J_conv (o := 5) (g := fun j => some (eB E + oVol j)) (by decide) ((k2 5 (by decide)).trans h5) (fun j hj => by simp only [if_pos hj]) (fun C3 n3 k3 => ?_)
    refine J_conv (o := 6) (g := fun j => some (eB E + oCon j)) (by decide) ((k3 6 (by decide)).trans ((k2 6 (by decide)).trans h6)) (fun j hj => by simp only [if_pos hj]) (fun C4 n4 k4 => ?_)
    refine J_ret hC dX6_init_158 rfl (fun q hq => ?_) rfl (Nat.le_of_ble_eq_true rfl) (Nat.le_of_ble_eq_true rfl)
    have e : ∀ q, q ≠ 4 → q ≠ 5 → q ≠ 6 → C4 q = C1 q := fun q g4 g5 g6 => (k4 q g6).trans ((k3 q g5).trans (k2 q g4))
    by_cases e0 : q = 0
    · subst e0; exact (e 0 (by decide) (by decide) (by decide)).trans h0
    by_cases e4 : q = 4
    · subst e4; exact (k4 4 (by decide)).trans ((k3 4 (by decide)).trans n2)
    by_cases e5 : q = 5
    · subst e5; exact (k4 5 (by decide)).trans n3
    by_cases e6 : q = 6
    · subst e6; exact n4
    by_cases e7 : q = 7
    · subst e7; exact (e 7 (by decide) (by decide) (by decide)).trans h7
    exact (e q e4 e5 e6).trans (hr q hq e0 e4 e5 e6 e7)
  | succ n ih =>
    intro k C1 hk hI
    obtain ⟨h0, h4, h5, h6, h7, hr⟩ := hI
    have hk4 : k < 10 := by omega
    refine J_iload_n (q := 140) hC dX6_init_139 rfl rfl ?_
    refine J_bipush (q := 142) (v := 10) hC dX6_init_140 rfl (by decide) ?_
    refine J_icmp_ge (tgt := 158) (q := 145) hC dX6_init_142 (by decide) rfl (fun h => absurd h (nI_ge (b := 10) hk4 (by decide))) (fun _ => ?_)
    refine J_aload_n (q := 146) hC dX6_init_145 rfl rfl ?_
    refine J_get (q := 149) (T := TX6) (k := 4) hC dX6_init_146 rfl (by decide) h0 rfl inW6 (by decide) (wall (by decide +kernel) rfl) rfl rfl ?_
    refine J_iload_n (q := 150) hC dX6_init_149 rfl rfl ?_
    refine J_iconst (q := 151) hC dX6_init_150 rfl ic_m1 ?_
    refine J_iast (q := 152) (o := 7) hC dX6_init_151 rfl (by decide) h7 (by have := nI_clamp (n := k) (by omega); simp only [inb, this]; rw [show decide ((0 : Int32) ≤ nI k) = true from decide_eq_true (nI_pos' (by omega)), Bool.true_and]; exact Nat.ble_eq_true_of_le hk4) (fun C2 n2 k2 => ?_)
    rw [nI_clamp (n := k) (by omega), abvA_up] at n2
    refine J_iinc (q := 155) (n := 0) (lv' := [(1, .int (nI (k + 1))), (0, .ref (eB E + 0))]) hC dX6_init_152 rfl rfl (by rw [ii_1, nI_1]) (by decide) rfl ?_
    refine J_goto (tgt := 139) hC dX6_init_155 (by decide) ?_
    exact ih (k + 1) C2 (by omega) ⟨(k2 0 (by decide)).trans h0, (k2 4 (by decide)).trans h4, (k2 5 (by decide)).trans h5, (k2 6 (by decide)).trans h6, n2, fun q a0 a1 a2 a3 a4 a5 => (k2 q a5).trans (hr q a0 a1 a2 a3 a4 a5)⟩
set_option maxRecDepth 100000 in
theorem i_X6_C (hC : gCx p s m args meth c cX6_init 2 RX6 none E) (hO : gO s) (hs : s.heap.size + 0 = eB E + (0 + 1)) (n : Nat) : ∀ (k : Nat) (C1 : Nat → va_E), k + n = 6 → mInv E C1 24 4 k 0 (oCon k) → J p l e rm_X6_init s m args below meth c 2 (564 + 3 * k) (3440 + 36 * k) (MQ below (fun _ st oc t => oc = .returned none ∧ (∃ C2 : Nat → va_E, (fun C2 : Nat → va_E => ∀ q, q < 583 → C2 q = gc0 E q) C2 ∧ va_P (eD E) vwCl (gV E C2 (0 + 1 + rm_X6_init.cells)) t.heap) ∧ va_F (fun q => eB E ≤ q) st t) args s rm_X6_init.cells rm_X6_init.slots (fun q => eB E ≤ q)) E C1 (oCon k) 112 [(1, .int (nI k)), (0, .ref (eB E + 0))] [] := by
  induction n with
  | zero =>
    intro k C1 hk hI
    obtain rfl : k = 6 := by omega
    refine J_iload_n (q := 113) hC dX6_init_112 rfl rfl ?_
    refine J_bipush (q := 115) (v := 6) hC dX6_init_113 rfl (by decide) ?_
    refine J_icmp_ge (tgt := 137) (q := 118) hC dX6_init_115 (by decide) rfl (fun _ => ?_) (fun h => absurd (by decide) h)
    refine J_iconst (q := 138) (v := nI 0) hC dX6_init_137 rfl (by decide) ?_
    refine J_istore_n (q := 139) (lv' := [(1, .int (nI 0)), (0, .ref (eB E + 0))]) hC dX6_init_138 rfl (by decide) rfl ?_
    exact i_X6_D hC hO hs 10 0 C1 rfl hI
  | succ n ih =>
    intro k C1 hk hI
    obtain ⟨h0, h4, h5, h6, h7, hr⟩ := hI
    have hk4 : k < 6 := by omega
    refine J_iload_n (q := 113) hC dX6_init_112 rfl rfl ?_
    refine J_bipush (q := 115) (v := 6) hC dX6_init_113 rfl (by decide) ?_
    refine J_icmp_ge (tgt := 137) (q := 118) hC dX6_init_115 (by decide) rfl (fun h => absurd h (nI_ge (b := 6) hk4 (by decide))) (fun _ => ?_)
    refine J_aload_n (q := 119) hC dX6_init_118 rfl rfl ?_
    refine J_get (q := 122) (T := TX6) (k := 3) hC dX6_init_119 rfl (by simp only [oCon]; omega) h0 rfl inW6 (by decide) (wall (by decide +kernel) rfl) rfl rfl ?_
    refine J_iload_n (q := 123) hC dX6_init_122 rfl rfl ?_
    refine J_new (q := 126) (ci := 1) (T := TX1) (N := 6) (fs := [.null, .null, .int 0, .int 0, .int 0, .int 0]) hC dX6_init_123 rfl (by simp only [oCon]; omega) tyX1 tyX1_ok inW1 rfl (wall (by decide +kernel) rfl) (wall (by decide +kernel) rfl) (wall (by decide +kernel) rfl) (fun j hj => by rcases (show j = 0 ∨ j = 1 ∨ j = 2 ∨ j = 3 ∨ j = 4 ∨ j = 5 by omega) with rfl | rfl | rfl | rfl | rfl | rfl <;> rfl) ⟨by show 564 + 3 * k + 1 ≤ 582; omega, by show 3440 + 36 * k + 6 ≤ 3656; omega⟩ (fun C2 n2 k2 => ?_)
    refine J_dup (q := 127) hC dX6_init_126 rfl rfl ?_
    refine J_callIN (q := 130) (host := RX6) hC dX6_init_127 rfl hO (by simp only [oCon]; omega) (i_X1 hk4 n2) rfl (wall (by decide +kernel) rfl) (wall (by decide +kernel) rfl) (wall (by decide +kernel) rfl) (by decide +kernel) ⟨by decide +kernel, by decide +kernel, by decide +kernel⟩ ⟨(Nat.le_of_ble_eq_true rfl), (Nat.le_of_ble_eq_true rfl)⟩ (Nat.le_of_ble_eq_true rfl) ⟨by show 564 + 3 * k + 1 + 2 ≤ 582; omega, by show 3440 + 36 * k + 6 + 30 ≤ 3656; omega⟩ (by omega) (fun C3 c3 => ?_)
    obtain ⟨c3k, c3r⟩ := c3
    have k3 : ∀ q, q < oCon k → C3 q = C1 q := fun q hq => (c3k q hq).trans (k2 q hq)
    have v3 := (c3r (oCon k) (by omega) (by omega)).trans (cell_Con (w := fun _ => 0) (σ := g0) hk4)
    have ob : 9 ≤ oCon k := by simp only [oCon]; omega
    refine J_aast (q := 131) (r := (RX1, TX1, 6)) hC dX6_init_130 rfl (by show _ < oCon k + 1 + 2; omega) ((k3 6 (by omega)).trans h6) rfl (by show _ < oCon k + 1 + 2; omega) v3 rfl (by have := nI_clamp (n := k) (by omega); simp only [inb, this]; rw [show decide ((0 : Int32) ≤ nI k) = true from decide_eq_true (nI_pos' (by omega)), Bool.true_and]; exact Nat.ble_eq_true_of_le hk4) (fun C4 n4 k4 => ?_)
    rw [nI_clamp (n := k) (by omega), conA_up] at n4
    refine J_iinc (q := 134) (n := 0) (lv' := [(1, .int (nI (k + 1))), (0, .ref (eB E + 0))]) hC dX6_init_131 rfl rfl (by rw [ii_1, nI_1]) (by decide) rfl ?_
    refine J_goto (tgt := 112) hC dX6_init_134 (by decide) ?_
    refine J_nn (oCon (k + 1)) (564 + 3 * (k + 1)) (3440 + 36 * (k + 1)) (by show oCon k + 1 + 2 = _; simp only [oCon]; omega) (by show 564 + 3 * k + 1 + 2 = _; omega) (by show 3440 + 36 * k + 6 + 30 = _; omega) ?_
    have e : ∀ q, q < oCon k → q ≠ 6 → C4 q = C1 q := fun q a0 a1 => (k4 q a1).trans (k3 q a0)
    refine ih (k + 1) C4 (by omega) ⟨(e 0 (by omega) (by decide)).trans h0, (e 4 (by omega) (by decide)).trans h4, (e 5 (by omega) (by decide)).trans h5, n4, (e 7 (by omega) (by decide)).trans h7, fun q a0 a1 a2 a3 a4 a5 => ?_⟩
    by_cases e1 : q < oCon k
    · exact (e q e1 (by omega)).trans (hr q e1 a1 a2 a3 a4 a5)
    · exact (k4 q (by omega)).trans (c3r q (by omega) (by simp only [oCon] at a0 ⊢; omega))
set_option maxRecDepth 100000 in
theorem i_X6_B (hC : gCx p s m args meth c cX6_init 2 RX6 none E) (hO : gO s) (hs : s.heap.size + 0 = eB E + (0 + 1)) (n : Nat) : ∀ (k : Nat) (C1 : Nat → va_E), k + n = 4 → mInv E C1 24 k 0 0 (oVol k) → J p l e rm_X6_init s m args below meth c 2 (560 + 1 * k) (3432 + 2 * k) (MQ below (fun _ st oc t => oc = .returned none ∧ (∃ C2 : Nat → va_E, (fun C2 : Nat → va_E => ∀ q, q < 583 → C2 q = gc0 E q) C2 ∧ va_P (eD E) vwCl (gV E C2 (0 + 1 + rm_X6_init.cells)) t.heap) ∧ va_F (fun q => eB E ≤ q) st t) args s rm_X6_init.cells rm_X6_init.slots (fun q => eB E ≤ q)) E C1 (oVol k) 86 [(1, .int (nI k)), (0, .ref (eB E + 0))] [] := by
  induction n with
  | zero =>
    intro k C1 hk hI
    obtain rfl : k = 4 := by omega
    refine J_iload_n (q := 87) hC dX6_init_86 rfl rfl ?_
    refine J_iconst (q := 88) (v := 4) hC dX6_init_87 rfl (by decide) ?_
    refine J_icmp_ge (tgt := 110) (q := 91) hC dX6_init_88 (by decide) rfl (fun _ => ?_) (fun h => absurd (by decide) h)
    refine J_iconst (q := 111) (v := nI 0) hC dX6_init_110 rfl (by decide) ?_
    refine J_istore_n (q := 112) (lv' := [(1, .int (nI 0)), (0, .ref (eB E + 0))]) hC dX6_init_111 rfl (by decide) rfl ?_
    exact i_X6_C hC hO hs 6 0 C1 rfl hI
  | succ n ih =>
    intro k C1 hk hI
    obtain ⟨h0, h4, h5, h6, h7, hr⟩ := hI
    have hk4 : k < 4 := by omega
    refine J_iload_n (q := 87) hC dX6_init_86 rfl rfl ?_
    refine J_iconst (q := 88) (v := 4) hC dX6_init_87 rfl (by decide) ?_
    refine J_icmp_ge (tgt := 110) (q := 91) hC dX6_init_88 (by decide) rfl (fun h => absurd h (nI_ge (b := 4) hk4 (by decide))) (fun _ => ?_)
    refine J_aload_n (q := 92) hC dX6_init_91 rfl rfl ?_
    refine J_get (q := 95) (T := TX6) (k := 2) hC dX6_init_92 rfl (by simp only [oVol]; omega) h0 rfl inW6 (by decide) (wall (by decide +kernel) rfl) rfl rfl ?_
    refine J_iload_n (q := 96) hC dX6_init_95 rfl rfl ?_
    refine J_new (q := 99) (ci := 4) (T := TX5) (N := 2) (fs := [.int 0, .int 0]) hC dX6_init_96 rfl (by simp only [oVol]; omega) tyX5 tyX5_ok inW5 rfl (wall (by decide +kernel) rfl) (wall (by decide +kernel) rfl) (wall (by decide +kernel) rfl) (fun j hj => by rcases (show j = 0 ∨ j = 1 by omega) with rfl | rfl <;> rfl) ⟨by show 560 + 1 * k + 1 ≤ 582; omega, by show 3432 + 2 * k + 2 ≤ 3656; omega⟩ (fun C2 n2 k2 => ?_)
    refine J_dup (q := 100) hC dX6_init_99 rfl rfl ?_
    refine J_callIN (q := 103) (host := RX6) hC dX6_init_100 rfl hO (by simp only [oVol]; omega) (i_X5 hk4 n2) rfl (wall (by decide +kernel) rfl) (wall (by decide +kernel) rfl) (wall (by decide +kernel) rfl) (by decide +kernel) ⟨by decide +kernel, by decide +kernel, by decide +kernel⟩ ⟨(Nat.le_of_ble_eq_true rfl), (Nat.le_of_ble_eq_true rfl)⟩ (Nat.le_of_ble_eq_true rfl) ⟨by show 560 + 1 * k + 1 + 0 ≤ 582; omega, by show 3432 + 2 * k + 2 + 0 ≤ 3656; omega⟩ (by omega) (fun C3 c3 => ?_)
    obtain ⟨c3k, c3r⟩ := c3
    have k3 : ∀ q, q < oVol k → C3 q = C1 q := fun q hq => (c3k q hq).trans (k2 q hq)
    have v3 := (c3r (oVol k) (by omega) (by omega)).trans (cell_Vol (w := fun _ => 0) (σ := g0) hk4)
    have ob : 9 ≤ oVol k := by simp only [oVol]; omega
    refine J_aast (q := 104) (r := (RX5, TX5, 2)) hC dX6_init_103 rfl (by show _ < oVol k + 1 + 0; omega) ((k3 5 (by omega)).trans h5) rfl (by show _ < oVol k + 1 + 0; omega) v3 rfl (by have := nI_clamp (n := k) (by omega); simp only [inb, this]; rw [show decide ((0 : Int32) ≤ nI k) = true from decide_eq_true (nI_pos' (by omega)), Bool.true_and]; exact Nat.ble_eq_true_of_le hk4) (fun C4 n4 k4 => ?_)
    rw [nI_clamp (n := k) (by omega), volA_up] at n4
    refine J_iinc (q := 107) (n := 0) (lv' := [(1, .int (nI (k + 1))), (0, .ref (eB E + 0))]) hC dX6_init_104 rfl rfl (by rw [ii_1, nI_1]) (by decide) rfl ?_
    refine J_goto (tgt := 86) hC dX6_init_107 (by decide) ?_
    refine J_nn (oVol (k + 1)) (560 + 1 * (k + 1)) (3432 + 2 * (k + 1)) (by show oVol k + 1 + 0 = _; simp only [oVol]; omega) (by show 560 + 1 * k + 1 + 0 = _; omega) (by show 3432 + 2 * k + 2 + 0 = _; omega) ?_
    have e : ∀ q, q < oVol k → q ≠ 5 → C4 q = C1 q := fun q a0 a1 => (k4 q a1).trans (k3 q a0)
    refine ih (k + 1) C4 (by omega) ⟨(e 0 (by omega) (by decide)).trans h0, (e 4 (by omega) (by decide)).trans h4, n4, (e 6 (by omega) (by decide)).trans h6, (e 7 (by omega) (by decide)).trans h7, fun q a0 a1 a2 a3 a4 a5 => ?_⟩
    by_cases e1 : q < oVol k
    · exact (e q e1 (by omega)).trans (hr q e1 a1 a2 a3 a4 a5)
    · exact (k4 q (by omega)).trans (c3r q (by omega) (by simp only [oVol] at a0 ⊢; omega))
set_option maxRecDepth 100000 in
theorem i_X6_A (hC : gCx p s m args meth c cX6_init 2 RX6 none E) (hO : gO s) (hs : s.heap.size + 0 = eB E + (0 + 1)) (n : Nat) : ∀ (k : Nat) (C1 : Nat → va_E), k + n = 24 → mInv E C1 k 0 0 0 (oArt k) → J p l e rm_X6_init s m args below meth c 2 (8 + 23 * k) (72 + 140 * k) (MQ below (fun _ st oc t => oc = .returned none ∧ (∃ C2 : Nat → va_E, (fun C2 : Nat → va_E => ∀ q, q < 583 → C2 q = gc0 E q) C2 ∧ va_P (eD E) vwCl (gV E C2 (0 + 1 + rm_X6_init.cells)) t.heap) ∧ va_F (fun q => eB E ≤ q) st t) args s rm_X6_init.cells rm_X6_init.slots (fun q => eB E ≤ q)) E C1 (oArt k) 59 [(1, .int (nI k)), (0, .ref (eB E + 0))] [] := by
  induction n with
  | zero =>
    intro k C1 hk hI
    obtain rfl : k = 24 := by omega
    refine J_iload_n (q := 60) hC dX6_init_59 rfl rfl ?_
    refine J_bipush (q := 62) (v := 24) hC dX6_init_60 rfl (by decide) ?_
    refine J_icmp_ge (tgt := 84) (q := 65) hC dX6_init_62 (by decide) rfl (fun _ => ?_) (fun h => absurd (by decide) h)
    refine J_iconst (q := 85) (v := nI 0) hC dX6_init_84 rfl (by decide) ?_
    refine J_istore_n (q := 86) (lv' := [(1, .int (nI 0)), (0, .ref (eB E + 0))]) hC dX6_init_85 rfl (by decide) rfl ?_
    exact i_X6_B hC hO hs 4 0 C1 rfl hI
  | succ n ih =>
    intro k C1 hk hI
    obtain ⟨h0, h4, h5, h6, h7, hr⟩ := hI
    have hk4 : k < 24 := by omega
    refine J_iload_n (q := 60) hC dX6_init_59 rfl rfl ?_
    refine J_bipush (q := 62) (v := 24) hC dX6_init_60 rfl (by decide) ?_
    refine J_icmp_ge (tgt := 84) (q := 65) hC dX6_init_62 (by decide) rfl (fun h => absurd h (nI_ge (b := 24) hk4 (by decide))) (fun _ => ?_)
    refine J_aload_n (q := 66) hC dX6_init_65 rfl rfl ?_
    refine J_get (q := 69) (T := TX6) (k := 1) hC dX6_init_66 rfl (by simp only [oArt]; omega) h0 rfl inW6 (by decide) (wall (by decide +kernel) rfl) rfl rfl ?_
    refine J_iload_n (q := 70) hC dX6_init_69 rfl rfl ?_
    refine J_new (q := 73) (ci := 0) (T := TX0) (N := 12) (fs := [.null, .null, .null, .null, .int 0, .int 0, .int 0, .int 0, .int 0, .int 0, .int 0, .int 0]) hC dX6_init_70 rfl (by simp only [oArt]; omega) tyX0 tyX0_ok inW0 rfl (wall (by decide +kernel) rfl) (wall (by decide +kernel) rfl) (wall (by decide +kernel) rfl) (fun j hj => by rcases (show j = 0 ∨ j = 1 ∨ j = 2 ∨ j = 3 ∨ j = 4 ∨ j = 5 ∨ j = 6 ∨ j = 7 ∨ j = 8 ∨ j = 9 ∨ j = 10 ∨ j = 11 by omega) with rfl | rfl | rfl | rfl | rfl | rfl | rfl | rfl | rfl | rfl | rfl | rfl <;> rfl) ⟨by show 8 + 23 * k + 1 ≤ 582; omega, by show 72 + 140 * k + 12 ≤ 3656; omega⟩ (fun C2 n2 k2 => ?_)
    refine J_dup (q := 74) hC dX6_init_73 rfl rfl ?_
    refine J_callIN (q := 77) (host := RX6) hC dX6_init_74 rfl hO (by simp only [oArt]; omega) (i_X0 hk4 n2) rfl (wall (by decide +kernel) rfl) (wall (by decide +kernel) rfl) (wall (by decide +kernel) rfl) (by decide +kernel) ⟨by decide +kernel, by decide +kernel, by decide +kernel⟩ ⟨(Nat.le_of_ble_eq_true rfl), (Nat.le_of_ble_eq_true rfl)⟩ (Nat.le_of_ble_eq_true rfl) ⟨by show 8 + 23 * k + 1 + 22 ≤ 582; omega, by show 72 + 140 * k + 12 + 128 ≤ 3656; omega⟩ (by omega) (fun C3 c3 => ?_)
    obtain ⟨c3k, c3r⟩ := c3
    have k3 : ∀ q, q < oArt k → C3 q = C1 q := fun q hq => (c3k q hq).trans (k2 q hq)
    have v3 := (c3r (oArt k) (by omega) (by omega)).trans (cell_Art (w := fun _ => 0) (σ := g0) hk4)
    have ob : 9 ≤ oArt k := by simp only [oArt]; omega
    refine J_aast (q := 78) (r := (RX0, TX0, 12)) hC dX6_init_77 rfl (by show _ < oArt k + 1 + 22; omega) ((k3 4 (by omega)).trans h4) rfl (by show _ < oArt k + 1 + 22; omega) v3 rfl (by have := nI_clamp (n := k) (by omega); simp only [inb, this]; rw [show decide ((0 : Int32) ≤ nI k) = true from decide_eq_true (nI_pos' (by omega)), Bool.true_and]; exact Nat.ble_eq_true_of_le hk4) (fun C4 n4 k4 => ?_)
    rw [nI_clamp (n := k) (by omega), artA_up] at n4
    refine J_iinc (q := 81) (n := 0) (lv' := [(1, .int (nI (k + 1))), (0, .ref (eB E + 0))]) hC dX6_init_78 rfl rfl (by rw [ii_1, nI_1]) (by decide) rfl ?_
    refine J_goto (tgt := 59) hC dX6_init_81 (by decide) ?_
    refine J_nn (oArt (k + 1)) (8 + 23 * (k + 1)) (72 + 140 * (k + 1)) (by show oArt k + 1 + 22 = _; simp only [oArt]; omega) (by show 8 + 23 * k + 1 + 22 = _; omega) (by show 72 + 140 * k + 12 + 128 = _; omega) ?_
    have e : ∀ q, q < oArt k → q ≠ 4 → C4 q = C1 q := fun q a0 a1 => (k4 q a1).trans (k3 q a0)
    refine ih (k + 1) C4 (by omega) ⟨(e 0 (by omega) (by decide)).trans h0, n4, (e 5 (by omega) (by decide)).trans h5, (e 6 (by omega) (by decide)).trans h6, (e 7 (by omega) (by decide)).trans h7, fun q a0 a1 a2 a3 a4 a5 => ?_⟩
    by_cases e1 : q < oArt k
    · exact (e q e1 (by omega)).trans (hr q e1 a1 a2 a3 a4 a5)
    · exact (k4 q (by omega)).trans (c3r q (by omega) (by simp only [oArt] at a0 ⊢; omega))
end CT
set_option maxRecDepth 100000 in
theorem i_X6 {l : Launch} {E : gE} {CC : Nat → va_E} (h0 : CC 0 = .inr (5, [.null, .null, .null, .null, .null, .null, .int 0, .int 0, .int 0, .int 0, .int 0, .int 0])) : gI l yX6_init cX6_init 2 rm_X6_init E CC (0 + 1) 0 (fun C2 : Nat → va_E => ∀ q, q < 583 → C2 q = gc0 E q) :=
  gI_of (by decide +kernel) rfl (by decide) (by decide) (fun p e s m args below meth c hC hin hO hs => by
    have e120 : oHw 120 = 1 := rfl
    refine J_aload_n (q := 1) hC dX6_init_0 rfl rfl ?_
    refine J_obj (q := 4) hC dX6_init_1 rfl (wall (by decide +kernel) rfl) (wall (by decide +kernel) rfl) (wall (by decide +kernel) rfl) (Nat.le_of_ble_eq_true rfl) (Nat.le_of_ble_eq_true rfl) ?_
    refine J_aload_n (q := 5) hC dX6_init_4 rfl rfl ?_
    refine J_new (q := 8) (ci := 2) (T := TX3) (N := 4) (fs := [.null, .null, .int 0, .int 0]) hC dX6_init_5 rfl (by omega) tyX3 tyX3_ok inW3 rfl (wall (by decide +kernel) rfl) (wall (by decide +kernel) rfl) (wall (by decide +kernel) rfl) (fun j hj => by rcases (show j = 0 ∨ j = 1 ∨ j = 2 ∨ j = 3 by omega) with rfl | rfl | rfl | rfl <;> rfl) ⟨(Nat.le_of_ble_eq_true rfl), (Nat.le_of_ble_eq_true rfl)⟩ (fun C1 c1n c1k => ?_)
    have h0 := (c1k 0 (by omega)).trans h0
    refine J_dup (q := 9) hC dX6_init_8 rfl rfl ?_
    refine J_callIN (q := 12) (host := RX6) hC dX6_init_9 rfl hO (by omega) (i_X3 (h := 120) (by decide) c1n) rfl (wall (by decide +kernel) rfl) (wall (by decide +kernel) rfl) (wall (by decide +kernel) rfl) (by decide +kernel) ⟨by decide +kernel, by decide +kernel, by decide +kernel⟩ ⟨(Nat.le_of_ble_eq_true rfl), (Nat.le_of_ble_eq_true rfl)⟩ (Nat.le_of_ble_eq_true rfl) ⟨(Nat.le_of_ble_eq_true rfl), (Nat.le_of_ble_eq_true rfl)⟩ (by omega) (fun C2 c2p => ?_)
    obtain ⟨c2k, c2r⟩ := c2p
    have hrm2 : rm_X3_init.cells = 2 := rfl
    have h0 := (c2k 0 (by omega)).trans h0
    have c2r : ∀ q, 1 ≤ q → q < 4 → C2 q = gc0 E q := c2r
    refine J_nn 4 3 20 rfl rfl rfl ?_
    refine J_putF (q := 15) (T := TX6) (k := 0) hC dX6_init_12 rfl hin (by omega) h0 rfl inW6 (by decide) (wall (by decide +kernel) rfl) rfl tyX6 tyX6_ok nmX6 rfl rfl (ty := tyX6 0) (by decide +kernel) rfl rfl (Nat.le_of_ble_eq_true rfl) (fun C3 c3n c3k => ?_)
    have c2r : ∀ q, 1 ≤ q → q < 4 → C3 q = gc0 E q := fun q h8 h9 => (c3k q (by omega)).trans (c2r q h8 h9)
    refine J_aload_n (q := 16) hC dX6_init_15 rfl rfl ?_
    refine J_bipush (v := 24) (q := 18) hC dX6_init_16 rfl (by decide) ?_
    refine J_newq (q := 21) (t := 3) (N := 24) (C := RX0) hC dX6_init_18 rfl (by omega) (wall (by decide +kernel) rfl) (hO RX0 (by decide +kernel)) rfl (by decide) (by decide) (Nat.le_of_ble_eq_true rfl) ⟨(Nat.le_of_ble_eq_true rfl), (Nat.le_of_ble_eq_true rfl)⟩ (fun C4 c4n c4k => ?_)
    have c2r : ∀ q, 1 ≤ q → q < 4 → C4 q = gc0 E q := fun q h8 h9 => (c4k q (by omega)).trans (c2r q h8 h9)
    have c3n := (c4k 0 (by omega)).trans c3n
    refine J_putF (q := 24) (T := TX6) (k := 1) hC dX6_init_21 rfl hin (by omega) c3n rfl inW6 (by decide) (wall (by decide +kernel) rfl) rfl tyX6 tyX6_ok nmX6 rfl rfl (ty := tyX6 1) (by decide +kernel) rfl rfl (Nat.le_of_ble_eq_true rfl) (fun C5 c5n c5k => ?_)
    have c2r : ∀ q, 1 ≤ q → q < 4 → C5 q = gc0 E q := fun q h8 h9 => (c5k q (by omega)).trans (c2r q h8 h9)
    have c4n := (c5k 4 (by omega)).trans c4n
    refine J_aload_n (q := 25) hC dX6_init_24 rfl rfl ?_
    refine J_iconst (q := 26) hC dX6_init_25 rfl ic_4 ?_
    refine J_newq (q := 29) (t := 6) (N := 4) (C := RX5) hC dX6_init_26 rfl (by omega) (wall (by decide +kernel) rfl) (hO RX5 (by decide +kernel)) rfl (by decide) (by decide) (Nat.le_of_ble_eq_true rfl) ⟨(Nat.le_of_ble_eq_true rfl), (Nat.le_of_ble_eq_true rfl)⟩ (fun C6 c6n c6k => ?_)
    have c2r : ∀ q, 1 ≤ q → q < 4 → C6 q = gc0 E q := fun q h8 h9 => (c6k q (by omega)).trans (c2r q h8 h9)
    have c4n := (c6k 4 (by omega)).trans c4n
    have c5n := (c6k 0 (by omega)).trans c5n
    refine J_putF (q := 32) (T := TX6) (k := 2) hC dX6_init_29 rfl hin (by omega) c5n rfl inW6 (by decide) (wall (by decide +kernel) rfl) rfl tyX6 tyX6_ok nmX6 rfl rfl (ty := tyX6 2) (by decide +kernel) rfl rfl (Nat.le_of_ble_eq_true rfl) (fun C7 c7n c7k => ?_)
    have c2r : ∀ q, 1 ≤ q → q < 4 → C7 q = gc0 E q := fun q h8 h9 => (c7k q (by omega)).trans (c2r q h8 h9)
    have c4n := (c7k 4 (by omega)).trans c4n
    have c6n := (c7k 5 (by omega)).trans c6n
    refine J_aload_n (q := 33) hC dX6_init_32 rfl rfl ?_
    refine J_bipush (v := 6) (q := 35) hC dX6_init_33 rfl (by decide) ?_
    refine J_newq (q := 38) (t := 4) (N := 6) (C := RX1) hC dX6_init_35 rfl (by omega) (wall (by decide +kernel) rfl) (hO RX1 (by decide +kernel)) rfl (by decide) (by decide) (Nat.le_of_ble_eq_true rfl) ⟨(Nat.le_of_ble_eq_true rfl), (Nat.le_of_ble_eq_true rfl)⟩ (fun C8 c8n c8k => ?_)
    have c2r : ∀ q, 1 ≤ q → q < 4 → C8 q = gc0 E q := fun q h8 h9 => (c8k q (by omega)).trans (c2r q h8 h9)
    have c4n := (c8k 4 (by omega)).trans c4n
    have c6n := (c8k 5 (by omega)).trans c6n
    have c7n := (c8k 0 (by omega)).trans c7n
    refine J_putF (q := 41) (T := TX6) (k := 3) hC dX6_init_38 rfl hin (by omega) c7n rfl inW6 (by decide) (wall (by decide +kernel) rfl) rfl tyX6 tyX6_ok nmX6 rfl rfl (ty := tyX6 3) (by decide +kernel) rfl rfl (Nat.le_of_ble_eq_true rfl) (fun C9 c9n c9k => ?_)
    have c2r : ∀ q, 1 ≤ q → q < 4 → C9 q = gc0 E q := fun q h8 h9 => (c9k q (by omega)).trans (c2r q h8 h9)
    have c4n := (c9k 4 (by omega)).trans c4n
    have c6n := (c9k 5 (by omega)).trans c6n
    have c8n := (c9k 6 (by omega)).trans c8n
    refine J_aload_n (q := 42) hC dX6_init_41 rfl rfl ?_
    refine J_bipush (v := 10) (q := 44) hC dX6_init_42 rfl (by decide) ?_
    refine J_newa (q := 46) (t := 1) (N := 10) (ty := .int) (a0 := (10, .inl (fun _ => 0))) hC dX6_init_44 rfl (by omega) (wall (by decide +kernel) rfl) rfl rfl (fun _ => rfl) id (by decide) (by decide) (Nat.le_of_ble_eq_true rfl) ⟨(Nat.le_of_ble_eq_true rfl), (Nat.le_of_ble_eq_true rfl)⟩ (fun C10 c10n c10k => ?_)
    have c2r : ∀ q, 1 ≤ q → q < 4 → C10 q = gc0 E q := fun q h8 h9 => (c10k q (by omega)).trans (c2r q h8 h9)
    have c4n := (c10k 4 (by omega)).trans c4n
    have c6n := (c10k 5 (by omega)).trans c6n
    have c8n := (c10k 6 (by omega)).trans c8n
    have c9n := (c10k 0 (by omega)).trans c9n
    refine J_putF (q := 49) (T := TX6) (k := 4) hC dX6_init_46 rfl hin (by omega) c9n rfl inW6 (by decide) (wall (by decide +kernel) rfl) rfl tyX6 tyX6_ok nmX6 rfl rfl (ty := tyX6 4) (by decide +kernel) rfl rfl (Nat.le_of_ble_eq_true rfl) (fun C11 c11n c11k => ?_)
    have c2r : ∀ q, 1 ≤ q → q < 4 → C11 q = gc0 E q := fun q h8 h9 => (c11k q (by omega)).trans (c2r q h8 h9)
    have c4n := (c11k 4 (by omega)).trans c4n
    have c6n := (c11k 5 (by omega)).trans c6n
    have c8n := (c11k 6 (by omega)).trans c8n
    have c10n := (c11k 7 (by omega)).trans c10n
    refine J_aload_n (q := 50) hC dX6_init_49 rfl rfl ?_
    refine J_bipush (v := 8) (q := 52) hC dX6_init_50 rfl (by decide) ?_
    refine J_newa (q := 54) (t := 1) (N := 8) (ty := .int) (a0 := (8, .inl (fun _ => 0))) hC dX6_init_52 rfl (by omega) (wall (by decide +kernel) rfl) rfl rfl (fun _ => rfl) id (by decide) (by decide) (Nat.le_of_ble_eq_true rfl) ⟨(Nat.le_of_ble_eq_true rfl), (Nat.le_of_ble_eq_true rfl)⟩ (fun C12 c12n c12k => ?_)
    have c2r : ∀ q, 1 ≤ q → q < 4 → C12 q = gc0 E q := fun q h8 h9 => (c12k q (by omega)).trans (c2r q h8 h9)
    have c4n := (c12k 4 (by omega)).trans c4n
    have c6n := (c12k 5 (by omega)).trans c6n
    have c8n := (c12k 6 (by omega)).trans c8n
    have c10n := (c12k 7 (by omega)).trans c10n
    have c11n := (c12k 0 (by omega)).trans c11n
    refine J_putF (q := 57) (T := TX6) (k := 5) hC dX6_init_54 rfl hin (by omega) c11n rfl inW6 (by decide) (wall (by decide +kernel) rfl) rfl tyX6 tyX6_ok nmX6 rfl rfl (ty := tyX6 5) (by decide +kernel) rfl rfl (Nat.le_of_ble_eq_true rfl) (fun C13 c13n c13k => ?_)
    have c2r : ∀ q, 1 ≤ q → q < 4 → C13 q = gc0 E q := fun q h8 h9 => (c13k q (by omega)).trans (c2r q h8 h9)
    have c4n := (c13k 4 (by omega)).trans c4n
    have c6n := (c13k 5 (by omega)).trans c6n
    have c8n := (c13k 6 (by omega)).trans c8n
    have c10n := (c13k 7 (by omega)).trans c10n
    have c12n := (c13k 8 (by omega)).trans c12n
    refine J_iconst (q := 58) (v := nI 0) hC dX6_init_57 rfl (by decide) ?_
    refine J_istore_n (q := 59) (lv' := [(1, .int (nI 0)), (0, .ref (eB E + 0))]) hC dX6_init_58 rfl (by decide) rfl ?_
    refine J_nn (oArt 0) (8 + 23 * 0) (72 + 140 * 0) rfl rfl rfl ?_
    refine i_X6_A hC hO hs 24 0 C13 rfl ⟨c13n, c4n, c6n, c8n, c10n, fun q a0 a1 a2 a3 a4 a5 => ?_⟩
    have a0 : q < 9 := a0
    by_cases e8 : q = 8
    · subst e8; exact c12n
    · exact c2r q (by omega) (by omega))
abbrev rm_X7_init : Room := { frames := 1, cells := 21, slots := 1877, locals := 40 }
def fsX (E : gE) : List Value := [.int 0, .ref (eB E + oA 181 0), .ref (eB E + oA 182 0), .int 0, .ref (eB E + oA 184 0), .ref (eB E + oA 185 0), .ref (eB E + oA 186 0), .ref (eB E + oA 187 0), .ref (eB E + oA 188 0), .ref (eB E + oA 189 0), .ref (eB E + oA 190 0), .ref (eB E + oA 191 0), .ref (eB E + oA 192 0), .ref (eB E + oA 193 0), .ref (eB E + oA 194 0), .ref (eB E + oA 195 0), .ref (eB E + oA 196 0), .int 0, .ref (eB E + oA 198 0), .ref (eB E + oA 199 0), .int 0, .int 0, .ref (eB E + oA 202 0), .ref (eB E + oA 203 0), .ref (eB E + oA 204 0), .ref (eB E + oA 205 0), .int 0, .int 0, .int 0, .int 0]
section CT7
variable {p : Program} {l : Launch} {e : Env} {s : State} {m : MethodId} {args : Array Value} {below : List Frame} {meth : Method} {c : Code} {E : gE} {CC : Nat → va_E}
set_option maxRecDepth 100000 in
theorem i_X7_loop (hC : gCx p s m args meth c cX7_init 2 RX7 none E) (n : Nat) : ∀ (k : Nat) (C1 : Nat → va_E), k + n = 10 → (∀ q, q < 583 → C1 q = CC q) → C1 583 = .inr (6, fsX E) → C1 597 = abvA E k → (∀ q, 583 < q → q < 605 → q ≠ 597 → C1 q = gc0 E q) →
  J p l e rm_X7_init s m args below meth c 2 21 1877 (MQ below (fun _ st oc t => oc = .returned none ∧ (∃ C2 : Nat → va_E, (fun C2 : Nat → va_E => (∀ q, q < 583 → C2 q = CC q) ∧ (∀ q, 583 ≤ q → q < 605 → C2 q = gc0 E q)) C2 ∧ va_P (eD E) vwCl (gV E C2 (583 + 1 + rm_X7_init.cells)) t.heap) ∧ va_F (fun q => eB E ≤ q) st t) args s rm_X7_init.cells rm_X7_init.slots (fun q => eB E ≤ q)) E C1 605 175 [(1, .int (nI k)), (0, .ref (eB E + 583))] [] := by
  induction n with
  | zero =>
    intro k C1 hk hlow h0 h7 hr
    obtain rfl : k = 10 := by omega
    refine J_iload_n (q := 176) hC dX7_init_175 rfl rfl ?_
    refine J_bipush (q := 178) (v := 10) hC dX7_init_176 rfl (by decide) ?_
    refine J_icmp_ge (tgt := 194) (q := 181) hC dX7_init_178 (by decide) rfl (fun _ => ?_) (fun h => absurd (by decide) h)
    refine J_ret hC dX7_init_194 rfl ⟨hlow, fun q h8 h9 => ?_⟩ rfl (Nat.le_of_ble_eq_true rfl) (Nat.le_of_ble_eq_true rfl)
    by_cases e0 : q = 583
    · subst e0; exact h0
    by_cases e7 : q = 597
    · subst e7; exact h7
    exact hr q (by omega) h9 e7
  | succ n ih =>
    intro k C1 hk hlow h0 h7 hr
    have hk4 : k < 10 := by omega
    refine J_iload_n (q := 176) hC dX7_init_175 rfl rfl ?_
    refine J_bipush (q := 178) (v := 10) hC dX7_init_176 rfl (by decide) ?_
    refine J_icmp_ge (tgt := 194) (q := 181) hC dX7_init_178 (by decide) rfl (fun h => absurd h (nI_ge (b := 10) hk4 (by decide))) (fun _ => ?_)
    refine J_aload_n (q := 182) hC dX7_init_181 rfl rfl ?_
    refine J_get (q := 185) (T := TX7) (k := 15) hC dX7_init_182 rfl (by decide) h0 rfl inW7 (by decide) (wall (by decide +kernel) rfl) rfl rfl ?_
    refine J_iload_n (q := 186) hC dX7_init_185 rfl rfl ?_
    refine J_iconst (q := 187) hC dX7_init_186 rfl ic_m1 ?_
    refine J_iast (q := 188) (o := 597) hC dX7_init_187 rfl (by decide) h7 (by have := nI_clamp (n := k) (by omega); simp only [inb, this]; rw [show decide ((0 : Int32) ≤ nI k) = true from decide_eq_true (nI_pos' (by omega)), Bool.true_and]; exact Nat.ble_eq_true_of_le hk4) (fun C2 n2 k2 => ?_)
    rw [nI_clamp (n := k) (by omega), abvA_up] at n2
    refine J_iinc (q := 191) (n := 0) (lv' := [(1, .int (nI (k + 1))), (0, .ref (eB E + 583))]) hC dX7_init_188 rfl rfl (by rw [ii_1, nI_1]) (by decide) rfl ?_
    refine J_goto (tgt := 175) hC dX7_init_191 (by decide) ?_
    exact ih (k + 1) C2 (by omega) (fun q hq => (k2 q (by omega)).trans (hlow q hq)) ((k2 583 (by decide)).trans h0) n2 (fun q a0 a1 a2 => (k2 q a2).trans (hr q a0 a1 a2))
end CT7
set_option maxRecDepth 100000 in
theorem i_X7_s18 {p : Program} {l : Launch} {e : Env} {s : State} {m : MethodId} {args : Array Value} {below : List Frame} {meth : Method} {c : Code} {E : gE} {CC : Nat → va_E} (hC : gCx p s m args meth c cX7_init 2 RX7 none E) (hin : meth.name = "<init>") (hs : s.heap.size + 0 = eB E + (583 + 1)) (C0 : Nat → va_E) (hlow : ∀ q, q < 583 → C0 q = CC q) (h0 : C0 583 = .inr (6, [.int 0, .ref (eB E + oA 181 0), .ref (eB E + oA 182 0), .int 0, .ref (eB E + oA 184 0), .ref (eB E + oA 185 0), .ref (eB E + oA 186 0), .ref (eB E + oA 187 0), .ref (eB E + oA 188 0), .ref (eB E + oA 189 0), .ref (eB E + oA 190 0), .ref (eB E + oA 191 0), .ref (eB E + oA 192 0), .ref (eB E + oA 193 0), .ref (eB E + oA 194 0), .ref (eB E + oA 195 0), .ref (eB E + oA 196 0), .int 0, .ref (eB E + oA 198 0), .ref (eB E + oA 199 0), .int 0, .int 0, .ref (eB E + oA 202 0), .null, .null, .null, .int 0, .int 0, .int 0, .int 0])) (hr : ∀ q, 583 < q → q < 602 → q ≠ 597 → C0 q = gc0 E q) (h7 : C0 597 = abvA E 0) :
  J p l e rm_X7_init s m args below meth c 2 18 1829 (MQ below (fun _ st oc t => oc = .returned none ∧ (∃ C2 : Nat → va_E, (fun C2 : Nat → va_E => (∀ q, q < 583 → C2 q = CC q) ∧ (∀ q, 583 ≤ q → q < 605 → C2 q = gc0 E q)) C2 ∧ va_P (eD E) vwCl (gV E C2 (583 + 1 + rm_X7_init.cells)) t.heap) ∧ va_F (fun q => eB E ≤ q) st t) args s rm_X7_init.cells rm_X7_init.slots (fun q => eB E ≤ q)) E C0 602 149 [(0, .ref (eB E + 583))] [] := by
  refine J_aload_n (q := 150) hC dX7_init_149 rfl rfl ?_
  refine J_bipush (v := 6) (q := 152) hC dX7_init_150 rfl (by decide) ?_
  refine J_newa (q := 154) (t := 2) (N := 6) (ty := .boolean) (a0 := (6, .inl (fun _ => 0))) hC dX7_init_152 rfl (by omega) (wall (by decide +kernel) rfl) rfl rfl (fun _ => rfl) id (by decide) (by decide) (Nat.le_of_ble_eq_true rfl) ⟨(Nat.le_of_ble_eq_true rfl), (Nat.le_of_ble_eq_true rfl)⟩ (fun D18 n1 k1 => ?_)
  have hlow : ∀ q, q < 583 → D18 q = CC q := fun q h9 => (k1 q (by omega)).trans (hlow q h9)
  have h0 := (k1 583 (by decide)).trans h0
  have h7 := (k1 597 (by decide)).trans h7
  have hr : ∀ q, 583 < q → q < 603 → q ≠ 597 → D18 q = gc0 E q := fun q a0 a1 a2 => by
    by_cases e9 : q = 602
    · subst e9; exact n1.trans (c0_arr (E := E) (F := 203) (i := 0) (by decide) (by decide) rfl).symm
    · exact (k1 q (by omega)).trans (hr q a0 (by omega) a2)
  refine J_putF (q := 157) (T := TX7) (k := 23) hC dX7_init_154 rfl hin (by decide) h0 rfl inW7 (by decide) (wall (by decide +kernel) rfl) rfl tyX7 tyX7_ok nmX7 rfl rfl (ty := tyX7 23) (by decide +kernel) rfl rfl (Nat.le_of_ble_eq_true rfl) (fun F18 n2 k2 => ?_)
  have hlow : ∀ q, q < 583 → F18 q = CC q := fun q h9 => (k2 q (by omega)).trans (hlow q h9)
  have hr : ∀ q, 583 < q → q < 603 → q ≠ 597 → F18 q = gc0 E q := fun q a0 a1 a2 => (k2 q (by omega)).trans (hr q a0 a1 a2)
  have h7 := (k2 597 (by decide)).trans h7
  have h0 : F18 583 = .inr (6, [.int 0, .ref (eB E + oA 181 0), .ref (eB E + oA 182 0), .int 0, .ref (eB E + oA 184 0), .ref (eB E + oA 185 0), .ref (eB E + oA 186 0), .ref (eB E + oA 187 0), .ref (eB E + oA 188 0), .ref (eB E + oA 189 0), .ref (eB E + oA 190 0), .ref (eB E + oA 191 0), .ref (eB E + oA 192 0), .ref (eB E + oA 193 0), .ref (eB E + oA 194 0), .ref (eB E + oA 195 0), .ref (eB E + oA 196 0), .int 0, .ref (eB E + oA 198 0), .ref (eB E + oA 199 0), .int 0, .int 0, .ref (eB E + oA 202 0), .ref (eB E + oA 203 0), .null, .null, .int 0, .int 0, .int 0, .int 0]) := n2
  clear n1 k1 n2 k2
  refine J_aload_n (q := 158) hC dX7_init_157 rfl rfl ?_
  refine J_bipush (v := 36) (q := 160) hC dX7_init_158 rfl (by decide) ?_
  refine J_newa (q := 162) (t := 2) (N := 36) (ty := .boolean) (a0 := (36, .inl (fun _ => 0))) hC dX7_init_160 rfl (by omega) (wall (by decide +kernel) rfl) rfl rfl (fun _ => rfl) id (by decide) (by decide) (Nat.le_of_ble_eq_true rfl) ⟨(Nat.le_of_ble_eq_true rfl), (Nat.le_of_ble_eq_true rfl)⟩ (fun D19 n1 k1 => ?_)
  have hlow : ∀ q, q < 583 → D19 q = CC q := fun q h9 => (k1 q (by omega)).trans (hlow q h9)
  have h0 := (k1 583 (by decide)).trans h0
  have h7 := (k1 597 (by decide)).trans h7
  have hr : ∀ q, 583 < q → q < 604 → q ≠ 597 → D19 q = gc0 E q := fun q a0 a1 a2 => by
    by_cases e9 : q = 603
    · subst e9; exact n1.trans (c0_arr (E := E) (F := 204) (i := 0) (by decide) (by decide) rfl).symm
    · exact (k1 q (by omega)).trans (hr q a0 (by omega) a2)
  refine J_putF (q := 165) (T := TX7) (k := 24) hC dX7_init_162 rfl hin (by decide) h0 rfl inW7 (by decide) (wall (by decide +kernel) rfl) rfl tyX7 tyX7_ok nmX7 rfl rfl (ty := tyX7 24) (by decide +kernel) rfl rfl (Nat.le_of_ble_eq_true rfl) (fun F19 n2 k2 => ?_)
  have hlow : ∀ q, q < 583 → F19 q = CC q := fun q h9 => (k2 q (by omega)).trans (hlow q h9)
  have hr : ∀ q, 583 < q → q < 604 → q ≠ 597 → F19 q = gc0 E q := fun q a0 a1 a2 => (k2 q (by omega)).trans (hr q a0 a1 a2)
  have h7 := (k2 597 (by decide)).trans h7
  have h0 : F19 583 = .inr (6, [.int 0, .ref (eB E + oA 181 0), .ref (eB E + oA 182 0), .int 0, .ref (eB E + oA 184 0), .ref (eB E + oA 185 0), .ref (eB E + oA 186 0), .ref (eB E + oA 187 0), .ref (eB E + oA 188 0), .ref (eB E + oA 189 0), .ref (eB E + oA 190 0), .ref (eB E + oA 191 0), .ref (eB E + oA 192 0), .ref (eB E + oA 193 0), .ref (eB E + oA 194 0), .ref (eB E + oA 195 0), .ref (eB E + oA 196 0), .int 0, .ref (eB E + oA 198 0), .ref (eB E + oA 199 0), .int 0, .int 0, .ref (eB E + oA 202 0), .ref (eB E + oA 203 0), .ref (eB E + oA 204 0), .null, .int 0, .int 0, .int 0, .int 0]) := n2
  clear n1 k1 n2 k2
  refine J_aload_n (q := 166) hC dX7_init_165 rfl rfl ?_
  refine J_bipush (v := 6) (q := 168) hC dX7_init_166 rfl (by decide) ?_
  refine J_newa (q := 170) (t := 1) (N := 6) (ty := .int) (a0 := (6, .inl (fun _ => 0))) hC dX7_init_168 rfl (by omega) (wall (by decide +kernel) rfl) rfl rfl (fun _ => rfl) id (by decide) (by decide) (Nat.le_of_ble_eq_true rfl) ⟨(Nat.le_of_ble_eq_true rfl), (Nat.le_of_ble_eq_true rfl)⟩ (fun D20 n1 k1 => ?_)
  have hlow : ∀ q, q < 583 → D20 q = CC q := fun q h9 => (k1 q (by omega)).trans (hlow q h9)
  have h0 := (k1 583 (by decide)).trans h0
  have h7 := (k1 597 (by decide)).trans h7
  have hr : ∀ q, 583 < q → q < 605 → q ≠ 597 → D20 q = gc0 E q := fun q a0 a1 a2 => by
    by_cases e9 : q = 604
    · subst e9; exact n1.trans (c0_arr (E := E) (F := 205) (i := 0) (by decide) (by decide) rfl).symm
    · exact (k1 q (by omega)).trans (hr q a0 (by omega) a2)
  refine J_putF (q := 173) (T := TX7) (k := 25) hC dX7_init_170 rfl hin (by decide) h0 rfl inW7 (by decide) (wall (by decide +kernel) rfl) rfl tyX7 tyX7_ok nmX7 rfl rfl (ty := tyX7 25) (by decide +kernel) rfl rfl (Nat.le_of_ble_eq_true rfl) (fun F20 n2 k2 => ?_)
  have hlow : ∀ q, q < 583 → F20 q = CC q := fun q h9 => (k2 q (by omega)).trans (hlow q h9)
  have hr : ∀ q, 583 < q → q < 605 → q ≠ 597 → F20 q = gc0 E q := fun q a0 a1 a2 => (k2 q (by omega)).trans (hr q a0 a1 a2)
  have h7 := (k2 597 (by decide)).trans h7
  have h0 : F20 583 = .inr (6, [.int 0, .ref (eB E + oA 181 0), .ref (eB E + oA 182 0), .int 0, .ref (eB E + oA 184 0), .ref (eB E + oA 185 0), .ref (eB E + oA 186 0), .ref (eB E + oA 187 0), .ref (eB E + oA 188 0), .ref (eB E + oA 189 0), .ref (eB E + oA 190 0), .ref (eB E + oA 191 0), .ref (eB E + oA 192 0), .ref (eB E + oA 193 0), .ref (eB E + oA 194 0), .ref (eB E + oA 195 0), .ref (eB E + oA 196 0), .int 0, .ref (eB E + oA 198 0), .ref (eB E + oA 199 0), .int 0, .int 0, .ref (eB E + oA 202 0), .ref (eB E + oA 203 0), .ref (eB E + oA 204 0), .ref (eB E + oA 205 0), .int 0, .int 0, .int 0, .int 0]) := n2
  clear n1 k1 n2 k2
  refine J_nn 605 21 1877 rfl rfl rfl ?_
  refine J_iconst (q := 174) (v := nI 0) hC dX7_init_173 rfl (by decide) ?_
  refine J_istore_n (q := 175) (lv' := [(1, .int (nI 0)), (0, .ref (eB E + 583))]) hC dX7_init_174 rfl (by decide) rfl ?_
  exact i_X7_loop hC 10 0 F20 rfl hlow h0 h7 hr
set_option maxRecDepth 100000 in
theorem i_X7_s15 {p : Program} {l : Launch} {e : Env} {s : State} {m : MethodId} {args : Array Value} {below : List Frame} {meth : Method} {c : Code} {E : gE} {CC : Nat → va_E} (hC : gCx p s m args meth c cX7_init 2 RX7 none E) (hin : meth.name = "<init>") (hs : s.heap.size + 0 = eB E + (583 + 1)) (C0 : Nat → va_E) (hlow : ∀ q, q < 583 → C0 q = CC q) (h0 : C0 583 = .inr (6, [.int 0, .ref (eB E + oA 181 0), .ref (eB E + oA 182 0), .int 0, .ref (eB E + oA 184 0), .ref (eB E + oA 185 0), .ref (eB E + oA 186 0), .ref (eB E + oA 187 0), .ref (eB E + oA 188 0), .ref (eB E + oA 189 0), .ref (eB E + oA 190 0), .ref (eB E + oA 191 0), .ref (eB E + oA 192 0), .ref (eB E + oA 193 0), .ref (eB E + oA 194 0), .ref (eB E + oA 195 0), .ref (eB E + oA 196 0), .int 0, .null, .null, .int 0, .int 0, .null, .null, .null, .null, .int 0, .int 0, .int 0, .int 0])) (hr : ∀ q, 583 < q → q < 599 → q ≠ 597 → C0 q = gc0 E q) (h7 : C0 597 = abvA E 0) :
  J p l e rm_X7_init s m args below meth c 2 15 1815 (MQ below (fun _ st oc t => oc = .returned none ∧ (∃ C2 : Nat → va_E, (fun C2 : Nat → va_E => (∀ q, q < 583 → C2 q = CC q) ∧ (∀ q, 583 ≤ q → q < 605 → C2 q = gc0 E q)) C2 ∧ va_P (eD E) vwCl (gV E C2 (583 + 1 + rm_X7_init.cells)) t.heap) ∧ va_F (fun q => eB E ≤ q) st t) args s rm_X7_init.cells rm_X7_init.slots (fun q => eB E ≤ q)) E C0 599 127 [(0, .ref (eB E + 583))] [] := by
  refine J_aload_n (q := 128) hC dX7_init_127 rfl rfl ?_
  refine J_iconst (q := 129) hC dX7_init_128 rfl ic_4 ?_
  refine J_newa (q := 131) (t := 1) (N := 4) (ty := .int) (a0 := (4, .inl (fun _ => 0))) hC dX7_init_129 rfl (by omega) (wall (by decide +kernel) rfl) rfl rfl (fun _ => rfl) id (by decide) (by decide) (Nat.le_of_ble_eq_true rfl) ⟨(Nat.le_of_ble_eq_true rfl), (Nat.le_of_ble_eq_true rfl)⟩ (fun D15 n1 k1 => ?_)
  have hlow : ∀ q, q < 583 → D15 q = CC q := fun q h9 => (k1 q (by omega)).trans (hlow q h9)
  have h0 := (k1 583 (by decide)).trans h0
  have h7 := (k1 597 (by decide)).trans h7
  have hr : ∀ q, 583 < q → q < 600 → q ≠ 597 → D15 q = gc0 E q := fun q a0 a1 a2 => by
    by_cases e9 : q = 599
    · subst e9; exact n1.trans (c0_arr (E := E) (F := 198) (i := 0) (by decide) (by decide) rfl).symm
    · exact (k1 q (by omega)).trans (hr q a0 (by omega) a2)
  refine J_putF (q := 134) (T := TX7) (k := 18) hC dX7_init_131 rfl hin (by decide) h0 rfl inW7 (by decide) (wall (by decide +kernel) rfl) rfl tyX7 tyX7_ok nmX7 rfl rfl (ty := tyX7 18) (by decide +kernel) rfl rfl (Nat.le_of_ble_eq_true rfl) (fun F15 n2 k2 => ?_)
  have hlow : ∀ q, q < 583 → F15 q = CC q := fun q h9 => (k2 q (by omega)).trans (hlow q h9)
  have hr : ∀ q, 583 < q → q < 600 → q ≠ 597 → F15 q = gc0 E q := fun q a0 a1 a2 => (k2 q (by omega)).trans (hr q a0 a1 a2)
  have h7 := (k2 597 (by decide)).trans h7
  have h0 : F15 583 = .inr (6, [.int 0, .ref (eB E + oA 181 0), .ref (eB E + oA 182 0), .int 0, .ref (eB E + oA 184 0), .ref (eB E + oA 185 0), .ref (eB E + oA 186 0), .ref (eB E + oA 187 0), .ref (eB E + oA 188 0), .ref (eB E + oA 189 0), .ref (eB E + oA 190 0), .ref (eB E + oA 191 0), .ref (eB E + oA 192 0), .ref (eB E + oA 193 0), .ref (eB E + oA 194 0), .ref (eB E + oA 195 0), .ref (eB E + oA 196 0), .int 0, .ref (eB E + oA 198 0), .null, .int 0, .int 0, .null, .null, .null, .null, .int 0, .int 0, .int 0, .int 0]) := n2
  clear n1 k1 n2 k2
  refine J_aload_n (q := 135) hC dX7_init_134 rfl rfl ?_
  refine J_iconst (q := 136) hC dX7_init_135 rfl ic_4 ?_
  refine J_newa (q := 138) (t := 1) (N := 4) (ty := .int) (a0 := (4, .inl (fun _ => 0))) hC dX7_init_136 rfl (by omega) (wall (by decide +kernel) rfl) rfl rfl (fun _ => rfl) id (by decide) (by decide) (Nat.le_of_ble_eq_true rfl) ⟨(Nat.le_of_ble_eq_true rfl), (Nat.le_of_ble_eq_true rfl)⟩ (fun D16 n1 k1 => ?_)
  have hlow : ∀ q, q < 583 → D16 q = CC q := fun q h9 => (k1 q (by omega)).trans (hlow q h9)
  have h0 := (k1 583 (by decide)).trans h0
  have h7 := (k1 597 (by decide)).trans h7
  have hr : ∀ q, 583 < q → q < 601 → q ≠ 597 → D16 q = gc0 E q := fun q a0 a1 a2 => by
    by_cases e9 : q = 600
    · subst e9; exact n1.trans (c0_arr (E := E) (F := 199) (i := 0) (by decide) (by decide) rfl).symm
    · exact (k1 q (by omega)).trans (hr q a0 (by omega) a2)
  refine J_putF (q := 141) (T := TX7) (k := 19) hC dX7_init_138 rfl hin (by decide) h0 rfl inW7 (by decide) (wall (by decide +kernel) rfl) rfl tyX7 tyX7_ok nmX7 rfl rfl (ty := tyX7 19) (by decide +kernel) rfl rfl (Nat.le_of_ble_eq_true rfl) (fun F16 n2 k2 => ?_)
  have hlow : ∀ q, q < 583 → F16 q = CC q := fun q h9 => (k2 q (by omega)).trans (hlow q h9)
  have hr : ∀ q, 583 < q → q < 601 → q ≠ 597 → F16 q = gc0 E q := fun q a0 a1 a2 => (k2 q (by omega)).trans (hr q a0 a1 a2)
  have h7 := (k2 597 (by decide)).trans h7
  have h0 : F16 583 = .inr (6, [.int 0, .ref (eB E + oA 181 0), .ref (eB E + oA 182 0), .int 0, .ref (eB E + oA 184 0), .ref (eB E + oA 185 0), .ref (eB E + oA 186 0), .ref (eB E + oA 187 0), .ref (eB E + oA 188 0), .ref (eB E + oA 189 0), .ref (eB E + oA 190 0), .ref (eB E + oA 191 0), .ref (eB E + oA 192 0), .ref (eB E + oA 193 0), .ref (eB E + oA 194 0), .ref (eB E + oA 195 0), .ref (eB E + oA 196 0), .int 0, .ref (eB E + oA 198 0), .ref (eB E + oA 199 0), .int 0, .int 0, .null, .null, .null, .null, .int 0, .int 0, .int 0, .int 0]) := n2
  clear n1 k1 n2 k2
  refine J_aload_n (q := 142) hC dX7_init_141 rfl rfl ?_
  refine J_bipush (v := 6) (q := 144) hC dX7_init_142 rfl (by decide) ?_
  refine J_newa (q := 146) (t := 1) (N := 6) (ty := .int) (a0 := (6, .inl (fun _ => 0))) hC dX7_init_144 rfl (by omega) (wall (by decide +kernel) rfl) rfl rfl (fun _ => rfl) id (by decide) (by decide) (Nat.le_of_ble_eq_true rfl) ⟨(Nat.le_of_ble_eq_true rfl), (Nat.le_of_ble_eq_true rfl)⟩ (fun D17 n1 k1 => ?_)
  have hlow : ∀ q, q < 583 → D17 q = CC q := fun q h9 => (k1 q (by omega)).trans (hlow q h9)
  have h0 := (k1 583 (by decide)).trans h0
  have h7 := (k1 597 (by decide)).trans h7
  have hr : ∀ q, 583 < q → q < 602 → q ≠ 597 → D17 q = gc0 E q := fun q a0 a1 a2 => by
    by_cases e9 : q = 601
    · subst e9; exact n1.trans (c0_arr (E := E) (F := 202) (i := 0) (by decide) (by decide) rfl).symm
    · exact (k1 q (by omega)).trans (hr q a0 (by omega) a2)
  refine J_putF (q := 149) (T := TX7) (k := 22) hC dX7_init_146 rfl hin (by decide) h0 rfl inW7 (by decide) (wall (by decide +kernel) rfl) rfl tyX7 tyX7_ok nmX7 rfl rfl (ty := tyX7 22) (by decide +kernel) rfl rfl (Nat.le_of_ble_eq_true rfl) (fun F17 n2 k2 => ?_)
  have hlow : ∀ q, q < 583 → F17 q = CC q := fun q h9 => (k2 q (by omega)).trans (hlow q h9)
  have hr : ∀ q, 583 < q → q < 602 → q ≠ 597 → F17 q = gc0 E q := fun q a0 a1 a2 => (k2 q (by omega)).trans (hr q a0 a1 a2)
  have h7 := (k2 597 (by decide)).trans h7
  have h0 : F17 583 = .inr (6, [.int 0, .ref (eB E + oA 181 0), .ref (eB E + oA 182 0), .int 0, .ref (eB E + oA 184 0), .ref (eB E + oA 185 0), .ref (eB E + oA 186 0), .ref (eB E + oA 187 0), .ref (eB E + oA 188 0), .ref (eB E + oA 189 0), .ref (eB E + oA 190 0), .ref (eB E + oA 191 0), .ref (eB E + oA 192 0), .ref (eB E + oA 193 0), .ref (eB E + oA 194 0), .ref (eB E + oA 195 0), .ref (eB E + oA 196 0), .int 0, .ref (eB E + oA 198 0), .ref (eB E + oA 199 0), .int 0, .int 0, .ref (eB E + oA 202 0), .null, .null, .null, .int 0, .int 0, .int 0, .int 0]) := n2
  clear n1 k1 n2 k2
  refine J_nn 602 18 1829 rfl rfl rfl ?_
  exact i_X7_s18 hC hin hs F17 hlow h0 hr h7
set_option maxRecDepth 100000 in
theorem i_X7_s12 {p : Program} {l : Launch} {e : Env} {s : State} {m : MethodId} {args : Array Value} {below : List Frame} {meth : Method} {c : Code} {E : gE} {CC : Nat → va_E} (hC : gCx p s m args meth c cX7_init 2 RX7 none E) (hin : meth.name = "<init>") (hs : s.heap.size + 0 = eB E + (583 + 1)) (C0 : Nat → va_E) (hlow : ∀ q, q < 583 → C0 q = CC q) (h0 : C0 583 = .inr (6, [.int 0, .ref (eB E + oA 181 0), .ref (eB E + oA 182 0), .int 0, .ref (eB E + oA 184 0), .ref (eB E + oA 185 0), .ref (eB E + oA 186 0), .ref (eB E + oA 187 0), .ref (eB E + oA 188 0), .ref (eB E + oA 189 0), .ref (eB E + oA 190 0), .ref (eB E + oA 191 0), .ref (eB E + oA 192 0), .ref (eB E + oA 193 0), .null, .null, .null, .int 0, .null, .null, .int 0, .int 0, .null, .null, .null, .null, .int 0, .int 0, .int 0, .int 0])) (hr : ∀ q, 583 < q → q < 596 → q ≠ 597 → C0 q = gc0 E q) :
  J p l e rm_X7_init s m args below meth c 2 12 1605 (MQ below (fun _ st oc t => oc = .returned none ∧ (∃ C2 : Nat → va_E, (fun C2 : Nat → va_E => (∀ q, q < 583 → C2 q = CC q) ∧ (∀ q, 583 ≤ q → q < 605 → C2 q = gc0 E q)) C2 ∧ va_P (eD E) vwCl (gV E C2 (583 + 1 + rm_X7_init.cells)) t.heap) ∧ va_F (fun q => eB E ≤ q) st t) args s rm_X7_init.cells rm_X7_init.slots (fun q => eB E ≤ q)) E C0 596 102 [(0, .ref (eB E + 583))] [] := by
  refine J_aload_n (q := 103) hC dX7_init_102 rfl rfl ?_
  refine J_sipush (v := 192) (q := 106) hC dX7_init_103 rfl (by decide) ?_
  refine J_newa (q := 108) (t := 1) (N := 192) (ty := .int) (a0 := (192, .inl (fun _ => 0))) hC dX7_init_106 rfl (by omega) (wall (by decide +kernel) rfl) rfl rfl (fun _ => rfl) id (by decide) (by decide) (Nat.le_of_ble_eq_true rfl) ⟨(Nat.le_of_ble_eq_true rfl), (Nat.le_of_ble_eq_true rfl)⟩ (fun D12 n1 k1 => ?_)
  have hlow : ∀ q, q < 583 → D12 q = CC q := fun q h9 => (k1 q (by omega)).trans (hlow q h9)
  have h0 := (k1 583 (by decide)).trans h0
  have hr : ∀ q, 583 < q → q < 597 → q ≠ 597 → D12 q = gc0 E q := fun q a0 a1 a2 => by
    by_cases e9 : q = 596
    · subst e9; exact n1.trans (c0_arr (E := E) (F := 194) (i := 0) (by decide) (by decide) rfl).symm
    · exact (k1 q (by omega)).trans (hr q a0 (by omega) a2)
  refine J_putF (q := 111) (T := TX7) (k := 14) hC dX7_init_108 rfl hin (by decide) h0 rfl inW7 (by decide) (wall (by decide +kernel) rfl) rfl tyX7 tyX7_ok nmX7 rfl rfl (ty := tyX7 14) (by decide +kernel) rfl rfl (Nat.le_of_ble_eq_true rfl) (fun F12 n2 k2 => ?_)
  have hlow : ∀ q, q < 583 → F12 q = CC q := fun q h9 => (k2 q (by omega)).trans (hlow q h9)
  have hr : ∀ q, 583 < q → q < 597 → q ≠ 597 → F12 q = gc0 E q := fun q a0 a1 a2 => (k2 q (by omega)).trans (hr q a0 a1 a2)
  have h0 : F12 583 = .inr (6, [.int 0, .ref (eB E + oA 181 0), .ref (eB E + oA 182 0), .int 0, .ref (eB E + oA 184 0), .ref (eB E + oA 185 0), .ref (eB E + oA 186 0), .ref (eB E + oA 187 0), .ref (eB E + oA 188 0), .ref (eB E + oA 189 0), .ref (eB E + oA 190 0), .ref (eB E + oA 191 0), .ref (eB E + oA 192 0), .ref (eB E + oA 193 0), .ref (eB E + oA 194 0), .null, .null, .int 0, .null, .null, .int 0, .int 0, .null, .null, .null, .null, .int 0, .int 0, .int 0, .int 0]) := n2
  clear n1 k1 n2 k2
  refine J_aload_n (q := 112) hC dX7_init_111 rfl rfl ?_
  refine J_bipush (v := 10) (q := 114) hC dX7_init_112 rfl (by decide) ?_
  refine J_newa (q := 116) (t := 1) (N := 10) (ty := .int) (a0 := (10, .inl (fun _ => 0))) hC dX7_init_114 rfl (by omega) (wall (by decide +kernel) rfl) rfl rfl (fun _ => rfl) id (by decide) (by decide) (Nat.le_of_ble_eq_true rfl) ⟨(Nat.le_of_ble_eq_true rfl), (Nat.le_of_ble_eq_true rfl)⟩ (fun D13 n1 k1 => ?_)
  have hlow : ∀ q, q < 583 → D13 q = CC q := fun q h9 => (k1 q (by omega)).trans (hlow q h9)
  have h0 := (k1 583 (by decide)).trans h0
  have h7 : D13 597 = abvA E 0 := n1
  have hr : ∀ q, 583 < q → q < 598 → q ≠ 597 → D13 q = gc0 E q := fun q a0 a1 a2 => (k1 q (by omega)).trans (hr q a0 (by omega) a2)
  refine J_putF (q := 119) (T := TX7) (k := 15) hC dX7_init_116 rfl hin (by decide) h0 rfl inW7 (by decide) (wall (by decide +kernel) rfl) rfl tyX7 tyX7_ok nmX7 rfl rfl (ty := tyX7 15) (by decide +kernel) rfl rfl (Nat.le_of_ble_eq_true rfl) (fun F13 n2 k2 => ?_)
  have hlow : ∀ q, q < 583 → F13 q = CC q := fun q h9 => (k2 q (by omega)).trans (hlow q h9)
  have hr : ∀ q, 583 < q → q < 598 → q ≠ 597 → F13 q = gc0 E q := fun q a0 a1 a2 => (k2 q (by omega)).trans (hr q a0 a1 a2)
  have h7 := (k2 597 (by decide)).trans h7
  have h0 : F13 583 = .inr (6, [.int 0, .ref (eB E + oA 181 0), .ref (eB E + oA 182 0), .int 0, .ref (eB E + oA 184 0), .ref (eB E + oA 185 0), .ref (eB E + oA 186 0), .ref (eB E + oA 187 0), .ref (eB E + oA 188 0), .ref (eB E + oA 189 0), .ref (eB E + oA 190 0), .ref (eB E + oA 191 0), .ref (eB E + oA 192 0), .ref (eB E + oA 193 0), .ref (eB E + oA 194 0), .ref (eB E + oA 195 0), .null, .int 0, .null, .null, .int 0, .int 0, .null, .null, .null, .null, .int 0, .int 0, .int 0, .int 0]) := n2
  clear n1 k1 n2 k2
  refine J_aload_n (q := 120) hC dX7_init_119 rfl rfl ?_
  refine J_bipush (v := 8) (q := 122) hC dX7_init_120 rfl (by decide) ?_
  refine J_newa (q := 124) (t := 1) (N := 8) (ty := .int) (a0 := (8, .inl (fun _ => 0))) hC dX7_init_122 rfl (by omega) (wall (by decide +kernel) rfl) rfl rfl (fun _ => rfl) id (by decide) (by decide) (Nat.le_of_ble_eq_true rfl) ⟨(Nat.le_of_ble_eq_true rfl), (Nat.le_of_ble_eq_true rfl)⟩ (fun D14 n1 k1 => ?_)
  have hlow : ∀ q, q < 583 → D14 q = CC q := fun q h9 => (k1 q (by omega)).trans (hlow q h9)
  have h0 := (k1 583 (by decide)).trans h0
  have h7 := (k1 597 (by decide)).trans h7
  have hr : ∀ q, 583 < q → q < 599 → q ≠ 597 → D14 q = gc0 E q := fun q a0 a1 a2 => by
    by_cases e9 : q = 598
    · subst e9; exact n1.trans (c0_arr (E := E) (F := 196) (i := 0) (by decide) (by decide) rfl).symm
    · exact (k1 q (by omega)).trans (hr q a0 (by omega) a2)
  refine J_putF (q := 127) (T := TX7) (k := 16) hC dX7_init_124 rfl hin (by decide) h0 rfl inW7 (by decide) (wall (by decide +kernel) rfl) rfl tyX7 tyX7_ok nmX7 rfl rfl (ty := tyX7 16) (by decide +kernel) rfl rfl (Nat.le_of_ble_eq_true rfl) (fun F14 n2 k2 => ?_)
  have hlow : ∀ q, q < 583 → F14 q = CC q := fun q h9 => (k2 q (by omega)).trans (hlow q h9)
  have hr : ∀ q, 583 < q → q < 599 → q ≠ 597 → F14 q = gc0 E q := fun q a0 a1 a2 => (k2 q (by omega)).trans (hr q a0 a1 a2)
  have h7 := (k2 597 (by decide)).trans h7
  have h0 : F14 583 = .inr (6, [.int 0, .ref (eB E + oA 181 0), .ref (eB E + oA 182 0), .int 0, .ref (eB E + oA 184 0), .ref (eB E + oA 185 0), .ref (eB E + oA 186 0), .ref (eB E + oA 187 0), .ref (eB E + oA 188 0), .ref (eB E + oA 189 0), .ref (eB E + oA 190 0), .ref (eB E + oA 191 0), .ref (eB E + oA 192 0), .ref (eB E + oA 193 0), .ref (eB E + oA 194 0), .ref (eB E + oA 195 0), .ref (eB E + oA 196 0), .int 0, .null, .null, .int 0, .int 0, .null, .null, .null, .null, .int 0, .int 0, .int 0, .int 0]) := n2
  clear n1 k1 n2 k2
  refine J_nn 599 15 1815 rfl rfl rfl ?_
  exact i_X7_s15 hC hin hs F14 hlow h0 hr h7
set_option maxRecDepth 100000 in
theorem i_X7_s9 {p : Program} {l : Launch} {e : Env} {s : State} {m : MethodId} {args : Array Value} {below : List Frame} {meth : Method} {c : Code} {E : gE} {CC : Nat → va_E} (hC : gCx p s m args meth c cX7_init 2 RX7 none E) (hin : meth.name = "<init>") (hs : s.heap.size + 0 = eB E + (583 + 1)) (C0 : Nat → va_E) (hlow : ∀ q, q < 583 → C0 q = CC q) (h0 : C0 583 = .inr (6, [.int 0, .ref (eB E + oA 181 0), .ref (eB E + oA 182 0), .int 0, .ref (eB E + oA 184 0), .ref (eB E + oA 185 0), .ref (eB E + oA 186 0), .ref (eB E + oA 187 0), .ref (eB E + oA 188 0), .ref (eB E + oA 189 0), .ref (eB E + oA 190 0), .null, .null, .null, .null, .null, .null, .int 0, .null, .null, .int 0, .int 0, .null, .null, .null, .null, .int 0, .int 0, .int 0, .int 0])) (hr : ∀ q, 583 < q → q < 593 → q ≠ 597 → C0 q = gc0 E q) :
  J p l e rm_X7_init s m args below meth c 2 9 1293 (MQ below (fun _ st oc t => oc = .returned none ∧ (∃ C2 : Nat → va_E, (fun C2 : Nat → va_E => (∀ q, q < 583 → C2 q = CC q) ∧ (∀ q, 583 ≤ q → q < 605 → C2 q = gc0 E q)) C2 ∧ va_P (eD E) vwCl (gV E C2 (583 + 1 + rm_X7_init.cells)) t.heap) ∧ va_F (fun q => eB E ≤ q) st t) args s rm_X7_init.cells rm_X7_init.slots (fun q => eB E ≤ q)) E C0 593 77 [(0, .ref (eB E + 583))] [] := by
  refine J_aload_n (q := 78) hC dX7_init_77 rfl rfl ?_
  refine J_bipush (v := 24) (q := 80) hC dX7_init_78 rfl (by decide) ?_
  refine J_newa (q := 82) (t := 1) (N := 24) (ty := .int) (a0 := (24, .inl (fun _ => 0))) hC dX7_init_80 rfl (by omega) (wall (by decide +kernel) rfl) rfl rfl (fun _ => rfl) id (by decide) (by decide) (Nat.le_of_ble_eq_true rfl) ⟨(Nat.le_of_ble_eq_true rfl), (Nat.le_of_ble_eq_true rfl)⟩ (fun D9 n1 k1 => ?_)
  have hlow : ∀ q, q < 583 → D9 q = CC q := fun q h9 => (k1 q (by omega)).trans (hlow q h9)
  have h0 := (k1 583 (by decide)).trans h0
  have hr : ∀ q, 583 < q → q < 594 → q ≠ 597 → D9 q = gc0 E q := fun q a0 a1 a2 => by
    by_cases e9 : q = 593
    · subst e9; exact n1.trans (c0_arr (E := E) (F := 191) (i := 0) (by decide) (by decide) rfl).symm
    · exact (k1 q (by omega)).trans (hr q a0 (by omega) a2)
  refine J_putF (q := 85) (T := TX7) (k := 11) hC dX7_init_82 rfl hin (by decide) h0 rfl inW7 (by decide) (wall (by decide +kernel) rfl) rfl tyX7 tyX7_ok nmX7 rfl rfl (ty := tyX7 11) (by decide +kernel) rfl rfl (Nat.le_of_ble_eq_true rfl) (fun F9 n2 k2 => ?_)
  have hlow : ∀ q, q < 583 → F9 q = CC q := fun q h9 => (k2 q (by omega)).trans (hlow q h9)
  have hr : ∀ q, 583 < q → q < 594 → q ≠ 597 → F9 q = gc0 E q := fun q a0 a1 a2 => (k2 q (by omega)).trans (hr q a0 a1 a2)
  have h0 : F9 583 = .inr (6, [.int 0, .ref (eB E + oA 181 0), .ref (eB E + oA 182 0), .int 0, .ref (eB E + oA 184 0), .ref (eB E + oA 185 0), .ref (eB E + oA 186 0), .ref (eB E + oA 187 0), .ref (eB E + oA 188 0), .ref (eB E + oA 189 0), .ref (eB E + oA 190 0), .ref (eB E + oA 191 0), .null, .null, .null, .null, .null, .int 0, .null, .null, .int 0, .int 0, .null, .null, .null, .null, .int 0, .int 0, .int 0, .int 0]) := n2
  clear n1 k1 n2 k2
  refine J_aload_n (q := 86) hC dX7_init_85 rfl rfl ?_
  refine J_bipush (v := 96) (q := 88) hC dX7_init_86 rfl (by decide) ?_
  refine J_newa (q := 90) (t := 1) (N := 96) (ty := .int) (a0 := (96, .inl (fun _ => 0))) hC dX7_init_88 rfl (by omega) (wall (by decide +kernel) rfl) rfl rfl (fun _ => rfl) id (by decide) (by decide) (Nat.le_of_ble_eq_true rfl) ⟨(Nat.le_of_ble_eq_true rfl), (Nat.le_of_ble_eq_true rfl)⟩ (fun D10 n1 k1 => ?_)
  have hlow : ∀ q, q < 583 → D10 q = CC q := fun q h9 => (k1 q (by omega)).trans (hlow q h9)
  have h0 := (k1 583 (by decide)).trans h0
  have hr : ∀ q, 583 < q → q < 595 → q ≠ 597 → D10 q = gc0 E q := fun q a0 a1 a2 => by
    by_cases e9 : q = 594
    · subst e9; exact n1.trans (c0_arr (E := E) (F := 192) (i := 0) (by decide) (by decide) rfl).symm
    · exact (k1 q (by omega)).trans (hr q a0 (by omega) a2)
  refine J_putF (q := 93) (T := TX7) (k := 12) hC dX7_init_90 rfl hin (by decide) h0 rfl inW7 (by decide) (wall (by decide +kernel) rfl) rfl tyX7 tyX7_ok nmX7 rfl rfl (ty := tyX7 12) (by decide +kernel) rfl rfl (Nat.le_of_ble_eq_true rfl) (fun F10 n2 k2 => ?_)
  have hlow : ∀ q, q < 583 → F10 q = CC q := fun q h9 => (k2 q (by omega)).trans (hlow q h9)
  have hr : ∀ q, 583 < q → q < 595 → q ≠ 597 → F10 q = gc0 E q := fun q a0 a1 a2 => (k2 q (by omega)).trans (hr q a0 a1 a2)
  have h0 : F10 583 = .inr (6, [.int 0, .ref (eB E + oA 181 0), .ref (eB E + oA 182 0), .int 0, .ref (eB E + oA 184 0), .ref (eB E + oA 185 0), .ref (eB E + oA 186 0), .ref (eB E + oA 187 0), .ref (eB E + oA 188 0), .ref (eB E + oA 189 0), .ref (eB E + oA 190 0), .ref (eB E + oA 191 0), .ref (eB E + oA 192 0), .null, .null, .null, .null, .int 0, .null, .null, .int 0, .int 0, .null, .null, .null, .null, .int 0, .int 0, .int 0, .int 0]) := n2
  clear n1 k1 n2 k2
  refine J_aload_n (q := 94) hC dX7_init_93 rfl rfl ?_
  refine J_sipush (v := 192) (q := 97) hC dX7_init_94 rfl (by decide) ?_
  refine J_newa (q := 99) (t := 2) (N := 192) (ty := .boolean) (a0 := (192, .inl (fun _ => 0))) hC dX7_init_97 rfl (by omega) (wall (by decide +kernel) rfl) rfl rfl (fun _ => rfl) id (by decide) (by decide) (Nat.le_of_ble_eq_true rfl) ⟨(Nat.le_of_ble_eq_true rfl), (Nat.le_of_ble_eq_true rfl)⟩ (fun D11 n1 k1 => ?_)
  have hlow : ∀ q, q < 583 → D11 q = CC q := fun q h9 => (k1 q (by omega)).trans (hlow q h9)
  have h0 := (k1 583 (by decide)).trans h0
  have hr : ∀ q, 583 < q → q < 596 → q ≠ 597 → D11 q = gc0 E q := fun q a0 a1 a2 => by
    by_cases e9 : q = 595
    · subst e9; exact n1.trans (c0_arr (E := E) (F := 193) (i := 0) (by decide) (by decide) rfl).symm
    · exact (k1 q (by omega)).trans (hr q a0 (by omega) a2)
  refine J_putF (q := 102) (T := TX7) (k := 13) hC dX7_init_99 rfl hin (by decide) h0 rfl inW7 (by decide) (wall (by decide +kernel) rfl) rfl tyX7 tyX7_ok nmX7 rfl rfl (ty := tyX7 13) (by decide +kernel) rfl rfl (Nat.le_of_ble_eq_true rfl) (fun F11 n2 k2 => ?_)
  have hlow : ∀ q, q < 583 → F11 q = CC q := fun q h9 => (k2 q (by omega)).trans (hlow q h9)
  have hr : ∀ q, 583 < q → q < 596 → q ≠ 597 → F11 q = gc0 E q := fun q a0 a1 a2 => (k2 q (by omega)).trans (hr q a0 a1 a2)
  have h0 : F11 583 = .inr (6, [.int 0, .ref (eB E + oA 181 0), .ref (eB E + oA 182 0), .int 0, .ref (eB E + oA 184 0), .ref (eB E + oA 185 0), .ref (eB E + oA 186 0), .ref (eB E + oA 187 0), .ref (eB E + oA 188 0), .ref (eB E + oA 189 0), .ref (eB E + oA 190 0), .ref (eB E + oA 191 0), .ref (eB E + oA 192 0), .ref (eB E + oA 193 0), .null, .null, .null, .int 0, .null, .null, .int 0, .int 0, .null, .null, .null, .null, .int 0, .int 0, .int 0, .int 0]) := n2
  clear n1 k1 n2 k2
  refine J_nn 596 12 1605 rfl rfl rfl ?_
  exact i_X7_s12 hC hin hs F11 hlow h0 hr
set_option maxRecDepth 100000 in
theorem i_X7_s6 {p : Program} {l : Launch} {e : Env} {s : State} {m : MethodId} {args : Array Value} {below : List Frame} {meth : Method} {c : Code} {E : gE} {CC : Nat → va_E} (hC : gCx p s m args meth c cX7_init 2 RX7 none E) (hin : meth.name = "<init>") (hs : s.heap.size + 0 = eB E + (583 + 1)) (C0 : Nat → va_E) (hlow : ∀ q, q < 583 → C0 q = CC q) (h0 : C0 583 = .inr (6, [.int 0, .ref (eB E + oA 181 0), .ref (eB E + oA 182 0), .int 0, .ref (eB E + oA 184 0), .ref (eB E + oA 185 0), .ref (eB E + oA 186 0), .ref (eB E + oA 187 0), .null, .null, .null, .null, .null, .null, .null, .null, .null, .int 0, .null, .null, .int 0, .int 0, .null, .null, .null, .null, .int 0, .int 0, .int 0, .int 0])) (hr : ∀ q, 583 < q → q < 590 → q ≠ 597 → C0 q = gc0 E q) :
  J p l e rm_X7_init s m args below meth c 2 6 1221 (MQ below (fun _ st oc t => oc = .returned none ∧ (∃ C2 : Nat → va_E, (fun C2 : Nat → va_E => (∀ q, q < 583 → C2 q = CC q) ∧ (∀ q, 583 ≤ q → q < 605 → C2 q = gc0 E q)) C2 ∧ va_P (eD E) vwCl (gV E C2 (583 + 1 + rm_X7_init.cells)) t.heap) ∧ va_F (fun q => eB E ≤ q) st t) args s rm_X7_init.cells rm_X7_init.slots (fun q => eB E ≤ q)) E C0 590 53 [(0, .ref (eB E + 583))] [] := by
  refine J_aload_n (q := 54) hC dX7_init_53 rfl rfl ?_
  refine J_bipush (v := 24) (q := 56) hC dX7_init_54 rfl (by decide) ?_
  refine J_newa (q := 58) (t := 1) (N := 24) (ty := .int) (a0 := (24, .inl (fun _ => 0))) hC dX7_init_56 rfl (by omega) (wall (by decide +kernel) rfl) rfl rfl (fun _ => rfl) id (by decide) (by decide) (Nat.le_of_ble_eq_true rfl) ⟨(Nat.le_of_ble_eq_true rfl), (Nat.le_of_ble_eq_true rfl)⟩ (fun D6 n1 k1 => ?_)
  have hlow : ∀ q, q < 583 → D6 q = CC q := fun q h9 => (k1 q (by omega)).trans (hlow q h9)
  have h0 := (k1 583 (by decide)).trans h0
  have hr : ∀ q, 583 < q → q < 591 → q ≠ 597 → D6 q = gc0 E q := fun q a0 a1 a2 => by
    by_cases e9 : q = 590
    · subst e9; exact n1.trans (c0_arr (E := E) (F := 188) (i := 0) (by decide) (by decide) rfl).symm
    · exact (k1 q (by omega)).trans (hr q a0 (by omega) a2)
  refine J_putF (q := 61) (T := TX7) (k := 8) hC dX7_init_58 rfl hin (by decide) h0 rfl inW7 (by decide) (wall (by decide +kernel) rfl) rfl tyX7 tyX7_ok nmX7 rfl rfl (ty := tyX7 8) (by decide +kernel) rfl rfl (Nat.le_of_ble_eq_true rfl) (fun F6 n2 k2 => ?_)
  have hlow : ∀ q, q < 583 → F6 q = CC q := fun q h9 => (k2 q (by omega)).trans (hlow q h9)
  have hr : ∀ q, 583 < q → q < 591 → q ≠ 597 → F6 q = gc0 E q := fun q a0 a1 a2 => (k2 q (by omega)).trans (hr q a0 a1 a2)
  have h0 : F6 583 = .inr (6, [.int 0, .ref (eB E + oA 181 0), .ref (eB E + oA 182 0), .int 0, .ref (eB E + oA 184 0), .ref (eB E + oA 185 0), .ref (eB E + oA 186 0), .ref (eB E + oA 187 0), .ref (eB E + oA 188 0), .null, .null, .null, .null, .null, .null, .null, .null, .int 0, .null, .null, .int 0, .int 0, .null, .null, .null, .null, .int 0, .int 0, .int 0, .int 0]) := n2
  clear n1 k1 n2 k2
  refine J_aload_n (q := 62) hC dX7_init_61 rfl rfl ?_
  refine J_bipush (v := 24) (q := 64) hC dX7_init_62 rfl (by decide) ?_
  refine J_newa (q := 66) (t := 1) (N := 24) (ty := .int) (a0 := (24, .inl (fun _ => 0))) hC dX7_init_64 rfl (by omega) (wall (by decide +kernel) rfl) rfl rfl (fun _ => rfl) id (by decide) (by decide) (Nat.le_of_ble_eq_true rfl) ⟨(Nat.le_of_ble_eq_true rfl), (Nat.le_of_ble_eq_true rfl)⟩ (fun D7 n1 k1 => ?_)
  have hlow : ∀ q, q < 583 → D7 q = CC q := fun q h9 => (k1 q (by omega)).trans (hlow q h9)
  have h0 := (k1 583 (by decide)).trans h0
  have hr : ∀ q, 583 < q → q < 592 → q ≠ 597 → D7 q = gc0 E q := fun q a0 a1 a2 => by
    by_cases e9 : q = 591
    · subst e9; exact n1.trans (c0_arr (E := E) (F := 189) (i := 0) (by decide) (by decide) rfl).symm
    · exact (k1 q (by omega)).trans (hr q a0 (by omega) a2)
  refine J_putF (q := 69) (T := TX7) (k := 9) hC dX7_init_66 rfl hin (by decide) h0 rfl inW7 (by decide) (wall (by decide +kernel) rfl) rfl tyX7 tyX7_ok nmX7 rfl rfl (ty := tyX7 9) (by decide +kernel) rfl rfl (Nat.le_of_ble_eq_true rfl) (fun F7 n2 k2 => ?_)
  have hlow : ∀ q, q < 583 → F7 q = CC q := fun q h9 => (k2 q (by omega)).trans (hlow q h9)
  have hr : ∀ q, 583 < q → q < 592 → q ≠ 597 → F7 q = gc0 E q := fun q a0 a1 a2 => (k2 q (by omega)).trans (hr q a0 a1 a2)
  have h0 : F7 583 = .inr (6, [.int 0, .ref (eB E + oA 181 0), .ref (eB E + oA 182 0), .int 0, .ref (eB E + oA 184 0), .ref (eB E + oA 185 0), .ref (eB E + oA 186 0), .ref (eB E + oA 187 0), .ref (eB E + oA 188 0), .ref (eB E + oA 189 0), .null, .null, .null, .null, .null, .null, .null, .int 0, .null, .null, .int 0, .int 0, .null, .null, .null, .null, .int 0, .int 0, .int 0, .int 0]) := n2
  clear n1 k1 n2 k2
  refine J_aload_n (q := 70) hC dX7_init_69 rfl rfl ?_
  refine J_bipush (v := 24) (q := 72) hC dX7_init_70 rfl (by decide) ?_
  refine J_newa (q := 74) (t := 2) (N := 24) (ty := .boolean) (a0 := (24, .inl (fun _ => 0))) hC dX7_init_72 rfl (by omega) (wall (by decide +kernel) rfl) rfl rfl (fun _ => rfl) id (by decide) (by decide) (Nat.le_of_ble_eq_true rfl) ⟨(Nat.le_of_ble_eq_true rfl), (Nat.le_of_ble_eq_true rfl)⟩ (fun D8 n1 k1 => ?_)
  have hlow : ∀ q, q < 583 → D8 q = CC q := fun q h9 => (k1 q (by omega)).trans (hlow q h9)
  have h0 := (k1 583 (by decide)).trans h0
  have hr : ∀ q, 583 < q → q < 593 → q ≠ 597 → D8 q = gc0 E q := fun q a0 a1 a2 => by
    by_cases e9 : q = 592
    · subst e9; exact n1.trans (c0_arr (E := E) (F := 190) (i := 0) (by decide) (by decide) rfl).symm
    · exact (k1 q (by omega)).trans (hr q a0 (by omega) a2)
  refine J_putF (q := 77) (T := TX7) (k := 10) hC dX7_init_74 rfl hin (by decide) h0 rfl inW7 (by decide) (wall (by decide +kernel) rfl) rfl tyX7 tyX7_ok nmX7 rfl rfl (ty := tyX7 10) (by decide +kernel) rfl rfl (Nat.le_of_ble_eq_true rfl) (fun F8 n2 k2 => ?_)
  have hlow : ∀ q, q < 583 → F8 q = CC q := fun q h9 => (k2 q (by omega)).trans (hlow q h9)
  have hr : ∀ q, 583 < q → q < 593 → q ≠ 597 → F8 q = gc0 E q := fun q a0 a1 a2 => (k2 q (by omega)).trans (hr q a0 a1 a2)
  have h0 : F8 583 = .inr (6, [.int 0, .ref (eB E + oA 181 0), .ref (eB E + oA 182 0), .int 0, .ref (eB E + oA 184 0), .ref (eB E + oA 185 0), .ref (eB E + oA 186 0), .ref (eB E + oA 187 0), .ref (eB E + oA 188 0), .ref (eB E + oA 189 0), .ref (eB E + oA 190 0), .null, .null, .null, .null, .null, .null, .int 0, .null, .null, .int 0, .int 0, .null, .null, .null, .null, .int 0, .int 0, .int 0, .int 0]) := n2
  clear n1 k1 n2 k2
  refine J_nn 593 9 1293 rfl rfl rfl ?_
  exact i_X7_s9 hC hin hs F8 hlow h0 hr
set_option maxRecDepth 100000 in
theorem i_X7_s3 {p : Program} {l : Launch} {e : Env} {s : State} {m : MethodId} {args : Array Value} {below : List Frame} {meth : Method} {c : Code} {E : gE} {CC : Nat → va_E} (hC : gCx p s m args meth c cX7_init 2 RX7 none E) (hin : meth.name = "<init>") (hs : s.heap.size + 0 = eB E + (583 + 1)) (C0 : Nat → va_E) (hlow : ∀ q, q < 583 → C0 q = CC q) (h0 : C0 583 = .inr (6, [.int 0, .ref (eB E + oA 181 0), .ref (eB E + oA 182 0), .int 0, .ref (eB E + oA 184 0), .null, .null, .null, .null, .null, .null, .null, .null, .null, .null, .null, .null, .int 0, .null, .null, .int 0, .int 0, .null, .null, .null, .null, .int 0, .int 0, .int 0, .int 0])) (hr : ∀ q, 583 < q → q < 587 → q ≠ 597 → C0 q = gc0 E q) :
  J p l e rm_X7_init s m args below meth c 2 3 1149 (MQ below (fun _ st oc t => oc = .returned none ∧ (∃ C2 : Nat → va_E, (fun C2 : Nat → va_E => (∀ q, q < 583 → C2 q = CC q) ∧ (∀ q, 583 ≤ q → q < 605 → C2 q = gc0 E q)) C2 ∧ va_P (eD E) vwCl (gV E C2 (583 + 1 + rm_X7_init.cells)) t.heap) ∧ va_F (fun q => eB E ≤ q) st t) args s rm_X7_init.cells rm_X7_init.slots (fun q => eB E ≤ q)) E C0 587 29 [(0, .ref (eB E + 583))] [] := by
  refine J_aload_n (q := 30) hC dX7_init_29 rfl rfl ?_
  refine J_bipush (v := 24) (q := 32) hC dX7_init_30 rfl (by decide) ?_
  refine J_newa (q := 34) (t := 1) (N := 24) (ty := .int) (a0 := (24, .inl (fun _ => 0))) hC dX7_init_32 rfl (by omega) (wall (by decide +kernel) rfl) rfl rfl (fun _ => rfl) id (by decide) (by decide) (Nat.le_of_ble_eq_true rfl) ⟨(Nat.le_of_ble_eq_true rfl), (Nat.le_of_ble_eq_true rfl)⟩ (fun D3 n1 k1 => ?_)
  have hlow : ∀ q, q < 583 → D3 q = CC q := fun q h9 => (k1 q (by omega)).trans (hlow q h9)
  have h0 := (k1 583 (by decide)).trans h0
  have hr : ∀ q, 583 < q → q < 588 → q ≠ 597 → D3 q = gc0 E q := fun q a0 a1 a2 => by
    by_cases e9 : q = 587
    · subst e9; exact n1.trans (c0_arr (E := E) (F := 185) (i := 0) (by decide) (by decide) rfl).symm
    · exact (k1 q (by omega)).trans (hr q a0 (by omega) a2)
  refine J_putF (q := 37) (T := TX7) (k := 5) hC dX7_init_34 rfl hin (by decide) h0 rfl inW7 (by decide) (wall (by decide +kernel) rfl) rfl tyX7 tyX7_ok nmX7 rfl rfl (ty := tyX7 5) (by decide +kernel) rfl rfl (Nat.le_of_ble_eq_true rfl) (fun F3 n2 k2 => ?_)
  have hlow : ∀ q, q < 583 → F3 q = CC q := fun q h9 => (k2 q (by omega)).trans (hlow q h9)
  have hr : ∀ q, 583 < q → q < 588 → q ≠ 597 → F3 q = gc0 E q := fun q a0 a1 a2 => (k2 q (by omega)).trans (hr q a0 a1 a2)
  have h0 : F3 583 = .inr (6, [.int 0, .ref (eB E + oA 181 0), .ref (eB E + oA 182 0), .int 0, .ref (eB E + oA 184 0), .ref (eB E + oA 185 0), .null, .null, .null, .null, .null, .null, .null, .null, .null, .null, .null, .int 0, .null, .null, .int 0, .int 0, .null, .null, .null, .null, .int 0, .int 0, .int 0, .int 0]) := n2
  clear n1 k1 n2 k2
  refine J_aload_n (q := 38) hC dX7_init_37 rfl rfl ?_
  refine J_bipush (v := 24) (q := 40) hC dX7_init_38 rfl (by decide) ?_
  refine J_newa (q := 42) (t := 1) (N := 24) (ty := .int) (a0 := (24, .inl (fun _ => 0))) hC dX7_init_40 rfl (by omega) (wall (by decide +kernel) rfl) rfl rfl (fun _ => rfl) id (by decide) (by decide) (Nat.le_of_ble_eq_true rfl) ⟨(Nat.le_of_ble_eq_true rfl), (Nat.le_of_ble_eq_true rfl)⟩ (fun D4 n1 k1 => ?_)
  have hlow : ∀ q, q < 583 → D4 q = CC q := fun q h9 => (k1 q (by omega)).trans (hlow q h9)
  have h0 := (k1 583 (by decide)).trans h0
  have hr : ∀ q, 583 < q → q < 589 → q ≠ 597 → D4 q = gc0 E q := fun q a0 a1 a2 => by
    by_cases e9 : q = 588
    · subst e9; exact n1.trans (c0_arr (E := E) (F := 186) (i := 0) (by decide) (by decide) rfl).symm
    · exact (k1 q (by omega)).trans (hr q a0 (by omega) a2)
  refine J_putF (q := 45) (T := TX7) (k := 6) hC dX7_init_42 rfl hin (by decide) h0 rfl inW7 (by decide) (wall (by decide +kernel) rfl) rfl tyX7 tyX7_ok nmX7 rfl rfl (ty := tyX7 6) (by decide +kernel) rfl rfl (Nat.le_of_ble_eq_true rfl) (fun F4 n2 k2 => ?_)
  have hlow : ∀ q, q < 583 → F4 q = CC q := fun q h9 => (k2 q (by omega)).trans (hlow q h9)
  have hr : ∀ q, 583 < q → q < 589 → q ≠ 597 → F4 q = gc0 E q := fun q a0 a1 a2 => (k2 q (by omega)).trans (hr q a0 a1 a2)
  have h0 : F4 583 = .inr (6, [.int 0, .ref (eB E + oA 181 0), .ref (eB E + oA 182 0), .int 0, .ref (eB E + oA 184 0), .ref (eB E + oA 185 0), .ref (eB E + oA 186 0), .null, .null, .null, .null, .null, .null, .null, .null, .null, .null, .int 0, .null, .null, .int 0, .int 0, .null, .null, .null, .null, .int 0, .int 0, .int 0, .int 0]) := n2
  clear n1 k1 n2 k2
  refine J_aload_n (q := 46) hC dX7_init_45 rfl rfl ?_
  refine J_bipush (v := 24) (q := 48) hC dX7_init_46 rfl (by decide) ?_
  refine J_newa (q := 50) (t := 1) (N := 24) (ty := .int) (a0 := (24, .inl (fun _ => 0))) hC dX7_init_48 rfl (by omega) (wall (by decide +kernel) rfl) rfl rfl (fun _ => rfl) id (by decide) (by decide) (Nat.le_of_ble_eq_true rfl) ⟨(Nat.le_of_ble_eq_true rfl), (Nat.le_of_ble_eq_true rfl)⟩ (fun D5 n1 k1 => ?_)
  have hlow : ∀ q, q < 583 → D5 q = CC q := fun q h9 => (k1 q (by omega)).trans (hlow q h9)
  have h0 := (k1 583 (by decide)).trans h0
  have hr : ∀ q, 583 < q → q < 590 → q ≠ 597 → D5 q = gc0 E q := fun q a0 a1 a2 => by
    by_cases e9 : q = 589
    · subst e9; exact n1.trans (c0_arr (E := E) (F := 187) (i := 0) (by decide) (by decide) rfl).symm
    · exact (k1 q (by omega)).trans (hr q a0 (by omega) a2)
  refine J_putF (q := 53) (T := TX7) (k := 7) hC dX7_init_50 rfl hin (by decide) h0 rfl inW7 (by decide) (wall (by decide +kernel) rfl) rfl tyX7 tyX7_ok nmX7 rfl rfl (ty := tyX7 7) (by decide +kernel) rfl rfl (Nat.le_of_ble_eq_true rfl) (fun F5 n2 k2 => ?_)
  have hlow : ∀ q, q < 583 → F5 q = CC q := fun q h9 => (k2 q (by omega)).trans (hlow q h9)
  have hr : ∀ q, 583 < q → q < 590 → q ≠ 597 → F5 q = gc0 E q := fun q a0 a1 a2 => (k2 q (by omega)).trans (hr q a0 a1 a2)
  have h0 : F5 583 = .inr (6, [.int 0, .ref (eB E + oA 181 0), .ref (eB E + oA 182 0), .int 0, .ref (eB E + oA 184 0), .ref (eB E + oA 185 0), .ref (eB E + oA 186 0), .ref (eB E + oA 187 0), .null, .null, .null, .null, .null, .null, .null, .null, .null, .int 0, .null, .null, .int 0, .int 0, .null, .null, .null, .null, .int 0, .int 0, .int 0, .int 0]) := n2
  clear n1 k1 n2 k2
  refine J_nn 590 6 1221 rfl rfl rfl ?_
  exact i_X7_s6 hC hin hs F5 hlow h0 hr
set_option maxRecDepth 100000 in
theorem i_X7_s0 {p : Program} {l : Launch} {e : Env} {s : State} {m : MethodId} {args : Array Value} {below : List Frame} {meth : Method} {c : Code} {E : gE} {CC : Nat → va_E} (hC : gCx p s m args meth c cX7_init 2 RX7 none E) (hin : meth.name = "<init>") (hs : s.heap.size + 0 = eB E + (583 + 1)) (C0 : Nat → va_E) (hlow : ∀ q, q < 583 → C0 q = CC q) (h0 : C0 583 = .inr (6, [.int 0, .null, .null, .int 0, .null, .null, .null, .null, .null, .null, .null, .null, .null, .null, .null, .null, .null, .int 0, .null, .null, .int 0, .int 0, .null, .null, .null, .null, .int 0, .int 0, .int 0, .int 0])) (hr : ∀ q, 583 < q → q < 584 → q ≠ 597 → C0 q = gc0 E q) :
  J p l e rm_X7_init s m args below meth c 2 0 0 (MQ below (fun _ st oc t => oc = .returned none ∧ (∃ C2 : Nat → va_E, (fun C2 : Nat → va_E => (∀ q, q < 583 → C2 q = CC q) ∧ (∀ q, 583 ≤ q → q < 605 → C2 q = gc0 E q)) C2 ∧ va_P (eD E) vwCl (gV E C2 (583 + 1 + rm_X7_init.cells)) t.heap) ∧ va_F (fun q => eB E ≤ q) st t) args s rm_X7_init.cells rm_X7_init.slots (fun q => eB E ≤ q)) E C0 584 4 [(0, .ref (eB E + 583))] [] := by
  refine J_aload_n (q := 5) hC dX7_init_4 rfl rfl ?_
  refine J_sipush (v := 1000) (q := 8) hC dX7_init_5 rfl (by decide) ?_
  refine J_newa (q := 10) (t := 1) (N := 1000) (ty := .int) (a0 := (1000, .inl (fun _ => 0))) hC dX7_init_8 rfl (by omega) (wall (by decide +kernel) rfl) rfl rfl (fun _ => rfl) id (by decide) (by decide) (Nat.le_of_ble_eq_true rfl) ⟨(Nat.le_of_ble_eq_true rfl), (Nat.le_of_ble_eq_true rfl)⟩ (fun D0 n1 k1 => ?_)
  have hlow : ∀ q, q < 583 → D0 q = CC q := fun q h9 => (k1 q (by omega)).trans (hlow q h9)
  have h0 := (k1 583 (by decide)).trans h0
  have hr : ∀ q, 583 < q → q < 585 → q ≠ 597 → D0 q = gc0 E q := fun q a0 a1 a2 => by
    by_cases e9 : q = 584
    · subst e9; exact n1.trans (c0_arr (E := E) (F := 181) (i := 0) (by decide) (by decide) rfl).symm
    · exact (k1 q (by omega)).trans (hr q a0 (by omega) a2)
  refine J_putF (q := 13) (T := TX7) (k := 1) hC dX7_init_10 rfl hin (by decide) h0 rfl inW7 (by decide) (wall (by decide +kernel) rfl) rfl tyX7 tyX7_ok nmX7 rfl rfl (ty := tyX7 1) (by decide +kernel) rfl rfl (Nat.le_of_ble_eq_true rfl) (fun F0 n2 k2 => ?_)
  have hlow : ∀ q, q < 583 → F0 q = CC q := fun q h9 => (k2 q (by omega)).trans (hlow q h9)
  have hr : ∀ q, 583 < q → q < 585 → q ≠ 597 → F0 q = gc0 E q := fun q a0 a1 a2 => (k2 q (by omega)).trans (hr q a0 a1 a2)
  have h0 : F0 583 = .inr (6, [.int 0, .ref (eB E + oA 181 0), .null, .int 0, .null, .null, .null, .null, .null, .null, .null, .null, .null, .null, .null, .null, .null, .int 0, .null, .null, .int 0, .int 0, .null, .null, .null, .null, .int 0, .int 0, .int 0, .int 0]) := n2
  clear n1 k1 n2 k2
  refine J_aload_n (q := 14) hC dX7_init_13 rfl rfl ?_
  refine J_bipush (v := 125) (q := 16) hC dX7_init_14 rfl (by decide) ?_
  refine J_newa (q := 18) (t := 1) (N := 125) (ty := .int) (a0 := (125, .inl (fun _ => 0))) hC dX7_init_16 rfl (by omega) (wall (by decide +kernel) rfl) rfl rfl (fun _ => rfl) id (by decide) (by decide) (Nat.le_of_ble_eq_true rfl) ⟨(Nat.le_of_ble_eq_true rfl), (Nat.le_of_ble_eq_true rfl)⟩ (fun D1 n1 k1 => ?_)
  have hlow : ∀ q, q < 583 → D1 q = CC q := fun q h9 => (k1 q (by omega)).trans (hlow q h9)
  have h0 := (k1 583 (by decide)).trans h0
  have hr : ∀ q, 583 < q → q < 586 → q ≠ 597 → D1 q = gc0 E q := fun q a0 a1 a2 => by
    by_cases e9 : q = 585
    · subst e9; exact n1.trans (c0_arr (E := E) (F := 182) (i := 0) (by decide) (by decide) rfl).symm
    · exact (k1 q (by omega)).trans (hr q a0 (by omega) a2)
  refine J_putF (q := 21) (T := TX7) (k := 2) hC dX7_init_18 rfl hin (by decide) h0 rfl inW7 (by decide) (wall (by decide +kernel) rfl) rfl tyX7 tyX7_ok nmX7 rfl rfl (ty := tyX7 2) (by decide +kernel) rfl rfl (Nat.le_of_ble_eq_true rfl) (fun F1 n2 k2 => ?_)
  have hlow : ∀ q, q < 583 → F1 q = CC q := fun q h9 => (k2 q (by omega)).trans (hlow q h9)
  have hr : ∀ q, 583 < q → q < 586 → q ≠ 597 → F1 q = gc0 E q := fun q a0 a1 a2 => (k2 q (by omega)).trans (hr q a0 a1 a2)
  have h0 : F1 583 = .inr (6, [.int 0, .ref (eB E + oA 181 0), .ref (eB E + oA 182 0), .int 0, .null, .null, .null, .null, .null, .null, .null, .null, .null, .null, .null, .null, .null, .int 0, .null, .null, .int 0, .int 0, .null, .null, .null, .null, .int 0, .int 0, .int 0, .int 0]) := n2
  clear n1 k1 n2 k2
  refine J_aload_n (q := 22) hC dX7_init_21 rfl rfl ?_
  refine J_bipush (v := 24) (q := 24) hC dX7_init_22 rfl (by decide) ?_
  refine J_newa (q := 26) (t := 1) (N := 24) (ty := .int) (a0 := (24, .inl (fun _ => 0))) hC dX7_init_24 rfl (by omega) (wall (by decide +kernel) rfl) rfl rfl (fun _ => rfl) id (by decide) (by decide) (Nat.le_of_ble_eq_true rfl) ⟨(Nat.le_of_ble_eq_true rfl), (Nat.le_of_ble_eq_true rfl)⟩ (fun D2 n1 k1 => ?_)
  have hlow : ∀ q, q < 583 → D2 q = CC q := fun q h9 => (k1 q (by omega)).trans (hlow q h9)
  have h0 := (k1 583 (by decide)).trans h0
  have hr : ∀ q, 583 < q → q < 587 → q ≠ 597 → D2 q = gc0 E q := fun q a0 a1 a2 => by
    by_cases e9 : q = 586
    · subst e9; exact n1.trans (c0_arr (E := E) (F := 184) (i := 0) (by decide) (by decide) rfl).symm
    · exact (k1 q (by omega)).trans (hr q a0 (by omega) a2)
  refine J_putF (q := 29) (T := TX7) (k := 4) hC dX7_init_26 rfl hin (by decide) h0 rfl inW7 (by decide) (wall (by decide +kernel) rfl) rfl tyX7 tyX7_ok nmX7 rfl rfl (ty := tyX7 4) (by decide +kernel) rfl rfl (Nat.le_of_ble_eq_true rfl) (fun F2 n2 k2 => ?_)
  have hlow : ∀ q, q < 583 → F2 q = CC q := fun q h9 => (k2 q (by omega)).trans (hlow q h9)
  have hr : ∀ q, 583 < q → q < 587 → q ≠ 597 → F2 q = gc0 E q := fun q a0 a1 a2 => (k2 q (by omega)).trans (hr q a0 a1 a2)
  have h0 : F2 583 = .inr (6, [.int 0, .ref (eB E + oA 181 0), .ref (eB E + oA 182 0), .int 0, .ref (eB E + oA 184 0), .null, .null, .null, .null, .null, .null, .null, .null, .null, .null, .null, .null, .int 0, .null, .null, .int 0, .int 0, .null, .null, .null, .null, .int 0, .int 0, .int 0, .int 0]) := n2
  clear n1 k1 n2 k2
  refine J_nn 587 3 1149 rfl rfl rfl ?_
  exact i_X7_s3 hC hin hs F2 hlow h0 hr
set_option maxRecDepth 100000 in
theorem i_X7 {l : Launch} {E : gE} {CC : Nat → va_E} (h0 : CC 583 = .inr (6, [.int 0, .null, .null, .int 0, .null, .null, .null, .null, .null, .null, .null, .null, .null, .null, .null, .null, .null, .int 0, .null, .null, .int 0, .int 0, .null, .null, .null, .null, .int 0, .int 0, .int 0, .int 0])) : gI l yX7_init cX7_init 2 rm_X7_init E CC (583 + 1) 583 (fun C2 : Nat → va_E => (∀ q, q < 583 → C2 q = CC q) ∧ (∀ q, 583 ≤ q → q < 605 → C2 q = gc0 E q)) :=
  gI_of (by decide +kernel) rfl (by decide) (by decide) (fun p e s m args below meth c hC hin hO hs => by
    refine J_aload_n (q := 1) hC dX7_init_0 rfl rfl ?_
    refine J_obj (q := 4) hC dX7_init_1 rfl (wall (by decide +kernel) rfl) (wall (by decide +kernel) rfl) (wall (by decide +kernel) rfl) (Nat.le_of_ble_eq_true rfl) (Nat.le_of_ble_eq_true rfl) ?_
    exact i_X7_s0 hC hin hs CC (fun _ _ => rfl) h0 (fun q a0 a1 a2 => absurd a1 (by omega)))

/-! print and supplement -/
def pr2 (σ : gSt) (N V a P k : Nat) : Bool := up (psB σ V a P) N k || prB σ k
theorem ftS_c {σ : gSt} {N V P : Nat} {p : Nat → Bool} {h : Nat} : ftS σ N V P p h = 1 ∨ ftS σ N V P p h = 2 ∨ ftS σ N V P p h = 3 := by
  unfold ftS
  cases thS σ N p h with
  | true => exact Or.inl rfl
  | false =>
    cases opS σ V P h with
    | true => exact Or.inr (Or.inr rfl)
    | false => exact Or.inr (Or.inl rfl)
theorem psB_np {σ : gSt} {V a P i : Nat} (h : psB σ V a P i = true) : prB σ i = false := by
  simp only [psB, Bool.and_eq_true, Bool.not_eq_true'] at h
  exact h.1.1
theorem psB_e {L : List Nat} {σ s : gSt} (h : fr L σ s) (d : dj L sF = true) (d2 : dj L [9, 11] = true) (V a P : Nat) : psB s V a P = psB σ V a P := by
  funext i
  unfold psB
  rw [h.vSE d, h.opE d, h.wNE d]
  simp only [prB, txB, h.at d2 (F := 9) (by decide), h.at d2 (F := 11) (by decide)]
theorem dn_N {N h : Nat} : dn N 0 h = decide (h / 4 < N) := by
  apply beq_of
  rw [dn_iff, decide_eq_true_eq]; omega
/-- the press and the look, the class -/
theorem pressLookC {fu : Nat} {σ s : gSt} {N V P0 P K G a : Nat} (hfu : 30 ≤ fu) (I : Inv σ N V P0 K G) (hs : fr [158] σ s) (hP : s 158 0 0 = nI P) : ∃ t τ, f_X6_putToPressFrom fu s (nI a) = some (nI (cntN (psB σ V a P) N), t) ∧ f_X6_lookAtReferences fu t = some (0, τ) ∧ fr [3, 11, 91] s τ ∧ (∀ j, τ 11 j 0 = cond (up (psB σ V a P) N j) 1 (σ 11 j 0)) ∧ (∀ j f, f < 8 → τ 3 j f = cond (up (psB σ V a P) N j) (σ 155 0 f) (σ 3 j f)) ∧ ∀ h, h < 96 → τ 91 h 0 = cond (dn N 0 h && lkB σ (pr2 σ N V a P) h) (ftS σ N V P (pr2 σ N V a P) (24 + h)) (σ 91 h 0) := by
  have S := I.1
  have hN := S.hN
  have Ss : sRel s N V := S.frm hs (by decide)
  have pe := psB_e hs (by decide) (by decide) V a P
  have z : ∀ (p : Nat → Bool) j, up p 0 j = false := fun p j => up_0 (Nat.zero_le _)
  obtain ⟨t, t1, t2, t3, t4⟩ := pressC_loop (a := a) hfu Ss hP (fun i hi => by
    obtain ⟨a1, a2, -⟩ := I.2.2.2.1 i (by omega)
    have e1 : prB s i = prB σ i := by simp only [prB, hs 11 (by decide)]
    have e2 : txB s i = txB σ i := by simp only [txB, hs 9 (by decide)]
    rw [e1, e2, hs 11 (by decide), hs 9 (by decide)]
    exact ⟨a1, a2⟩) fu 0 s (Nat.zero_le _) (by omega) fr.rfl (fun j => by rw [z]; rfl) (fun j f _ => by rw [z]; rfl)
  rw [pe] at t1 t3 t4
  rw [hs 11 (by decide)] at t3
  rw [hs 3 (by decide), hs 155 (by decide)] at t4
  have St : sRel t N V := Ss.frm t2 (by decide)
  have ft : fr [3, 11, 158] σ t := (hs.mono (by decide)).tr (t2.mono (by decide))
  have e91 : t 91 = σ 91 := ft 91 (by decide)
  have hp : ∀ k, k < N → t 11 k 0 = bI (pr2 σ N V a P k) := fun k hk => by
    rw [t3, (I.2.2.2.1 k (by omega)).1]
    unfold pr2
    cases up (psB σ V a P) N k <;> rfl
  have okA : ∀ h, h < 96 → okF (σ 91 h 0) = true := fun h hh => by
    have := ((I.2.2.2.2.1 (h / 4) (by omega)).1 (h % 4) (by omega)).1
    rw [show 4 * (h / 4) + h % 4 = h by omega] at this
    exact this
  obtain ⟨τ, u1, u2, u3⟩ := lookC_loop hfu St (by rw [t2 158 (by decide)]; exact hP) hp (fun h hh => by rw [e91]; exact okA h hh) fu 0 t (Nat.zero_le _) (by omega) fr.rfl (fun h _ => by rw [dn_00]; rfl)
  have lk : ∀ h, lkB t (pr2 σ N V a P) h = lkB σ (pr2 σ N V a P) h := fun h => by
    unfold lkB
    rw [ft.rcNE' (by decide), e91]
  refine ⟨t, τ, t1, u1, (t2.mono (by decide)).tr (u2.mono (by decide)), fun j => ?_, fun j f hf => ?_, fun h hh => ?_⟩
  · rw [u2 11 (by decide)]; exact t3 j
  · rw [u2 3 (by decide)]; exact t4 j f hf
  · rw [u3 h hh, lk, ft.ftE (by decide), e91]
/-- the press and the look, the reference -/
theorem printsM {fu : Nat} {σ μ : gSt} {N V P0 P K G a : Nat} (hfu : 30 ≤ fu) (hP4 : P ≤ 4) (ha : a ≤ 4) (I : Inv σ N V P0 K G) (hμ : fr [3, 11, 34, 91, 158, 200, 209] σ μ) (hP : μ 200 0 0 = nI P) : ∃ τ, f_X7_prints fu μ (nI a) (nI P - 1) = some (nI (cntN (psB σ V a P) N), τ) ∧ fr [186, 192, 194, 208] μ τ ∧ (∀ j, τ 186 0 j = cond (up (psB σ V a P) N j) 3 (σ 186 0 j)) ∧ (∀ j f, f < 8 → τ 194 0 (8 * j + f) = cond (up (psB σ V a P) N j) (σ 196 0 f) (σ 194 0 (8 * j + f))) ∧ (∀ h, h < 96 → τ 192 0 h = cond (dn N 0 h && lmB σ (psB σ V a P) h) (ftS σ N V P (pr2 σ N V a P) (24 + h)) (σ 192 0 h)) ∧ τ 208 0 0 = nI (skN σ N + sumN (fun i => skD σ N V P (pr2 σ N V a P) (psB σ V a P) i (rcN σ i)) N) := by
  have S := I.1
  have hN := S.hN
  have Sμ : sRel μ N V := S.frm hμ (by decide)
  have z : ∀ (p : Nat → Bool) j, up p 0 j = false := fun p j => up_0 (Nat.zero_le _)
  obtain ⟨t, m, t1, t2, t3, t4, t5⟩ := pressM_loop (fu := fu) (ps := psB σ V a P) (ms := fun i => !prB σ i && (Nat.beq (wN σ i) 0 || txB σ i)) hfu Sμ hP4 ha (fun i hi => by
    obtain ⟨a1, a2, a3, a4, a5, a6, a7, a8, a9, a10⟩ := I.2.2.2.1 i (by omega)
    have a7' := (a7 hi).2.2.2
    rw [hμ.wNE (by decide), hμ 186 (by decide), a5, beqN]
    unfold stV
    cases prB σ i
    · cases txB σ i
      · simp only [cond_false, Bool.or_false, Bool.not_false, Bool.true_and, decide_eq_true_eq]
        by_cases hw : σ 7 i 0 = -1
        · rw [if_pos hw]
          exact ⟨fun q => by rcases q with q | q; exact absurd q (by decide); exact q.1, fun q => Or.inr ⟨q, rfl⟩⟩
        · rw [if_neg hw]
          exact ⟨fun q => by rcases q with q | q; exact absurd q (by decide); exact absurd q.2 (by decide), fun q => absurd (a7' q) hw⟩
      · simp only [cond_false, cond_true, Bool.or_true, Bool.not_false, Bool.and_true]
        exact ⟨fun _ => trivial, fun _ => Or.inl trivial⟩
    · simp only [cond_true, Bool.not_true, Bool.false_and]
      exact ⟨fun q => by rcases q with q | q; exact absurd q (by decide); exact absurd q.2 (by decide), fun q => by cases q⟩)
    (fun i hi => by rw [hμ.vSE (by decide), hμ.opE (by decide)]; rfl) fu 0 μ 0 (Nat.zero_le _) (by omega) fr.rfl (fun j => by rw [z]; rfl) (fun j f _ => by rw [z]; rfl) (fun j _ => by rw [z, b_0])
  rw [hμ 186 (by decide)] at t3
  rw [hμ 194 (by decide), hμ 196 (by decide)] at t4
  have St : sRel t N V := Sμ.frm t2 (by decide)
  have ft : fr [3, 11, 34, 91, 158, 200, 209, 186, 194] σ t := (hμ.mono (by decide)).tr (t2.mono (by decide))
  have hp : ∀ k, k < N → (t 186 0 k = 3 ↔ pr2 σ N V a P k = true) := fun k hk => by
    rw [t3]
    unfold pr2
    cases up (psB σ V a P) N k with
    | true => exact ⟨fun _ => rfl, fun _ => rfl⟩
    | false => exact I.pM k hk
  obtain ⟨τ, u1, u2, u3, u4⟩ := lookM_loop (c := skN σ N) (p := pr2 σ N V a P) (ps := psB σ V a P) (m := m) (x3 := nI (cntN (psB σ V a P) N)) hfu St (by rw [t2 200 (by decide)]; exact hP) hp (fun i hi => by rw [t5 i (by omega), up_1 hi]) fu 0 t (Nat.zero_le _) (by omega) fr.rfl (fun h _ => by rw [dn_00]; rfl) (by
    have q : σ 208 0 0 = nI (skN σ N) := I.2.2.2.2.2.2.2.2.2
    rw [ft 208 (by decide), q]; rfl)
  have lm : ∀ h, lmB t (psB σ V a P) h = lmB σ (psB σ V a P) h := fun h => by
    unfold lmB
    rw [ft.rcNE' (by decide)]
  have sk : ∀ i r, skD t N V P (pr2 σ N V a P) (psB σ V a P) i r = skD σ N V P (pr2 σ N V a P) (psB σ V a P) i r := fun i r => by
    unfold skD
    congr 1
    apply cntN_eq
    intro k _
    rw [ft.ftE (by decide)]
  refine ⟨τ, ?_, (t2.mono (by decide)).tr (u2.mono (by decide)), fun j => ?_, fun j f hf => ?_, fun h hh => ?_, ?_⟩
  · unfold f_X7_prints
    rw [show f_X7_prints_b8 fu fu μ (nI a) (nI P - 1) 0 0 0 = _ from t1]
    exact u1
  · rw [u2 186 (by decide)]; exact t3 j
  · rw [u2 194 (by decide)]; exact t4 j f hf
  · rw [u3 h hh, lm, ft.ftE (by decide), ft 192 (by decide)]
  · rw [u4]
    congr 2
    apply sumN_eq
    intro i hi
    rw [sk, ft.rcNE' (by decide)]
/-- what holds behind the press -/
theorem mid_inv {σ ρ : gSt} {N V P0 P K G a : Nat} (I : Inv σ N V P0 K G) (hPV : P ≤ V) (f : fr [3, 11, 91, 158, 186, 192, 194, 200, 208, 209] σ ρ) (h158 : ρ 158 0 0 = nI P) (h200 : ρ 200 0 0 = nI P)
    (h11 : ∀ j, ρ 11 j 0 = cond (up (psB σ V a P) N j) 1 (σ 11 j 0)) (h3 : ∀ j f, f < 8 → ρ 3 j f = cond (up (psB σ V a P) N j) (σ 155 0 f) (σ 3 j f)) (h91 : ∀ h, h < 96 → ρ 91 h 0 = cond (dn N 0 h && lkB σ (pr2 σ N V a P) h) (ftS σ N V P (pr2 σ N V a P) (24 + h)) (σ 91 h 0))
    (h186 : ∀ j, ρ 186 0 j = cond (up (psB σ V a P) N j) 3 (σ 186 0 j)) (h194 : ∀ j f, f < 8 → ρ 194 0 (8 * j + f) = cond (up (psB σ V a P) N j) (σ 196 0 f) (σ 194 0 (8 * j + f))) (h192 : ∀ h, h < 96 → ρ 192 0 h = cond (dn N 0 h && lmB σ (psB σ V a P) h) (ftS σ N V P (pr2 σ N V a P) (24 + h)) (σ 192 0 h)) (h208 : ρ 208 0 0 = nI (skN σ N + sumN (fun i => skD σ N V P (pr2 σ N V a P) (psB σ V a P) i (rcN σ i)) N)) :
    Inv ρ N V P K G ∧ prB ρ = pr2 σ N V a P := by
  obtain ⟨i1, i2, i3, i4, i5, i6, i7, i8, i9, i10⟩ := I
  have hN := i1.hN
  have hp : prB ρ = pr2 σ N V a P := by
    funext j
    unfold pr2
    have e : prB ρ j = !decide (ρ 11 j 0 = 0) := rfl
    rw [e, h11]
    cases up (psB σ V a P) N j with
    | true => rfl
    | false => rfl
  have ht : txB ρ = txB σ := by funext j; simp only [txB, f 9 (by decide)]
  have hw : wN ρ = wN σ := by funext j; simp only [wN, f 185 (by decide)]
  have rc : rcN ρ = rcN σ := by funext j; exact f.rcNE' (by decide)
  have upN : ∀ {j}, N ≤ j → up (psB σ V a P) N j = false := fun h => up_0 h
  -- looked at: the same on both sides
  have key : ∀ j r, j < 24 → r < 4 → (dn N 0 (4 * j + r) && lkB σ (pr2 σ N V a P) (4 * j + r)) = (up (psB σ V a P) N j && decide (r < rcN σ j)) := fun j r hj hr => by
    obtain ⟨q1, q2⟩ := h4 (i := j) hr
    obtain ⟨g1, g2, g3⟩ := (i5 j hj).1 r hr
    rw [dn_N]
    unfold lkB pr2
    rw [q1, q2]
    by_cases hjN : j < N
    · rw [decide_eq_true hjN, Bool.true_and, up_1 hjN]
      by_cases hrc : r < rcN σ j
      · rw [decide_eq_true hrc, Bool.true_and, Bool.and_true]
        cases hps : psB σ V a P j with
        | true =>
          have np := psB_np hps
          rw [decide_eq_true (g3.mpr (fun q => by rw [np] at q; exact absurd q.1 (by decide)))]; rfl
        | false =>
          cases hpr : prB σ j with
          | false => rfl
          | true => rw [decide_eq_false (fun q => g3.mp q ⟨hpr, hrc⟩)]; rfl
      · rw [decide_eq_false hrc]; simp
    · rw [decide_eq_false hjN, upN (by omega)]; rfl
  have key2 : ∀ j r, j < 24 → r < 4 → (dn N 0 (4 * j + r) && lmB σ (psB σ V a P) (4 * j + r)) = (up (psB σ V a P) N j && decide (r < rcN σ j)) := fun j r hj hr => by
    obtain ⟨q1, q2⟩ := h4 (i := j) hr
    rw [dn_N]
    unfold lmB
    rw [q1, q2]
    by_cases hjN : j < N
    · rw [decide_eq_true hjN, Bool.true_and, up_1 hjN]
    · rw [decide_eq_false hjN, upN (by omega)]; rfl
  refine ⟨⟨i1.frm f (by decide), i2.frm f (by decide), ⟨hPV, h158, h200⟩, fun j hj => ?_, fun j hj => ⟨fun r hr => ?_, fun g hg => ?_⟩, i6.frm f (by decide), i7.frm f (by decide), ?_, i9.frm f (by decide), ?_⟩, hp⟩
  · obtain ⟨a1, a2, a3, a4, a5, a6, a7, a8, a9, a10⟩ := i4 j hj
    unfold aR
    rw [hp, ht, hw, h11, h186, f 9 (by decide), f 10 (by decide), f 190 (by decide), f 7 (by decide), f 5 (by decide), f 184 (by decide), f 187 (by decide), f 188 (by decide), f 8 (by decide)]
    unfold pr2
    cases hu : up (psB σ V a P) N j with
    | false => exact ⟨a1, a2, a3, a4, a5, a6, a7, a8, a9, a10⟩
    | true =>
      have hjN : j < N := by
        by_cases q : j < N
        · exact q
        · rw [upN (by omega)] at hu; cases hu
      rw [up_1 hjN] at hu
      have hb : wN σ j = 0 ∨ txB σ j = true := by
        simp only [psB, Bool.and_eq_true, Bool.or_eq_true, beqN, decide_eq_true_eq] at hu
        exact hu.1.2
      exact ⟨rfl, a2, a3, a4, rfl, a6, a7, fun q => by omega, a9, fun _ => hb⟩
  · obtain ⟨g1, g2, g3⟩ := (i5 j hj).1 r hr
    have hh : 4 * j + r < 96 := by omega
    rw [h91 _ hh, h192 _ hh, key j r hj hr, key2 j r hj hr, hp, rc]
    unfold pr2
    cases hu : up (psB σ V a P) N j with
    | false => exact ⟨g1, g2, g3⟩
    | true =>
      by_cases hrc : r < rcN σ j
      · rw [decide_eq_true hrc]
        have c := ftS_c (σ := σ) (N := N) (V := V) (P := P) (p := pr2 σ N V a P) (h := 24 + (4 * j + r))
        refine ⟨?_, rfl, fun q => ?_, fun q => absurd ⟨rfl, hrc⟩ q⟩
        · show okF (ftS σ N V P (pr2 σ N V a P) (24 + (4 * j + r))) = true
          rcases c with c | c | c <;> rw [c] <;> decide
        · have q : ftS σ N V P (pr2 σ N V a P) (24 + (4 * j + r)) = 0 := q
          rcases c with c | c | c <;> rw [c] at q <;> exact absurd q (by decide)
      · rw [decide_eq_false hrc]
        exact ⟨g1, g2, g3.trans ⟨fun _ q => hrc q.2, fun _ q => hrc q.2⟩⟩
  · obtain ⟨g1, g2, g3⟩ := (i5 j hj).2 g hg
    rw [f 2 (by decide), f 193 (by decide), h3 j g hg, h194 j g hg]
    refine ⟨g1, g2, ?_⟩
    rw [g3, i6.2 g hg]
  · refine ⟨by rw [f 206 (by decide)]; exact i8.1, fun d hd => ?_⟩
    obtain ⟨q, q1, q2, q3, q4, q5⟩ := i8.2 d hd
    have hn : nthN ρ = nthN σ := by funext j; simp only [nthN, f 189 (by decide)]
    refine ⟨q, by rw [f 32 (by decide)]; exact q1, by rw [f 30 (by decide)]; exact q2, fun j => ?_, by rw [hn]; exact q4, by rw [hn, f 189 (by decide)]; exact q5⟩
    rw [q3 j, h186, f 187 (by decide)]
    by_cases hjN : j < N
    · cases hu : up (psB σ V a P) N j with
      | false => exact Iff.rfl
      | true =>
        rw [up_1 hjN] at hu
        refine ⟨fun h => ?_, fun h => absurd (show (3 : Int32) = 1 from h.2.1) (by decide)⟩
        obtain ⟨a1, a2, a3, a4, a5, a6, a7, a8, a9, a10⟩ := i4 j (by omega)
        have h2 := h.2.1
        rw [a5] at h2
        obtain ⟨-, nt, nw⟩ := stV1 h2
        simp only [psB, Bool.and_eq_true, Bool.or_eq_true, beqN, decide_eq_true_eq] at hu
        rcases hu.1.2 with q | q
        · exact absurd ((a7 hjN).2.2.2 q) nw
        · rw [nt] at q; cases q
    · exact ⟨fun h => absurd h.1 hjN, fun h => absurd h.1 hjN⟩
  · unfold tRel
    rw [h208]
    congr 1
    unfold skN
    rw [← sumN_add]
    apply sumN_eq
    intro i hi
    rw [rc]
    have r4 := (i1.rf (i := i) (by omega)).1
    unfold skD
    cases hps : psB σ V a P i with
    | false =>
      show _ + 0 = _
      rw [Nat.add_zero]
      apply cntN_eq
      intro r hr
      rw [h91 _ (by omega), key i r (by omega) (by omega), up_1 hi, hps]; rfl
    | true =>
      have np := psB_np hps
      have z : cntN (fun r => decide (σ 91 (4 * i + r) 0 = 3)) (rcN σ i) = 0 := cntN_f (fun r hr => by
        obtain ⟨g1, g2, g3⟩ := (i5 i (by omega)).1 r (by omega)
        rw [g3.mpr (fun q => by rw [np] at q; exact absurd q.1 (by decide))]; rfl)
      rw [z, Nat.zero_add]
      apply cntN_eq
      intro r hr
      rw [h91 _ (by omega), key i r (by omega) (by omega), up_1 hi, hps, decide_eq_true hr]; rfl
theorem step_print {fu : Nat} {σ : gSt} {N V P K G : Nat} {x1 : Int32} (hfu : 30 ≤ fu) (I : Inv σ N V P K G) : stepX (cm3 0 2 1) (f_X6_print fu σ x1) (fun σ1 => f_X7_print fu σ1 x1) G := by
  have S := I.1
  have hN := S.hN
  have v := S.v
  have V4 := v.1
  have p := I.2.2.1
  have thr : ∀ y : Int32, ¬ y = 0 → f_X7_print_b32 fu σ x1 y = some (0, gU σ 209 0 0 y) := fun y hy => by
    unfold f_X7_print_b32
    rw [goesX hy, if_pos rfl]
  have mh : ∀ s : gSt, s 197 = σ 197 → s 200 = σ 200 → f_X7_print fu s x1 = cond (inb x1 V) (if x1 = nI P then f_X7_print_b32 fu s x1 0 else f_X7_print_b32 fu s x1 2) (f_X7_print_b32 fu s x1 1) := fun s e1 e2 => by
    unfold f_X7_print
    rw [e1, v.2.2.1, bd_s (isIn0 x1 (by omega)), e2, p.2.2]
    cases inb x1 V <;> rfl
  unfold f_X6_print
  cases b1 : inb x1 V with
  | false =>
    refine step_thr (c := 3) (v := 0) I (Or.inr (Or.inr rfl)) (by decide) (by rw [bx_x (n := 2) (by rw [reqVol x1 V4 v.2.1, b1]; rfl)]) ⟨0, ?_⟩
    show f_X7_print fu σ x1 = _
    rw [mh σ rfl rfl, b1]; exact thr _ (by decide)
  | true =>
    rw [bx_s (by rw [reqVol x1 V4 v.2.1, b1]; rfl), p.2.1]
    by_cases e : x1 = nI P
    · rw [if_pos e, nI_1]
      obtain ⟨k, hk, ek⟩ := inb_nI (by omega) b1
      have hPV : P < V := by
        have := p.1
        rw [e] at ek
        have := (nI_eq (by omega) (by omega)).mp ek
        omega
      subst e
      have fs : fr [158] σ (gU σ 158 0 0 (nI (P + 1))) := by (repeat (first | exact fr.rfl | assumption | refine fr_gU ?_ (by decide) | refine fr_gR ?_ (by decide)))
      obtain ⟨t, τ, t1, t2, t3, t4, t5, t6⟩ := pressLookC (P := P + 1) (a := P) hfu I fs gU_e
      have fτ : fr [3, 11, 91, 158] σ τ := (fs.mono (by decide)).tr (t3.mono (by decide))
      have fμ0 : fr [3, 11, 91, 158, 200, 209] σ (gU (gU τ 209 0 0 0) 200 0 0 (nI (P + 1))) := by
        have := fτ.mono (M := [3, 11, 91, 158, 200, 209]) (by decide)
        (repeat (first | exact fr.rfl | assumption | refine fr_gU ?_ (by decide) | refine fr_gR ?_ (by decide)))
      have fμ := fμ0.mono (M := [3, 11, 34, 91, 158, 200, 209]) (by decide)
      obtain ⟨μ, m1, m2, m3, m4, m5, m6⟩ := printsM (P := P + 1) (a := P) hfu (by omega) (by omega) I fμ gU_e
      rw [nI_pred] at m1
      have rd : ∀ F, F ∉ [186, 192, 194, 208] → μ F = gU (gU τ 209 0 0 0) 200 0 0 (nI (P + 1)) F := fun F hF => m2 F hF
      have fin := mid_inv (a := P) (P := P + 1) (ρ := μ) I (by omega) ((fμ0.mono (M := [3, 11, 91, 158, 186, 192, 194, 200, 208, 209]) (by decide)).tr (m2.mono (by decide))) (by rw [rd 158 (by decide)]; simp only [gU_n, gU_e, Nat.reduceEqDiff, not_false_eq_true]; rw [t3 158 (by decide), gU_e]) (by rw [rd 200 (by decide), gU_e]) (fun j => by rw [rd 11 (by decide)]; simp only [gU_n, gU_e, Nat.reduceEqDiff, not_false_eq_true]; exact t4 j) (fun j f hf => by rw [rd 3 (by decide)]; simp only [gU_n, gU_e, Nat.reduceEqDiff, not_false_eq_true]; exact t5 j f hf) (fun h hh => by rw [rd 91 (by decide)]; simp only [gU_n, gU_e, Nat.reduceEqDiff, not_false_eq_true]; exact t6 h hh) m3 m4 m5 m6
      refine ⟨0, nI (cntN (psB σ V P (P + 1)) N), τ, nI (cntN (psB σ V P (P + 1)) N), μ, ?_, ?_, ?_, fun _ => rfl, Or.inl rfl, N, V, P + 1, K, G, fin.1, by omega⟩
      · rw [bd_s t1, bd_s t2]
      · show f_X7_print fu τ (nI P) = _
        rw [mh τ (fτ 197 (by decide)) (fτ 200 (by decide)), b1]
        show (if nI P = nI P then _ else _) = _
        rw [if_pos rfl]
        unfold f_X7_print_b32
        rw [goes0, if_neg (show ¬ (1 : Int32) = 0 by decide)]
        simp only [gU_n, gU_e, Nat.reduceEqDiff, not_false_eq_true]
        rw [fτ 200 (by decide), p.2.2, nI_1, bd_s m1]
      · rw [rd 209 (by decide)]; simp only [gU_n, gU_e, Nat.reduceEqDiff, not_false_eq_true]; rfl
    · rw [if_neg e]
      refine step_thr (c := 2) (v := 0) I (Or.inr (Or.inl rfl)) (by decide) rfl ⟨0, ?_⟩
      show f_X7_print fu σ x1 = _
      rw [mh σ rfl rfl, b1]
      show (if x1 = nI P then _ else _) = _
      rw [if_neg e]; exact thr _ (by decide)

/-- what holds behind the telling -/
theorem tell_inv {ρ υ : gSt} {N V P K G : Nat} (I : Inv ρ N V P K G) (f : fr [3, 34, 91, 192, 194, 205, 209] ρ υ)
    (g3 : ∀ j f, f < 8 → υ 3 j f = cond (dg N 0 j f && tfB ρ (prB ρ) j f) (ρ 155 0 f) (ρ 3 j f)) (g34 : ∀ c, c < 6 → υ 34 c 0 = ρ 34 c 0 + nI (erN ρ (prB ρ) c N)) (g91 : ∀ h, h < 96 → υ 91 h 0 = cond (dn N 0 h && bkB ρ N V P (prB ρ) h) 4 (ρ 91 h 0))
    (g194 : ∀ j f, f < 8 → υ 194 0 (8 * j + f) = cond (dg N 0 j f && tmB ρ (prB ρ) j f) (ρ 196 0 f) (ρ 194 0 (8 * j + f))) (g205 : ∀ c, c < 6 → υ 205 0 c = ρ 205 0 c + nI (emN ρ (prB ρ) c N)) (g192 : ∀ h, h < 96 → υ 192 0 h = cond (dn N 0 h && bmB ρ N V P (prB ρ) h) 4 (ρ 192 0 h)) :
    Inv υ N V P K G ∧ tfN ρ (prB ρ) N + bkN ρ N V P (prB ρ) N = teN ρ N V P (prB ρ) N := by
  obtain ⟨i1, i2, i3, i4, i5, i6, i7, i8, i9, i10⟩ := I
  have hN := i1.hN
  have tt : ∀ j g, j < 24 → g < 8 → tfB ρ (prB ρ) j g = tmB ρ (prB ρ) j g := fun j g hj hg => by
    obtain ⟨e1, e2, e3⟩ := (i5 j hj).2 g hg
    unfold tfB tmB
    rw [e2, e3, i6.2 g hg]
  have bb : ∀ h, h < 96 → bkB ρ N V P (prB ρ) h = bmB ρ N V P (prB ρ) h := fun h hh => by
    have := ((i5 (h / 4) (by omega)).1 (h % 4) (by omega)).2.1
    rw [show 4 * (h / 4) + h % 4 = h by omega] at this
    unfold bkB bmB
    rw [this]
  have ew : ∀ c, erN ρ (prB ρ) c N = emN ρ (prB ρ) c N := fun c => by
    unfold erN emN
    apply sumN_eq
    intro i hi
    have e := ((i4 i (by omega)).2.2.2.2.2.2.1 hi).2.1
    unfold erW emW
    rw [e]
    congr 1
    exact cntN_eq (fun k hk => tt i k (by omega) hk)
  have hp : prB υ = prB ρ := by funext j; simp only [prB, f 11 (by decide)]
  refine ⟨⟨i1.frm f (by decide), i2.frm f (by decide), i3.frm f (by decide), i4.frm f (by decide), fun j hj => ⟨fun r hr => ?_, fun g hg => ?_⟩, i6.frm f (by decide), ?_, i8.frm f (by decide), i9.frm f (by decide), ?_⟩, ?_⟩
  · obtain ⟨e1, e2, e3⟩ := (i5 j hj).1 r hr
    have hh : 4 * j + r < 96 := by omega
    rw [g91 _ hh, g192 _ hh, bb _ hh, hp, show rcN υ j = rcN ρ j from f.rcNE' (by decide), e2]
    cases hb : (dn N 0 (4 * j + r) && bmB ρ N V P (prB ρ) (4 * j + r)) with
    | false => exact ⟨e1, rfl, e3⟩
    | true =>
      have n0 : ¬ ρ 91 (4 * j + r) 0 = 0 := fun z => by
        rw [Bool.and_eq_true] at hb
        have hb := hb.2
        unfold bmB brS at hb
        rw [e2, z] at hb
        simp at hb
      exact ⟨show okF (4 : Int32) = true by decide, rfl, fun q => absurd (show (4 : Int32) = 0 from q) (by decide), fun q => absurd (e3.mpr q) n0⟩
  · obtain ⟨e1, e2, e3⟩ := (i5 j hj).2 g hg
    rw [f 2 (by decide), f 193 (by decide), g3 j g hg, g194 j g hg, tt j g hj hg, e3, i6.2 g hg]
    exact ⟨e1, e2, rfl⟩
  · obtain ⟨k1, k2, k3, k4, k5⟩ := i7
    refine ⟨k1, by rw [f 159 (by decide)]; exact k2, by rw [f 201 (by decide)]; exact k3, fun c hc => ?_, fun c hc => by rw [f 33 (by decide), f 202 (by decide)]; exact k5 c hc⟩
    obtain ⟨d1, d2, d3, d4⟩ := k4 c hc
    rw [f 35 (by decide), f 203 (by decide), g34 c hc, g205 c hc, f 31 (by decide), f 204 (by decide), ew, d3]
    exact ⟨d1, d2, rfl, d4⟩
  · unfold tRel
    rw [f 208 (by decide)]
    have sk : skN υ N = skN ρ N := by
      unfold skN
      apply sumN_eq
      intro i hi
      rw [show rcN υ i = rcN ρ i from f.rcNE' (by decide)]
      have r4 := (i1.rf (i := i) (by omega)).1
      apply cntN_eq
      intro r hr
      rw [g91 _ (by omega)]
      cases hb : (dn N 0 (4 * i + r) && bkB ρ N V P (prB ρ) (4 * i + r)) with
      | false => rfl
      | true =>
        rw [Bool.and_eq_true] at hb
        have hb := hb.2
        unfold bkB brS at hb
        simp at hb
        rw [hb.2.1]; rfl
    rw [sk]
    exact i10
  · unfold tfN bkN teN
    rw [← sumN_add]
    apply sumN_eq
    intro i hi
    have r4 := (i1.rf (i := i) (by omega)).1
    rw [cntN_eq (fun k hk => tt i k (by omega) hk), cntN_eq (p := fun r => bkB ρ N V P (prB ρ) (4 * i + r)) (q := fun r => bmB ρ N V P (prB ρ) (4 * i + r)) (fun k hk => bb _ (by omega))]
theorem step_supplement {fu : Nat} {σ : gSt} {N V P K G : Nat} (hfu : 30 ≤ fu) (I : Inv σ N V P K G) : stepX (cm3 0 1 0) (f_X6_supplement fu σ) (fun σ1 => f_X7_supplement fu σ1) G := by
  have S := I.1
  have hN := S.hN
  have V4 := S.v.1
  have p := I.2.2.1
  have hPV := p.1
  unfold f_X6_supplement
  rw [p.2.1]
  by_cases h0 : P = 0
  · rw [if_pos (by rw [h0]; rfl)]
    refine step_thr (c := 2) (v := 0) I (Or.inr (Or.inl rfl)) (by decide) rfl ⟨0, ?_⟩
    show f_X7_supplement fu σ = _
    unfold f_X7_supplement f_X7_supplement_b13
    rw [p.2.2, if_pos (by rw [h0]; rfl), goesX (by decide), if_pos rfl]
    rfl
  · rw [if_neg (nI_ne0 (by omega) (by omega))]
    obtain ⟨t, τ, t1, t2, t3, t4, t5, t6⟩ := pressLookC (P := P) (a := 0) hfu I (fr.rfl (L := [158])) p.2.1
    -- the class tells facts, then promises
    have pp : prB τ = pr2 σ N V 0 P := by
      funext j
      unfold pr2
      have e : prB τ j = !decide (τ 11 j 0 = 0) := rfl
      rw [e, t4]
      cases up (psB σ V 0 P) N j <;> rfl
    have hp : ∀ k, k < N → τ 11 k 0 = bI (prB τ k) := fun k hk => by
      rw [pp, t4, (I.2.2.2.1 k (by omega)).1]
      unfold pr2
      cases up (psB σ V 0 P) N k <;> rfl
    have K6 := I.2.2.2.2.2.2.1.1
    have hw7 : ∀ k, k < N → (σ 7 k 0 = -1 ∨ ∃ c, c < 6 ∧ σ 7 k 0 = nI c) := fun k hk => (I.2.2.2.1 k (by omega)).2.2.2.2.2.1.imp (fun q => q) (fun ⟨c, q1, q2⟩ => ⟨c, by omega, q2⟩)
    have dg0 : ∀ j f, dg 0 0 j f = false := fun j f => by
      cases e : dg 0 0 j f with
      | false => rfl
      | true => have := dg_iff.mp e; omega
    have z0 : ∀ x : Int32, x = x + nI 0 := fun x => (Int32.add_zero x).symm
    obtain ⟨τ3, a1, a2, a3, a4⟩ := factsC_loop (fu := fu) (σ0 := τ) (N := N) (p := prB τ) hfu hN (by rw [t3 156 (by decide)]; exact S.nC) hp (fun k hk => by rw [t3 7 (by decide)]; exact hw7 k hk) fu 0 τ (Nat.zero_le _) (by omega) fr.rfl (fun j f _ => by rw [dg0]; rfl) (fun c _ => z0 _)
    have f3 : fr [3, 11, 34, 91] σ τ3 := (t3.mono (by decide)).tr (a2.mono (by decide))
    have okT : ∀ h, h < 96 → okF (τ 91 h 0) = true := fun h hh => by
      rw [t6 h hh]
      cases (dn N 0 h && lkB σ (pr2 σ N V 0 P) h) with
      | true =>
        show okF (ftS σ N V P (pr2 σ N V 0 P) (24 + h)) = true
        rcases ftS_c (σ := σ) (N := N) (V := V) (P := P) (p := pr2 σ N V 0 P) (h := 24 + h) with c | c | c <;> rw [c] <;> decide
      | false =>
        have := ((I.2.2.2.2.1 (h / 4) (by omega)).1 (h % 4) (by omega)).1
        rw [show 4 * (h / 4) + h % 4 = h by omega] at this
        exact this
    obtain ⟨τ4, b1, b2, b3⟩ := promC_loop (σ0 := τ3) (P := P) (p := prB τ) hfu (S.frm f3 (by decide)) (by rw [f3 158 (by decide)]; exact p.2.1) (fun k hk => by rw [a2 11 (by decide)]; exact hp k hk) (fun h hh => by rw [a2 91 (by decide)]; exact okT h hh) fu 0 τ3 (Nat.zero_le _) (by omega) fr.rfl (fun h _ => by rw [dn_00]; rfl)
    have f4 : fr [3, 11, 34, 91] σ τ4 := f3.tr (b2.mono (by decide))
    -- the reference
    have fμ : fr [3, 11, 34, 91, 158, 200, 209] σ (gU τ4 209 0 0 0) := by
      have := f4.mono (M := [3, 11, 34, 91, 158, 200, 209]) (by decide)
      (repeat (first | exact fr.rfl | assumption | refine fr_gU ?_ (by decide) | refine fr_gR ?_ (by decide)))
    obtain ⟨μ1, m1, m2, m3, m4, m5, m6⟩ := printsM (P := P) (a := 0) hfu (by omega) (by omega) I fμ (by simp only [gU_n, gU_e, Nat.reduceEqDiff, not_false_eq_true]; rw [f4 200 (by decide)]; exact p.2.2)
    -- the middle: the class's rows of τ, the reference's of μ1
    have fm1 : fr [3, 11, 34, 91, 186, 192, 194, 208, 209] σ μ1 := by
      have : fr [3, 11, 34, 91, 186, 192, 194, 208, 209] σ (gU τ4 209 0 0 0) := by
        have := f4.mono (M := [3, 11, 34, 91, 186, 192, 194, 208, 209]) (by decide)
        (repeat (first | exact fr.rfl | assumption | refine fr_gU ?_ (by decide) | refine fr_gR ?_ (by decide)))
      exact this.tr (m2.mono (by decide))
    obtain ⟨ρ, hρ⟩ : ∃ ρ : gSt, ρ = fun F => if F < 180 then τ F else μ1 F := ⟨_, rfl⟩
    have rc : ∀ F, F < 180 → ρ F = τ F := fun F h => by rw [hρ]; exact if_pos h
    have rm : ∀ F, 180 ≤ F → ρ F = μ1 F := fun F h => by rw [hρ]; exact if_neg (by omega)
    have fρ : fr [3, 11, 91, 158, 186, 192, 194, 200, 208, 209] σ ρ := fun F hF => by
      simp at hF
      by_cases h : F < 180
      · rw [rc F h]; exact t3 F (by simp; omega)
      · rw [rm F (by omega)]; exact fm1 F (by simp; omega)
    obtain ⟨J, hJ⟩ := mid_inv (a := 0) (P := P) (ρ := ρ) I hPV fρ (by rw [rc 158 (by decide), t3 158 (by decide)]; exact p.2.1) (by rw [rm 200 (by decide), fm1 200 (by decide)]; exact p.2.2) (fun j => by rw [rc 11 (by decide)]; exact t4 j) (fun j f hf => by rw [rc 3 (by decide)]; exact t5 j f hf) (fun h hh => by rw [rc 91 (by decide)]; exact t6 h hh) (fun j => by rw [rm 186 (by decide)]; exact m3 j) (fun j f hf => by rw [rm 194 (by decide)]; exact m4 j f hf) (fun h hh => by rw [rm 192 (by decide)]; exact m5 h hh) (by rw [rm 208 (by decide)]; exact m6)
    have hJ' : prB ρ = prB τ := hJ.trans pp.symm
    have fρτ3 : fr [3, 34, 186, 192, 194, 208, 209] ρ τ3 := fun F hF => by
      simp at hF
      by_cases h : F < 180
      · rw [a2 F (by simp; omega), rc F h]
      · rw [f3 F (by simp; omega), rm F (by omega), fm1 F (by simp; omega)]
    have fρμ1 : fr [3, 34, 91, 209] ρ μ1 := fun F hF => by
      simp at hF
      by_cases h : F < 180
      · rw [m2 F (by simp; omega), gU_n (by omega), b2 F (by simp; omega), a2 F (by simp; omega), rc F h]
      · rw [rm F (by omega)]
    have Sm : sRel μ1 N V := J.1.frm fρμ1 (by decide)
    have hw187 : ∀ k, k < N → (μ1 187 0 k = -1 ∨ ∃ c, c < 6 ∧ μ1 187 0 k = nI c) := fun k hk => by
      rw [fm1 187 (by decide), ((I.2.2.2.1 k (by omega)).2.2.2.2.2.2.1 hk).2.1]; exact hw7 k hk
    obtain ⟨υ, u1, u2, u3, u4, u5⟩ := tellM_loop (σ0 := μ1) (P := P) (x1 := nI (cntN (psB σ V 0 P) N)) (p := prB ρ) hfu Sm (by rw [fm1 200 (by decide)]; exact p.2.2) (fun k hk => by rw [← rm 186 (by decide)]; exact J.pM k hk) hw187 fu 0 μ1 (Nat.zero_le _) (by omega) fr.rfl (fun j f _ => by rw [dg0]; rfl) (fun c _ => z0 _) (fun h _ => by rw [dn_00]; rfl)
    have fυ : fr [3, 34, 91, 192, 194, 205, 209] ρ υ := (fρμ1.mono (by decide)).tr (u2.mono (by decide))
    have c1 : ∀ F, F < 180 → F ≠ 3 → F ≠ 34 → F ≠ 91 → υ F = ρ F := fun F h _ _ _ => fυ F (by simp; omega)
    have cls : ∀ F, F < 180 → υ F = τ4 F := fun F h => by rw [u2 F (by simp; omega), m2 F (by simp; omega), gU_n (by omega)]
    -- what is told is the same
    have q1 : ∀ i, tfB τ (prB τ) i = tfB ρ (prB ρ) i := fun i => by
      funext f
      unfold tfB
      rw [hJ', rc 2 (by decide), rc 3 (by decide), rc 155 (by decide)]
    have q2 : ∀ c, erN τ (prB τ) c N = erN ρ (prB ρ) c N := fun c => by
      unfold erN
      apply sumN_eq
      intro i _
      unfold erW
      rw [q1, rc 7 (by decide)]
    have q3 : ∀ h, bkB τ3 N V P (prB τ) h = bkB ρ N V P (prB ρ) h := fun h => by
      unfold bkB
      rw [fρτ3.rcNE' (by decide), fρτ3 91 (by decide), fρτ3.brE (by decide), hJ']
    have q4 : ∀ i, tmB μ1 (prB ρ) i = tmB ρ (prB ρ) i := fun i => by
      funext f
      unfold tmB
      rw [rm 193 (by decide), rm 194 (by decide), rm 196 (by decide)]
    have q5 : ∀ c, emN μ1 (prB ρ) c N = emN ρ (prB ρ) c N := fun c => by
      unfold emN
      apply sumN_eq
      intro i _
      unfold emW
      rw [q4, rm 187 (by decide)]
    have q6 : ∀ h, bmB μ1 N V P (prB ρ) h = bmB ρ N V P (prB ρ) h := fun h => by
      unfold bmB
      rw [fρμ1.rcNE' (by decide), fρμ1 192 (by decide), fρμ1.brE (by decide)]
    obtain ⟨J2, cnt⟩ := tell_inv J fυ (fun j f hf => by rw [cls 3 (by decide), b2 3 (by decide), a3 j f hf, q1, rc 155 (by decide), rc 3 (by decide)]) (fun c hc => by rw [cls 34 (by decide), b2 34 (by decide), a4 c hc, q2, rc 34 (by decide)]) (fun h hh => by rw [cls 91 (by decide), b3 h hh, q3, a2 91 (by decide), rc 91 (by decide)]) (fun j f hf => by rw [u3 j f hf, q4, rm 196 (by decide), rm 194 (by decide)]) (fun c hc => by rw [u4 c hc, q5, rm 205 (by decide)]) (fun h hh => by rw [u5 h hh, q6, rm 192 (by decide)])
    have n1 : tfN τ (prB τ) N = tfN ρ (prB ρ) N := by
      unfold tfN
      apply sumN_eq
      intro i _
      rw [q1]
    have n2 : bkN τ3 N V P (prB τ) N = bkN ρ N V P (prB ρ) N := by
      unfold bkN
      apply sumN_eq
      intro i _
      rw [fρτ3.rcNE' (by decide)]
      exact cntN_eq (fun k _ => q3 _)
    have n3 : teN μ1 N V P (prB ρ) N = teN ρ N V P (prB ρ) N := by
      unfold teN
      apply sumN_eq
      intro i _
      rw [q4, fρμ1.rcNE' (by decide)]
      congr 1
      exact cntN_eq (fun k _ => q6 _)
    refine ⟨0, (100 : Int32) * nI (cntN (psB σ V 0 P) N) + nI (tfN τ (prB τ) N) + nI (bkN τ3 N V P (prB τ) N), τ4, (100 : Int32) * nI (cntN (psB σ V 0 P) N) + nI (teN μ1 N V P (prB ρ) N), υ, ?_, ?_, ?_, fun _ => ?_, Or.inl rfl, N, V, P, K, G, J2, by omega⟩
    · rw [show f_X6_putToPressFrom fu σ 0 = _ from t1, bd_s rfl, bd_s t2, bd_s (show f_X6_tellFacts fu τ = _ from a1), bd_s (show f_X6_tellPromises fu τ3 = _ from b1)]
    · show f_X7_supplement fu τ4 = _
      unfold f_X7_supplement f_X7_supplement_b13
      rw [f4 200 (by decide), p.2.2, if_neg (nI_ne0 (by omega) (by omega)), goes0, if_neg (show ¬ (1 : Int32) = 0 by decide)]
      simp only [gU_n, gU_e, Nat.reduceEqDiff, not_false_eq_true]
      rw [f4 200 (by decide), p.2.2, show f_X7_prints fu (gU τ4 209 0 0 0) 0 (nI P - 1) = _ from m1, bd_s rfl]
      exact u1
    · rw [u2 209 (by decide), m2 209 (by decide), gU_e]; rfl
    · rw [n1, n2, n3, ← cnt, Int32.add_assoc, nI_add]

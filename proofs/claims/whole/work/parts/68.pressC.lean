/-! the press and what is told: the class -/
def up (p : Nat → Bool) (k j : Nat) : Bool := decide (j < k) && p j
theorem up_n {p : Nat → Bool} {k j : Nat} (h : j ≠ k) : up p (k + 1) j = up p k j := by
  unfold up
  rw [show decide (j < k + 1) = decide (j < k) from decide_eq_decide.mpr (by omega)]
theorem up_s {p : Nat → Bool} {k : Nat} : up p (k + 1) k = p k := by
  unfold up
  rw [decide_eq_true (by omega : k < k + 1), Bool.true_and]
theorem up_0 {p : Nat → Bool} {k j : Nat} (h : k ≤ j) : up p k j = false := by
  unfold up
  rw [decide_eq_false (by omega : ¬ j < k), Bool.false_and]
theorem up_1 {p : Nat → Bool} {k j : Nat} (h : j < k) : up p k j = p j := by
  unfold up
  rw [decide_eq_true h, Bool.true_and]
theorem beq_of {a b : Bool} (h : a = true ↔ b = true) : a = b := by
  cases a <;> cases b <;> simp_all
/-- in what order references are gone through -/
def dn (i r h : Nat) : Bool := decide (h / 4 < i) || (decide (h / 4 = i) && decide (h % 4 < r))
theorem dn_iff {i r h : Nat} : dn i r h = true ↔ (h / 4 < i ∨ (h / 4 = i ∧ h % 4 < r)) := by
  simp [dn]
theorem dn_ne {i r h : Nat} (hr : r < 4) (e : h ≠ 4 * i + r) : dn i (r + 1) h = dn i r h := beq_of (by rw [dn_iff, dn_iff]; omega)
theorem dn_at {i r : Nat} (hr : r < 4) : dn i r (4 * i + r) = false := by
  cases h : dn i r (4 * i + r) with
  | false => rfl
  | true => have := dn_iff.mp h; omega
theorem dn_at1 {i r : Nat} (hr : r < 4) : dn i (r + 1) (4 * i + r) = true := dn_iff.mpr (by omega)
theorem dn_row {i r h : Nat} {b : Bool} (hb : h / 4 = i → b = false ∨ h % 4 < r) : (dn i r h && b) = (dn (i + 1) 0 h && b) := by
  cases b with
  | false => simp
  | true =>
    rw [Bool.and_true, Bool.and_true]
    apply beq_of
    rw [dn_iff, dn_iff]
    by_cases e : h / 4 = i
    · have := (hb e).resolve_left (by decide)
      omega
    · omega
theorem dn_00 {h : Nat} : dn 0 0 h = false := by
  cases e : dn 0 0 h with
  | false => rfl
  | true => have := dn_iff.mp e; omega
theorem h4 {i r : Nat} (hr : r < 4) : (4 * i + r) / 4 = i ∧ (4 * i + r) % 4 = r := by omega
/-- what goes to the press -/
def psB (σ : gSt) (V a P i : Nat) : Bool := (!prB σ i && (Nat.beq (wN σ i) 0 || txB σ i)) && (!decide (vS σ V i < nI a) && opS σ V P i)
theorem ready_ok {fu : Nat} {s : gSt} {i w : Nat} {p t : Bool} (e11 : s 11 i 0 = bI p) (e6 : s 6 i 0 = nI w) (hw : w ≤ 9) (e9 : s 9 i 0 = bI t) : f_X0_isReady fu s i = some (bI (!p && (Nat.beq w 0 || t)), s) := by
  have bl : f_X0_isBlind fu s i = some (bI (Nat.beq w 0), s) := by
    unfold f_X0_isBlind f_X0_isBlind_b12
    rw [e6]
    cases er : Nat.beq w 0 with
    | true => rw [if_pos (by rw [Nat.eq_of_beq_eq_true er]; rfl)]; rfl
    | false =>
      rw [if_neg (fun q => by
        have := (nI_eq (b := 0) (by omega) (by decide)).mp q
        rw [this] at er; cases er)]; rfl
  unfold f_X0_isReady f_X0_isReady_b21 f_X0_isReady_b25 f_X0_isReady_b26
  rw [e11, bd_s bl, e9]
  cases p with
  | true => rw [bT]; rfl
  | false =>
    rw [bF]
    cases Nat.beq w 0 with
    | true => rw [bT]; rfl
    | false =>
      rw [bF]
      cases t with
      | false => rw [bF]; rfl
      | true => rw [bT]; rfl
theorem press_ok {fu : Nat} {s : gSt} {i : Nat} (hi : i < 24) : f_X0_putToPress fu s i 155 0 = some (0, gR (gU s 11 i 0 1) 3 i (va_cpy (fun k => s 155 0 k) (fun k => s 3 i k) 0 0 8)) := by
  have ok : ∀ f : Nat → Int32, okCp 1 155 0 3 i 0 0 8 f = true := fun f => by
    have b1 : Nat.blt i 24 = true := Nat.ble_eq_true_of_le hi
    unfold okCp
    rw [show nA 3 = 24 from rfl, b1]
    rfl
  unfold f_X0_putToPress
  simp only [gU_n, gU_e, Nat.reduceEqDiff, not_false_eq_true]
  rw [gd_t (ok _)]
  rfl
theorem pressC_loop {fu : Nat} {σ0 : gSt} {N V P a : Nat} (hfu : 30 ≤ fu) (S : sRel σ0 N V) (hP : σ0 158 0 0 = nI P) (hA : ∀ i, i < N → σ0 11 i 0 = bI (prB σ0 i) ∧ σ0 9 i 0 = bI (txB σ0 i)) : ∀ n i (s : gSt), i ≤ N → N < n + i → fr [3, 11] σ0 s → (∀ j, s 11 j 0 = cond (up (psB σ0 V a P) i j) 1 (σ0 11 j 0)) → (∀ j f, f < 8 → s 3 j f = cond (up (psB σ0 V a P) i j) (σ0 155 0 f) (σ0 3 j f)) →
    ∃ τ, f_X6_putToPressFrom_b4 fu n s (nI a) (nI (cntN (psB σ0 V a P) i)) (nI i) = some (nI (cntN (psB σ0 V a P) N), τ) ∧ fr [3, 11] σ0 τ ∧ (∀ j, τ 11 j 0 = cond (up (psB σ0 V a P) N j) 1 (σ0 11 j 0)) ∧ ∀ j f, f < 8 → τ 3 j f = cond (up (psB σ0 V a P) N j) (σ0 155 0 f) (σ0 3 j f) := by
  have hN := S.hN
  intro n
  induction n with
  | zero => intro i s h1 h2; omega
  | succ n ih =>
    intro i s h1 h2 f e11 e3
    show ∃ τ, f_X6_putToPressFrom_b4_B fu (f_X6_putToPressFrom_b4 fu n) s (nI a) _ (nI i) = _ ∧ _
    unfold f_X6_putToPressFrom_b4_B f_X6_putToPressFrom_b65
    have Ss : sRel s N V := S.frm f (by decide)
    rw [Ss.nC]
    by_cases e : N ≤ i
    · have e' : N = i := by omega
      rw [if_pos (nI_le e (by omega))]
      subst e'
      exact ⟨s, rfl, f, e11, e3⟩
    · have hi : i < N := by omega
      obtain ⟨b1, b2⟩ := hA i hi
      obtain ⟨w9, w6, -⟩ := wN_ok S.1 hi
      have c11 : s 11 i 0 = bI (prB σ0 i) := by rw [e11, up_0 (Nat.le_refl _)]; exact b1
      have eq : psB σ0 V a P i = ((!prB σ0 i && (Nat.beq (wN σ0 i) 0 || txB σ0 i)) && (!decide (vS σ0 V i < nI a) && opS σ0 V P i)) := rfl
      rw [if_neg (nI_ge (by omega) (by omega)), gd_t (inb_t (by omega : i < 24) (by decide)), nI_clamp (by omega : i < 2 ^ 31), bd_s (ready_ok c11 (by rw [f 6 (by decide)]; exact w6) w9 (by rw [f 9 (by decide)]; exact b2)), nI_1]
      have no : psB σ0 V a P i = false → ∃ τ, f_X6_putToPressFrom_b4 fu n s (nI a) (nI (cntN (psB σ0 V a P) i)) (nI (i + 1)) = some (nI (cntN (psB σ0 V a P) N), τ) ∧ fr [3, 11] σ0 τ ∧ (∀ j, τ 11 j 0 = cond (up (psB σ0 V a P) N j) 1 (σ0 11 j 0)) ∧ ∀ j f, f < 8 → τ 3 j f = cond (up (psB σ0 V a P) N j) (σ0 155 0 f) (σ0 3 j f) := fun hp => by
        have same : ∀ j, up (psB σ0 V a P) (i + 1) j = up (psB σ0 V a P) i j := fun j => by
          by_cases ej : j = i
          · subst ej; rw [up_s, up_0 (Nat.le_refl _), hp]
          · exact up_n ej
        have := ih (i + 1) s (by omega) (by omega) f (fun j => by rw [same]; exact e11 j) (fun j f hf => by rw [same]; exact e3 j f hf)
        rw [cntN_s, hp] at this
        exact this
      cases hr : (!prB σ0 i && (Nat.beq (wN σ0 i) 0 || txB σ0 i)) with
      | false => rw [bF]; exact no (by rw [eq, hr]; rfl)
      | true =>
        rw [bT, bd_s (volC_ok (by omega) (Ss.hw hi) Ss.v)]
        show ∃ τ, (if vS s V i < nI a then _ else _) = _ ∧ _
        rw [f.vSE (by decide)]
        by_cases hv : vS σ0 V i < nI a
        · rw [if_pos hv]; exact no (by rw [eq, hr, decide_eq_true hv]; rfl)
        · rw [if_neg hv, bd_s (opC_ok (by omega) Ss (Ss.hw hi) (by rw [f 158 (by decide)]; exact hP)), f.opE (by decide)]
          cases ho : opS σ0 V P i with
          | false => rw [bF]; exact no (by rw [eq, ho]; simp)
          | true =>
            have hp : psB σ0 V a P i = true := by rw [eq, hr, decide_eq_false hv, ho]; rfl
            rw [bT, bd_s (press_ok (by omega)), nI_1]
            have := ih (i + 1) (gR (gU s 11 i 0 1) 3 i (va_cpy (fun k => s 155 0 k) (fun k => s 3 i k) 0 0 8)) (by omega) (by omega) (by (repeat (first | exact fr.rfl | assumption | refine fr_gU ?_ (by decide) | refine fr_gR ?_ (by decide)))) (fun j => ?_) (fun j g hg => ?_)
            · rw [cntN_s, hp] at this
              exact this
            · have : gR (gU s 11 i 0 1) 3 i (va_cpy (fun k => s 155 0 k) (fun k => s 3 i k) 0 0 8) 11 j 0 = gU s 11 i 0 1 11 j 0 := by simp [gR]
              rw [this]
              by_cases ej : j = i
              · subst ej; rw [gU_e, up_s, hp]; rfl
              · rw [gU_i (by omega), up_n ej]; exact e11 j
            · by_cases ej : j = i
              · subst ej
                rw [up_s, hp]
                simp only [gR, and_self, if_true, va_cpy]
                rw [if_pos (by omega), f 155 (by decide)]
                simp
              · rw [up_n ej]
                have : gR (gU s 11 i 0 1) 3 i (va_cpy (fun k => s 155 0 k) (fun k => s 3 i k) 0 0 8) 3 j g = s 3 j g := by simp [gR, gU, ej]
                rw [this]
                exact e3 j g hg
/-- what is looked at -/
def lkB (σ0 : gSt) (p : Nat → Bool) (h : Nat) : Bool := p (h / 4) && (decide (h % 4 < rcN σ0 (h / 4)) && decide (σ0 91 h 0 = 0))
theorem lookC_in {fu : Nat} {σ0 : gSt} {N V P i : Nat} {p : Nat → Bool} {k2 : gSt → Int32 → Option (Int32 × gSt)} (hfu : 30 ≤ fu) (S : sRel σ0 N V) (hP : σ0 158 0 0 = nI P) (hp : ∀ k, k < N → σ0 11 k 0 = bI (p k)) (hF : ∀ h, h < 96 → okF (σ0 91 h 0) = true) (hi : i < N) : ∀ n r (s : gSt), r ≤ rcN σ0 i → rcN σ0 i < n + r → fr [91] σ0 s → (∀ h, h < 96 → s 91 h 0 = cond (dn i r h && lkB σ0 p h) (ftS σ0 N V P p (24 + h)) (σ0 91 h 0)) →
    ∃ τ, f_X6_lookAtReferences_b12 fu k2 n s (nI i) (nI r) = k2 τ (nI (i + 1)) ∧ fr [91] σ0 τ ∧ ∀ h, h < 96 → τ 91 h 0 = cond (dn (i + 1) 0 h && lkB σ0 p h) (ftS σ0 N V P p (24 + h)) (σ0 91 h 0) := by
  have hN := S.hN
  obtain ⟨c1, c2, c3, c4, c5⟩ := S.rf (i := i) (by omega)
  intro n
  induction n with
  | zero => intro r s h1 h2; omega
  | succ n ih =>
    intro r s h1 h2 f e91
    show ∃ τ, f_X6_lookAtReferences_b12_B fu k2 (f_X6_lookAtReferences_b12 fu k2 n) s (nI i) (nI r) = _ ∧ _
    unfold f_X6_lookAtReferences_b12_B f_X6_lookAtReferences_b71 f_X6_lookAtReferences_b77
    have Ss : sRel s N V := S.frm f (by decide)
    have i24 : inb (nI i) 24 = true := inb_t (by omega) (by decide)
    rw [gd_t i24, gd_t i24, gd_t i24, nI_clamp (by omega : i < 2 ^ 31), f 11 (by decide), hp i hi, f 4 (by decide), c2, nI_1]
    cases hpi : p i with
    | false =>
      rw [bF]
      refine ⟨s, rfl, f, fun h hh => ?_⟩
      rw [← dn_row (r := r) (fun e => Or.inl (by unfold lkB; rw [e, hpi]; rfl))]
      exact e91 h hh
    | true =>
      rw [bT]
      by_cases e : rcN σ0 i ≤ r
      · rw [if_pos (nI_le e (by omega))]
        refine ⟨s, rfl, f, fun h hh => ?_⟩
        rw [← dn_row (r := r) (fun e' => by
          by_cases q : h % 4 < r
          · exact Or.inr q
          · left
            unfold lkB
            rw [e', decide_eq_false (by omega : ¬ h % 4 < rcN σ0 i)]
            simp)]
        exact e91 h hh
      · have r4 : r < 4 := by omega
        obtain ⟨q1, q2⟩ := h4 (i := i) r4
        have hh : 4 * i + r < 96 := by omega
        have v : s 91 (4 * i + r) 0 = σ0 91 (4 * i + r) 0 := by rw [e91 _ hh, dn_at r4]; rfl
        have oF := hF (4 * i + r) hh
        rw [if_neg (nI_ge (by omega) (by omega)), gd_t (inb_t (by omega : r < 4) (by decide)), nI_clamp (by omega : r < 2 ^ 31), v, gd_t oF, gd_t (by decide), nI_1]
        by_cases z : σ0 91 (4 * i + r) 0 = 0
        · have lb : lkB σ0 p (4 * i + r) = true := by
            unfold lkB
            rw [q1, q2, hpi, decide_eq_true (by omega : r < rcN σ0 i), decide_eq_true z]; rfl
          have hp' : ∀ k, k < N → s 11 k 0 = bI (p k) := fun k hk => by rw [f 11 (by decide)]; exact hp k hk
          rw [if_pos z, bd_s (ftC_ok hfu Ss (by omega) (Ss.2 i (by omega) |>.2.2.2.2 r (by rw [f.rcNE' (by decide)]; omega)) (by rw [f 158 (by decide)]; exact hP) hp'), f.ftE (by decide)]
          refine ih (r + 1) _ (by omega) (by omega) (by (repeat (first | exact fr.rfl | assumption | refine fr_gU ?_ (by decide) | refine fr_gR ?_ (by decide)))) (fun h hh' => ?_)
          by_cases eh : h = 4 * i + r
          · subst eh; rw [gU_e, dn_at1 r4, lb]; rfl
          · rw [gU_i (by omega), dn_ne r4 eh]; exact e91 h hh'
        · rw [if_neg z]
          have lb : lkB σ0 p (4 * i + r) = false := by
            unfold lkB
            rw [decide_eq_false z]; simp
          refine ih (r + 1) s (by omega) (by omega) f (fun h hh' => ?_)
          by_cases eh : h = 4 * i + r
          · subst eh; rw [lb, Bool.and_false]; exact v
          · rw [dn_ne r4 eh]; exact e91 h hh'
theorem lookC_loop {fu : Nat} {σ0 : gSt} {N V P : Nat} {p : Nat → Bool} (hfu : 30 ≤ fu) (S : sRel σ0 N V) (hP : σ0 158 0 0 = nI P) (hp : ∀ k, k < N → σ0 11 k 0 = bI (p k)) (hF : ∀ h, h < 96 → okF (σ0 91 h 0) = true) : ∀ n i (s : gSt), i ≤ N → N < n + i → fr [91] σ0 s → (∀ h, h < 96 → s 91 h 0 = cond (dn i 0 h && lkB σ0 p h) (ftS σ0 N V P p (24 + h)) (σ0 91 h 0)) →
    ∃ τ, f_X6_lookAtReferences_b2 fu n s (nI i) = some (0, τ) ∧ fr [91] σ0 τ ∧ ∀ h, h < 96 → τ 91 h 0 = cond (dn N 0 h && lkB σ0 p h) (ftS σ0 N V P p (24 + h)) (σ0 91 h 0) := by
  have hN := S.hN
  intro n
  induction n with
  | zero => intro i s h1 h2; omega
  | succ n ih =>
    intro i s h1 h2 f e91
    show ∃ τ, f_X6_lookAtReferences_b2_B fu (f_X6_lookAtReferences_b2 fu n) s (nI i) = _ ∧ _
    unfold f_X6_lookAtReferences_b2_B
    rw [f 156 (by decide), S.nC]
    by_cases e : N ≤ i
    · have e' : N = i := by omega
      rw [if_pos (nI_le e (by omega))]
      subst e'
      exact ⟨s, rfl, f, e91⟩
    · rw [if_neg (nI_ge (by omega) (by omega))]
      obtain ⟨τ, t1, t2, t3⟩ := lookC_in (k2 := f_X6_lookAtReferences_b2 fu n) hfu S hP hp hF (by omega : i < N) fu 0 s (Nat.zero_le _) (by have := (S.rf (i := i) (by omega)).1; omega) f e91
      rw [show f_X6_lookAtReferences_b12 fu (f_X6_lookAtReferences_b2 fu n) fu s (nI i) 0 = _ from t1]
      exact ih (i + 1) τ (by omega) (by omega) t2 t3
/-- the facts that are told -/
def tfB (σ0 : gSt) (p : Nat → Bool) (i f : Nat) : Bool := p i && (!decide (σ0 2 i f = 0) && !decide (σ0 3 i f = σ0 155 0 f))
def dg (i g j f : Nat) : Bool := decide (j < i) || (decide (j = i) && decide (f < g))
theorem dg_iff {i g j f : Nat} : dg i g j f = true ↔ (j < i ∨ (j = i ∧ f < g)) := by simp [dg]
theorem dg_ne {i g j f : Nat} (e : ¬ (j = i ∧ f = g)) : dg i (g + 1) j f = dg i g j f := beq_of (by rw [dg_iff, dg_iff]; omega)
theorem dg_at {i g : Nat} : dg i g i g = false := by
  cases h : dg i g i g with
  | false => rfl
  | true => have := dg_iff.mp h; omega
theorem dg_at1 {i g : Nat} : dg i (g + 1) i g = true := dg_iff.mpr (by omega)
theorem dg_row {i g j f : Nat} {b : Bool} (hb : j = i → b = false ∨ f < g) : (dg i g j f && b) = (dg (i + 1) 0 j f && b) := by
  cases b with
  | false => simp
  | true =>
    rw [Bool.and_true, Bool.and_true]
    apply beq_of
    rw [dg_iff, dg_iff]
    by_cases e : j = i
    · have := (hb e).resolve_left (by decide)
      omega
    · omega
/-- how many errata a contributor has of an article -/
def erW (σ0 : gSt) (p : Nat → Bool) (c i g : Nat) : Nat := cond (decide (σ0 7 i 0 = nI c)) (cntN (tfB σ0 p i) g) 0
def erN (σ0 : gSt) (p : Nat → Bool) (c n : Nat) : Nat := sumN (fun i => erW σ0 p c i 8) n
theorem factsC_in {fu : Nat} {σ0 : gSt} {i x : Nat} {p : Nat → Bool} {k4 : gSt → Int32 → Int32 → Option (Int32 × gSt)} (hi : i < 24) (hp : σ0 11 i 0 = bI (p i)) (hw : σ0 7 i 0 = -1 ∨ ∃ c, c < 6 ∧ σ0 7 i 0 = nI c) : ∀ n g (s : gSt), g ≤ 8 → 8 < n + g → fr [3, 34] σ0 s → (∀ j f, f < 8 → s 3 j f = cond (dg i g j f && tfB σ0 p j f) (σ0 155 0 f) (σ0 3 j f)) → (∀ c, c < 6 → s 34 c 0 = σ0 34 c 0 + nI (erN σ0 p c i + erW σ0 p c i g)) →
    ∃ τ, f_X6_tellFacts_b22 fu k4 n s (nI (x + cntN (tfB σ0 p i) g)) (nI i) i (nI g) = k4 τ (nI (x + cntN (tfB σ0 p i) 8)) (nI (i + 1)) ∧ fr [3, 34] σ0 τ ∧ (∀ j f, f < 8 → τ 3 j f = cond (dg (i + 1) 0 j f && tfB σ0 p j f) (σ0 155 0 f) (σ0 3 j f)) ∧ ∀ c, c < 6 → τ 34 c 0 = σ0 34 c 0 + nI (erN σ0 p c (i + 1)) := by
  intro n
  induction n with
  | zero => intro g s h1 h2; omega
  | succ n ih =>
    intro g s h1 h2 f e3 e34
    show ∃ τ, f_X6_tellFacts_b22_B fu k4 (f_X6_tellFacts_b22 fu k4 n) s _ (nI i) i (nI g) = _ ∧ _
    unfold f_X6_tellFacts_b22_B f_X6_tellFacts_b88
    by_cases e : 8 ≤ g
    · have e' : g = 8 := by omega
      rw [if_pos (show (8 : Int32) ≤ nI g from nI_le (a := 8) e (by omega)), e', nI_1]
      subst e'
      refine ⟨s, rfl, f, fun j f' hf => ?_, fun c hc => ?_⟩
      · rw [← dg_row (g := 8) (fun _ => Or.inr hf)]; exact e3 j f' hf
      · rw [e34 c hc]; rfl
    · have g8 : inb (nI g) 8 = true := inb_t (by omega) (by decide)
      have v3 : s 3 i g = σ0 3 i g := by rw [e3 i g (by omega), dg_at]; rfl
      rw [if_neg (show ¬ (8 : Int32) ≤ nI g from nI_ge (b := 8) (by omega) (by decide)), f 11 (by decide), hp, f 2 (by decide), f 155 (by decide), nI_clamp (by omega : g < 2 ^ 31), gd_t g8, gd_t g8, gd_t g8, gd_t g8, gd_t g8, v3, nI_1]
      have tf : tfB σ0 p i g = (p i && (!decide (σ0 2 i g = 0) && !decide (σ0 3 i g = σ0 155 0 g))) := rfl
      have no : tfB σ0 p i g = false → ∃ τ, f_X6_tellFacts_b22 fu k4 n s (nI (x + cntN (tfB σ0 p i) g)) (nI i) i (nI (g + 1)) = k4 τ (nI (x + cntN (tfB σ0 p i) 8)) (nI (i + 1)) ∧ fr [3, 34] σ0 τ ∧ (∀ j f, f < 8 → τ 3 j f = cond (dg (i + 1) 0 j f && tfB σ0 p j f) (σ0 155 0 f) (σ0 3 j f)) ∧ ∀ c, c < 6 → τ 34 c 0 = σ0 34 c 0 + nI (erN σ0 p c (i + 1)) := fun ht => by
        have := ih (g + 1) s (by omega) (by omega) f (fun j f' hf => ?_) (fun c hc => ?_)
        · rw [cntN_s, ht] at this
          exact this
        · by_cases ej : j = i ∧ f' = g
          · obtain ⟨rfl, rfl⟩ := ej
            rw [ht, Bool.and_false]; exact v3
          · rw [dg_ne ej]; exact e3 j f' hf
        · have : erW σ0 p c i (g + 1) = erW σ0 p c i g := by unfold erW; rw [cntN_s, ht]; rfl
          rw [this]; exact e34 c hc
      cases hpi : p i with
      | false => rw [bF]; exact no (by rw [tf, hpi]; rfl)
      | true =>
        rw [bT]
        by_cases h2' : σ0 2 i g = 0
        · rw [if_pos h2']; exact no (by rw [tf, decide_eq_true h2']; simp)
        · rw [if_neg h2']
          by_cases h3 : σ0 3 i g = σ0 155 0 g
          · rw [if_pos h3]; exact no (by rw [tf, decide_eq_true h3]; simp)
          · have ht : tfB σ0 p i g = true := by rw [tf, hpi, decide_eq_false h2', decide_eq_false h3]; rfl
            rw [if_neg h3]
            unfold f_X6_addErratum f_X6_addErratum_b20
            simp only [gU_n, gU_e, Nat.reduceEqDiff, not_false_eq_true]
            rw [f 7 (by decide)]
            have st3 : ∀ (τ : gSt), (∀ j f', τ 3 j f' = gU s 3 i g (σ0 155 0 g) 3 j f') → ∀ j f', f' < 8 → τ 3 j f' = cond (dg i (g + 1) j f' && tfB σ0 p j f') (σ0 155 0 f') (σ0 3 j f') := fun τ h j f' hf => by
              rw [h]
              by_cases ej : j = i ∧ f' = g
              · obtain ⟨rfl, rfl⟩ := ej
                rw [gU_e, dg_at1, ht]; rfl
              · rw [gU_i ej, dg_ne ej]; exact e3 j f' hf
            rcases hw with h | ⟨c0, hc0, h⟩
            · rw [if_pos h, bd_s rfl, nI_1]
              have := ih (g + 1) (gU s 3 i g (σ0 155 0 g)) (by omega) (by omega) (by (repeat (first | exact fr.rfl | assumption | refine fr_gU ?_ (by decide) | refine fr_gR ?_ (by decide)))) (st3 _ (fun _ _ => rfl)) (fun c hc => ?_)
              · rw [cntN_s, ht] at this
                exact this
              · simp only [gU_n, gU_e, Nat.reduceEqDiff, not_false_eq_true]
                have : erW σ0 p c i (g + 1) = erW σ0 p c i g := by
                  unfold erW
                  rw [h, decide_eq_false (fun q => m1_ne (v := c) (by omega) q.symm)]; rfl
                rw [this]; exact e34 c hc
            · rw [h, if_neg (m1_ne (by omega)), gd_t (inb_t hc0 (by decide)), nI_clamp (by omega : c0 < 2 ^ 31), bd_s rfl, nI_1]
              have := ih (g + 1) (gU (gU s 3 i g (σ0 155 0 g)) 34 c0 0 (s 34 c0 0 + 1)) (by omega) (by omega) (by (repeat (first | exact fr.rfl | assumption | refine fr_gU ?_ (by decide) | refine fr_gR ?_ (by decide)))) (st3 _ (fun _ _ => by simp only [gU_n, gU_e, Nat.reduceEqDiff, not_false_eq_true])) (fun c hc => ?_)
              · rw [cntN_s, ht] at this
                exact this
              · by_cases ec : c = c0
                · subst ec
                  have : erW σ0 p c i (g + 1) = erW σ0 p c i g + 1 := by
                    unfold erW
                    rw [h, decide_eq_true rfl, cntN_s, ht]; rfl
                  rw [gU_e, this, e34 c hc, ← Nat.add_assoc, ← nI_add _ 1, ← Int32.add_assoc]; rfl
                · have : erW σ0 p c i (g + 1) = erW σ0 p c i g := by
                    unfold erW
                    rw [h, decide_eq_false (fun q => ec ((nI_eq (by omega) (by omega)).mp q).symm)]; rfl
                  rw [gU_i (by omega)]
                  simp only [gU_n, gU_e, Nat.reduceEqDiff, not_false_eq_true]
                  rw [this]; exact e34 c hc
def tfN (σ0 : gSt) (p : Nat → Bool) (n : Nat) : Nat := sumN (fun i => cntN (tfB σ0 p i) 8) n
theorem factsC_loop {fu : Nat} {σ0 : gSt} {N : Nat} {p : Nat → Bool} (hfu : 30 ≤ fu) (hN : N ≤ 24) (eN : σ0 156 0 0 = nI N) (hp : ∀ k, k < N → σ0 11 k 0 = bI (p k)) (hw : ∀ k, k < N → (σ0 7 k 0 = -1 ∨ ∃ c, c < 6 ∧ σ0 7 k 0 = nI c)) : ∀ n i (s : gSt), i ≤ N → N < n + i → fr [3, 34] σ0 s → (∀ j f, f < 8 → s 3 j f = cond (dg i 0 j f && tfB σ0 p j f) (σ0 155 0 f) (σ0 3 j f)) → (∀ c, c < 6 → s 34 c 0 = σ0 34 c 0 + nI (erN σ0 p c i)) →
    ∃ τ, f_X6_tellFacts_b4 fu n s (nI (tfN σ0 p i)) (nI i) = some (nI (tfN σ0 p N), τ) ∧ fr [3, 34] σ0 τ ∧ (∀ j f, f < 8 → τ 3 j f = cond (dg N 0 j f && tfB σ0 p j f) (σ0 155 0 f) (σ0 3 j f)) ∧ ∀ c, c < 6 → τ 34 c 0 = σ0 34 c 0 + nI (erN σ0 p c N) := by
  intro n
  induction n with
  | zero => intro i s h1 h2; omega
  | succ n ih =>
    intro i s h1 h2 f e3 e34
    show ∃ τ, f_X6_tellFacts_b4_B fu (f_X6_tellFacts_b4 fu n) s _ (nI i) = _ ∧ _
    unfold f_X6_tellFacts_b4_B
    rw [f 156 (by decide), eN]
    by_cases e : N ≤ i
    · have e' : N = i := by omega
      rw [if_pos (nI_le e (by omega))]
      subst e'
      exact ⟨s, rfl, f, e3, e34⟩
    · rw [if_neg (nI_ge (by omega) (by omega)), gd_t (inb_t (by omega : i < 24) (by decide)), nI_clamp (by omega : i < 2 ^ 31)]
      obtain ⟨τ, t1, t2, t3, t4⟩ := factsC_in (fu := fu) (x := tfN σ0 p i) (k4 := f_X6_tellFacts_b4 fu n) (by omega) (hp i (by omega)) (hw i (by omega)) fu 0 s (Nat.zero_le _) (by omega) f e3 (fun c hc => by
        have : erW σ0 p c i 0 = 0 := by unfold erW; cases decide (σ0 7 i 0 = nI c) <;> rfl
        rw [this, Nat.add_zero]; exact e34 c hc)
      rw [show f_X6_tellFacts_b22 fu (f_X6_tellFacts_b4 fu n) fu s (nI (tfN σ0 p i)) (nI i) i 0 = _ from t1]
      exact ih (i + 1) τ (by omega) (by omega) t2 t3 t4
/-- the promises that are told -/
def bkB (σ0 : gSt) (N V P : Nat) (p : Nat → Bool) (h : Nat) : Bool := decide (h % 4 < rcN σ0 (h / 4)) && brS σ0 N V P p (σ0 91 h 0) (24 + h)
theorem promC_in {fu : Nat} {σ0 : gSt} {N V P i x : Nat} {p : Nat → Bool} {k4 : gSt → Int32 → Int32 → Option (Int32 × gSt)} (hfu : 30 ≤ fu) (S : sRel σ0 N V) (hP : σ0 158 0 0 = nI P) (hp : ∀ k, k < N → σ0 11 k 0 = bI (p k)) (hF : ∀ h, h < 96 → okF (σ0 91 h 0) = true) (hi : i < N) : ∀ n r (s : gSt), r ≤ rcN σ0 i → rcN σ0 i < n + r → fr [91] σ0 s → (∀ h, h < 96 → s 91 h 0 = cond (dn i r h && bkB σ0 N V P p h) 4 (σ0 91 h 0)) →
    ∃ τ, f_X6_tellPromises_b14 fu k4 n s (nI (x + cntN (fun r => bkB σ0 N V P p (4 * i + r)) r)) (nI i) (nI r) = k4 τ (nI (x + cntN (fun r => bkB σ0 N V P p (4 * i + r)) (rcN σ0 i))) (nI (i + 1)) ∧ fr [91] σ0 τ ∧ ∀ h, h < 96 → τ 91 h 0 = cond (dn (i + 1) 0 h && bkB σ0 N V P p h) 4 (σ0 91 h 0) := by
  have hN := S.hN
  obtain ⟨c1, c2, c3, c4, c5⟩ := S.rf (i := i) (by omega)
  intro n
  induction n with
  | zero => intro r s h1 h2; omega
  | succ n ih =>
    intro r s h1 h2 f e91
    show ∃ τ, f_X6_tellPromises_b14_B fu k4 (f_X6_tellPromises_b14 fu k4 n) s _ (nI i) (nI r) = _ ∧ _
    unfold f_X6_tellPromises_b14_B f_X6_tellPromises_b60
    have Ss : sRel s N V := S.frm f (by decide)
    have i24 : inb (nI i) 24 = true := inb_t (by omega) (by decide)
    rw [gd_t i24, gd_t i24, nI_clamp (by omega : i < 2 ^ 31), f 4 (by decide), c2, nI_1]
    by_cases e : rcN σ0 i ≤ r
    · have e' : r = rcN σ0 i := by omega
      rw [if_pos (nI_le e (by omega)), ← e']
      refine ⟨s, rfl, f, fun h hh => ?_⟩
      rw [← dn_row (r := r) (fun e2 => by
        by_cases q : h % 4 < r
        · exact Or.inr q
        · left
          unfold bkB
          rw [e2, decide_eq_false (by omega : ¬ h % 4 < rcN σ0 i)]
          rfl)]
      exact e91 h hh
    · have r4 : r < 4 := by omega
      obtain ⟨q1, q2⟩ := h4 (i := i) r4
      have hh : 4 * i + r < 96 := by omega
      have v : s 91 (4 * i + r) 0 = σ0 91 (4 * i + r) 0 := by rw [e91 _ hh, dn_at r4]; rfl
      have hp' : ∀ k, k < N → s 11 k 0 = bI (p k) := fun k hk => by rw [f 11 (by decide)]; exact hp k hk
      have bk : bkB σ0 N V P p (4 * i + r) = brS σ0 N V P p (σ0 91 (4 * i + r) 0) (24 + (4 * i + r)) := by
        unfold bkB
        rw [q1, q2, decide_eq_true (by omega : r < rcN σ0 i), Bool.true_and]
      rw [if_neg (nI_ge (by omega) (by omega)), gd_t (inb_t (by omega : r < 4) (by decide)), nI_clamp (by omega : r < 2 ^ 31), bd_s (brC_ok hfu Ss (by omega) (Ss.2 i (by omega) |>.2.2.2.2 r (by rw [f.rcNE' (by decide)]; omega)) (by rw [f 158 (by decide)]; exact hP) hp' (by rw [v]; exact hF _ hh)), v, f.brE (by decide), ← bk, nI_1]
      cases hb : bkB σ0 N V P p (4 * i + r) with
      | false =>
        rw [bF]
        have := ih (r + 1) s (by omega) (by omega) f (fun h hh' => ?_)
        · rw [cntN_s, hb] at this
          exact this
        · by_cases eh : h = 4 * i + r
          · subst eh; rw [hb, Bool.and_false]; exact v
          · rw [dn_ne r4 eh]; exact e91 h hh'
      | true =>
        rw [bT, nI_1]
        have := ih (r + 1) (gU s 91 (4 * i + r) 0 4) (by omega) (by omega) (by (repeat (first | exact fr.rfl | assumption | refine fr_gU ?_ (by decide) | refine fr_gR ?_ (by decide)))) (fun h hh' => ?_)
        · rw [cntN_s, hb] at this
          exact this
        · by_cases eh : h = 4 * i + r
          · subst eh; rw [gU_e, dn_at1 r4, hb]; rfl
          · rw [gU_i (by omega), dn_ne r4 eh]; exact e91 h hh'
def bkN (σ0 : gSt) (N V P : Nat) (p : Nat → Bool) (n : Nat) : Nat := sumN (fun i => cntN (fun r => bkB σ0 N V P p (4 * i + r)) (rcN σ0 i)) n
theorem promC_loop {fu : Nat} {σ0 : gSt} {N V P : Nat} {p : Nat → Bool} (hfu : 30 ≤ fu) (S : sRel σ0 N V) (hP : σ0 158 0 0 = nI P) (hp : ∀ k, k < N → σ0 11 k 0 = bI (p k)) (hF : ∀ h, h < 96 → okF (σ0 91 h 0) = true) : ∀ n i (s : gSt), i ≤ N → N < n + i → fr [91] σ0 s → (∀ h, h < 96 → s 91 h 0 = cond (dn i 0 h && bkB σ0 N V P p h) 4 (σ0 91 h 0)) →
    ∃ τ, f_X6_tellPromises_b4 fu n s (nI (bkN σ0 N V P p i)) (nI i) = some (nI (bkN σ0 N V P p N), τ) ∧ fr [91] σ0 τ ∧ ∀ h, h < 96 → τ 91 h 0 = cond (dn N 0 h && bkB σ0 N V P p h) 4 (σ0 91 h 0) := by
  have hN := S.hN
  intro n
  induction n with
  | zero => intro i s h1 h2; omega
  | succ n ih =>
    intro i s h1 h2 f e91
    show ∃ τ, f_X6_tellPromises_b4_B fu (f_X6_tellPromises_b4 fu n) s _ (nI i) = _ ∧ _
    unfold f_X6_tellPromises_b4_B
    rw [f 156 (by decide), S.nC]
    by_cases e : N ≤ i
    · have e' : N = i := by omega
      rw [if_pos (nI_le e (by omega))]
      subst e'
      exact ⟨s, rfl, f, e91⟩
    · rw [if_neg (nI_ge (by omega) (by omega))]
      obtain ⟨τ, t1, t2, t3⟩ := promC_in (x := bkN σ0 N V P p i) (k4 := f_X6_tellPromises_b4 fu n) hfu S hP hp hF (by omega : i < N) fu 0 s (Nat.zero_le _) (by have := (S.rf (i := i) (by omega)).1; omega) f e91
      rw [show f_X6_tellPromises_b14 fu (f_X6_tellPromises_b4 fu n) fu s (nI (bkN σ0 N V P p i)) (nI i) 0 = _ from t1]
      exact ih (i + 1) τ (by omega) (by omega) t2 t3

/-! open, contradictions, readAnew, synopsis -/
theorem prB9 (σ : gSt) (x : Int32) : prB (gU σ 209 0 0 x) = prB σ := by
  funext i
  simp only [prB, gU_n, gU_e, Nat.reduceEqDiff, not_false_eq_true]
theorem cntN_f {p : Nat → Bool} : ∀ {n}, (∀ k, k < n → p k = false) → cntN p n = 0
  | 0, _ => rfl
  | n + 1, h => by rw [cntN_s, cntN_f fun k hk => h k (by omega), h n (by omega)]; rfl
theorem Inv.pC {σ : gSt} {N V P K G : Nat} (I : Inv σ N V P K G) : ∀ k, k < N → σ 11 k 0 = bI (prB σ k) := fun k hk => (I.2.2.2.1 k (by have := I.1.hN; omega)).1
theorem Inv.pM {σ : gSt} {N V P K G : Nat} (I : Inv σ N V P K G) : ∀ k, k < N → (σ 186 0 k = 3 ↔ prB σ k = true) := fun k hk => by
  rw [(I.2.2.2.1 k (by have := I.1.hN; omega)).2.2.2.2.1]; exact stV3
def brR (σ : gSt) (N V P i r : Nat) : Bool := brS σ N V P (prB σ) (σ 91 (4 * i + r) 0) (24 + (4 * i + r))
def rdB (σ : gSt) (x : Int32) (i : Nat) : Bool := !decide (x = 0) || decide (σ 10 i 0 = 0)
theorem readIn {fu : Nat} {σ : gSt} {N K i : Nat} {x : Int32} (A : aR σ N K i) : f_X0_isReadIn fu σ i x = some (bI (prB σ i && rdB σ x i), σ) := by
  unfold f_X0_isReadIn f_X0_isReadIn_b18 f_X0_isReadIn_b22 f_X0_isReadIn_b23 rdB
  rw [A.1]
  cases prB σ i
  · rw [bF]; rfl
  · rw [bT]
    by_cases h : x = 0
    · rw [if_pos h, decide_eq_true h]
      by_cases g : σ 10 i 0 = 0
      · rw [if_pos g, decide_eq_true g]; rfl
      · rw [if_neg g, decide_eq_false g]; rfl
    · rw [if_neg h, decide_eq_false h]; rfl
theorem brokC {fu : Nat} {σ : gSt} {N V P K G i r : Nat} (hfu : 30 ≤ fu) (I : Inv σ N V P K G) (hi : i < N) (hr : r < rcN σ i) : f_X6_isBroken fu σ (4 * i + r) = some (bI (brR σ N V P i r), σ) := by
  have hN := I.1.hN
  obtain ⟨c1, c2, c3, c4, c5⟩ := I.1.rf (i := i) (by omega)
  exact brC_ok hfu I.1 (by omega) (c5 r hr) I.2.2.1.2.1 I.pC ((I.2.2.2.2.1 i (by omega)).1 r (by omega)).1
theorem brokM {fu : Nat} {σ : gSt} {N V P K G i r : Nat} (hfu : 30 ≤ fu) (I : Inv σ N V P K G) (hi : i < N) (hr : r < rcN σ i) : f_X7_isOpen fu σ (nI i) (nI r) = some (bI (brR σ N V P i r), σ) := by
  have hN := I.1.hN
  obtain ⟨c1, c2, c3, c4, c5⟩ := I.1.rf (i := i) (by omega)
  rw [brM_ok hfu I.1 (by omega) (by omega) (c5 r hr) I.2.2.1.2.2 I.pM, ((I.2.2.2.2.1 i (by omega)).1 r (by omega)).2.1]
  rfl
theorem brR_np {σ : gSt} {N V P i r : Nat} (F : fRel σ) (hi : i < 24) (hr : r < 4) (h : prB σ i = false) : brR σ N V P i r = false := by
  have e : σ 91 (4 * i + r) 0 = 0 := ((F i hi).1 r hr).2.2.mpr (fun q => by rw [h] at q; exact absurd q.1 (by decide))
  unfold brR brS
  rw [e]; rfl
theorem cntBr_loop {fu : Nat} {σ : gSt} {N V P K G i : Nat} (hfu : 30 ≤ fu) (I : Inv σ N V P K G) (hi : i < N) : ∀ n r, r ≤ rcN σ i → rcN σ i < n + r → f_X6_countBroken_b4 fu n σ i (nI (cntN (brR σ N V P i) r)) (nI r) = some (nI (cntN (brR σ N V P i) (rcN σ i)), σ) := by
  have hN := I.1.hN
  obtain ⟨c1, c2, c3, c4, c5⟩ := I.1.rf (i := i) (by omega)
  intro n
  induction n with
  | zero => intro r h1 h2; omega
  | succ n ih =>
    intro r h1 h2
    show f_X6_countBroken_b4_B fu (f_X6_countBroken_b4 fu n) σ i _ (nI r) = _
    unfold f_X6_countBroken_b4_B f_X6_countBroken_b28
    rw [c2]
    by_cases e : rcN σ i ≤ r
    · have e' : rcN σ i = r := by omega
      rw [if_pos (nI_le e (by omega)), e']
    · rw [if_neg (nI_ge (by omega) (by omega)), gd_t (inb_t (by omega : r < 4) (by decide)), nI_clamp (by omega : r < 2 ^ 31), bd_s (brokC hfu I hi (by omega)), ← ih (r + 1) (by omega) (by omega), cntN_s]
      cases brR σ N V P i r with
      | false => rw [bF, nI_1]; rfl
      | true => rw [bT, nI_1, nI_1]; rfl
def opT (σ : gSt) (N V P : Nat) (x : Int32) (i : Nat) : Nat := cond (rdB σ x i) (cntN (brR σ N V P i) (rcN σ i)) 0
theorem openC_loop {fu : Nat} {σ : gSt} {N V P K G : Nat} {x : Int32} (hfu : 30 ≤ fu) (I : Inv σ N V P K G) : ∀ n i, i ≤ N → N < n + i → f_X6_open_b4 fu n σ x (nI (sumN (opT σ N V P x) i)) (nI i) = some (nI (sumN (opT σ N V P x) N), σ) := by
  have hN := I.1.hN
  intro n
  induction n with
  | zero => intro i h1 h2; omega
  | succ n ih =>
    intro i h1 h2
    show f_X6_open_b4_B fu (f_X6_open_b4 fu n) σ x _ (nI i) = _
    unfold f_X6_open_b4_B f_X6_open_b38
    rw [I.1.nC]
    by_cases e : N ≤ i
    · have e' : N = i := by omega
      rw [if_pos (nI_le e (by omega)), e']
    · have hi : i < N := by omega
      have A := I.2.2.2.1 i (by omega)
      rw [if_neg (nI_ge (by omega) (by omega)), gd_t (inb_t (by omega : i < 24) (by decide)), nI_clamp (by omega : i < 2 ^ 31), bd_s (readIn A), ← ih (i + 1) (by omega) (by omega), sumN_s, nI_1]
      cases hp : prB σ i with
      | false =>
        have z : opT σ N V P x i = 0 := by
          unfold opT
          have : cntN (brR σ N V P i) (rcN σ i) = 0 := cntN_f (fun r hr => brR_np I.2.2.2.2.1 (by omega) (by have := (I.1.rf (i := i) (by omega)).1; omega) hp)
          rw [this]; cases rdB σ x i <;> rfl
        rw [z, show bI (false && rdB σ x i) = bI false from rfl, bF]; rfl
      | true =>
        cases hr : rdB σ x i with
        | false =>
          have z : opT σ N V P x i = 0 := by unfold opT; rw [hr]; rfl
          rw [z, show bI (true && false) = bI false from rfl, bF]; rfl
        | true =>
          have z : opT σ N V P x i = cntN (brR σ N V P i) (rcN σ i) := by unfold opT; rw [hr]; rfl
          rw [z, show bI (true && true) = bI true from rfl, bT, gd_t (inb_t (by omega : i < 24) (by decide)), bd_s (show f_X6_countBroken fu σ i = _ from cntBr_loop hfu I hi fu 0 (Nat.zero_le _) (by have := (I.1.rf (i := i) (by omega)).1; omega)), nI_add]
theorem openM_in {fu : Nat} {σ : gSt} {N V P K G i c : Nat} {x : Int32} {k4 : gSt → Int32 → Int32 → Int32 → Option (Int32 × gSt)} (hfu : 30 ≤ fu) (I : Inv σ N V P K G) (hi : i < N) (hr : rdB σ x i = true) : ∀ n r, r ≤ rcN σ i → rcN σ i < n + r → f_X7_opens_b15 fu k4 n σ x (nI (c + cntN (brR σ N V P i) r)) (nI i) (nI r) = k4 σ x (nI (c + cntN (brR σ N V P i) (rcN σ i))) (nI (i + 1)) := by
  have hN := I.1.hN
  obtain ⟨c1, c2, c3, c4, c5⟩ := I.1.rf (i := i) (by omega)
  have A := I.2.2.2.1 i (by omega)
  intro n
  induction n with
  | zero => intro r h1 h2; omega
  | succ n ih =>
    intro r h1 h2
    show f_X7_opens_b15_B fu k4 (f_X7_opens_b15 fu k4 n) σ x _ (nI i) (nI r) = _
    unfold f_X7_opens_b15_B f_X7_opens_b63
    rw [gd_t (inb_t (by omega : i < 24) (by decide)), nI_clamp (by omega : i < 2 ^ 31), c3]
    by_cases e : rcN σ i ≤ r
    · have e' : rcN σ i = r := by omega
      rw [if_pos (nI_le e (by omega)), e', nI_1]
    · rw [if_neg (nI_ge (by omega) (by omega)), A.2.2.2.1]
      have body : f_X7_opens_b39 fu k4 (f_X7_opens_b15 fu k4 n) σ x (nI (c + cntN (brR σ N V P i) r)) (nI i) (nI r) = k4 σ x (nI (c + cntN (brR σ N V P i) (rcN σ i))) (nI (i + 1)) := by
        unfold f_X7_opens_b39 f_X7_opens_b55
        rw [bd_s (brokM hfu I hi (by omega)), ← ih (r + 1) (by omega) (by omega), cntN_s, nI_1]
        cases brR σ N V P i r with
        | false => rw [bF, ← nI_0, nI_add]; rfl
        | true => rw [bT, show (1 : Int32) = nI 1 from rfl, nI_add]; rfl
      rw [gd_t (inb_t (by omega : i < 24) (by decide))]
      by_cases h : x = 0
      · have g : σ 10 i 0 = 0 := by
          unfold rdB at hr
          rw [decide_eq_true h] at hr
          simpa using hr
        rw [if_pos h, if_pos g]; exact body
      · rw [if_neg h]; exact body
theorem openM_loop {fu : Nat} {σ : gSt} {N V P K G : Nat} {x : Int32} (hfu : 30 ≤ fu) (I : Inv σ N V P K G) : ∀ n i, i ≤ N → N < n + i → f_X7_opens_b4 fu n σ x (nI (sumN (opT σ N V P x) i)) (nI i) = some (nI (sumN (opT σ N V P x) N), σ) := by
  have hN := I.1.hN
  intro n
  induction n with
  | zero => intro i h1 h2; omega
  | succ n ih =>
    intro i h1 h2
    show f_X7_opens_b4_B fu (f_X7_opens_b4 fu n) σ x _ (nI i) = _
    unfold f_X7_opens_b4_B
    rw [I.1.nM]
    by_cases e : N ≤ i
    · have e' : N = i := by omega
      rw [if_pos (nI_le e (by omega)), e']
    · have hi : i < N := by omega
      obtain ⟨c1, c2, c3, c4, c5⟩ := I.1.rf (i := i) (by omega)
      rw [if_neg (nI_ge (by omega) (by omega)), ← ih (i + 1) (by omega) (by omega), sumN_s]
      cases hr : rdB σ x i with
      | true =>
        have z : opT σ N V P x i = cntN (brR σ N V P i) (rcN σ i) := by unfold opT; rw [hr]; rfl
        rw [z]
        exact openM_in (c := sumN (opT σ N V P x) i) hfu I hi hr fu 0 (Nat.zero_le _) (by omega)
      | false =>
        have z : opT σ N V P x i = 0 := by unfold opT; rw [hr]; rfl
        have A := I.2.2.2.1 i (by omega)
        have h : x = 0 ∧ ¬ σ 10 i 0 = 0 := by
          unfold rdB at hr
          simpa using hr
        obtain ⟨f1, rfl⟩ : ∃ f1, fu = f1 + 1 := ⟨fu - 1, by omega⟩
        rw [z, Nat.add_zero]
        show f_X7_opens_b15_B (f1 + 1) (f_X7_opens_b4 (f1 + 1) n) (f_X7_opens_b15 (f1 + 1) (f_X7_opens_b4 (f1 + 1) n) f1) σ x _ (nI i) 0 = _
        unfold f_X7_opens_b15_B f_X7_opens_b63
        rw [gd_t (inb_t (by omega : i < 24) (by decide)), nI_clamp (by omega : i < 2 ^ 31), c3, A.2.2.2.1, if_pos h.1, gd_t (inb_t (by omega : i < 24) (by decide)), if_neg h.2, nI_1]
        split <;> rfl
theorem opT9 {σ : gSt} {N V P : Nat} {x y : Int32} : opT (gU σ 209 0 0 y) N V P x = opT σ N V P x := by
  funext i
  have h := fr209 σ y
  unfold opT brR
  simp only [h.brE (d := by decide), h.rcNE (d := by decide), prB9, rdB, gU_n, gU_e, Nat.reduceEqDiff, not_false_eq_true]
theorem openBoth {fu : Nat} {σ : gSt} {N V P K G : Nat} {x : Int32} (hfu : 30 ≤ fu) (I : Inv σ N V P K G) : f_X6_open fu σ x = some (nI (sumN (opT σ N V P x) N), σ) ∧ f_X7_opens fu (gU σ 209 0 0 0) x = some (nI (sumN (opT σ N V P x) N), gU σ 209 0 0 0) := by
  have hN := I.1.hN
  refine ⟨openC_loop hfu I fu 0 (Nat.zero_le _) (by omega), ?_⟩
  have h := openM_loop (x := x) hfu (I.thr 0 0 0) fu 0 (Nat.zero_le _) (by omega)
  rw [opT9] at h
  exact h
theorem step_open {fu : Nat} {σ : gSt} {N V P K G : Nat} {x : Int32} (hfu : 30 ≤ fu) (I : Inv σ N V P K G) : stepP (f_X6_open fu σ x) (fun σ1 => f_X7_open fu σ1 x) G := by
  obtain ⟨h1, h2⟩ := openBoth (x := x) hfu I
  refine ⟨_, _, gU σ 209 0 0 0, h1, ?_, N, V, P, K, G, I.thr 0 0 0, by omega⟩
  show f_X7_open fu σ x = _
  unfold f_X7_open
  rw [bd_s h2]
/-- the reading of one fact, article by article: read before, the value read, contradicted -/
def cfS (σ : gSt) (x : Int32) (f : Nat) : Nat → Bool × Int32 × Bool
  | 0 => (false, 0, false)
  | n + 1 => cond (prB σ n && (rdB σ x n && !decide (σ 2 n f = 0))) (true, σ 3 n f, (cfS σ x f n).2.2 || ((cfS σ x f n).1 && !decide (σ 3 n f = (cfS σ x f n).2.1))) (cfS σ x f n)
theorem cfS_mono {σ : gSt} {x : Int32} {f i : Nat} (h : (cfS σ x f i).2.2 = true) : ∀ m, i ≤ m → (cfS σ x f m).2.2 = true := by
  intro m
  induction m with
  | zero => intro hm; have : i = 0 := by omega
            subst this; exact h
  | succ m ih =>
    intro hm
    by_cases e : i = m + 1
    · subst e; exact h
    · have q := ih (by omega)
      simp only [cfS]
      cases prB σ m && (rdB σ x m && !decide (σ 2 m f = 0)) with
      | false => exact q
      | true => simp only [cond_true, q, Bool.true_or]
theorem contC_loop {fu : Nat} {σ : gSt} {N V P K G f : Nat} {x : Int32} (I : Inv σ N V P K G) (hf : f < 8) : ∀ n i, i ≤ N → N < n + i → (cfS σ x f i).2.2 = false → f_X6_isContradicted_b8 fu n σ (nI f) x (bI (cfS σ x f i).1) (cfS σ x f i).2.1 (nI i) = some (bI (cfS σ x f N).2.2, σ) := by
  have hN := I.1.hN
  intro n
  induction n with
  | zero => intro i h1 h2; omega
  | succ n ih =>
    intro i h1 h2 h3
    show f_X6_isContradicted_b8_B fu (f_X6_isContradicted_b8 fu n) σ (nI f) x _ _ (nI i) = _
    unfold f_X6_isContradicted_b8_B f_X6_isContradicted_b63 f_X6_isContradicted_b74
    rw [I.1.nC]
    by_cases e : N ≤ i
    · have e' : N = i := by omega
      rw [if_pos (nI_le e (by omega)), e', h3]; rfl
    · have hi : i < N := by omega
      have A := I.2.2.2.1 i (by omega)
      have inf : inb (nI f) 8 = true := inb_t hf (by decide)
      rw [if_neg (nI_ge (by omega) (by omega)), gd_t (inb_t (by omega : i < 24) (by decide)), nI_clamp (by omega : i < 2 ^ 31), nI_clamp (by omega : f < 2 ^ 31), bd_s (readIn A), nI_1]
      have skip : (prB σ i && (rdB σ x i && !decide (σ 2 i f = 0))) = false → f_X6_isContradicted_b8 fu n σ (nI f) x (bI (cfS σ x f i).1) (cfS σ x f i).2.1 (nI (i + 1)) = some (bI (cfS σ x f N).2.2, σ) := fun hs => by
        have e1 : cfS σ x f (i + 1) = cfS σ x f i := by simp only [cfS, hs, cond_false]
        have := ih (i + 1) (by omega) (by omega) (by rw [e1]; exact h3)
        rw [e1] at this
        exact this
      cases hp : prB σ i && rdB σ x i with
      | false =>
        rw [bF]
        exact skip (by rw [← Bool.and_assoc, hp]; rfl)
      | true =>
        rw [bT, gd_t inf]
        by_cases hu : σ 2 i f = 0
        · rw [if_pos hu]
          exact skip (by rw [decide_eq_true hu]; simp)
        · rw [if_neg hu]
          have e1 : cfS σ x f (i + 1) = (true, σ 3 i f, (cfS σ x f i).2.2 || ((cfS σ x f i).1 && !decide (σ 3 i f = (cfS σ x f i).2.1))) := by
            simp only [cfS]
            rw [← Bool.and_assoc, hp, decide_eq_false hu]; rfl
          have go : (cfS σ x f (i + 1)).2.2 = false → f_X6_isContradicted_b8 fu n σ (nI f) x 1 (σ 3 i f) (nI (i + 1)) = some (bI (cfS σ x f N).2.2, σ) := fun hs => by
            have := ih (i + 1) (by omega) (by omega) hs
            rw [e1] at this
            exact this
          cases hh : (cfS σ x f i).1 with
          | false =>
            rw [bF, gd_t inf]
            exact go (by rw [e1, h3, hh]; rfl)
          | true =>
            rw [bT, gd_t inf]
            by_cases hv : σ 3 i f = (cfS σ x f i).2.1
            · rw [if_pos hv, gd_t inf]
              exact go (by rw [e1, h3, hh, decide_eq_true hv]; rfl)
            · rw [if_neg hv, cfS_mono (i := i + 1) (by rw [e1, h3, hh, decide_eq_false hv]; rfl) N (by omega)]; rfl
theorem contM_in {fu : Nat} {σ : gSt} {N V P K G f c : Nat} {x : Int32} {k4 : gSt → Int32 → Int32 → Int32 → Option (Int32 × gSt)} (I : Inv σ N V P K G) (hf : f < 8) : ∀ n i, i ≤ N → N < n + i → f_X7_contradicts_b22 fu k4 n σ x (nI c) (nI f) (bI (cfS σ x f i).1) (bI (cfS σ x f i).2.2) (cfS σ x f i).2.1 (nI i) = k4 σ x (nI (c + cond (cfS σ x f N).2.2 1 0)) (nI (f + 1)) := by
  have hN := I.1.hN
  intro n
  induction n with
  | zero => intro i h1 h2; omega
  | succ n ih =>
    intro i h1 h2
    show f_X7_contradicts_b22_B fu k4 (f_X7_contradicts_b22 fu k4 n) σ x (nI c) (nI f) _ _ _ (nI i) = _
    unfold f_X7_contradicts_b22_B f_X7_contradicts_b75 f_X7_contradicts_b97 f_X7_contradicts_b101 f_X7_contradicts_b102 f_X7_contradicts_b116 f_X7_contradicts_b133
    rw [I.1.nM]
    by_cases e : N ≤ i
    · have e' : N = i := by omega
      rw [if_pos (nI_le e (by omega)), e', nI_1]
      cases (cfS σ x f i).2.2 with
      | false => rw [bF, ← nI_0, nI_add]; rfl
      | true => rw [bT, show (1 : Int32) = nI 1 from rfl, nI_add]; rfl
    · have hi : i < N := by omega
      obtain ⟨a1, a2, a3, a4, a5, a6, a7, a8, a9, a10⟩ := I.2.2.2.1 i (by omega)
      obtain ⟨g1, g2, g3⟩ := (I.2.2.2.2.1 i (by omega)).2 f hf
      have in192 : inb (nI (8 * i + f)) 192 = true := inb_t (by omega) (by decide)
      rw [if_neg (nI_ge (by omega) (by omega)), gd_t (inb_t (by omega : i < 24) (by decide)), nI8, nI_clamp (by omega : i < 2 ^ 31), nI_clamp (by omega : 8 * i + f < 2 ^ 31), a4, g2, g3, nI_1]
      have skip : (prB σ i && (rdB σ x i && !decide (σ 2 i f = 0))) = false → f_X7_contradicts_b22 fu k4 n σ x (nI c) (nI f) (bI (cfS σ x f i).1) (bI (cfS σ x f i).2.2) (cfS σ x f i).2.1 (nI (i + 1)) = k4 σ x (nI (c + cond (cfS σ x f N).2.2 1 0)) (nI (f + 1)) := fun hs => by
        have e1 : cfS σ x f (i + 1) = cfS σ x f i := by simp only [cfS, hs, cond_false]
        have := ih (i + 1) (by omega) (by omega)
        rw [e1] at this
        exact this
      cases hp : prB σ i with
      | false =>
        rw [if_neg (fun q => by rw [(I.pM i hi).mp q] at hp; cases hp)]
        exact skip (by rw [hp]; rfl)
      | true =>
        rw [if_pos ((I.pM i hi).mpr hp), gd_t in192]
        by_cases hu : σ 2 i f = 0
        · rw [if_pos hu]
          exact skip (by rw [decide_eq_true hu]; simp)
        · rw [if_neg hu]
          cases hr : rdB σ x i with
          | false =>
            have h : x = 0 ∧ ¬ σ 10 i 0 = 0 := by
              unfold rdB at hr
              simpa using hr
            rw [if_pos h.1, gd_t (inb_t (by omega : i < 24) (by decide)), if_neg h.2]
            exact skip (by rw [hr]; simp)
          | true =>
            have e1 : cfS σ x f (i + 1) = (true, σ 3 i f, (cfS σ x f i).2.2 || ((cfS σ x f i).1 && !decide (σ 3 i f = (cfS σ x f i).2.1))) := by
              simp only [cfS]
              rw [hp, hr, decide_eq_false hu]; rfl
            have go := ih (i + 1) (by omega) (by omega)
            rw [e1] at go
            have body : (if bI (cfS σ x f i).2.2 = 0 then (if bI (cfS σ x f i).1 = 0 then gd (inb (nI (8 * i + f)) 192) (f_X7_contradicts_b22 fu k4 n σ x (nI c) (nI f) 1 0 (σ 3 i f) (nI (i + 1))) else gd (inb (nI (8 * i + f)) 192) (if σ 3 i f = (cfS σ x f i).2.1 then gd (inb (nI (8 * i + f)) 192) (f_X7_contradicts_b22 fu k4 n σ x (nI c) (nI f) 1 0 (σ 3 i f) (nI (i + 1))) else gd (inb (nI (8 * i + f)) 192) (f_X7_contradicts_b22 fu k4 n σ x (nI c) (nI f) 1 1 (σ 3 i f) (nI (i + 1))))) else gd (inb (nI (8 * i + f)) 192) (f_X7_contradicts_b22 fu k4 n σ x (nI c) (nI f) 1 1 (σ 3 i f) (nI (i + 1)))) = k4 σ x (nI (c + cond (cfS σ x f N).2.2 1 0)) (nI (f + 1)) := by
              rw [in192]
              cases hc : (cfS σ x f i).2.2 with
              | true =>
                rw [bT, gd_true]
                rw [hc, Bool.true_or] at go
                exact go
              | false =>
                rw [hc, Bool.false_or] at go
                rw [bF]
                cases hh : (cfS σ x f i).1 with
                | false =>
                  rw [bF, gd_true]
                  rw [hh] at go
                  exact go
                | true =>
                  rw [bT, gd_true, gd_true, gd_true]
                  rw [hh, Bool.true_and] at go
                  by_cases hv : σ 3 i f = (cfS σ x f i).2.1
                  · rw [if_pos hv]
                    rw [decide_eq_true hv] at go
                    exact go
                  · rw [if_neg hv]
                    rw [decide_eq_false hv] at go
                    exact go
            by_cases h : x = 0
            · have g : σ 10 i 0 = 0 := by
                unfold rdB at hr
                rw [decide_eq_true h] at hr
                simpa using hr
              rw [if_pos h, gd_t (inb_t (by omega : i < 24) (by decide)), if_pos g]; exact body
            · rw [if_neg h]; exact body
def ctB (σ : gSt) (N : Nat) (x : Int32) (f : Nat) : Bool := (cfS σ x f N).2.2
theorem contsC_loop {fu : Nat} {σ : gSt} {N V P K G : Nat} {x : Int32} (hfu : 30 ≤ fu) (I : Inv σ N V P K G) : ∀ n f, f ≤ 8 → 8 < n + f → f_X6_contradictions_b4 fu n σ x (nI (cntN (ctB σ N x) f)) (nI f) = some (nI (cntN (ctB σ N x) 8), σ) := by
  have hN := I.1.hN
  intro n
  induction n with
  | zero => intro f h1 h2; omega
  | succ n ih =>
    intro f h1 h2
    show f_X6_contradictions_b4_B fu (f_X6_contradictions_b4 fu n) σ x _ (nI f) = _
    unfold f_X6_contradictions_b4_B f_X6_contradictions_b22
    by_cases e : 8 ≤ f
    · have e' : f = 8 := by omega
      rw [if_pos (show (8 : Int32) ≤ nI f from nI_le (a := 8) e (by omega)), e']
    · rw [if_neg (show ¬ (8 : Int32) ≤ nI f from nI_ge (b := 8) (by omega) (by decide)), bd_s (show f_X6_isContradicted fu σ (nI f) x = _ from contC_loop I (by omega) fu 0 (Nat.zero_le _) (by omega) rfl), ← ih (f + 1) (by omega) (by omega), cntN_s]
      show (if bI (ctB σ N x f) = 0 then _ else _) = _
      cases ctB σ N x f with
      | false => rw [bF, nI_1]; rfl
      | true => rw [bT, nI_1, nI_1]; rfl
theorem contsM_loop {fu : Nat} {σ : gSt} {N V P K G : Nat} {x : Int32} (hfu : 30 ≤ fu) (I : Inv σ N V P K G) : ∀ n f, f ≤ 8 → 8 < n + f → f_X7_contradicts_b4 fu n σ x (nI (cntN (ctB σ N x) f)) (nI f) = some (nI (cntN (ctB σ N x) 8), σ) := by
  have hN := I.1.hN
  intro n
  induction n with
  | zero => intro f h1 h2; omega
  | succ n ih =>
    intro f h1 h2
    show f_X7_contradicts_b4_B fu (f_X7_contradicts_b4 fu n) σ x _ (nI f) = _
    unfold f_X7_contradicts_b4_B
    by_cases e : 8 ≤ f
    · have e' : f = 8 := by omega
      rw [if_pos (show (8 : Int32) ≤ nI f from nI_le (a := 8) e (by omega)), e']
    · rw [if_neg (show ¬ (8 : Int32) ≤ nI f from nI_ge (b := 8) (by omega) (by decide)), ← ih (f + 1) (by omega) (by omega)]
      exact contM_in (c := cntN (ctB σ N x) f) (k4 := f_X7_contradicts_b4 fu n) I (by omega) fu 0 (Nat.zero_le _) (by omega)
theorem cfS9 {σ : gSt} {x y : Int32} {f : Nat} : ∀ n, cfS (gU σ 209 0 0 y) x f n = cfS σ x f n := by
  intro n
  induction n with
  | zero => rfl
  | succ n ih => simp only [cfS, ih, prB9, rdB, gU_n, gU_e, Nat.reduceEqDiff, not_false_eq_true]
theorem contBoth {fu : Nat} {σ : gSt} {N V P K G : Nat} {x : Int32} (hfu : 30 ≤ fu) (I : Inv σ N V P K G) : f_X6_contradictions fu σ x = some (nI (cntN (ctB σ N x) 8), σ) ∧ f_X7_contradicts fu (gU σ 209 0 0 0) x = some (nI (cntN (ctB σ N x) 8), gU σ 209 0 0 0) := by
  refine ⟨contsC_loop hfu I fu 0 (Nat.zero_le _) (by omega), ?_⟩
  have h := contsM_loop (x := x) hfu (I.thr 0 0 0) fu 0 (Nat.zero_le _) (by omega)
  have e : ctB (gU σ 209 0 0 0) N x = ctB σ N x := by
    funext f
    simp only [ctB, cfS9]
  rw [e] at h
  exact h
theorem step_contradictions {fu : Nat} {σ : gSt} {N V P K G : Nat} {x : Int32} (hfu : 30 ≤ fu) (I : Inv σ N V P K G) : stepP (f_X6_contradictions fu σ x) (fun σ1 => f_X7_contradictions fu σ1 x) G := by
  obtain ⟨h1, h2⟩ := contBoth (x := x) hfu I
  refine ⟨_, _, gU σ 209 0 0 0, h1, ?_, N, V, P, K, G, I.thr 0 0 0, by omega⟩
  show f_X7_contradictions fu σ x = _
  unfold f_X7_contradictions
  rw [bd_s h2]
theorem step_readAnew {fu : Nat} {σ : gSt} {N V P K G : Nat} {x : Int32} (hfu : 30 ≤ fu) (I : Inv σ N V P K G) : stepP (f_X6_readAnew fu σ x) (fun σ1 => f_X7_readAnew fu σ1 x) G := by
  obtain ⟨h1, h2⟩ := contBoth (x := x) hfu I
  obtain ⟨g1, g2⟩ := openBoth (x := x) hfu I
  refine ⟨(100 : Int32) * nI (sumN (opT σ N V P x) N) + nI (cntN (ctB σ N x) 8), σ, gU σ 209 0 0 0, ?_, ?_, N, V, P, K, G, I.thr 0 0 0, by omega⟩
  · unfold f_X6_readAnew
    rw [bd_s g1, bd_s h1]
  · show f_X7_readAnew fu σ x = _
    unfold f_X7_readAnew
    rw [bd_s g2, bd_s h2]
/-- whether a subject stands under another -/
def wiS (σ : gSt) (x : Int32) : Nat → Int32 → Bool
  | 0, _ => false
  | n + 1, y => if y = -1 then false else if y = x then true else wiS σ x n (σ 154 0 y.toNatClampNeg)
theorem withC_loop {fu : Nat} {σ : gSt} {x : Int32} (u : uRel σ) : ∀ n m i y, i + m = 10 → m < n → (y = -1 ∨ ∃ a, a < 10 ∧ y = nI a) → f_X6_isWithin_b5 fu n σ x y (nI i) = some (bI (wiS σ x m y), σ) := by
  intro n
  induction n with
  | zero => intro m i y h1 h2; omega
  | succ n ih =>
    intro m i y h1 h2 h3
    show f_X6_isWithin_b5_B fu (f_X6_isWithin_b5 fu n) σ x y (nI i) = _
    unfold f_X6_isWithin_b5_B f_X6_isWithin_b37
    cases m with
    | zero => rw [if_pos (show (10 : Int32) ≤ nI i from nI_le (a := 10) (by omega) (by omega))]; rfl
    | succ m =>
      rw [if_neg (show ¬ (10 : Int32) ≤ nI i from nI_ge (b := 10) (by omega) (by decide))]
      simp only [wiS]
      by_cases e1 : y = -1
      · rw [if_pos e1, if_pos e1]; rfl
      · rw [if_neg e1, if_neg e1]
        by_cases e2 : y = x
        · rw [if_pos e2, if_pos e2]; rfl
        · rw [if_neg e2, if_neg e2]
          obtain ⟨a, ha, rfl⟩ := h3.resolve_left e1
          rw [gd_t (inb_t (by omega : a < 10) (by decide)), nI_clamp (by omega : a < 2 ^ 31), nI_1]
          refine ih m (i + 1) _ (by omega) (by omega) ?_
          rcases (u.1 a ha).2 with h | ⟨b, hb, h⟩
          · exact Or.inl h
          · exact Or.inr ⟨b, by omega, h⟩
theorem withM_loop {fu : Nat} {σ : gSt} {x : Int32} {k25 : gSt → Int32 → Int32 → Int32 → Option (Int32 × gSt)} {c : Int32} {i : Int32} (u : uRel σ) (hx : ¬ x = -1) : ∀ s n m y, s < n → s ≤ m → s < 11 → (y = -1 ∨ ∃ a, a < s ∧ y = nI a) → ∃ e, f_X7_synopsis_b41 fu k25 n σ x c i y = f_X7_synopsis_b65 fu k25 σ x c i e ∧ (e = x ↔ wiS σ x m y = true) := by
  intro s
  induction s with
  | zero =>
    intro n m y h1 h2 _ h3
    obtain ⟨n, rfl⟩ : ∃ k, n = k + 1 := ⟨n - 1, by omega⟩
    have e : y = -1 := by
      rcases h3 with h | ⟨a, ha, -⟩
      · exact h
      · omega
    refine ⟨y, ?_, ?_⟩
    · show f_X7_synopsis_b41_B fu k25 (f_X7_synopsis_b41 fu k25 n) σ x c i y = _
      unfold f_X7_synopsis_b41_B
      rw [if_pos e]
    · cases m with
      | zero => exact ⟨fun q => absurd (q.symm.trans e) hx, fun q => by cases q⟩
      | succ m =>
        simp only [wiS, if_pos e]
        exact ⟨fun q => absurd (q.symm.trans e) hx, fun q => by cases q⟩
  | succ s ih =>
    intro n m y h1 h2 h4 h3
    obtain ⟨n, rfl⟩ : ∃ k, n = k + 1 := ⟨n - 1, by omega⟩
    obtain ⟨m, rfl⟩ : ∃ k, m = k + 1 := ⟨m - 1, by omega⟩
    show ∃ e, f_X7_synopsis_b41_B fu k25 (f_X7_synopsis_b41 fu k25 n) σ x c i y = _ ∧ _
    unfold f_X7_synopsis_b41_B
    simp only [wiS]
    by_cases e1 : y = -1
    · rw [if_pos e1, if_pos e1]
      exact ⟨y, rfl, fun q => absurd (q.symm.trans e1) hx, fun q => by cases q⟩
    · rw [if_neg e1, if_neg e1]
      by_cases e2 : y = x
      · rw [if_pos e2, if_pos e2]
        exact ⟨y, rfl, fun _ => rfl, fun _ => e2⟩
      · rw [if_neg e2, if_neg e2]
        obtain ⟨a, ha, rfl⟩ := h3.resolve_left e1
        rw [gd_t (inb_t (by omega : a < 10) (by decide)), nI_clamp (by omega : a < 2 ^ 31), (u.1 a (by omega)).1]
        refine ih n m _ (by omega) (by omega) (by omega) ?_
        rcases (u.1 a (by omega)).2 with h | ⟨b, hb, h⟩
        · exact Or.inl h
        · exact Or.inr ⟨b, by omega, h⟩
def syB (σ : gSt) (x : Int32) (i : Nat) : Bool := prB σ i && wiS σ x 10 (σ 5 i 0)
theorem synC_loop {fu : Nat} {σ : gSt} {N V P K G : Nat} {x : Int32} (hfu : 30 ≤ fu) (I : Inv σ N V P K G) : ∀ n i, i ≤ N → N < n + i → f_X6_synopsis_b8 fu n σ x (nI (cntN (syB σ x) i)) (nI i) = some (0, nI (cntN (syB σ x) N), σ) := by
  have hN := I.1.hN
  have u := I.2.2.2.2.2.1
  intro n
  induction n with
  | zero => intro i h1 h2; omega
  | succ n ih =>
    intro i h1 h2
    show f_X6_synopsis_b8_B fu (f_X6_synopsis_b8 fu n) σ x _ (nI i) = _
    unfold f_X6_synopsis_b8_B f_X6_synopsis_b48
    rw [I.1.nC]
    by_cases e : N ≤ i
    · have e' : N = i := by omega
      rw [if_pos (nI_le e (by omega)), e']
    · have hi : i < N := by omega
      obtain ⟨a1, a2, a3, a4, a5, a6, a7, a8, a9, a10⟩ := I.2.2.2.1 i (by omega)
      obtain ⟨⟨s, s1, s2, s3⟩, -⟩ := a7 hi
      rw [if_neg (nI_ge (by omega) (by omega)), gd_t (inb_t (by omega : i < 24) (by decide)), nI_clamp (by omega : i < 2 ^ 31), a1, ← ih (i + 1) (by omega) (by omega), cntN_s]
      have sy : syB σ x i = (prB σ i && wiS σ x 10 (σ 5 i 0)) := rfl
      rw [sy]
      cases prB σ i with
      | false => rw [bF, nI_1]; rfl
      | true =>
        rw [bT, gd_t (inb_t (by omega : i < 24) (by decide)), bd_s (show f_X6_isWithin fu σ (σ 5 i 0) x = _ from withC_loop u fu 10 0 (σ 5 i 0) (by omega) (by omega) (Or.inr ⟨s, s1, s2⟩))]
        cases wiS σ x 10 (σ 5 i 0) with
        | false => rw [bF, nI_1]; rfl
        | true => rw [bT, nI_1, nI_1]; rfl
theorem synM_loop {fu : Nat} {σ : gSt} {N V P K G : Nat} {x : Int32} (hfu : 30 ≤ fu) (hx : ¬ x = -1) (I : Inv σ N V P K G) : ∀ n i, i ≤ N → N < n + i → f_X7_synopsis_b25 fu n σ x (nI (cntN (syB σ x) i)) (nI i) = some (nI (cntN (syB σ x) N), σ) := by
  have hN := I.1.hN
  have u := I.2.2.2.2.2.1
  intro n
  induction n with
  | zero => intro i h1 h2; omega
  | succ n ih =>
    intro i h1 h2
    show f_X7_synopsis_b25_B fu (f_X7_synopsis_b25 fu n) σ x _ (nI i) = _
    unfold f_X7_synopsis_b25_B
    rw [I.1.nM]
    by_cases e : N ≤ i
    · have e' : N = i := by omega
      rw [if_pos (nI_le e (by omega)), e']
    · have hi : i < N := by omega
      obtain ⟨a1, a2, a3, a4, a5, a6, a7, a8, a9, a10⟩ := I.2.2.2.1 i (by omega)
      obtain ⟨⟨s, s1, s2, s3⟩, -⟩ := a7 hi
      obtain ⟨t, t1, t2⟩ := withM_loop (fu := fu) (k25 := f_X7_synopsis_b25 fu n) (c := nI (cntN (syB σ x) i)) (i := nI i) u hx (s + 1) fu 10 (σ 5 i 0) (by omega) (by omega) (by omega) (Or.inr ⟨s, by omega, s2⟩)
      rw [if_neg (nI_ge (by omega) (by omega)), gd_t (inb_t (by omega : i < 24) (by decide)), nI_clamp (by omega : i < 2 ^ 31), s3, ← s2, t1, ← ih (i + 1) (by omega) (by omega), cntN_s]
      have sy : syB σ x i = (prB σ i && wiS σ x 10 (σ 5 i 0)) := rfl
      rw [sy]
      unfold f_X7_synopsis_b65 f_X7_synopsis_b86 f_X7_synopsis_b87
      rw [gd_t (inb_t (by omega : i < 24) (by decide)), nI_clamp (by omega : i < 2 ^ 31), nI_1]
      cases hp : prB σ i with
      | false =>
        rw [if_neg (fun q => by rw [(I.pM i hi).mp q] at hp; cases hp), ← nI_0, nI_add, nI_1]; rfl
      | true =>
        rw [if_pos ((I.pM i hi).mpr hp)]
        cases hw : wiS σ x 10 (σ 5 i 0) with
        | false => rw [if_neg (fun q => by rw [t2.mp q] at hw; cases hw), ← nI_0, nI_add, nI_1]; rfl
        | true => rw [if_pos (t2.mpr hw), show (1 : Int32) = nI 1 from rfl, nI_add]; rfl
theorem step_synopsis {fu : Nat} {σ : gSt} {N V P K G : Nat} {x : Int32} (hfu : 30 ≤ fu) (I : Inv σ N V P K G) : stepX (cm3 0 0 1) (f_X6_synopsis fu σ x) (fun σ1 => f_X7_synopsis fu σ1 x) G := by
  have hN := I.1.hN
  unfold f_X6_synopsis
  cases b1 : inb x 10 with
  | false =>
    refine step_thr (c := 3) (v := 0) I (Or.inr (Or.inr rfl)) (by decide) (by rw [bx_x (n := 2) (by rw [reqSub, b1]; rfl)]) ⟨0, ?_⟩
    show f_X7_synopsis fu σ x = _
    unfold f_X7_synopsis f_X7_synopsis_b13
    rw [bd_s (isSub x), b1, bF, goesX (by decide), if_pos rfl]
    rfl
  | true =>
    obtain ⟨k, hk, rfl⟩ := inb_nI (by decide) b1
    rw [bx_s (by rw [reqSub, b1]; rfl), show f_X6_synopsis_b8 fu fu σ (nI k) 0 0 = _ from synC_loop hfu I fu 0 (Nat.zero_le _) (by omega)]
    refine ⟨0, _, _, nI (cntN (syB σ (nI k)) N), gU σ 209 0 0 0, rfl, ?_, by simp only [gU_n, gU_e, Nat.reduceEqDiff, not_false_eq_true]; rfl, fun _ => rfl, Or.inl rfl, N, V, P, K, G, I.thr 0 0 0, by omega⟩
    show f_X7_synopsis fu σ (nI k) = _
    unfold f_X7_synopsis f_X7_synopsis_b13
    rw [bd_s (isSub _), b1, bT, goes0, if_neg (by decide)]
    have h := synM_loop (x := nI k) hfu (m1_ne (by omega)) (I.thr 0 0 0) fu 0 (Nat.zero_le _) (by omega)
    have e : syB (gU σ 209 0 0 0) (nI k) = syB σ (nI k) := by
      have wi : ∀ n y, wiS (gU σ 209 0 0 0) (nI k) n y = wiS σ (nI k) n y := by
        intro n
        induction n with
        | zero => intro y; rfl
        | succ n ih => intro y; simp only [wiS, ih, gU_n, gU_e, Nat.reduceEqDiff, not_false_eq_true]
      funext i
      simp only [syB, prB9, wi, gU_n, gU_e, Nat.reduceEqDiff, not_false_eq_true]
    rw [e] at h
    exact h

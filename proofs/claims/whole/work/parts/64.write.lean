/-! who writes: enemies, the list to write, the first, the months -/
def enS (σ : gSt) (N i c : Nat) : Bool := anyN (fun k => !decide (σ 7 k 0 = -1) && (!decide (σ 31 c (σ 7 k 0).toNatClampNeg = 0) && (rfS σ i k || rfS σ k i))) N
theorem enC_loop {fu : Nat} {σ : gSt} {N V P K G i c : Nat} (hfu : 30 ≤ fu) (I : Inv σ N V P K G) (hi : i < N) (hc : c < 6) : ∀ n k, k ≤ N → N < n + k → enS σ k i c = false → f_X6_isAmongEnemies_b2 fu n σ i c (nI k) = some (bI (enS σ N i c), σ) := by
  have hN := I.1.hN
  have K6 := I.2.2.2.2.2.2.1.1
  intro n
  induction n with
  | zero => intro k h1 h2; omega
  | succ n ih =>
    intro k h1 h2 h3
    show f_X6_isAmongEnemies_b2_B fu (f_X6_isAmongEnemies_b2 fu n) σ i c (nI k) = _
    unfold f_X6_isAmongEnemies_b2_B f_X6_isAmongEnemies_b60 f_X6_isAmongEnemies_b62
    rw [I.1.nC]
    by_cases e : N ≤ k
    · have e' : N = k := by omega
      rw [if_pos (nI_le e (by omega)), e', h3]; rfl
    · have hk : k < N := by omega
      obtain ⟨a1, a2, a3, a4, a5, a6, a7, a8, a9, a10⟩ := I.2.2.2.1 k (by omega)
      rw [if_neg (nI_ge (by omega) (by omega)), gd_t (inb_t (by omega : k < 24) (by decide)), nI_clamp (by omega : k < 2 ^ 31), nI_1]
      have skip : (!decide (σ 7 k 0 = -1) && (!decide (σ 31 c (σ 7 k 0).toNatClampNeg = 0) && (rfS σ i k || rfS σ k i))) = false → f_X6_isAmongEnemies_b2 fu n σ i c (nI (k + 1)) = some (bI (enS σ N i c), σ) := fun hs => ih (k + 1) (by omega) (by omega) (by
        have : enS σ (k + 1) i c = (enS σ k i c || (!decide (σ 7 k 0 = -1) && (!decide (σ 31 c (σ 7 k 0).toNatClampNeg = 0) && (rfS σ i k || rfS σ k i)))) := rfl
        rw [this, h3, hs]; rfl)
      have hit : (!decide (σ 7 k 0 = -1) && (!decide (σ 31 c (σ 7 k 0).toNatClampNeg = 0) && (rfS σ i k || rfS σ k i))) = true → enS σ N i c = true := fun hs => anyN_t hk hs
      by_cases hw : σ 7 k 0 = -1
      · rw [if_pos hw]; exact skip (by rw [decide_eq_true hw]; rfl)
      · obtain ⟨d, hd, ed⟩ := a6.resolve_left hw
        have in6 : inb (σ 7 k 0) 6 = true := by rw [ed]; exact inb_t (by omega) (by decide)
        rw [if_neg hw, gd_t in6]
        by_cases hq : σ 31 c (σ 7 k 0).toNatClampNeg = 0
        · rw [if_pos hq]; exact skip (by rw [decide_eq_true hq]; simp)
        · rw [if_neg hq, bd_s (refC_ok (by omega) I.1 (by omega) hk)]
          cases r1 : rfS σ i k with
          | true => rw [bT, hit (by rw [decide_eq_false hw, decide_eq_false hq, r1]; rfl)]; rfl
          | false =>
            rw [bF, bd_s (refC_ok (by omega) I.1 (by omega) hi)]
            cases r2 : rfS σ k i with
            | true => rw [bT, hit (by rw [decide_eq_false hw, decide_eq_false hq, r1, r2]; rfl)]; rfl
            | false => rw [bF]; exact skip (by rw [r1, r2]; simp)
theorem enM_loop {fu : Nat} {σ : gSt} {N V P K G i c : Nat} (hfu : 30 ≤ fu) (I : Inv σ N V P K G) (hi : i < N) (hc : c < 6) : ∀ n k, k ≤ N → N < n + k → f_X7_isBarred_b5 fu n σ (nI i) (nI c) (bI (enS σ k i c)) (nI k) = some (bI (enS σ N i c), σ) := by
  have hN := I.1.hN
  have kr := I.2.2.2.2.2.2.1
  have K6 := kr.1
  intro n
  induction n with
  | zero => intro k h1 h2; omega
  | succ n ih =>
    intro k h1 h2
    show f_X7_isBarred_b5_B fu (f_X7_isBarred_b5 fu n) σ (nI i) (nI c) _ (nI k) = _
    unfold f_X7_isBarred_b5_B f_X7_isBarred_b49 f_X7_isBarred_b50 f_X7_isBarred_b81 f_X7_isBarred_b85 f_X7_isBarred_b86
    rw [I.1.nM]
    by_cases e : N ≤ k
    · have e' : N = k := by omega
      rw [if_pos (nI_le e (by omega)), gd_t (bI_01 _), e']
    · have hk : k < N := by omega
      obtain ⟨a1, a2, a3, a4, a5, a6, a7, a8, a9, a10⟩ := I.2.2.2.1 k (by omega)
      have w7 := (a7 hk).2.1
      have go : ∀ b : Bool, (!decide (σ 7 k 0 = -1) && (!decide (σ 31 c (σ 7 k 0).toNatClampNeg = 0) && (rfS σ i k || rfS σ k i))) = b → f_X7_isBarred_b5 fu n σ (nI i) (nI c) (bI (enS σ k i c || b)) (nI (k + 1)) = some (bI (enS σ N i c), σ) := fun b hb => by
        rw [← ih (k + 1) (by omega) (by omega), ← hb]; rfl
      rw [if_neg (nI_ge (by omega) (by omega)), gd_t (inb_t (by omega : k < 24) (by decide)), nI_clamp (by omega : k < 2 ^ 31), nI_1, w7]
      cases hs : enS σ k i c with
      | true =>
        have g : f_X7_isBarred_b5 fu n σ (nI i) (nI c) 1 (nI (k + 1)) = some (bI (enS σ N i c), σ) := by
          have := go _ rfl
          rw [hs, Bool.true_or] at this
          exact this
        by_cases hw : σ 7 k 0 = -1
        · rw [if_pos hw, bT]; exact g
        · obtain ⟨d, hd, ed⟩ := a6.resolve_left hw
          rw [if_neg hw, gd_t (inb_t (by omega : k < 24) (by decide)), ed, nI6, gd_t (inb_t (by omega : 6 * c + d < 36) (by decide)), bT]
          split <;> exact g
      | false =>
        rw [hs] at go
        by_cases hw : σ 7 k 0 = -1
        · rw [if_pos hw, bF, if_pos rfl]
          exact go false (by rw [decide_eq_true hw]; rfl)
        · obtain ⟨d, hd, ed⟩ := a6.resolve_left hw
          have cd : (σ 7 k 0).toNatClampNeg = d := by rw [ed]; exact nI_clamp (by omega : d < 2 ^ 31)
          rw [cd] at go
          rw [if_neg hw, gd_t (inb_t (by omega : k < 24) (by decide)), ed, nI6, gd_t (inb_t (by omega : 6 * c + d < 36) (by decide)), nI_clamp (by omega : 6 * c + d < 2 ^ 31), ((kr.2.2.2.1 c hc).2.2.2 d (by omega)).2, bF]
          by_cases hq : σ 31 c d = 0
          · rw [if_pos hq, if_pos rfl]
            exact go false (by rw [decide_eq_true hq]; simp)
          · rw [if_neg hq, if_neg (show ¬ (1 : Int32) = 0 by decide), bd_s (refM_ok (by omega) I.1 (by omega) hk)]
            cases r1 : rfS σ i k with
            | true => rw [bT]; exact go true (by rw [decide_eq_false hw, decide_eq_false hq, r1]; rfl)
            | false =>
              rw [bF, bd_s (refM_ok (by omega) I.1 (by omega) hi)]
              cases r2 : rfS σ k i with
              | true => rw [bT]; exact go true (by rw [decide_eq_false hw, decide_eq_false hq, r1, r2]; rfl)
              | false => rw [bF]; exact go false (by rw [r1, r2]; simp)
theorem enBoth {fu : Nat} {σ : gSt} {N V P K G i c : Nat} (hfu : 30 ≤ fu) (I : Inv σ N V P K G) (hi : i < N) (hc : c < 6) : f_X6_isAmongEnemies fu σ i c = some (bI (enS σ N i c), σ) ∧ f_X7_isBarred fu σ (nI i) (nI c) = some (bI (enS σ N i c), σ) := by
  have hN := I.1.hN
  exact ⟨enC_loop hfu I hi hc fu 0 (Nat.zero_le _) (by omega) rfl, enM_loop hfu I hi hc fu 0 (Nat.zero_le _) (by omega)⟩
/-- may it be given -/
def tgS (σ : gSt) (V P i : Nat) : Bool := !Nat.beq (wN σ i) 0 && (decide (σ 7 i 0 = -1) && (!decide (vS σ V i = -1) && decide (nI P ≤ vS σ V i)))
theorem tgC {fu : Nat} {σ : gSt} {N V P K G i : Nat} (hfu : 30 ≤ fu) (I : Inv σ N V P K G) (hi : i < N) : f_X6_isToBeGiven fu σ i = some (bI (tgS σ V P i), σ) := by
  obtain ⟨w9, w6, w185⟩ := wN_ok I.1.1 hi
  have bl : f_X0_isBlind fu σ i = some (bI (Nat.beq (wN σ i) 0), σ) := by
    unfold f_X0_isBlind f_X0_isBlind_b12
    rw [w6]
    cases er : Nat.beq (wN σ i) 0 with
    | true => rw [if_pos (by rw [Nat.eq_of_beq_eq_true er]; rfl)]; rfl
    | false =>
      rw [if_neg (fun q => by
        have := (nI_eq (b := 0) (by omega) (by decide)).mp q
        rw [this] at er; cases er)]; rfl
  unfold f_X6_isToBeGiven f_X6_isToBeGiven_b42 f_X6_isToBeGiven_b43
  rw [bd_s bl, bd_s (volC_ok (by omega) (I.1.hw hi) I.1.v), bd_s (opC_ok (by omega) I.1 (I.1.hw hi) I.2.2.1.2.1)]
  show (if bI (Nat.beq (wN σ i) 0) = 0 then if σ 7 i 0 = -1 then (if vS σ V i = -1 then _ else _) else _ else _) = _
  unfold tgS opS
  cases Nat.beq (wN σ i) 0 with
  | true => rw [bT]; rfl
  | false =>
    rw [bF]
    by_cases h1 : σ 7 i 0 = -1
    · rw [if_pos h1, decide_eq_true h1]
      by_cases h2 : vS σ V i = -1
      · rw [if_pos h2, decide_eq_true h2]; rfl
      · rw [if_neg h2, decide_eq_false h2]
        by_cases h3 : nI P ≤ vS σ V i
        · rw [decide_eq_true h3]; rfl
        · rw [decide_eq_false h3]; rfl
    · rw [if_neg h1, decide_eq_false h1]; rfl
theorem neg1_lt {P : Nat} (h : P ≤ 4) : (-1 : Int32) < nI P := by
  rw [Int32.lt_iff_toInt_lt, nI_toInt (by omega)]
  have : (-1 : Int32).toInt = -1 := by decide
  omega
/-- the reference's view of it -/
theorem tgM {σ : gSt} {N V P K G i : Nat} (I : Inv σ N V P K G) (hi : i < N) : (tgS σ V P i = true ↔ (¬ σ 185 0 i ≤ 0 ∧ ¬ vS σ V i < σ 200 0 0 ∧ σ 187 0 i = -1 ∧ σ 186 0 i = 0)) ∧ (tgS σ V P i = true → prB σ i = false ∧ txB σ i = false) := by
  obtain ⟨w9, w6, w185⟩ := wN_ok I.1.1 hi
  obtain ⟨a1, a2, a3, a4, a5, a6, a7, a8, a9, a10⟩ := I.2.2.2.1 i (by have := I.1.hN; omega)
  have p := I.2.2.1
  have v4 := I.1.v.1
  have P4 : P ≤ 4 := by have := p.1; omega
  have e7 := (a7 hi).2.1
  rw [w185, p.2.2, e7]
  have st : tgS σ V P i = true → prB σ i = false ∧ txB σ i = false := fun h => by
    simp only [tgS, Bool.and_eq_true, decide_eq_true_eq] at h
    obtain ⟨h1, h2, h3, h4⟩ := h
    have t : txB σ i = false := by
      cases ht : txB σ i with
      | false => rfl
      | true => exact absurd h2 (a9 ht)
    refine ⟨?_, t⟩
    cases hp : prB σ i with
    | false => rfl
    | true =>
      rcases a10 hp with q | q
      · rw [q] at h1; exact absurd h1 (by decide)
      · rw [q] at t; cases t
  refine ⟨⟨fun h => ?_, fun h => ?_⟩, st⟩
  · obtain ⟨s1, s2⟩ := st h
    simp only [tgS, Bool.and_eq_true, decide_eq_true_eq] at h
    obtain ⟨h1, h2, h3, h4⟩ := h
    refine ⟨?_, Int32.not_lt.mpr h4, h2, ?_⟩
    · refine nI_nle ?_ (by omega)
      rcases Nat.eq_zero_or_pos (wN σ i) with q | q
      · rw [q] at h1; exact absurd h1 (by decide)
      · exact q
    · rw [a5, s1, s2, h2]; rfl
  · obtain ⟨h1, h2, h3, h4⟩ := h
    have w0 : ¬ wN σ i = 0 := fun q => h1 (by rw [q]; decide)
    have v1 : ¬ vS σ V i = -1 := fun q => h2 (by rw [q]; exact neg1_lt P4)
    simp only [tgS, beqN, decide_eq_false w0, decide_eq_true h3, decide_eq_false v1, decide_eq_true (Int32.not_lt.mp h2)]
    rfl
/-! the list to write -/
def pB (σ : gSt) (c j : Nat) : Bool := decide (σ 186 0 j = 1) && decide (σ 187 0 j = nI c)
theorem pB_iff {σ : gSt} {c j : Nat} : pB σ c j = true ↔ σ 186 0 j = 1 ∧ σ 187 0 j = nI c := by
  simp only [pB, Bool.and_eq_true, decide_eq_true_eq]
theorem len_filter {a : Nat} : ∀ q : List Nat, q.Pairwise (fun x y => x ≠ y) → (a ∈ q → (q.filter (fun x => !Nat.beq x a)).length + 1 = q.length) ∧ (a ∉ q → (q.filter (fun x => !Nat.beq x a)).length = q.length)
  | [], _ => ⟨fun h => by simp at h, fun _ => rfl⟩
  | b :: r, h => by
    obtain ⟨h1, h2⟩ := List.pairwise_cons.mp h
    obtain ⟨i1, i2⟩ := len_filter (a := a) r h2
    by_cases e : b = a
    · subst e
      have nb : b ∉ r := fun q => h1 b q rfl
      have : (!Nat.beq b b) = false := by rw [Nat.beq_refl]; rfl
      refine ⟨fun _ => ?_, fun q => absurd List.mem_cons_self q⟩
      rw [List.filter_cons, if_neg (by rw [this]; decide), i2 nb, List.length_cons]
    · have : (!Nat.beq b a) = true := by rw [beqN, decide_eq_false e]; rfl
      rw [List.filter_cons, if_pos this, List.length_cons, List.length_cons]
      refine ⟨fun q => ?_, fun q => ?_⟩
      · rcases List.mem_cons.mp q with z | z
        · exact absurd z.symm e
        · rw [i1 z]
      · rw [i2 (fun z => q (List.mem_cons_of_mem _ z))]
theorem cnt_len {p : Nat → Bool} : ∀ N (q : List Nat), q.Pairwise (fun x y => x ≠ y) → (∀ j, j ∈ q ↔ j < N ∧ p j = true) → cntN p N = q.length := by
  intro N
  induction N with
  | zero =>
    intro q _ h
    cases q with
    | nil => rfl
    | cons a r => exact absurd ((h a).mp List.mem_cons_self).1 (Nat.not_lt_zero _)
  | succ N ih =>
    intro q hq h
    have e := ih (q.filter (fun x => !Nat.beq x N)) (hq.filter _) (fun j => by
      rw [List.mem_filter, h j, beqN]
      by_cases ej : j = N
      · subst ej; simp
      · simp only [decide_eq_false ej]
        constructor
        · rintro ⟨⟨h1, h2⟩, -⟩; exact ⟨by omega, h2⟩
        · rintro ⟨h1, h2⟩; exact ⟨⟨by omega, h2⟩, rfl⟩)
    rw [cntN_s, e]
    obtain ⟨l1, l2⟩ := len_filter (a := N) q hq
    cases hp : p N with
    | true => exact l1 ((h N).mpr ⟨Nat.lt_succ_self _, hp⟩)
    | false => exact l2 (fun z => by have := ((h N).mp z).2; rw [hp] at this; cases this)
theorem qOk.ne {σ : gSt} {N G c : Nat} {q : List Nat} (Q : qOk σ N G c q) : q.Pairwise (fun x y => x ≠ y) := Q.2.2.2.1.imp (fun h e => by rw [e] at h; exact Nat.lt_irrefl _ h)
theorem qOk.cnt {σ : gSt} {N G c : Nat} {q : List Nat} (Q : qOk σ N G c q) : cntN (pB σ c) N = q.length := cnt_len N q Q.ne (fun j => by rw [Q.2.2.1 j, pB_iff])
theorem qOk.len {σ : gSt} {N G c : Nat} {q : List Nat} (Q : qOk σ N G c q) : q.length ≤ N := by rw [← Q.cnt]; exact cntN_le
theorem cntN_lt {p : Nat → Bool} {k : Nat} : ∀ {n}, k < n → p k = false → cntN p n < n
  | 0, h, _ => by omega
  | n + 1, h, hp => by
    rw [cntN_s]
    by_cases e : k = n
    · subst e
      rw [hp]
      have := cntN_le (p := p) (n := k)
      simp only [cond_false]; omega
    · have := cntN_lt (n := n) (by omega) hp
      cases p n <;> simp only [cond_false, cond_true] <;> omega
theorem toW_loop {fu : Nat} {σ : gSt} {N c : Nat} (hN : N ≤ 24) (eN : σ 183 0 0 = nI N) : ∀ n k, k ≤ N → N < n + k → f_X7_toWrite_b4 fu n σ (nI c) (nI (cntN (pB σ c) k)) (nI k) = some (nI (cntN (pB σ c) N), σ) := by
  intro n
  induction n with
  | zero => intro k h1 h2; omega
  | succ n ih =>
    intro k h1 h2
    show f_X7_toWrite_b4_B fu (f_X7_toWrite_b4 fu n) σ (nI c) _ (nI k) = _
    unfold f_X7_toWrite_b4_B f_X7_toWrite_b37 f_X7_toWrite_b38
    rw [eN]
    by_cases e : N ≤ k
    · have e' : N = k := by omega
      rw [if_pos (nI_le e (by omega)), e']
    · rw [if_neg (nI_ge (by omega) (by omega)), gd_t (inb_t (by omega : k < 24) (by decide)), gd_t (inb_t (by omega : k < 24) (by decide)), nI_clamp (by omega : k < 2 ^ 31), ← ih (k + 1) (by omega) (by omega), cntN_s]
      have no : pB σ c k = false → f_X7_toWrite_b4 fu n σ (nI c) (nI (cntN (pB σ c) k) + 0) (nI k + 1) = f_X7_toWrite_b4 fu n σ (nI c) (nI (cntN (pB σ c) k + cond (pB σ c k) 1 0)) (nI (k + 1)) := fun h => by
        rw [h, ← nI_0, nI_add, nI_1]; rfl
      by_cases h1 : σ 186 0 k = 1
      · rw [if_pos h1]
        by_cases h2 : σ 187 0 k = nI c
        · rw [if_pos h2, pB_iff.mpr ⟨h1, h2⟩, show (1 : Int32) = nI 1 from rfl, nI_add, nI_add]; rfl
        · rw [if_neg h2]; exact no (by simp only [pB, decide_eq_false h2, Bool.and_false])
      · rw [if_neg h1]; exact no (by simp only [pB, decide_eq_false h1, Bool.false_and])
def hdI : List Nat → Int32
  | [] => -1
  | h :: _ => nI h
theorem first_loop {fu : Nat} {σ : gSt} {N c : Nat} (hN : N ≤ 24) (eN : σ 183 0 0 = nI N) (hp : ∀ j, j < N → pB σ c j = true → σ 189 0 j = nI (nthN σ j) ∧ nthN σ j < 2 ^ 31) : ∀ n k y, k ≤ N → N < n + k → ((y = -1 ∧ ∀ j, j < k → pB σ c j = false) ∨ ∃ m, m < k ∧ y = nI m ∧ pB σ c m = true ∧ ∀ j, j < k → pB σ c j = true → nthN σ m ≤ nthN σ j) →
    ∃ z, f_X7_first_b4 fu n σ (nI c) y (nI k) = some (z, σ) ∧ ((z = -1 ∧ ∀ j, j < N → pB σ c j = false) ∨ ∃ m, m < N ∧ z = nI m ∧ pB σ c m = true ∧ ∀ j, j < N → pB σ c j = true → nthN σ m ≤ nthN σ j) := by
  intro n
  induction n with
  | zero => intro k y h1 h2; omega
  | succ n ih =>
    intro k y h1 h2 h3
    show ∃ z, f_X7_first_b4_B fu (f_X7_first_b4 fu n) σ (nI c) y (nI k) = some (z, σ) ∧ _
    unfold f_X7_first_b4_B f_X7_first_b36 f_X7_first_b37 f_X7_first_b64 f_X7_first_b68 f_X7_first_b69
    rw [eN]
    by_cases e : N ≤ k
    · have e' : N = k := by omega
      rw [if_pos (nI_le e (by omega))]
      subst e'
      exact ⟨y, rfl, h3⟩
    · have hk : k < N := by omega
      have k24 : inb (nI k) 24 = true := inb_t (by omega) (by decide)
      rw [if_neg (nI_ge (by omega) (by omega)), gd_t k24, gd_t k24, nI_clamp (by omega : k < 2 ^ 31), nI_1]
      have no : pB σ c k = false → ∃ z, f_X7_first_b4 fu n σ (nI c) y (nI (k + 1)) = some (z, σ) ∧ ((z = -1 ∧ ∀ j, j < N → pB σ c j = false) ∨ ∃ m, m < N ∧ z = nI m ∧ pB σ c m = true ∧ ∀ j, j < N → pB σ c j = true → nthN σ m ≤ nthN σ j) := fun h => by
        refine ih (k + 1) y (by omega) (by omega) ?_
        rcases h3 with ⟨q1, q2⟩ | ⟨m, q1, q2, q3, q4⟩
        · refine Or.inl ⟨q1, fun j hj => ?_⟩
          by_cases ej : j = k
          · subst ej; exact h
          · exact q2 j (by omega)
        · refine Or.inr ⟨m, by omega, q2, q3, fun j hj hpj => ?_⟩
          by_cases ej : j = k
          · subst ej; rw [h] at hpj; cases hpj
          · exact q4 j (by omega) hpj
      by_cases g1 : σ 186 0 k = 1
      · rw [if_pos g1]
        by_cases g2 : σ 187 0 k = nI c
        · have pk := pB_iff.mpr ⟨g1, g2⟩
          rw [if_pos g2, if_neg (show ¬ (1 : Int32) = 0 by decide)]
          obtain ⟨n1, n2⟩ := hp k hk pk
          rcases h3 with ⟨q1, q2⟩ | ⟨m, q1, q2, q3, q4⟩
          · rw [if_pos q1]
            refine ih (k + 1) (nI k) (by omega) (by omega) (Or.inr ⟨k, by omega, rfl, pk, fun j hj hpj => ?_⟩)
            by_cases ej : j = k
            · subst ej; exact Nat.le_refl _
            · have := q2 j (by omega); rw [this] at hpj; cases hpj
          · obtain ⟨m1, m2⟩ := hp m (by omega) q3
            rw [if_neg (by rw [q2]; exact m1_ne (by omega)), gd_t k24, q2, gd_t (inb_t (by omega : m < 24) (by decide)), nI_clamp (by omega : m < 2 ^ 31), m1, n1]
            by_cases le : nthN σ m ≤ nthN σ k
            · rw [if_pos (nI_le le n2)]
              refine ih (k + 1) (nI m) (by omega) (by omega) (Or.inr ⟨m, by omega, rfl, q3, fun j hj hpj => ?_⟩)
              by_cases ej : j = k
              · subst ej; exact le
              · exact q4 j (by omega) hpj
            · rw [if_neg (nI_ge (by omega) m2)]
              refine ih (k + 1) (nI k) (by omega) (by omega) (Or.inr ⟨k, by omega, rfl, pk, fun j hj hpj => ?_⟩)
              by_cases ej : j = k
              · subst ej; exact Nat.le_refl _
              · have := q4 j (by omega) hpj; omega
        · rw [if_neg g2, if_pos rfl]; exact no (by simp only [pB, decide_eq_false g2, Bool.and_false])
      · rw [if_neg g1, if_pos rfl]; exact no (by simp only [pB, decide_eq_false g1, Bool.false_and])
theorem first_ok {fu : Nat} {σ : gSt} {N G c : Nat} {q : List Nat} (hfu : 30 ≤ fu) (hG : G < 2 ^ 31) (hN : N ≤ 24) (eN : σ 183 0 0 = nI N) (Q : qOk σ N G c q) : f_X7_first fu σ (nI c) = some (hdI q, σ) := by
  obtain ⟨q1, q2, q3, q4, q5⟩ := Q
  have hm : ∀ j, j < N → pB σ c j = true → j ∈ q := fun j hj hp => (q3 j).mpr ⟨hj, pB_iff.mp hp⟩
  obtain ⟨z, z1, z2⟩ := first_loop (fu := fu) (c := c) hN eN (fun j hj hp => by
    have := q5 j (hm j hj hp)
    exact ⟨this.1, by omega⟩) fu 0 (-1) (Nat.zero_le _) (by omega) (Or.inl ⟨rfl, fun j hj => by omega⟩)
  rw [show f_X7_first fu σ (nI c) = _ from z1]
  have : z = hdI q := by
    cases q with
    | nil =>
      rcases z2 with ⟨h, -⟩ | ⟨m, h1, h2, h3, h4⟩
      · exact h
      · exact absurd (hm m h1 h3) (by simp)
    | cons a r =>
      obtain ⟨a1, a2⟩ := (q3 a).mp List.mem_cons_self
      have pa := pB_iff.mpr a2
      rcases z2 with ⟨h, h'⟩ | ⟨m, h1, h2, h3, h4⟩
      · rw [h' a a1] at pa; cases pa
      · rcases List.mem_cons.mp (hm m h1 h3) with e | e
        · rw [h2, e]; rfl
        · have := (List.pairwise_cons.mp q4).1 m e
          have := h4 a a1 pa
          omega
  rw [this]
/-! the months -/
def moS (σ : gSt) (N V h : Nat) (p : Int32) : Int32 := if (1 : Int32) < (nI (colA σ N V h) + p - 1) / p then (nI (colA σ N V h) + p - 1) / p else 1
theorem moS_le {σ : gSt} {N V h : Nat} {p : Int32} : (if (1 : Int32) ≤ (nI (colA σ N V h) + p - 1) / p then (nI (colA σ N V h) + p - 1) / p else 1) = moS σ N V h p := by
  unfold moS
  generalize (nI (colA σ N V h) + p - 1) / p = m
  by_cases h1 : (1 : Int32) < m
  · rw [if_pos h1, if_pos (Int32.le_of_lt h1)]
  · rw [if_neg h1]
    by_cases h2 : (1 : Int32) ≤ m
    · rw [if_pos h2]
      exact Int32.le_antisymm (Int32.not_lt.mp h1) h2
    · rw [if_neg h2]
theorem beginC {fu : Nat} {σ : gSt} {N V c h n : Nat} (hfu : 30 ≤ fu) (S : sRel σ N V) (hh : h < N) (e32 : σ 32 c 0 = nI n) (hn : 0 < n) (hn2 : n ≤ 24) (e30 : σ 30 c 0 = nI h) (hp : ¬ σ 33 c 0 = 0) : f_X6_beginFirst fu σ c = some (0, gU σ 8 h 0 (σ 160 0 0 + moS σ N V h (σ 33 c 0))) := by
  have hN := S.hN
  unfold f_X6_beginFirst f_X6_beginFirst_b37 f_X1_monthsFor
  rw [e32, if_neg (nI_nle hn (by omega)), gd_t (by decide), show (0 : Int32).toNatClampNeg = 0 from rfl, e30, gd_t (inb_t (by omega : h < 24) (by decide)), nI_clamp (by omega : h < 2 ^ 31), bd_s (colsC_ok hfu S.1 hh), gd_t (by simp [hp]), bd_s rfl]
  rfl
theorem beginM {fu : Nat} {σ : gSt} {N V c h : Nat} (hfu : 30 ≤ fu) (S : sRel σ N V) (hh : h < N) (hc : c < 6) (hp : ¬ σ 202 0 c = 0) : f_X7_begins fu σ (nI h) (nI c) = some (0, gU σ 188 0 h (σ 207 0 0 + moS σ N V h (σ 202 0 c))) := by
  have hN := S.hN
  have o : okA 1 188 0 (nI h) = true := by
    have : inb (nI h) 24 = true := inb_t (by omega) (by decide)
    unfold okA
    rw [show lA 188 = 24 from rfl, this]; decide
  unfold f_X7_begins f_X7_begins_b41
  rw [bd_s (colsM_ok hfu S.1 hh), gd_t (inb_t (by omega : c < 6) (by decide)), gd_t (inb_t (by omega : c < 6) (by decide)), nI_clamp (by omega : c < 2 ^ 31), nI_clamp (by omega : h < 2 ^ 31), gd_t (by simp [hp]), gd_t o, gd_t o, ← moS_le]
  split <;> rfl

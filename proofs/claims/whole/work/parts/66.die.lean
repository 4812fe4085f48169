/-! die -/
def mB (q : List Nat) (j k : Nat) : Bool := anyN (fun m => decide (q[m]? = some j)) k
theorem mB_iff {q : List Nat} {j : Nat} : mB q j q.length = true ↔ j ∈ q := by
  constructor
  · intro h
    have : ∀ n, mB q j n = true → j ∈ q := by
      intro n
      induction n with
      | zero => intro h; cases h
      | succ n ih =>
        intro h
        have h' : (mB q j n || decide (q[n]? = some j)) = true := h
        rw [Bool.or_eq_true] at h'
        rcases h' with h' | h'
        · exact ih h'
        · exact List.mem_iff_getElem?.mpr ⟨n, of_decide_eq_true h'⟩
    exact this _ h
  · intro h
    obtain ⟨k, hk⟩ := mem_at h
    exact anyN_t (k := k) (at_lt hk) (decide_eq_true hk)
theorem stV1 {p t : Bool} {w : Int32} (h : stV p t w = 1) : p = false ∧ t = false ∧ ¬ w = -1 := by
  unfold stV at h
  cases p
  · cases t
    · refine ⟨rfl, rfl, fun e => ?_⟩
      simp only [cond_false, if_pos e] at h
      exact absurd h (by decide)
    · simp only [cond_false, cond_true] at h; exact absurd h (by decide)
  · simp only [cond_true] at h; exact absurd h (by decide)
theorem dieC_loop {fu : Nat} {σ0 : gSt} {c : Nat} {q : List Nat} (hc : c < 6) (hl : q.length ≤ 24) (hq : ∀ k j, q[k]? = some j → σ0 30 c k = nI j) (hj : ∀ j, j ∈ q → j < 24) : ∀ n m k (σ : gSt), k + m = q.length → m < n → fr [7, 8] σ0 σ → (∀ j, σ 7 j 0 = cond (mB q j k) (-1) (σ0 7 j 0)) → (∀ j, σ 8 j 0 = cond (mB q j k) (-1) (σ0 8 j 0)) →
    ∃ τ, f_X6_die_b37 fu n σ c (nI q.length) (nI k) = some (0, nI q.length, τ) ∧ fr [7, 8, 32, 35] σ0 τ ∧ (∀ j, τ 7 j 0 = cond (mB q j q.length) (-1) (σ0 7 j 0)) ∧ (∀ j, τ 8 j 0 = cond (mB q j q.length) (-1) (σ0 8 j 0)) ∧ (∀ d, τ 32 d 0 = if d = c then 0 else σ0 32 d 0) ∧ ∀ d, τ 35 d 0 = if d = c then 1 else σ0 35 d 0 := by
  intro n
  induction n with
  | zero => intro m k σ h1 h2; omega
  | succ n ih =>
    intro m k σ h1 h2 f h7 h8
    show ∃ τ, f_X6_die_b37_B fu (f_X6_die_b37 fu n) σ c (nI q.length) (nI k) = _ ∧ _
    unfold f_X6_die_b37_B
    cases m with
    | zero =>
      have e : k = q.length := by omega
      rw [if_pos (nI_le (by omega) (by omega))]
      subst e
      refine ⟨_, rfl, ?_, fun j => ?_, fun j => ?_, fun d => ?_, fun d => ?_⟩
      · have := f.mono (M := [7, 8, 32, 35]) (by decide)
        (repeat (first | exact fr.rfl | assumption | refine fr_gU ?_ (by decide) | refine fr_gR ?_ (by decide)))
      · simp only [gU_n, gU_e, Nat.reduceEqDiff, not_false_eq_true]; exact h7 j
      · simp only [gU_n, gU_e, Nat.reduceEqDiff, not_false_eq_true]; exact h8 j
      · simp only [gU_n, gU_e, Nat.reduceEqDiff, not_false_eq_true]
        by_cases ed : d = c
        · subst ed; rw [gU_e, if_pos rfl]
        · rw [gU_i (by omega), if_neg ed, f 32 (by decide)]
      · by_cases ed : d = c
        · subst ed; rw [gU_e, if_pos rfl]
        · rw [gU_i (by omega), if_neg ed]; simp only [gU_n, gU_e, Nat.reduceEqDiff, not_false_eq_true, f 35 (by decide)]
    | succ m =>
      have lk : k < q.length := by omega
      have ek := List.getElem?_eq_getElem lk
      have v : σ 30 c k = nI q[k] := by rw [f 30 (by decide)]; exact hq k _ ek
      have jl : q[k] < 24 := hj _ (List.getElem_mem lk)
      rw [if_neg (nI_ge (by omega) (by omega)), gd_t (inb_t (by omega : k < 24) (by decide)), nI_clamp (by omega : k < 2 ^ 31), v, gd_t (inb_t jl (by decide)), nI_clamp (by omega : q[k] < 2 ^ 31), nI_1]
      refine ih m (k + 1) _ (by omega) (by omega) (by (repeat (first | exact fr.rfl | assumption | refine fr_gU ?_ (by decide) | refine fr_gR ?_ (by decide)))) (fun j => ?_) (fun j => ?_)
      · have s : mB q j (k + 1) = (mB q j k || decide (q[k]? = some j)) := rfl
        rw [s, ek]
        simp only [gU_n, gU_e, Nat.reduceEqDiff, not_false_eq_true]
        by_cases ej : j = q[k]
        · subst ej; rw [gU_e]; simp
        · rw [gU_i (fun h => ej h.1), h7 j]
          have : ¬ some q[k] = some j := fun h => ej (Option.some.inj h).symm
          rw [decide_eq_false this, Bool.or_false]
      · have s : mB q j (k + 1) = (mB q j k || decide (q[k]? = some j)) := rfl
        rw [s, ek]
        by_cases ej : j = q[k]
        · subst ej; rw [gU_e]; simp
        · rw [gU_i (fun h => ej h.1)]
          simp only [gU_n, gU_e, Nat.reduceEqDiff, not_false_eq_true]
          rw [h8 j]
          have : ¬ some q[k] = some j := fun h => ej (Option.some.inj h).symm
          rw [decide_eq_false this, Bool.or_false]
def dB (σ : gSt) (c k j : Nat) : Bool := decide (j < k) && pB σ c j
theorem dB_n {σ : gSt} {c k j : Nat} (h : j ≠ k) : dB σ c (k + 1) j = dB σ c k j := by
  unfold dB
  rw [show decide (j < k + 1) = decide (j < k) from decide_eq_decide.mpr (by omega)]
theorem dB_s {σ : gSt} {c k : Nat} : dB σ c (k + 1) k = pB σ c k := by
  unfold dB
  rw [decide_eq_true (by omega : k < k + 1), Bool.true_and]
theorem dB_0 {σ : gSt} {c k : Nat} : dB σ c k k = false := by
  unfold dB
  rw [decide_eq_false (by omega : ¬ k < k), Bool.false_and]
theorem dieM_loop {fu : Nat} {μ0 : gSt} {N c : Nat} (hN : N ≤ 24) (eN : μ0 183 0 0 = nI N) : ∀ n k (μ : gSt), k ≤ N → N < n + k → fr [186, 187, 188] μ0 μ → (∀ j, μ 186 0 j = cond (dB μ0 c k j) 0 (μ0 186 0 j)) → (∀ j, μ 187 0 j = cond (dB μ0 c k j) (-1) (μ0 187 0 j)) → (∀ j, μ 188 0 j = cond (dB μ0 c k j) (-1) (μ0 188 0 j)) →
    ∃ τ, f_X7_die_b49 fu n μ (nI c) (nI (cntN (pB μ0 c) k)) (nI k) = some (nI (cntN (pB μ0 c) N), τ) ∧ fr [186, 187, 188] μ0 τ ∧ (∀ j, τ 186 0 j = cond (dB μ0 c N j) 0 (μ0 186 0 j)) ∧ (∀ j, τ 187 0 j = cond (dB μ0 c N j) (-1) (μ0 187 0 j)) ∧ ∀ j, τ 188 0 j = cond (dB μ0 c N j) (-1) (μ0 188 0 j) := by
  intro n
  induction n with
  | zero => intro k μ h1 h2; omega
  | succ n ih =>
    intro k μ h1 h2 f h6 h7 h8
    show ∃ τ, f_X7_die_b49_B fu (f_X7_die_b49 fu n) μ (nI c) _ (nI k) = _ ∧ _
    unfold f_X7_die_b49_B f_X7_die_b107
    rw [f 183 (by decide), eN]
    by_cases e : N ≤ k
    · have e' : N = k := by omega
      rw [if_pos (nI_le e (by omega))]
      subst e'
      exact ⟨μ, rfl, f, h6, h7, h8⟩
    · have hk : k < N := by omega
      have k24 : inb (nI k) 24 = true := inb_t (by omega) (by decide)
      rw [if_neg (nI_ge (by omega) (by omega)), gd_t k24, gd_t k24, gd_t k24, gd_t k24, gd_t k24, nI_clamp (by omega : k < 2 ^ 31), h6 k, h7 k, dB_0, nI_1, nI_1]
      have no : pB μ0 c k = false → ∃ τ, f_X7_die_b49 fu n μ (nI c) (nI (cntN (pB μ0 c) k)) (nI (k + 1)) = some (nI (cntN (pB μ0 c) N), τ) ∧ fr [186, 187, 188] μ0 τ ∧ (∀ j, τ 186 0 j = cond (dB μ0 c N j) 0 (μ0 186 0 j)) ∧ (∀ j, τ 187 0 j = cond (dB μ0 c N j) (-1) (μ0 187 0 j)) ∧ ∀ j, τ 188 0 j = cond (dB μ0 c N j) (-1) (μ0 188 0 j) := fun hp => by
        have same : ∀ j, dB μ0 c (k + 1) j = dB μ0 c k j := fun j => by
          by_cases ej : j = k
          · subst ej; rw [dB_s, dB_0, hp]
          · exact dB_n ej
        have := ih (k + 1) μ (by omega) (by omega) f (fun j => by rw [same]; exact h6 j) (fun j => by rw [same]; exact h7 j) (fun j => by rw [same]; exact h8 j)
        rw [cntN_s, hp] at this
        exact this
      show ∃ τ, (if μ0 186 0 k = 1 then (if μ0 187 0 k = nI c then _ else _) else _) = _ ∧ _
      by_cases g1 : μ0 186 0 k = 1
      · rw [if_pos g1]
        by_cases g2 : μ0 187 0 k = nI c
        · rw [if_pos g2]
          have hp : pB μ0 c k = true := pB_iff.mpr ⟨g1, g2⟩
          have := ih (k + 1) (gU (gU (gU μ 186 0 k 0) 187 0 k (-1)) 188 0 k (-1)) (by omega) (by omega) (by (repeat (first | exact fr.rfl | assumption | refine fr_gU ?_ (by decide) | refine fr_gR ?_ (by decide)))) (fun j => ?_) (fun j => ?_) (fun j => ?_)
          · rw [cntN_s, hp] at this
            exact this
          · simp only [gU_n, gU_e, Nat.reduceEqDiff, not_false_eq_true]
            by_cases ej : j = k
            · subst ej; rw [gU_e, dB_s, hp]; rfl
            · rw [gU_i (by omega), dB_n ej]; exact h6 j
          · simp only [gU_n, gU_e, Nat.reduceEqDiff, not_false_eq_true]
            by_cases ej : j = k
            · subst ej; rw [gU_e, dB_s, hp]; rfl
            · rw [gU_i (by omega), dB_n ej]; simp only [gU_n, gU_e, Nat.reduceEqDiff, not_false_eq_true]; exact h7 j
          · by_cases ej : j = k
            · subst ej; rw [gU_e, dB_s, hp]; rfl
            · rw [gU_i (by omega), dB_n ej]; simp only [gU_n, gU_e, Nat.reduceEqDiff, not_false_eq_true]; exact h8 j
        · rw [if_neg g2]; exact no (by simp only [pB, decide_eq_false g2, Bool.and_false])
      · rw [if_neg g1]; exact no (by simp only [pB, decide_eq_false g1, Bool.false_and])
theorem step_die {fu : Nat} {σ : gSt} {N V P K G : Nat} {x1 : Int32} (hfu : 30 ≤ fu) (I : Inv σ N V P K G) : stepX (cm3 0 2 1) (f_X6_die fu σ x1) (fun σ1 => f_X7_die fu σ1 x1) G := by
  have S := I.1
  have hN := S.hN
  obtain ⟨k1, k2, k3, k4, k5⟩ := I.2.2.2.2.2.2.1
  unfold f_X6_die
  cases b1 : inb x1 K with
  | false =>
    refine step_thr (c := 3) (v := 0) I (Or.inr (Or.inr rfl)) (by decide) (by rw [bx_x (n := 2) (by rw [reqCon x1 k1 k2, b1]; rfl)]) ⟨0, ?_⟩
    show f_X7_die fu σ x1 = _
    unfold f_X7_die f_X7_die_b29
    rw [bd_s (isCon x1 k1 k3), b1, bF, goesX (by decide), if_pos rfl]
    rfl
  | true =>
    obtain ⟨c, hc, rfl⟩ := inb_nI (by omega) b1
    have cc : (nI c).toNatClampNeg = c := nI_clamp (by omega : c < 2 ^ 31)
    have in6 : inb (nI c) 6 = true := inb_t (by omega) (by decide)
    obtain ⟨dd1, dd2, dd3, dd4⟩ := k4 c (by omega)
    rw [bx_s (by rw [reqCon _ k1 k2, b1]; rfl), gd_t in6, cc]
    by_cases dead : ¬ σ 35 c 0 = 0
    · rw [if_neg dead]
      refine step_thr (c := 2) (v := 0) I (Or.inr (Or.inl rfl)) (by decide) rfl ⟨0, ?_⟩
      show f_X7_die fu σ (nI c) = _
      unfold f_X7_die f_X7_die_b29
      rw [bd_s (isCon _ k1 k3), b1, bT, gd_t in6, cc, dd2, if_neg dead, goesX (by decide), if_pos rfl]
      rfl
    · have dead : σ 35 c 0 = 0 := Classical.byContradiction dead
      obtain ⟨q, Q⟩ := I.2.2.2.2.2.2.2.1.2 c (by omega)
      have ql := Q.len
      rw [if_pos dead, Q.1]
      have z0 : ∀ j, mB q j 0 = false := fun j => rfl
      obtain ⟨τ, t1, t2, t3, t4, t5, t6⟩ := dieC_loop (fu := fu) (σ0 := σ) (c := c) (q := q) (by omega) (by omega) Q.2.1 (fun j hj => by have := ((Q.2.2.1 j).mp hj).1; omega) fu q.length 0 σ (by omega) (by omega) fr.rfl (fun j => rfl) (fun j => rfl)
      rw [show f_X6_die_b37 fu fu σ c (nI q.length) 0 = _ from t1]
      have pm : pB (gU (gU τ 209 0 0 0) 203 0 c 1) c = pB σ c := by
        funext j
        simp only [pB, gU_n, gU_e, Nat.reduceEqDiff, not_false_eq_true, t2 186 (by decide), t2 187 (by decide)]
      have d0 : ∀ j, dB (gU (gU τ 209 0 0 0) 203 0 c 1) c 0 j = false := fun j => by
        unfold dB; rw [decide_eq_false (by omega : ¬ j < 0), Bool.false_and]
      obtain ⟨μ, m1, m2, m3, m4, m5⟩ := dieM_loop (fu := fu) (μ0 := gU (gU τ 209 0 0 0) 203 0 c 1) (N := N) (c := c) hN (by simp only [gU_n, gU_e, Nat.reduceEqDiff, not_false_eq_true, t2 183 (by decide)]; exact S.nM) fu 0 (gU (gU τ 209 0 0 0) 203 0 c 1) (Nat.zero_le _) (by omega) fr.rfl (fun j => by rw [d0]; rfl) (fun j => by rw [d0]; rfl) (fun j => by rw [d0]; rfl)
      rw [pm, Q.cnt] at m1
      have eD : ∀ j, dB (gU (gU τ 209 0 0 0) 203 0 c 1) c N j = mB q j q.length := fun j => by
        have h1 : dB (gU (gU τ 209 0 0 0) 203 0 c 1) c N j = true ↔ j ∈ q := by
          unfold dB
          rw [pm, Bool.and_eq_true, decide_eq_true_eq, pB_iff]
          exact (Q.2.2.1 j).symm
        have h2 := mB_iff (q := q) (j := j)
        cases h3 : mB q j q.length with
        | true => exact h1.mpr (h2.mp h3)
        | false =>
          cases h4 : dB (gU (gU τ 209 0 0 0) 203 0 c 1) c N j with
          | false => rfl
          | true => rw [h2.mpr (h1.mp h4)] at h3; cases h3
      refine ⟨0, nI q.length, τ, nI q.length, μ, rfl, ?_, ?_, fun _ => rfl, Or.inl rfl, N, V, P, K, G, ?_, by omega⟩
      · show f_X7_die fu τ (nI c) = _
        unfold f_X7_die f_X7_die_b29
        rw [bd_s (isCon _ k1 (by rw [t2 201 (by decide)]; exact k3)), b1, bT, gd_t in6, cc, t2 203 (by decide), dd2, if_pos dead, goes0, if_neg (show ¬ (1 : Int32) = 0 by decide), gd_t in6]
        exact m1
      · rw [m2 209 (by decide)]; simp only [gU_n, gU_e, Nat.reduceEqDiff, not_false_eq_true]; rfl
      · have f : fr [7, 8, 32, 35, 209, 203, 186, 187, 188] σ μ := by
          have a := t2.mono (M := [7, 8, 32, 35, 209, 203, 186, 187, 188]) (by decide)
          have b : fr [7, 8, 32, 35, 209, 203, 186, 187, 188] σ (gU (gU τ 209 0 0 0) 203 0 c 1) := by (repeat (first | exact fr.rfl | assumption | refine fr_gU ?_ (by decide) | refine fr_gR ?_ (by decide)))
          exact b.tr (m2.mono (by decide))
        have r7 : ∀ j, μ 7 j 0 = cond (mB q j q.length) (-1) (σ 7 j 0) := fun j => by rw [m2 7 (by decide)]; simp only [gU_n, gU_e, Nat.reduceEqDiff, not_false_eq_true]; exact t3 j
        have r8 : ∀ j, μ 8 j 0 = cond (mB q j q.length) (-1) (σ 8 j 0) := fun j => by rw [m2 8 (by decide)]; simp only [gU_n, gU_e, Nat.reduceEqDiff, not_false_eq_true]; exact t4 j
        have r32 : ∀ d, μ 32 d 0 = if d = c then 0 else σ 32 d 0 := fun d => by rw [m2 32 (by decide)]; simp only [gU_n, gU_e, Nat.reduceEqDiff, not_false_eq_true]; exact t5 d
        have r35 : ∀ d, μ 35 d 0 = if d = c then 1 else σ 35 d 0 := fun d => by rw [m2 35 (by decide)]; simp only [gU_n, gU_e, Nat.reduceEqDiff, not_false_eq_true]; exact t6 d
        have r186 : ∀ j, μ 186 0 j = cond (mB q j q.length) 0 (σ 186 0 j) := fun j => by rw [m3, eD]; simp only [gU_n, gU_e, Nat.reduceEqDiff, not_false_eq_true, t2 186 (by decide)]
        have r187 : ∀ j, μ 187 0 j = cond (mB q j q.length) (-1) (σ 187 0 j) := fun j => by rw [m4, eD]; simp only [gU_n, gU_e, Nat.reduceEqDiff, not_false_eq_true, t2 187 (by decide)]
        have r188 : ∀ j, μ 188 0 j = cond (mB q j q.length) (-1) (σ 188 0 j) := fun j => by rw [m5, eD]; simp only [gU_n, gU_e, Nat.reduceEqDiff, not_false_eq_true, t2 188 (by decide)]
        have r203 : ∀ d, μ 203 0 d = if d = c then 1 else σ 203 0 d := fun d => by
          rw [m2 203 (by decide)]
          by_cases ed : d = c
          · subst ed; rw [gU_e, if_pos rfl]
          · rw [gU_i (by omega), if_neg ed]; simp only [gU_n, gU_e, Nat.reduceEqDiff, not_false_eq_true, t2 203 (by decide)]
        obtain ⟨i1, i2, i3, i4, i5, i6, i7, i8, i9, i10⟩ := I
        have hp : prB μ = prB σ := by funext j; simp only [prB, f 11 (by decide)]
        have ht : txB μ = txB σ := by funext j; simp only [txB, f 9 (by decide)]
        have hn : nthN μ = nthN σ := by funext j; simp only [nthN, f 189 (by decide)]
        refine ⟨i1.frm f (by decide), i2.frm f (by decide), i3.frm f (by decide), fun j hj => ?_, i5.frm f (by decide), i6.frm f (by decide), ⟨k1, by rw [f 159 (by decide)]; exact k2, by rw [f 201 (by decide)]; exact k3, fun d hd => ?_, fun d hd => by rw [f 33 (by decide), f 202 (by decide)]; exact k5 d hd⟩, ⟨by rw [f 206 (by decide)]; exact i8.1, fun d hd => ?_⟩, i9.frm f (by decide), i10.frm f (by decide)⟩
        · obtain ⟨u1, u2, u3, u4, u5, u6, u7, u8, u9, u10⟩ := i4 j hj
          unfold aR
          rw [hp, ht, r7, r186, r187, r188, r8, f 11 (by decide), f 9 (by decide), f 10 (by decide), f 190 (by decide), f 5 (by decide), f 184 (by decide), show wN μ j = wN σ j by simp only [wN, f 185 (by decide)]]
          cases hm : mB q j q.length with
          | false => exact ⟨u1, u2, u3, u4, u5, u6, u7, u8, u9, u10⟩
          | true =>
            have jq := mB_iff.mp hm
            obtain ⟨jN, j1, j2⟩ := (Q.2.2.1 j).mp jq
            rw [u5] at j1
            obtain ⟨np, nt, -⟩ := stV1 j1
            simp only [cond_true]
            rw [np] at u1 ⊢
            rw [nt] at u2 ⊢
            exact ⟨u1, u2, u3, u4, rfl, Or.inl trivial, fun _ => ⟨(u7 jN).1, trivial, trivial, fun _ => trivial⟩, fun h => by omega, fun h => (by cases h), fun h => (by cases h)⟩
        · obtain ⟨e1, e2, e3, e4⟩ := k4 d hd
          rw [r35, r203, f 34 (by decide), f 205 (by decide), f 31 (by decide), f 204 (by decide)]
          by_cases ed : d = c
          · rw [if_pos ed, if_pos ed]; exact ⟨by decide, rfl, e3, e4⟩
          · rw [if_neg ed, if_neg ed]; exact ⟨e1, e2, e3, e4⟩
        · rw [show qOk μ N G d = fun q' => μ 32 d 0 = nI q'.length ∧ (∀ k j, q'[k]? = some j → μ 30 d k = nI j) ∧ (∀ j, j ∈ q' ↔ j < N ∧ μ 186 0 j = 1 ∧ μ 187 0 j = nI d) ∧ q'.Pairwise (fun a b => nthN μ a < nthN μ b) ∧ ∀ j, j ∈ q' → μ 189 0 j = nI (nthN μ j) ∧ nthN μ j < G from rfl]
          rw [hn, f 30 (by decide), f 189 (by decide), r32]
          by_cases ed : d = c
          · subst ed
            refine ⟨[], by rw [if_pos rfl]; rfl, fun k j h => by simp at h, fun j => ⟨fun h => by simp at h, fun h => ?_⟩, List.Pairwise.nil, fun j h => by simp at h⟩
            obtain ⟨h1, h2, h3⟩ := h
            rw [r186] at h2
            rw [r187] at h3
            cases hm : mB q j q.length with
            | true => rw [hm] at h2; exact absurd (show (0 : Int32) = 1 from h2) (by decide)
            | false =>
              rw [hm] at h2 h3
              have := mB_iff.mpr ((Q.2.2.1 j).mpr ⟨h1, h2, h3⟩)
              rw [hm] at this; cases this
          · obtain ⟨q', q1, q2, q3, q4, q5⟩ := i8.2 d hd
            refine ⟨q', by rw [if_neg ed]; exact q1, q2, fun j => ?_, q4, q5⟩
            rw [r186, r187, q3 j]
            cases hm : mB q j q.length with
            | false => exact Iff.rfl
            | true =>
              have j2 := ((Q.2.2.1 j).mp (mB_iff.mp hm)).2.2
              refine ⟨fun h => ?_, fun h => ?_⟩
              · rw [j2] at h
                exact absurd ((nI_eq (by omega) (by omega)).mp h.2.2).symm ed
              · exact absurd (show (0 : Int32) = 1 from h.2.1) (by decide)

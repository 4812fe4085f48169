/-! the reference's columns are the same -/
theorem lx_refl : ∀ l : List Nat, lx l l = 0
  | [] => rfl
  | a :: x => by simp only [lx, Nat.lt_irrefl, if_false]; exact lx_refl x
theorem ahead_irr (σ : gSt) (i : Nat) : aheadS σ i i = false := by
  simp only [aheadS, cmpS, lx_refl]
  simp
def mP (σ : gSt) (N V v a k : Nat) : Bool := !Nat.beq k a && (inn σ V v k && (decide (0 < wN σ k) && (decide (cR σ N V v a < cR σ N V v k) || (decide (cR σ N V v k = cR σ N V v a) && aheadS σ k a))))
theorem cntN_ge {p q : Nat → Bool} {n : Nat} (h : ∀ k, k < n → p k = true → q k = true) : cntN p n ≤ cntN q n := by
  apply sumN_le
  intro k hk
  cases hp : p k with
  | false => exact Nat.zero_le _
  | true => rw [h k hk hp]; exact Nat.le_refl _
theorem cntN_eq {p q : Nat → Bool} {n : Nat} (h : ∀ k, k < n → p k = q k) : cntN p n = cntN q n := by
  apply sumN_eq
  intro k hk
  rw [h k hk]
theorem beqN {k a : Nat} : Nat.beq k a = decide (k = a) := by
  cases hb : Nat.beq k a with
  | true => exact (decide_eq_true (Nat.eq_of_beq_eq_true hb)).symm
  | false => exact (decide_eq_false (fun e => by subst e; rw [show Nat.beq k k = true from Nat.beq_refl k] at hb; cases hb)).symm
theorem cols_same {σ : gSt} {N V v a : Nat} (hW : 0 < cW σ N V v) : (if 0 < wN σ a ∧ cntN (mP σ N V v a) N < cLeft σ N V v then 1 else 0) = (if cntN (cP σ N V v a) N < cLeft σ N V v then 1 else 0) := by
  have sh := (shares (N := N) (B := bN σ v) (W := cW σ N V v) (inn := inn σ V v) (w := wN σ) rfl hW).2
  have sh : cLeft σ N V v = 0 ∨ cLeft σ N V v < cntN (fun k => inn σ V v k && decide (0 < cR σ N V v k)) N := sh
  have big : ∀ p : Nat → Bool, (∀ k, k < N → (inn σ V v k && decide (0 < cR σ N V v k)) = true → p k = true) → ¬ cntN p N < cLeft σ N V v := by
    intro p hp
    have := cntN_ge (n := N) hp
    rcases sh with h | h <;> omega
  by_cases ra : cR σ N V v a = 0
  · have c1 : ¬ cntN (cP σ N V v a) N < cLeft σ N V v := big _ (fun k hk h => by
      simp only [Bool.and_eq_true, decide_eq_true_eq] at h
      simp [cP, h.1, ra, h.2])
    have c2 : ¬ cntN (mP σ N V v a) N < cLeft σ N V v := big _ (fun k hk h => by
      simp only [Bool.and_eq_true, decide_eq_true_eq] at h
      have h3 : k ≠ a := fun e => by rw [e] at h; omega
      have h4 : 0 < wN σ k := by
        rcases Nat.eq_zero_or_pos (wN σ k) with e | e
        · have : cR σ N V v k = 0 := by simp [cR, e]
          omega
        · exact e
      simp [mP, h.1, ra, h.2, h4, beqN, h3])
    rw [if_neg c1, if_neg (fun q => c2 q.2)]
  · have wa : 0 < wN σ a := by
      rcases Nat.eq_zero_or_pos (wN σ a) with e | e
      · exact absurd (by simp [cR, e]) ra
      · exact e
    have ce : cntN (mP σ N V v a) N = cntN (cP σ N V v a) N := cntN_eq (fun k hk => by
      by_cases e : k = a
      · subst e
        simp [mP, cP, beqN, ahead_irr]
      · by_cases w0 : wN σ k = 0
        · have r0 : cR σ N V v k = 0 := by simp [cR, w0]
          have r1 : ¬ 0 = cR σ N V v a := fun q => ra q.symm
          simp [mP, cP, w0, r0, r1]
        · have w1 : 0 < wN σ k := by omega
          simp [mP, cP, beqN, e, w1])
    rw [ce]
    by_cases c : cntN (cP σ N V v a) N < cLeft σ N V v
    · rw [if_pos c, if_pos ⟨wa, c⟩]
    · rw [if_neg c, if_neg (fun q => c q.2)]
theorem worthsM_loop {fu : Nat} {σ : gSt} {N V v a : Nat} (hfu : 30 ≤ fu) (Q : qRel σ N V) (hv : v < V) : ∀ n i, i ≤ N → N < n + i → f_X7_columns_b11 fu n σ (nI a) (nI v) (nI (sumN (cG σ V v) i)) (nI i) = f_X7_columns_b55 fu σ (nI a) (nI v) (nI (cW σ N V v)) := by
  intro n
  induction n with
  | zero => intro i h1 h2; omega
  | succ n ih =>
    intro i h1 h2
    have hN := Q.1.1
    have v4 := Q.2.1.1
    show f_X7_columns_b11_B fu (f_X7_columns_b11 fu n) σ (nI a) (nI v) _ (nI i) = _
    unfold f_X7_columns_b11_B f_X7_columns_b47
    rw [Q.1.2.2]
    by_cases e : N ≤ i
    · rw [if_pos (nI_le e (by omega))]
      have : i = N := by omega
      subst this; rfl
    · have hi : i < N := by omega
      rw [if_neg (nI_ge (by omega) (by omega)), if_neg (m1_ne (by omega)), bd_s (volM_ok (by omega) (by omega) (Q.2.2.2.1 i hi) Q.2.1)]
      have st : sumN (cG σ V v) (i + 1) = sumN (cG σ V v) i + cG σ V v i := rfl
      by_cases ev : volS σ V (fl (cods σ i)) = nI v
      · have ei : inn σ V v i = true := decide_eq_true ev
        rw [if_pos ev, gd_t (inb_t (by omega : i < 24) (by decide)), nI_clamp (by omega : i < 2 ^ 31), (wN_ok Q hi).2.2, nI_add, nI_1, ← ih (i + 1) (by omega) (by omega), st]
        simp only [cG, ei, cond_true]
      · have ei : inn σ V v i = false := decide_eq_false ev
        rw [if_neg ev, ← nI_0, nI_add, nI_1, ← ih (i + 1) (by omega) (by omega), st]
        simp only [cG, ei, cond_false]
theorem leftM_loop {fu : Nat} {σ : gSt} {N V v a : Nat} (hfu : 30 ≤ fu) (Q : qRel σ N V) (hv : v < V) (ha : a < N) (hW : 0 < cW σ N V v) : ∀ n i, i ≤ N → N < n + i → f_X7_columns_b72 fu n σ (nI a) (nI v) (nI (cW σ N V v)) (nI (bN σ v - sumN (cQ σ N V v) i)) (nI i) = f_X7_columns_b145 fu fu σ (nI a) (nI v) (nI (cW σ N V v)) (nI (cLeft σ N V v)) (nI (cR σ N V v a)) 0 0 := by
  have hN := Q.1.1
  have v4 := Q.2.1.1
  obtain ⟨b1, b2, b3, b4⟩ := bN_ok Q hv
  have W2 : cW σ N V v ≤ 216 := cW_le Q (Nat.le_refl _)
  have sh := (shares (N := N) (B := bN σ v) (W := cW σ N V v) (inn := inn σ V v) (w := wN σ) rfl hW).1
  have bw : ∀ k, k < N → bN σ v * wN σ k < 2000 := fun k hk => by
    have := (wN_ok Q hk).1
    have : bN σ v * wN σ k ≤ 99 * 9 := Nat.mul_le_mul b2 this
    omega
  intro n
  induction n with
  | zero => intro i h1 h2; omega
  | succ n ih =>
    intro i h1 h2
    show f_X7_columns_b72_B fu (f_X7_columns_b72 fu n) σ (nI a) (nI v) _ _ (nI i) = _
    unfold f_X7_columns_b72_B f_X7_columns_b113
    rw [Q.1.2.2]
    by_cases e : N ≤ i
    · have : i = N := by omega
      subst this
      rw [if_pos (nI_le e (by omega)), gd_t (inb_t (by omega : v < 4) (by decide)), gd_t (inb_t (by omega : a < 24) (by decide)), gd_t (nzd hW (by omega)), nI_clamp (by omega : v < 2 ^ 31), nI_clamp (by omega : a < 2 ^ 31), b4, (wN_ok Q ha).2.2, nI_mul, pk_rem (by have := bw a ha; omega) hW (by omega)]
      rfl
    · have hi : i < N := by omega
      rw [if_neg (nI_ge (by omega) (by omega)), bd_s (volM_ok (by omega) (by omega) (Q.2.2.2.1 i hi) Q.2.1)]
      have st : sumN (cQ σ N V v) (i + 1) = sumN (cQ σ N V v) i + cQ σ N V v i := rfl
      have sm : sumN (cQ σ N V v) (i + 1) ≤ bN σ v := Nat.le_trans (sumN_mono (by omega)) sh
      by_cases ev : volS σ V (fl (cods σ i)) = nI v
      · have ei : inn σ V v i = true := decide_eq_true ev
        have qi : cQ σ N V v i = bN σ v * wN σ i / cW σ N V v := by simp only [cQ, ei, cond_true]
        rw [if_pos ev, gd_t (inb_t (by omega : v < 4) (by decide)), gd_t (inb_t (by omega : i < 24) (by decide)), gd_t (nzd hW (by omega)), nI_clamp (by omega : v < 2 ^ 31), nI_clamp (by omega : i < 2 ^ 31), b4, (wN_ok Q hi).2.2, nI_mul, pk_div (by have := bw i hi; omega) hW (by omega), nI_sub (by rw [st, qi] at sm; omega), nI_1, ← ih (i + 1) (by omega) (by omega), st, qi, Nat.sub_sub]
      · have ei : inn σ V v i = false := decide_eq_false ev
        have qi : cQ σ N V v i = 0 := by simp only [cQ, ei, cond_false]
        rw [if_neg ev, ← nI_0, nI_sub (Nat.zero_le _), nI_1, nI_0, ← ih (i + 1) (by omega) (by omega), st, qi]
        rfl
theorem lt_m1 {r : Nat} (h : r < 2000) : ¬ nI r < -1 := by
  intro e
  have := Int32.lt_iff_toInt_lt.mp e
  rw [nI_toInt (by omega)] at this
  have h2 : (-1 : Int32).toInt = -1 := by decide
  omega
theorem aheadM_loop {fu : Nat} {σ : gSt} {N V v a : Nat} (hfu : 30 ≤ fu) (Q : qRel σ N V) (hv : v < V) (ha : a < N) (hW : 0 < cW σ N V v) : ∀ n i, i ≤ N → N < n + i → f_X7_columns_b145 fu n σ (nI a) (nI v) (nI (cW σ N V v)) (nI (cLeft σ N V v)) (nI (cR σ N V v a)) (nI (cntN (mP σ N V v a) i)) (nI i) = some (nI (colN σ N V v a), σ) := by
  have hN := Q.1.1
  have v4 := Q.2.1.1
  obtain ⟨b1, b2, b3, b4⟩ := bN_ok Q hv
  have W2 : cW σ N V v ≤ 216 := cW_le Q (Nat.le_refl _)
  have bw : ∀ k, k < N → bN σ v * wN σ k < 2000 := fun k hk => by
    have := (wN_ok Q hk).1
    have : bN σ v * wN σ k ≤ 99 * 9 := Nat.mul_le_mul b2 this
    omega
  have rk : ∀ k, cR σ N V v k < 2000 := fun k => by have := Nat.mod_lt (bN σ v * wN σ k) hW; simp only [cR]; omega
  intro n
  induction n with
  | zero => intro i h1 h2; omega
  | succ n ih =>
    intro i h1 h2
    show f_X7_columns_b145_B fu (f_X7_columns_b145 fu n) σ (nI a) (nI v) _ _ _ _ (nI i) = _
    unfold f_X7_columns_b145_B f_X7_columns_b193 f_X7_columns_b194 f_X7_columns_b228 f_X7_columns_b232 f_X7_columns_b233 f_X7_columns_b277 f_X7_columns_b278
    rw [Q.1.2.2]
    by_cases e : N ≤ i
    · have : i = N := by omega
      subst this
      rw [if_pos (nI_le e (by omega)), gd_t (inb_t (by omega : v < 4) (by decide)), gd_t (inb_t (by omega : a < 24) (by decide)), gd_t (nzd hW (by omega)), gd_t (inb_t (by omega : a < 24) (by decide)), nI_clamp (by omega : v < 2 ^ 31), nI_clamp (by omega : a < 2 ^ 31), b4, (wN_ok Q ha).2.2, nI_mul, pk_div (by have := bw a ha; omega) hW (by omega)]
      have cl := cntN_le (p := mP σ i V v a) (n := i)
      have lb : cLeft σ i V v ≤ 99 := by simp only [cLeft]; omega
      have w9 := (wN_ok Q ha).1
      simp only [colN, if_neg (by omega : ¬ cW σ i V v = 0), ← cols_same (a := a) hW]
      by_cases w0 : wN σ a ≤ 0
      · rw [if_pos (by rw [← nI_0]; exact nI_le w0 (by omega)), if_neg (fun q => by omega), ← nI_0, nI_add]
      · rw [if_neg (by rw [← nI_0]; exact nI_ge (by omega) (by omega))]
        by_cases s : cntN (mP σ i V v a) i < cLeft σ i V v
        · rw [if_neg (nI_ge s (by omega)), if_pos ⟨by omega, s⟩, show (1 : Int32) = nI 1 from rfl, nI_add]
        · rw [if_pos (nI_le (by omega) (by omega)), if_neg (fun q => s q.2), ← nI_0, nI_add]
    · have hi : i < N := by omega
      have ri := rk i
      have ra := rk a
      have fin : ∀ b : Bool, mP σ N V v a i = b → f_X7_columns_b145 fu n σ (nI a) (nI v) (nI (cW σ N V v)) (nI (cLeft σ N V v)) (nI (cR σ N V v a)) (nI (cntN (mP σ N V v a) i) + cond b 1 0) (nI i + 1) = some (nI (colN σ N V v a), σ) := fun b hb => by
        rw [← ih (i + 1) (by omega) (by omega), cntN_s, hb, nI_1]
        cases b with
        | false => rw [cond_false, cond_false, ← nI_0, nI_add]
        | true => rw [cond_true, cond_true, show (1 : Int32) = nI 1 from rfl, nI_add]
      rw [if_neg (nI_ge (by omega) (by omega)), bd_s (volM_ok (by omega) (by omega) (Q.2.2.2.1 i hi) Q.2.1)]
      have neg : mP σ N V v a i = false → (if nI i = nI a then f_X7_columns_b145 fu n σ (nI a) (nI v) (nI (cW σ N V v)) (nI (cLeft σ N V v)) (nI (cR σ N V v a)) (nI (cntN (mP σ N V v a) i) + 0) (nI i + 1) else if nI (cR σ N V v a) < -1 then f_X7_columns_b145 fu n σ (nI a) (nI v) (nI (cW σ N V v)) (nI (cLeft σ N V v)) (nI (cR σ N V v a)) (nI (cntN (mP σ N V v a) i) + 1) (nI i + 1) else if (-1 : Int32) = nI (cR σ N V v a) then bd (f_X7_isAhead fu σ (nI i) (nI a)) (fun v4 σ4 => if v4 = 0 then f_X7_columns_b145 fu n σ4 (nI a) (nI v) (nI (cW σ N V v)) (nI (cLeft σ N V v)) (nI (cR σ N V v a)) (nI (cntN (mP σ N V v a) i) + 0) (nI i + 1) else f_X7_columns_b145 fu n σ4 (nI a) (nI v) (nI (cW σ N V v)) (nI (cLeft σ N V v)) (nI (cR σ N V v a)) (nI (cntN (mP σ N V v a) i) + 1) (nI i + 1)) else f_X7_columns_b145 fu n σ (nI a) (nI v) (nI (cW σ N V v)) (nI (cLeft σ N V v)) (nI (cR σ N V v a)) (nI (cntN (mP σ N V v a) i) + 0) (nI i + 1)) = some (nI (colN σ N V v a), σ) := fun hm => by
        by_cases q1 : nI i = nI a
        · rw [if_pos q1]; exact fin false hm
        · rw [if_neg q1, if_neg (lt_m1 ra), if_neg (fun q => m1_ne ra q.symm)]; exact fin false hm
      by_cases ev : volS σ V (fl (cods σ i)) = nI v
      · have ei : inn σ V v i = true := decide_eq_true ev
        rw [if_pos ev, gd_t (inb_t (by omega : i < 24) (by decide)), nI_clamp (by omega : i < 2 ^ 31), (wN_ok Q hi).2.2]
        have w9 := (wN_ok Q hi).1
        by_cases w0 : wN σ i ≤ 0
        · rw [if_pos (by rw [← nI_0]; exact nI_le w0 (by omega))]
          exact neg (by simp [mP, show wN σ i = 0 by omega])
        · rw [if_neg (by rw [← nI_0]; exact nI_ge (by omega) (by omega)), gd_t (inb_t (by omega : v < 4) (by decide)), gd_t (inb_t (by omega : i < 24) (by decide)), gd_t (nzd hW (by omega)), nI_clamp (by omega : v < 2 ^ 31), b4, nI_mul, pk_rem (by have := bw i hi; omega) hW (by omega)]
          have w1 : 0 < wN σ i := by omega
          show (if nI i = nI a then _ else if nI (cR σ N V v a) < nI (cR σ N V v i) then _ else if nI (cR σ N V v i) = nI (cR σ N V v a) then _ else _) = _
          by_cases ia : i = a
          · rw [if_pos (by rw [ia])]
            exact fin false (by simp [mP, beqN, ia])
          · rw [if_neg (fun q => ia ((nI_eq (by omega) (by omega)).mp q))]
            by_cases g1 : cR σ N V v a < cR σ N V v i
            · rw [if_pos (nI_lt g1 (by omega))]
              exact fin true (by simp [mP, beqN, ia, ei, w1, g1])
            · rw [if_neg (nI_nlt (by omega) (by omega))]
              by_cases g2 : cR σ N V v i = cR σ N V v a
              · rw [if_pos (by rw [g2]), bd_s (aheadM_ok (by omega) (by omega) (by omega) (Q.2.2.2.1 i hi).1 (Q.2.2.2.1 a ha).1)]
                have cp : mP σ N V v a i = aheadS σ i a := by simp [mP, beqN, ia, ei, w1, g2]
                cases as : aheadS σ i a with
                | false => rw [if_pos (show bI false = 0 from rfl)]; exact fin false (cp.trans as)
                | true => rw [if_neg (show ¬ bI true = 0 by decide)]; exact fin true (cp.trans as)
              · rw [if_neg (fun q => g2 ((nI_eq (by omega) (by omega)).mp q))]
                exact fin false (by
                  have G1 : decide (cR σ N V v a < cR σ N V v i) = false := decide_eq_false g1
                  have G2 : decide (cR σ N V v i = cR σ N V v a) = false := decide_eq_false g2
                  simp only [mP, G1, G2]
                  simp)
      · have ei : inn σ V v i = false := decide_eq_false ev
        rw [if_neg ev]
        exact neg (by simp [mP, ei])
theorem colsM_ok {fu : Nat} {σ : gSt} {N V a : Nat} (hfu : 30 ≤ fu) (Q : qRel σ N V) (ha : a < N) : f_X7_columns fu σ (nI a) = some (nI (colA σ N V a), σ) := by
  have hN := Q.1.1
  unfold f_X7_columns
  rw [bd_s (volM_ok (by omega) (by omega) (Q.2.2.2.1 a ha) Q.2.1)]
  rcases volS_cases (σ := σ) (V := V) (c := fl (cods σ a)) with h | ⟨v, hv, h⟩
  · have h1 : vS σ V a = -1 := h
    obtain ⟨n, rfl⟩ : ∃ n, fu = n + 1 := ⟨fu - 1, by omega⟩
    rw [h]
    show f_X7_columns_b11_B (n + 1) (f_X7_columns_b11 (n + 1) n) σ (nI a) (-1) 0 0 = _
    unfold f_X7_columns_b11_B f_X7_columns_b55
    rw [if_pos (rfl : (-1 : Int32) = -1), if_pos (rfl : (0 : Int32) = 0)]
    simp only [colA, if_pos h1]
    split <;> rfl
  · have h1 : vS σ V a = nI v := h
    have v4 := Q.2.1.1
    have hm := m1_ne (v := v) (by omega)
    have hc : colA σ N V a = colN σ N V v a := by simp only [colA, h1, if_neg hm, nI_clamp (by omega : v < 2 ^ 31)]
    rw [h, hc, show f_X7_columns_b11 fu fu σ (nI a) (nI v) 0 0 = _ from worthsM_loop (fu := fu) (a := a) hfu Q hv fu 0 (Nat.zero_le _) (by omega)]
    unfold f_X7_columns_b55
    by_cases w0 : cW σ N V v = 0
    · rw [if_pos (by rw [w0]; rfl)]
      simp only [colN, if_pos w0]
      rfl
    · have W2 : cW σ N V v ≤ 216 := cW_le Q (Nat.le_refl _)
      rw [if_neg (nI_ne0 (by omega) (by omega)), gd_t (inb_t (by omega : v < 4) (by decide)), nI_clamp (by omega : v < 2 ^ 31), (bN_ok Q hv).2.2.2]
      rw [show f_X7_columns_b72 fu fu σ (nI a) (nI v) (nI (cW σ N V v)) (nI (bN σ v)) 0 = _ from leftM_loop (fu := fu) hfu Q hv ha (by omega) fu 0 (Nat.zero_le _) (by omega)]
      exact aheadM_loop (fu := fu) hfu Q hv ha (by omega) fu 0 (Nat.zero_le _) (by omega)

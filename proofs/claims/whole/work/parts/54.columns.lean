/-! the columns of an article: class and reference -/
def qRel (σ : gSt) (N V : Nat) : Prop := (N ≤ 24 ∧ σ 156 0 0 = nI N ∧ σ 183 0 0 = nI N) ∧ vRel σ V ∧ rRel σ ∧ (∀ i, i < N → hwl σ i) ∧ ∀ i, i < N → ∃ w, w ≤ 9 ∧ σ 6 i 0 = nI w ∧ σ 185 0 i = nI w
def wN (σ : gSt) (i : Nat) : Nat := (σ 185 0 i).toNatClampNeg
def bN (σ : gSt) (v : Nat) : Nat := (σ 199 0 v).toNatClampNeg
def vS (σ : gSt) (V i : Nat) : Int32 := volS σ V (fl (cods σ i))
def inn (σ : gSt) (V v k : Nat) : Bool := decide (vS σ V k = nI v)
theorem wN_ok {σ : gSt} {N V i : Nat} (Q : qRel σ N V) (hi : i < N) : wN σ i ≤ 9 ∧ σ 6 i 0 = nI (wN σ i) ∧ σ 185 0 i = nI (wN σ i) := by
  obtain ⟨w, h1, h2, h3⟩ := Q.2.2.2.2 i hi
  have e : wN σ i = w := by rw [wN, h3]; exact nI_clamp (by omega)
  rw [e]; exact ⟨h1, h2, h3⟩
theorem bN_ok {σ : gSt} {N V v : Nat} (Q : qRel σ N V) (hv : v < V) : 1 ≤ bN σ v ∧ bN σ v ≤ 99 ∧ σ 121 v 0 = nI (bN σ v) ∧ σ 199 0 v = nI (bN σ v) := by
  obtain ⟨b, h1, h2, h3, h4⟩ := (Q.2.1.2.2.2 v hv).2
  have e : bN σ v = b := by rw [bN, h4]; exact nI_clamp (by omega)
  rw [e]; exact ⟨h1, h2, h3, h4⟩
def cG (σ : gSt) (V v : Nat) : Nat → Nat := fun k => cond (inn σ V v k) (wN σ k) 0
def cW (σ : gSt) (N V v : Nat) : Nat := sumN (cG σ V v) N
def cR (σ : gSt) (N V v k : Nat) : Nat := bN σ v * wN σ k % cW σ N V v
def cQ (σ : gSt) (N V v : Nat) : Nat → Nat := fun k => cond (inn σ V v k) (bN σ v * wN σ k / cW σ N V v) 0
def cLeft (σ : gSt) (N V v : Nat) : Nat := bN σ v - sumN (cQ σ N V v) N
def cP (σ : gSt) (N V v a k : Nat) : Bool := inn σ V v k && (decide (cR σ N V v a < cR σ N V v k) || (decide (cR σ N V v k = cR σ N V v a) && aheadS σ k a))
def colN (σ : gSt) (N V v a : Nat) : Nat := if cW σ N V v = 0 then 0 else bN σ v * wN σ a / cW σ N V v + (if cntN (cP σ N V v a) N < cLeft σ N V v then 1 else 0)
/-- the columns of article a -/
def colA (σ : gSt) (N V a : Nat) : Nat := if vS σ V a = -1 then 0 else colN σ N V (vS σ V a).toNatClampNeg a
theorem cG_le {σ : gSt} {N V v k : Nat} (Q : qRel σ N V) (hk : k < N) : cG σ V v k ≤ 9 := by
  have := (wN_ok Q hk).1
  simp only [cG]
  cases inn σ V v k <;> simp <;> omega
theorem cW_le {σ : gSt} {N V v i : Nat} (Q : qRel σ N V) (hi : i ≤ N) : sumN (cG σ V v) i ≤ 216 := by
  have h1 := sumN_bound (f := cG σ V v) (c := 9) (n := i) (fun k hk => cG_le Q (by omega))
  have := Q.1.1
  omega
theorem m1_ne {v : Nat} (h : v < 2000) : ¬ nI v = -1 := by
  intro e
  have := congrArg Int32.toInt e
  rw [nI_toInt (by omega)] at this
  have h2 : (-1 : Int32).toInt = -1 := by decide
  omega
theorem worthsC_loop {fu : Nat} {σ : gSt} {N V v : Nat} (hfu : 30 ≤ fu) (Q : qRel σ N V) : ∀ n i, i ≤ N → N < n + i → f_X6_worthsIn_b4 fu n σ (nI v) (nI (sumN (cG σ V v) i)) (nI i) = some (nI (cW σ N V v), σ) := by
  intro n
  induction n with
  | zero => intro i h1 h2; omega
  | succ n ih =>
    intro i h1 h2
    have hN := Q.1.1
    show f_X6_worthsIn_b4_B fu (f_X6_worthsIn_b4 fu n) σ (nI v) _ (nI i) = _
    unfold f_X6_worthsIn_b4_B f_X6_worthsIn_b41
    rw [Q.1.2.1]
    by_cases e : N ≤ i
    · rw [if_pos (nI_le e (by omega))]
      have : i = N := by omega
      subst this; rfl
    · have hi : i < N := by omega
      rw [if_neg (nI_ge (by omega) (by omega)), gd_t (inb_t (by omega : i < 24) (by decide)), nI_clamp (by omega : i < 2 ^ 31), bd_s (volC_ok (by omega) (Q.2.2.2.1 i hi) Q.2.1)]
      have st : sumN (cG σ V v) (i + 1) = sumN (cG σ V v) i + cG σ V v i := rfl
      by_cases ev : volS σ V (fl (cods σ i)) = nI v
      · rw [if_pos ev, gd_t (inb_t (by omega : i < 24) (by decide)), (wN_ok Q hi).2.1, nI_add, nI_1]
        have ei : inn σ V v i = true := decide_eq_true ev
        rw [← ih (i + 1) (by omega) (by omega), st]
        simp only [cG, ei, cond_true]
      · rw [if_neg ev, nI_1]
        have ei : inn σ V v i = false := decide_eq_false ev
        rw [← ih (i + 1) (by omega) (by omega), st]
        simp only [cG, ei, cond_false, Nat.add_zero]
theorem sub_pos {a b : Nat} (ha : a < 2000) (hb : b < 2000) : (0 < nI a - nI b) ↔ b < a := by
  rw [Int32.lt_iff_toInt_lt, sub_toInt ha hb]
  have : (0 : Int32).toInt = 0 := by decide
  omega
theorem sub_zero {a b : Nat} (ha : a < 2000) (hb : b < 2000) : (nI a - nI b = 0) ↔ a = b := by
  have h := (sgn_sub ha hb).1
  exact h.trans ⟨fun e => by omega, fun e => by omega⟩
theorem nzd {W : Nat} (h0 : 0 < W) (h1 : W < 2000) : (!decide (nI W = 0)) = true := by
  have : ¬ nI W = 0 := nI_ne0 h0 (by omega)
  simp [this]
theorem cntN_s (p : Nat → Bool) (i : Nat) : cntN p (i + 1) = cntN p i + cond (p i) 1 0 := rfl
theorem colsC_loop {fu : Nat} {σ : gSt} {N V v a : Nat} (hfu : 30 ≤ fu) (Q : qRel σ N V) (hv : v < V) (ha : a < N) (hW : 0 < cW σ N V v) : ∀ n i, i ≤ N → N < n + i →
    f_X6_columnsOf_b68 fu n σ (nI a) (nI v) (nI (cW σ N V v)) (nI (bN σ v)) (nI (bN σ v * wN σ a)) (nI (bN σ v - sumN (cQ σ N V v) i)) (nI (cntN (cP σ N V v a) i)) (nI i) = some (nI (colN σ N V v a), σ) := by
  have hN := Q.1.1
  obtain ⟨b1, b2, b3, b4⟩ := bN_ok Q hv
  have W2 : cW σ N V v ≤ 216 := cW_le Q (Nat.le_refl _)
  have sh := (shares (N := N) (B := bN σ v) (W := cW σ N V v) (inn := inn σ V v) (w := wN σ) rfl hW).1
  have bw : ∀ k, k < N → bN σ v * wN σ k < 2000 := fun k hk => by
    have := (wN_ok Q hk).1
    have : bN σ v * wN σ k ≤ 99 * 9 := Nat.mul_le_mul b2 this
    omega
  have rk : ∀ k, cR σ N V v k < 2000 := fun k => by have := Nat.mod_lt (bN σ v * wN σ k) hW; simp only [cR]; omega
  intro n
  induction n with
  | zero => intro i h1 h2; omega
  | succ n ih =>
    intro i h1 h2
    show f_X6_columnsOf_b68_B fu (f_X6_columnsOf_b68 fu n) σ (nI a) (nI v) _ _ _ _ _ (nI i) = _
    unfold f_X6_columnsOf_b68_B f_X6_columnsOf_b150 f_X6_columnsOf_b153 f_X6_columnsOf_b175
    rw [Q.1.2.1]
    by_cases e : N ≤ i
    · have : i = N := by omega
      subst this
      rw [if_pos (nI_le e (by omega)), gd_t (nzd hW (by omega)), pk_div (by have := bw a ha; omega) hW (by omega)]
      have cl := cntN_le (p := cP σ i V v a) (n := i)
      show (if nI (cLeft σ i V v) ≤ nI (cntN (cP σ i V v a) i) then _ else _) = _
      have lb : cLeft σ i V v ≤ 99 := by simp only [cLeft]; omega
      simp only [colN, if_neg (by omega : ¬ cW σ i V v = 0)]
      by_cases s : cntN (cP σ i V v a) i < cLeft σ i V v
      · rw [if_neg (nI_ge s (by omega)), if_pos s, show (1 : Int32) = nI 1 from rfl, nI_add]
      · rw [if_pos (nI_le (by omega) (by omega)), if_neg s, ← nI_0, nI_add]
    · have hi : i < N := by omega
      rw [if_neg (nI_ge (by omega) (by omega)), gd_t (inb_t (by omega : i < 24) (by decide)), nI_clamp (by omega : i < 2 ^ 31), bd_s (volC_ok (by omega) (Q.2.2.2.1 i hi) Q.2.1)]
      have st : sumN (cQ σ N V v) (i + 1) = sumN (cQ σ N V v) i + cQ σ N V v i := rfl
      have sm : sumN (cQ σ N V v) (i + 1) ≤ bN σ v := Nat.le_trans (sumN_mono (by omega)) sh
      by_cases ev : volS σ V (fl (cods σ i)) = nI v
      · have ei : inn σ V v i = true := decide_eq_true ev
        have qi : cQ σ N V v i = bN σ v * wN σ i / cW σ N V v := by simp only [cQ, ei, cond_true]
        rw [if_pos ev, gd_t (inb_t (by omega : i < 24) (by decide)), gd_t (nzd hW (by omega)), gd_t (nzd hW (by omega)), gd_t (nzd hW (by omega)), (wN_ok Q hi).2.1, nI_mul, pk_rem (by have := bw i hi; omega) hW (by omega), pk_rem (by have := bw a ha; omega) hW (by omega), pk_div (by have := bw i hi; omega) hW (by omega)]
        have lf : nI (bN σ v - sumN (cQ σ N V v) i) - nI (bN σ v * wN σ i / cW σ N V v) = nI (bN σ v - sumN (cQ σ N V v) (i + 1)) := by
          rw [nI_sub (by rw [st, qi] at sm; omega), st, qi]; congr 1; omega
        rw [lf]
        have ri := rk i
        have ra := rk a
        simp only [cR] at ri ra
        by_cases g1 : bN σ v * wN σ a % cW σ N V v < bN σ v * wN σ i % cW σ N V v
        · rw [if_pos ((sub_pos ri ra).mpr g1), nI_1, nI_1, ← ih (i + 1) (by omega) (by omega), cntN_s]
          have cp : cP σ N V v a i = true := by simp [cP, cR, ei, g1]
          rw [cp]; rfl
        · rw [if_neg (fun q => g1 ((sub_pos ri ra).mp q))]
          by_cases g2 : bN σ v * wN σ i % cW σ N V v = bN σ v * wN σ a % cW σ N V v
          · rw [if_pos ((sub_zero ri ra).mpr g2), bd_s (aheadC_ok (by omega) Q.2.2.1 (by omega) (by omega) (Q.2.2.2.1 i hi).1 (Q.2.2.2.1 a ha).1)]
            have cp : cP σ N V v a i = aheadS σ i a := by simp [cP, cR, ei, g2]
            cases as : aheadS σ i a with
            | false => rw [if_pos (show bI false = 0 from rfl), nI_1, ← ih (i + 1) (by omega) (by omega), cntN_s, cp, as]; rfl
            | true => rw [if_neg (show ¬ bI true = 0 by decide), nI_1, nI_1, ← ih (i + 1) (by omega) (by omega), cntN_s, cp, as]; rfl
          · rw [if_neg (fun q => g2 ((sub_zero ri ra).mp q)), nI_1, ← ih (i + 1) (by omega) (by omega), cntN_s]
            have cp : cP σ N V v a i = false := by
              have G1 : ¬ cR σ N V v a < cR σ N V v i := g1
              have G2 : ¬ cR σ N V v i = cR σ N V v a := g2
              simp only [cP, ei, Bool.true_and]
              rw [decide_eq_false G1, decide_eq_false G2]
              rfl
            rw [cp]; rfl
      · have ei : inn σ V v i = false := decide_eq_false ev
        have qi : cQ σ N V v i = 0 := by simp only [cQ, ei, cond_false]
        have cp : cP σ N V v a i = false := by simp only [cP, ei, Bool.false_and]
        rw [if_neg ev, nI_1, ← ih (i + 1) (by omega) (by omega), st, qi, cntN_s, cp]
        rfl
theorem colsC_ok {fu : Nat} {σ : gSt} {N V a : Nat} (hfu : 30 ≤ fu) (Q : qRel σ N V) (ha : a < N) : f_X6_columnsOf fu σ (nI a) = some (nI (colA σ N V a), σ) := by
  have hN := Q.1.1
  unfold f_X6_columnsOf
  rw [gd_t (inb_t (by omega : a < 24) (by decide)), nI_clamp (by omega : a < 2 ^ 31), bd_s (volC_ok (by omega) (Q.2.2.2.1 a ha) Q.2.1)]
  show (if vS σ V a = -1 then _ else _) = _
  rcases volS_cases (σ := σ) (V := V) (c := fl (cods σ a)) with h | ⟨v, hv, h⟩
  · have h : vS σ V a = -1 := h
    rw [if_pos h]
    simp only [colA, if_pos h]
    rfl
  · have h0 := h
    have h : vS σ V a = nI v := h
    have v4 := Q.2.1.1
    have hm := m1_ne (v := v) (by omega)
    have hc : colA σ N V a = colN σ N V v a := by simp only [colA, h, if_neg hm, nI_clamp (by omega : v < 2 ^ 31)]
    rw [if_neg (by rw [h]; exact hm)]
    show bd (f_X6_worthsIn fu σ (vS σ V a)) _ = _
    rw [hc, h, bd_s (show f_X6_worthsIn fu σ (nI v) = _ from worthsC_loop (fu := fu) hfu Q fu 0 (Nat.zero_le _) (by omega))]
    by_cases w0 : cW σ N V v = 0
    · rw [if_pos (by rw [w0]; rfl)]
      simp only [colN, if_pos w0]
      rfl
    · have W2 : cW σ N V v ≤ 216 := cW_le Q (Nat.le_refl _)
      rw [if_neg (nI_ne0 (by omega) (by omega))]
      simp only [h0]
      rw [gd_t (inb_t (by omega : v < 4) (by decide)), gd_t (inb_t (by omega : a < 24) (by decide)), nI_clamp (by omega : v < 2 ^ 31), (bN_ok Q hv).2.2.1, (wN_ok Q ha).2.1, nI_mul]
      exact colsC_loop (fu := fu) hfu Q hv ha (by omega) fu 0 (Nat.zero_le _) (by omega)

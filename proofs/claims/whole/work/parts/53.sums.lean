/-! sums, counts; the columns of an article -/
def sumN (f : Nat → Nat) : Nat → Nat
  | 0 => 0
  | n + 1 => sumN f n + f n
def cntN (p : Nat → Bool) (n : Nat) : Nat := sumN (fun k => cond (p k) 1 0) n
theorem sumN_le {f g : Nat → Nat} : ∀ {n}, (∀ k, k < n → f k ≤ g k) → sumN f n ≤ sumN g n
  | 0, _ => Nat.le_refl _
  | n + 1, h => Nat.add_le_add (sumN_le fun k hk => h k (by omega)) (h n (by omega))
theorem sumN_eq {f g : Nat → Nat} : ∀ {n}, (∀ k, k < n → f k = g k) → sumN f n = sumN g n
  | 0, _ => rfl
  | n + 1, h => by
    show sumN f n + f n = sumN g n + g n
    rw [sumN_eq fun k hk => h k (by omega), h n (by omega)]
theorem sumN_mul (c : Nat) (f : Nat → Nat) : ∀ n, sumN (fun k => c * f k) n = c * sumN f n
  | 0 => rfl
  | n + 1 => by
    show sumN (fun k => c * f k) n + c * f n = c * (sumN f n + f n)
    rw [sumN_mul c f n, Nat.mul_add]
theorem sumN_add (f g : Nat → Nat) : ∀ n, sumN (fun k => f k + g k) n = sumN f n + sumN g n
  | 0 => rfl
  | n + 1 => by
    show sumN (fun k => f k + g k) n + (f n + g n) = sumN f n + f n + (sumN g n + g n)
    rw [sumN_add f g n]; omega
theorem sumN_const (c : Nat) : ∀ n, sumN (fun _ => c) n = n * c
  | 0 => by simp [sumN]
  | n + 1 => by
    show sumN (fun _ => c) n + c = (n + 1) * c
    rw [sumN_const c n, Nat.succ_mul]
theorem sumN_bound {f : Nat → Nat} {c n : Nat} (h : ∀ k, k < n → f k ≤ c) : sumN f n ≤ n * c := by
  rw [← sumN_const c n]; exact sumN_le h
theorem sumN_mono {f : Nat → Nat} : ∀ {n m}, n ≤ m → sumN f n ≤ sumN f m := by
  intro n m h
  induction m with
  | zero => have : n = 0 := by omega
            subst this; exact Nat.le_refl _
  | succ m ih =>
    by_cases e : n = m + 1
    · subst e; exact Nat.le_refl _
    · exact Nat.le_trans (ih (by omega)) (Nat.le_add_right _ _)
theorem sumN_pos {f : Nat → Nat} {k n : Nat} (hk : k < n) : f k ≤ sumN f n := by
  have h1 : f k ≤ sumN f (k + 1) := Nat.le_add_left _ _
  exact Nat.le_trans h1 (sumN_mono hk)
theorem cntN_le {p : Nat → Bool} {n : Nat} : cntN p n ≤ n := by
  have := sumN_bound (f := fun k => cond (p k) 1 0) (c := 1) (n := n) (fun k _ => by cases p k <;> decide)
  simpa [cntN] using this
theorem nI_div {a b : Nat} (ha : a < 2 ^ 31) (hb : b < 2 ^ 31) (h0 : 0 < b) : nI a / nI b = nI (a / b) := by
  apply Int32.toInt_inj.mp
  rw [Int32.toInt_div_of_ne_left _ _ (by
    intro e
    have := congrArg Int32.toInt e
    rw [nI_toInt ha] at this
    have h2 : (Int32.minValue).toInt < 0 := by decide
    omega), nI_toInt ha, nI_toInt hb, nI_toInt (by have := Nat.div_le_self a b; omega)]
  rw [Int.tdiv_eq_ediv_of_nonneg (by omega)]
  omega
theorem nI_rem {a b : Nat} (ha : a < 2 ^ 31) (hb : b < 2 ^ 31) (h0 : 0 < b) : nI a - (nI a / nI b) * nI b = nI (a % b) := by
  rw [nI_div ha hb h0, nI_mul, nI_sub (Nat.div_mul_le_self a b)]
  congr 1
  have := Nat.div_add_mod a b
  rw [Nat.mul_comm] at this
  omega
/-- shares by worth: who is served among those that stand ahead -/
theorem shares {N B W : Nat} {inn : Nat → Bool} {w : Nat → Nat} (hW : W = sumN (fun k => cond (inn k) (w k) 0) N) (hp : 0 < W) :
    sumN (fun k => cond (inn k) (B * w k / W) 0) N ≤ B ∧ ((B - sumN (fun k => cond (inn k) (B * w k / W) 0) N) = 0 ∨ (B - sumN (fun k => cond (inn k) (B * w k / W) 0) N) < cntN (fun k => inn k && decide (0 < B * w k % W)) N) := by
  have e1 : sumN (fun k => W * cond (inn k) (B * w k / W) 0 + cond (inn k) (B * w k % W) 0) N = B * W := by
    rw [show B * W = B * sumN (fun k => cond (inn k) (w k) 0) N by rw [← hW], ← sumN_mul]
    apply sumN_eq
    intro k _
    cases inn k with
    | false => simp
    | true => simp only [cond_true]; exact Nat.div_add_mod _ _
  rw [sumN_add, sumN_mul] at e1
  have e2 : sumN (fun k => cond (inn k) (B * w k % W) 0) N ≤ (W - 1) * cntN (fun k => inn k && decide (0 < B * w k % W)) N := by
    rw [cntN, ← sumN_mul]
    apply sumN_le
    intro k _
    cases inn k with
    | false => simp
    | true =>
      simp only [cond_true, Bool.true_and]
      have := Nat.mod_lt (B * w k) hp
      by_cases h : 0 < B * w k % W
      · simp only [decide_eq_true h, cond_true]; omega
      · simp only [decide_eq_false h, cond_false]; omega
  generalize sumN (fun k => cond (inn k) (B * w k / W) 0) N = q at e1 ⊢
  generalize sumN (fun k => cond (inn k) (B * w k % W) 0) N = r at e1 e2
  generalize cntN (fun k => inn k && decide (0 < B * w k % W)) N = n at e2 ⊢
  have hqB : q ≤ B := by
    have : W * q ≤ B * W := by omega
    rw [Nat.mul_comm] at this
    exact Nat.le_of_mul_le_mul_right this hp
  refine ⟨hqB, ?_⟩
  by_cases h0 : B - q = 0
  · exact Or.inl h0
  · right
    have e3 : W * (B - q) = r := by
      have : W * (B - q) + W * q = B * W := by rw [← Nat.mul_add, Nat.sub_add_cancel hqB, Nat.mul_comm]
      omega
    by_cases hn : B - q < n
    · exact hn
    · exfalso
      have h1 : W * n ≤ W * (B - q) := Nat.mul_le_mul_left W (by omega)
      have h2 : W * (B - q) ≤ (W - 1) * n := by omega
      have h3 : (W - 1) * n + n = W * n := by
        have : W = (W - 1) + 1 := by omega
        conv => rhs; rw [this]
        rw [Nat.add_mul, Nat.one_mul]
      have h4 : n = 0 := by omega
      subst h4
      simp at e2
      rw [e2] at e3
      have h5 : 0 < W * (B - q) := Nat.mul_pos hp (by omega)
      omega

/-! the reference's order of two rows; first letters; volumes -/
theorem nI_mul (a b : Nat) : nI a * nI b = nI (a * b) := by
  show Int32.ofNat a * Int32.ofNat b = Int32.ofNat (a * b)
  rw [Int32.ofNat_mul]
theorem nI8 (h k : Nat) : (8 : Int32) * nI h + nI k = nI (8 * h + k) := by
  rw [show (8 : Int32) = nI 8 from rfl, nI_mul, nI_add]
theorem nI4 (h k : Nat) : (4 : Int32) * nI h + nI k = nI (4 * h + k) := by
  rw [show (4 : Int32) = nI 4 from rfl, nI_mul, nI_add]
/-- a row of the reference -/
def mw (σ : gSt) (h : Nat) : Prop := (cods σ h).length ≤ 8 ∧ σ 182 0 h = nI (cods σ h).length ∧ ∀ k c, (cods σ h)[k]? = some c → c ≤ 26 ∧ σ 181 0 (8 * h + k) = nI c
theorem hwRel.mw {σ : gSt} {h : Nat} (R : hwRel σ h) : mw σ h := ⟨R.1, R.2.2.1, fun k c hk => ⟨(R.2.2.2.1 k c hk).1, (R.2.2.2.1 k c hk).2.1⟩⟩
def flg (σ : gSt) : Bool := !decide (σ 180 0 0 = 0)
theorem key_cons {b : Bool} {a : Nat} {r : List Nat} (h : b = true ∨ ¬ a = 0) : key b (a :: r) = a :: key b r := by
  cases b with
  | true => rfl
  | false =>
    have h0 : ¬ a = 0 := by rcases h with h | h; cases h; exact h
    have h1 : (!Nat.beq a 0) = true := by
      cases hb : Nat.beq a 0 with
      | false => rfl
      | true => exact absurd (Nat.eq_of_beq_eq_true hb) h0
    simp only [key, cond_false, nz, List.filter_cons, h1, if_true]
theorem key_skip {r : List Nat} : key false (0 :: r) = key false r := by
  simp [key, nz]
theorem next_loop {fu : Nat} {σ : gSt} {h : Nat} (hh : h < 121) (R : mw σ h) : ∀ n k, k ≤ (cods σ h).length → 9 ≤ n + k → ∃ k', f_X7_next_b2 fu n σ (nI h) (nI k) = some (nI k', σ) ∧ k ≤ k' ∧ k' ≤ (cods σ h).length ∧ key (flg σ) ((cods σ h).drop k') = key (flg σ) ((cods σ h).drop k) ∧ ∀ g : k' < (cods σ h).length, key (flg σ) ((cods σ h).drop k') = (cods σ h)[k'] :: key (flg σ) ((cods σ h).drop (k' + 1)) := by
  obtain ⟨a1, a2, a3⟩ := R
  intro n
  induction n with
  | zero => intro k h1 h2; omega
  | succ n ih =>
    intro k h1 h2
    show ∃ k', f_X7_next_b2_B fu (f_X7_next_b2 fu n) σ (nI h) (nI k) = some (nI k', σ) ∧ _
    unfold f_X7_next_b2_B f_X7_next_b39
    rw [gd_t (inb_t (by omega : h < 125) (by decide)), nI_clamp (by omega : h < 2 ^ 31), a2]
    by_cases e : (cods σ h).length ≤ k
    · rw [if_pos (nI_le e (by omega))]
      exact ⟨k, rfl, Nat.le_refl _, h1, rfl, fun g => by omega⟩
    · rw [if_neg (nI_ge (by omega) (by omega))]
      have lk : k < (cods σ h).length := by omega
      obtain ⟨c1, c2⟩ := a3 k _ (List.getElem?_eq_getElem lk)
      have dk := List.drop_eq_getElem_cons lk
      by_cases f : σ 180 0 0 = 0
      · rw [if_pos f, nI8, gd_t (inb_t (by omega : 8 * h + k < 1000) (by decide)), nI_clamp (by omega : 8 * h + k < 2 ^ 31), c2]
        have hf : flg σ = false := by simp [flg, f]
        by_cases z : (cods σ h)[k] = 0
        · rw [if_pos (by rw [z]; rfl), nI_1]
          obtain ⟨k', e1, e2, e3, e4, e5⟩ := ih (k + 1) (by omega) (by omega)
          refine ⟨k', e1, by omega, e3, ?_, e5⟩
          rw [e4, dk, z, hf, key_skip]
        · rw [if_neg (fun q => z ((nI_eq (by omega) (by decide)).mp (q.trans nI_0.symm)))]
          exact ⟨k, rfl, Nat.le_refl _, h1, rfl, fun g => by rw [dk, key_cons (Or.inr z)]⟩
      · rw [if_neg f]
        have hf : flg σ = true := by simp [flg, f]
        exact ⟨k, rfl, Nat.le_refl _, h1, rfl, fun g => by rw [dk, key_cons (Or.inl hf)]⟩
theorem sgn_10 : sgnI ((1 : Int32) - 0) 1 := by constructor <;> decide
theorem sgn_01 : sgnI ((0 : Int32) - 1) (-1) := by constructor <;> decide
theorem sgn_00 : sgnI ((0 : Int32) - 0) 0 := by constructor <;> decide
theorem order_loop {fu : Nat} {σ : gSt} {h h' : Nat} (hfu : 9 ≤ fu) (hh : h < 121) (hh' : h' < 121) (R : mw σ h) (R' : mw σ h') : ∀ n k m, k ≤ (cods σ h).length → m ≤ (cods σ h').length → 9 ≤ n + k →
    (∀ g : k < (cods σ h).length, key (flg σ) ((cods σ h).drop k) = (cods σ h)[k] :: key (flg σ) ((cods σ h).drop (k + 1))) → (∀ g : m < (cods σ h').length, key (flg σ) ((cods σ h').drop m) = (cods σ h')[m] :: key (flg σ) ((cods σ h').drop (m + 1))) →
    ∃ c, f_X7_order_b15 fu n σ (nI h) (nI h') (nI k) (nI m) = some (c, σ) ∧ sgnI c (lx (key (flg σ) ((cods σ h).drop k)) (key (flg σ) ((cods σ h').drop m))) := by
  have R0 := R
  have R0' := R'
  obtain ⟨a1, a2, a3⟩ := R
  obtain ⟨b1, b2, b3⟩ := R'
  have i1 := inb_t (by omega : h < 125) (by decide)
  have i2 := inb_t (by omega : h' < 125) (by decide)
  have q1 := nI_clamp (by omega : h < 2 ^ 31)
  have q2 := nI_clamp (by omega : h' < 2 ^ 31)
  have kn : key (flg σ) [] = [] := by cases flg σ <;> rfl
  intro n
  induction n with
  | zero => intro k m h1 h2 h3; omega
  | succ n ih =>
    intro k m h1 h2 h3 p1 p2
    show ∃ c, f_X7_order_b15_B fu (f_X7_order_b15 fu n) σ (nI h) (nI h') (nI k) (nI m) = some (c, σ) ∧ _
    unfold f_X7_order_b15_B f_X7_order_b93 f_X7_order_b108 f_X7_order_b124
    rw [gd_t i1, q1, a2]
    by_cases ea : (cods σ h).length ≤ k
    · rw [if_pos (nI_le ea (by omega)), gd_t i1, if_pos (nI_le ea (by omega)), gd_t i2, q2, b2]
      rw [List.drop_eq_nil_of_le ea, kn]
      by_cases eb : (cods σ h').length ≤ m
      · rw [if_pos (nI_le eb (by omega)), List.drop_eq_nil_of_le eb, kn]
        exact ⟨_, rfl, sgn_00⟩
      · rw [if_neg (nI_ge (by omega) (by omega)), p2 (by omega)]
        exact ⟨_, rfl, sgn_01⟩
    · have la : k < (cods σ h).length := by omega
      rw [if_neg (nI_ge (by omega) (by omega)), gd_t i2, q2, b2]
      by_cases eb : (cods σ h').length ≤ m
      · rw [if_pos (nI_le eb (by omega)), gd_t i1, if_neg (nI_ge (by omega) (by omega)), gd_t i2, if_pos (nI_le eb (by omega))]
        rw [List.drop_eq_nil_of_le eb, kn, p1 la]
        exact ⟨_, rfl, sgn_10⟩
      · have lb : m < (cods σ h').length := by omega
        rw [if_neg (nI_ge (by omega) (by omega))]
        obtain ⟨c1, c2⟩ := a3 k _ (List.getElem?_eq_getElem la)
        obtain ⟨d1, d2⟩ := b3 m _ (List.getElem?_eq_getElem lb)
        rw [nI8, nI8, gd_t (inb_t (by omega : 8 * h + k < 1000) (by decide)), gd_t (inb_t (by omega : 8 * h' + m < 1000) (by decide)), nI_clamp (by omega : 8 * h + k < 2 ^ 31), nI_clamp (by omega : 8 * h' + m < 2 ^ 31), c2, d2, p1 la, p2 lb]
        have sg := sgn_sub (a := (cods σ h)[k]) (b := (cods σ h')[m]) (by omega) (by omega)
        by_cases e : nI (cods σ h)[k] - nI (cods σ h')[m] = 0
        · rw [if_pos e]
          have e2 : (cods σ h)[k] = (cods σ h')[m] := by have := sg.1.mp e; omega
          rw [show (1 : Int32) = nI 1 from rfl, nI_add, nI_add]
          obtain ⟨k', g1, g2, g3, g4, g5⟩ := next_loop (fu := fu) hh R0 fu (k + 1) (by omega) (by omega)
          obtain ⟨m', f1, f2, f3, f4, f5⟩ := next_loop (fu := fu) hh' R0' fu (m + 1) (by omega) (by omega)
          rw [bd_s (show f_X7_next fu σ (nI h) (nI (k + 1)) = _ from g1), bd_s (show f_X7_next fu σ (nI h') (nI (m + 1)) = _ from f1)]
          obtain ⟨c, t1, t2⟩ := ih k' m' g3 f3 (by omega) g5 f5
          refine ⟨c, t1, ?_⟩
          rw [g4, f4] at t2
          simp only [lx, e2, Nat.lt_irrefl, if_false]
          exact t2
        · rw [if_neg e]
          refine ⟨_, rfl, ?_⟩
          have ne : ¬ ((cods σ h)[k] : Int) - (cods σ h')[m] = 0 := fun q => e (sg.1.mpr q)
          simp only [lx]
          by_cases lt : (cods σ h)[k] < (cods σ h')[m]
          · rw [if_pos lt]; exact sgn_mono sg (by omega) (by omega)
          · rw [if_neg lt, if_pos (by omega)]; exact sgn_mono sg (by omega) (by omega)
/-- the reference's order -/
theorem order_ok {fu : Nat} {σ : gSt} {h h' : Nat} (hfu : 9 ≤ fu) (hh : h < 121) (hh' : h' < 121) (R : mw σ h) (R' : mw σ h') :
    ∃ c, f_X7_order fu σ (nI h) (nI h') = some (c, σ) ∧ sgnI c (lx (key (flg σ) (cods σ h)) (key (flg σ) (cods σ h'))) := by
  obtain ⟨k', g1, g2, g3, g4, g5⟩ := next_loop (fu := fu) hh R fu 0 (Nat.zero_le _) (by omega)
  obtain ⟨m', f1, f2, f3, f4, f5⟩ := next_loop (fu := fu) hh' R' fu 0 (Nat.zero_le _) (by omega)
  obtain ⟨c, t1, t2⟩ := order_loop (fu := fu) hfu hh hh' R R' fu k' m' g3 f3 (by omega) g5 f5
  refine ⟨c, ?_, by rw [g4, f4] at t2; exact t2⟩
  unfold f_X7_order
  rw [bd_s (show f_X7_next fu σ (nI h) (0 : Int32) = _ from g1), bd_s (show f_X7_next fu σ (nI h') (0 : Int32) = _ from f1)]
  exact t1

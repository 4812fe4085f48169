/-! first letters, volumes, who comes ahead, who is alike: class and reference -/
def fl (l : List Nat) : Nat := (nz l).headD 0
/-- a headword in use: it has a letter -/
def hwl (σ : gSt) (h : Nat) : Prop := hwRel σ h ∧ nz (cods σ h) ≠ []
theorem nz_cons {a : Nat} {l : List Nat} : nz (a :: l) = if a = 0 then nz l else a :: nz l := by
  by_cases e : a = 0
  · subst e; rw [if_pos rfl]; simp [nz]
  · rw [if_neg e]
    have h1 : (!Nat.beq a 0) = true := by
      cases hb : Nat.beq a 0 with
      | false => rfl
      | true => exact absurd (Nat.eq_of_beq_eq_true hb) e
    simp only [nz, List.filter_cons, h1, if_true]
theorem nz_ne {l : List Nat} {c : Nat} (h : c ∈ nz l) : c ≠ 0 := by
  have := (List.mem_filter.mp h).2
  intro e
  subst e
  exact absurd this (by decide)
theorem fl_pos {σ : gSt} {h : Nat} (R : hwl σ h) : 1 ≤ fl (cods σ h) ∧ fl (cods σ h) ≤ 26 ∧ σ 61 h 0 = nI (96 + fl (cods σ h)) := by
  obtain ⟨⟨-, -, -, -, -, a6⟩, hn⟩ := R
  cases hz : nz (cods σ h) with
  | nil => exact absurd hz hn
  | cons c r =>
    have e : fl (cods σ h) = c := by simp only [fl, hz, List.headD_cons]
    have h1 := a6 0 c (by rw [hz]; rfl)
    have h2 : c ≠ 0 := nz_ne (l := cods σ h) (by rw [hz]; exact List.mem_cons_self)
    rw [e]
    exact ⟨by omega, h1.1, h1.2⟩
theorem isC_t {n : Nat} (h : n ≤ 65535) : isC (nI n) = true := by
  simp only [isC, decide_eq_true_eq]
  exact ⟨nI_pos' (by omega), nI_le h (by decide)⟩
theorem flC_ok {fu : Nat} {σ : gSt} {h : Nat} (R : hwl σ h) : f_X3_firstLetter fu σ h = some (nI (96 + fl (cods σ h)), σ) := by
  obtain ⟨h1, h2, h3⟩ := fl_pos R
  unfold f_X3_firstLetter
  rw [gd_t (by decide), show ((0 : Int32).toNatClampNeg) = 0 from rfl, h3, gd_t (isC_t (by omega))]
theorem flM_loop {fu : Nat} {σ : gSt} {h : Nat} (hh : h < 121) (R : mw σ h) : ∀ n k, k ≤ (cods σ h).length → 9 ≤ n + k → f_X7_firstLetter_b2 fu n σ (nI h) (nI k) = some (nI (fl ((cods σ h).drop k)), σ) := by
  obtain ⟨a1, a2, a3⟩ := R
  have i1 := inb_t (by omega : h < 125) (by decide)
  have q1 := nI_clamp (by omega : h < 2 ^ 31)
  intro n
  induction n with
  | zero => intro k h1 h2; omega
  | succ n ih =>
    intro k h1 h2
    show f_X7_firstLetter_b2_B fu (f_X7_firstLetter_b2 fu n) σ (nI h) (nI k) = _
    unfold f_X7_firstLetter_b2_B f_X7_firstLetter_b32 f_X7_firstLetter_b57
    rw [gd_t i1, q1, a2]
    by_cases e : (cods σ h).length ≤ k
    · rw [if_pos (nI_le e (by omega)), gd_t i1, if_pos (nI_le e (by omega)), List.drop_eq_nil_of_le e]
      rfl
    · have lk : k < (cods σ h).length := by omega
      obtain ⟨c1, c2⟩ := a3 k _ (List.getElem?_eq_getElem lk)
      rw [if_neg (nI_ge (by omega) (by omega)), nI8, gd_t (inb_t (by omega : 8 * h + k < 1000) (by decide)), nI_clamp (by omega : 8 * h + k < 2 ^ 31), c2, List.drop_eq_getElem_cons lk]
      simp only [fl, nz_cons]
      by_cases z : (cods σ h)[k] = 0
      · rw [if_pos (by rw [z]; rfl), nI_1, ih (k + 1) (by omega) (by omega), if_pos z]
        rfl
      · rw [if_neg (fun q => z ((nI_eq (by omega) (by decide)).mp (q.trans nI_0.symm))), gd_t i1, if_neg (nI_ge (by omega) (by omega)), gd_t (inb_t (by omega : 8 * h + k < 1000) (by decide)), if_neg z]
        rfl
theorem flM_ok {fu : Nat} {σ : gSt} {h : Nat} (hfu : 9 ≤ fu) (hh : h < 121) (R : mw σ h) : f_X7_firstLetter fu σ (nI h) = some (nI (fl (cods σ h)), σ) := flM_loop (fu := fu) hh R fu 0 (Nat.zero_le _) (by omega)
/-- the volumes: V of them, up to their last letters, with their budgets -/
def vRel (σ : gSt) (V : Nat) : Prop := V ≤ 4 ∧ σ 157 0 0 = nI V ∧ σ 197 0 0 = nI V ∧ ∀ v, v < V → (∃ a, 1 ≤ a ∧ a ≤ 26 ∧ σ 120 v 0 = nI (96 + a) ∧ σ 198 0 v = nI a) ∧ ∃ b, 1 ≤ b ∧ b ≤ 99 ∧ σ 121 v 0 = nI b ∧ σ 199 0 v = nI b
def fv (f : Nat → Nat) (c : Nat) : Nat → Nat → Int32
  | 0, _ => -1
  | n + 1, i => if f i < c then fv f c n (i + 1) else nI i
/-- the volume of a first letter: -1 none -/
def volS (σ : gSt) (V c : Nat) : Int32 := fv (fun v => (σ 198 0 v).toNatClampNeg) c V 0
theorem fv_cases (f : Nat → Nat) (c : Nat) : ∀ n i, fv f c n i = -1 ∨ ∃ v, i ≤ v ∧ v < i + n ∧ fv f c n i = nI v := by
  intro n
  induction n with
  | zero => intro i; exact Or.inl rfl
  | succ n ih =>
    intro i
    simp only [fv]
    by_cases e : f i < c
    · rw [if_pos e]
      rcases ih (i + 1) with h | ⟨v, h1, h2, h3⟩
      · exact Or.inl h
      · exact Or.inr ⟨v, by omega, by omega, h3⟩
    · rw [if_neg e]
      exact Or.inr ⟨i, Nat.le_refl _, by omega, rfl⟩
theorem volS_cases {σ : gSt} {V c : Nat} : volS σ V c = -1 ∨ ∃ v, v < V ∧ volS σ V c = nI v := by
  rcases fv_cases (fun v => (σ 198 0 v).toNatClampNeg) c V 0 with h | ⟨v, h1, h2, h3⟩
  · exact Or.inl h
  · exact Or.inr ⟨v, by omega, h3⟩
theorem volC_loop {fu : Nat} {σ : gSt} {h V : Nat} (R : hwl σ h) (hV : vRel σ V) : ∀ n m i, i + m = V → m < n → f_X6_volumeOf_b2 fu n σ h (nI i) = some (fv (fun v => (σ 198 0 v).toNatClampNeg) (fl (cods σ h)) m i, σ) := by
  obtain ⟨v1, v2, -, v4⟩ := hV
  obtain ⟨p1, p2, -⟩ := fl_pos R
  intro n
  induction n with
  | zero => intro m i h1 h2; omega
  | succ n ih =>
    intro m i h1 h2
    show f_X6_volumeOf_b2_B fu (f_X6_volumeOf_b2 fu n) σ h (nI i) = _
    unfold f_X6_volumeOf_b2_B
    rw [v2]
    cases m with
    | zero => rw [if_pos (nI_le (by omega) (by omega))]; rfl
    | succ m =>
      obtain ⟨a, a1, a2, a3, a4⟩ := (v4 i (by omega)).1
      rw [if_neg (nI_ge (by omega) (by omega)), gd_t (inb_t (by omega : i < 4) (by decide)), bd_s (flC_ok R), nI_clamp (by omega : i < 2 ^ 31), a3]
      simp only [fv, a4, nI_clamp (by omega : a < 2 ^ 31)]
      by_cases e : a < fl (cods σ h)
      · rw [if_pos (nI_lt (by omega) (by omega)), nI_1, ih m (i + 1) (by omega) (by omega), if_pos e]
      · rw [if_neg (nI_nlt (by omega) (by omega)), if_neg e]
theorem volC_ok {fu : Nat} {σ : gSt} {h V : Nat} (hfu : 9 ≤ fu) (R : hwl σ h) (hV : vRel σ V) : f_X6_volumeOf fu σ h = some (volS σ V (fl (cods σ h)), σ) :=
  volC_loop (fu := fu) R hV fu V 0 (by omega) (by have := hV.1; omega)
theorem volM_loop {fu : Nat} {σ : gSt} {h V : Nat} (hfu : 9 ≤ fu) (hh : h < 121) (R : hwl σ h) (hV : vRel σ V) : ∀ n m i, i + m = V → m < n → f_X7_volumeOf_b2 fu n σ (nI h) (nI i) = some (fv (fun v => (σ 198 0 v).toNatClampNeg) (fl (cods σ h)) m i, σ) := by
  obtain ⟨v1, -, v2, v4⟩ := hV
  obtain ⟨p1, p2, -⟩ := fl_pos R
  intro n
  induction n with
  | zero => intro m i h1 h2; omega
  | succ n ih =>
    intro m i h1 h2
    show f_X7_volumeOf_b2_B fu (f_X7_volumeOf_b2 fu n) σ (nI h) (nI i) = _
    unfold f_X7_volumeOf_b2_B
    rw [v2]
    cases m with
    | zero => rw [if_pos (nI_le (by omega) (by omega))]; rfl
    | succ m =>
      obtain ⟨a, a1, a2, a3, a4⟩ := (v4 i (by omega)).1
      rw [if_neg (nI_ge (by omega) (by omega)), gd_t (inb_t (by omega : i < 4) (by decide)), bd_s (flM_ok hfu hh R.1.mw), nI_clamp (by omega : i < 2 ^ 31), a4]
      simp only [fv, a4, nI_clamp (by omega : a < 2 ^ 31)]
      by_cases e : a < fl (cods σ h)
      · rw [if_pos (nI_lt (by omega) (by omega)), nI_1, ih m (i + 1) (by omega) (by omega), if_pos e]
      · rw [if_neg (nI_nlt (by omega) (by omega)), if_neg e]
theorem volM_ok {fu : Nat} {σ : gSt} {h V : Nat} (hfu : 9 ≤ fu) (hh : h < 121) (R : hwl σ h) (hV : vRel σ V) : f_X7_volumeOf fu σ (nI h) = some (volS σ V (fl (cods σ h)), σ) :=
  volM_loop (fu := fu) hfu hh R hV fu V 0 (by omega) (by have := hV.1; omega)
/-- truth as a number -/
def bI (b : Bool) : Int32 := cond b 1 0
theorem bI_01 (b : Bool) : b01 (bI b) = true := by cases b <;> rfl
theorem bI_0 (b : Bool) : (bI b = 0) ↔ b = false := by cases b <;> decide
/-- the rule is one -/
def rRel (σ : gSt) : Prop := σ 161 0 0 = σ 180 0 0 ∧ b01 (σ 180 0 0) = true
theorem rRel.flg {σ : gSt} (R : rRel σ) : (!decide (σ 161 0 0 = 0)) = flg σ := by rw [R.1]; rfl
def cmpS (σ : gSt) (h h' : Nat) : Int := lx (key (flg σ) (cods σ h)) (key (flg σ) (cods σ h'))
def aheadS (σ : gSt) (i j : Nat) : Bool := decide (cmpS σ i j < 0 ∨ cmpS σ i j = 0 ∧ i < j)
def alikeS (σ : gSt) (h h' : Nat) : Bool := decide (cmpS σ h h' = 0)
theorem alikeC_ok {fu : Nat} {σ : gSt} {h h' : Nat} (hfu : 9 ≤ fu) (rr : rRel σ) (hh : h < 121) (hh' : h' < 121) (R : hwRel σ h) (R' : hwRel σ h') : f_X6_areAlike fu σ h h' = some (bI (alikeS σ h h'), σ) := by
  obtain ⟨c, h1, h2⟩ := cmpC_ok (fu := fu) (x := σ 161 0 0) hfu (by rw [rr.1]; exact rr.2) hh hh' R R'
  rw [rr.flg] at h2
  unfold f_X6_areAlike f_X6_areAlike_b17
  rw [bd_s h1]
  by_cases e : c = 0
  · have e2 : alikeS σ h h' = true := decide_eq_true (h2.1.mp e)
    rw [if_pos e, e2]; rfl
  · have e2 : alikeS σ h h' = false := decide_eq_false (fun q => e (h2.1.mpr q))
    rw [if_neg e, e2]; rfl
theorem aheadC_ok {fu : Nat} {σ : gSt} {i j : Nat} (hfu : 9 ≤ fu) (rr : rRel σ) (hi : i < 24) (hj : j < 24) (R : hwRel σ i) (R' : hwRel σ j) : f_X6_comesAhead fu σ (nI i) (nI j) = some (bI (aheadS σ i j), σ) := by
  obtain ⟨c, h1, h2⟩ := cmpC_ok (fu := fu) (x := σ 161 0 0) hfu (by rw [rr.1]; exact rr.2) (by omega : i < 121) (by omega : j < 121) R R'
  rw [rr.flg] at h2
  unfold f_X6_comesAhead f_X6_comesAhead_b39 f_X6_comesAhead_b43 f_X6_comesAhead_b44
  rw [gd_t (inb_t hi (by decide)), gd_t (inb_t hj (by decide)), nI_clamp (by omega : i < 2 ^ 31), nI_clamp (by omega : j < 2 ^ 31), bd_s h1]
  have a1 : c < 0 ↔ cmpS σ i j < 0 := h2.2
  have a0 : c = 0 ↔ cmpS σ i j = 0 := h2.1
  by_cases e : c < 0
  · have e2 : aheadS σ i j = true := decide_eq_true (Or.inl (a1.mp e))
    rw [if_pos e, e2]; rfl
  · rw [if_neg e]
    by_cases e0 : c = 0
    · rw [if_pos e0]
      by_cases lt : j ≤ i
      · have e2 : aheadS σ i j = false := decide_eq_false (by have := a0.mp e0; omega)
        rw [if_pos (nI_le lt (by omega)), e2]; rfl
      · have e2 : aheadS σ i j = true := decide_eq_true (Or.inr ⟨a0.mp e0, by omega⟩)
        rw [if_neg (nI_ge (by omega) (by omega)), e2]; rfl
    · have e2 : aheadS σ i j = false := decide_eq_false (by
        have n1 := fun q => e (a1.mpr q)
        have n0 := fun q => e0 (a0.mpr q)
        rintro (q | ⟨q, -⟩)
        · exact n1 q
        · exact n0 q)
      rw [if_neg e0, e2]; rfl
theorem aheadM_ok {fu : Nat} {σ : gSt} {i j : Nat} (hfu : 9 ≤ fu) (hi : i < 24) (hj : j < 24) (R : hwRel σ i) (R' : hwRel σ j) : f_X7_isAhead fu σ (nI i) (nI j) = some (bI (aheadS σ i j), σ) := by
  obtain ⟨c, h1, h2⟩ := order_ok (fu := fu) hfu (by omega : i < 121) (by omega : j < 121) R.mw R'.mw
  unfold f_X7_isAhead f_X7_isAhead_b20 f_X7_isAhead_b24 f_X7_isAhead_b25
  rw [bd_s h1]
  have a1 : c < 0 ↔ cmpS σ i j < 0 := h2.2
  have a0 : c = 0 ↔ cmpS σ i j = 0 := h2.1
  by_cases e : c < 0
  · have e2 : aheadS σ i j = true := decide_eq_true (Or.inl (a1.mp e))
    rw [if_pos e, e2]; rfl
  · rw [if_neg e]
    by_cases e0 : c = 0
    · rw [if_pos e0]
      by_cases lt : j ≤ i
      · have e2 : aheadS σ i j = false := decide_eq_false (by have := a0.mp e0; omega)
        rw [if_pos (nI_le lt (by omega)), e2]; rfl
      · have e2 : aheadS σ i j = true := decide_eq_true (Or.inr ⟨a0.mp e0, by omega⟩)
        rw [if_neg (nI_ge (by omega) (by omega)), e2]; rfl
    · have e2 : aheadS σ i j = false := decide_eq_false (by
        have n1 := fun q => e (a1.mpr q)
        have n0 := fun q => e0 (a0.mpr q)
        rintro (q | ⟨q, -⟩)
        · exact n1 q
        · exact n0 q)
      rw [if_neg e0, e2]; rfl
/-- the reference's order, as 'alike' -/
theorem orderM_alike {fu : Nat} {σ : gSt} {h h' : Nat} (hfu : 9 ≤ fu) (hh : h < 121) (hh' : h' < 121) (R : hwRel σ h) (R' : hwRel σ h') : ∃ c, f_X7_order fu σ (nI h) (nI h') = some (c, σ) ∧ (c = 0 ↔ alikeS σ h h' = true) := by
  obtain ⟨c, h1, h2⟩ := order_ok (fu := fu) hfu hh hh' R.mw R'.mw
  exact ⟨c, h1, h2.1.trans (decide_eq_true_iff).symm⟩

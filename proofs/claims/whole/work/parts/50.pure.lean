/-! the pure side: guards, small numbers, headwords and their order -/
theorem gd_t {α : Type} {b : Bool} {k : Option α} (h : b = true) : gd b k = k := by rw [h]; rfl
theorem bd_s {α : Type} {m : Option (Int32 × gSt)} {v : Int32} {σ : gSt} {k : Int32 → gSt → Option α} (h : m = some (v, σ)) : bd m k = k v σ := by rw [h]; rfl
theorem bx_s {m : Option (Nat × Int32 × gSt)} {v : Int32} {σ : gSt} {k : Int32 → gSt → Option (Nat × Int32 × gSt)} (h : m = some (0, v, σ)) : bx m k = k v σ := by rw [h]; rfl
theorem bx_x {m : Option (Nat × Int32 × gSt)} {n : Nat} {v : Int32} {σ : gSt} {k : Int32 → gSt → Option (Nat × Int32 × gSt)} (h : m = some (n + 1, v, σ)) : bx m k = some (n + 1, v, σ) := by rw [h]; rfl
theorem inb_t {j n : Nat} (h : j < n) (hn : n < 2 ^ 31) : inb (nI j) n = true := by
  have hj : j < 2 ^ 31 := by omega
  simp only [inb, nI_clamp hj, Bool.and_eq_true, decide_eq_true_eq]
  exact ⟨nI_pos' hj, Nat.ble_eq_true_of_le h⟩
theorem nI_sub {a b : Nat} (h : b ≤ a) : nI a - nI b = nI (a - b) := by
  have e : nI a = nI b + nI (a - b) := by rw [nI_add]; congr 1; omega
  rw [e]
  rw [Int32.add_comm, Int32.add_sub_cancel]
/-- the sign of a difference -/
def sgnI (c : Int32) (z : Int) : Prop := (c = 0 ↔ z = 0) ∧ (c < 0 ↔ z < 0)
theorem sub_toInt {a b : Nat} (ha : a < 2000) (hb : b < 2000) : (nI a - nI b).toInt = (a : Int) - b := by
  rw [Int32.toInt_sub, nI_toInt (by omega), nI_toInt (by omega)]
  apply Int.bmod_eq_of_le <;> omega
theorem sgn_sub {a b : Nat} (ha : a < 2000) (hb : b < 2000) : sgnI (nI a - nI b) ((a : Int) - b) := by
  have h := sub_toInt ha hb
  refine ⟨⟨fun e => ?_, fun e => ?_⟩, ⟨fun e => ?_, fun e => ?_⟩⟩
  · rw [e] at h; rw [← h]; rfl
  · apply Int32.toInt_inj.mp; rw [h, e]; rfl
  · have := Int32.lt_iff_toInt_lt.mp e; rw [h] at this; exact this
  · apply Int32.lt_iff_toInt_lt.mpr; rw [h]; exact e
theorem sgn_mono {c : Int32} {z y : Int} (h : sgnI c z) (h0 : z = 0 ↔ y = 0) (h1 : z < 0 ↔ y < 0) : sgnI c y := ⟨h.1.trans h0, h.2.trans h1⟩
/-- the order of rows of numbers, word by word -/
def lx : List Nat → List Nat → Int
  | [], [] => 0
  | [], _ :: _ => -1
  | _ :: _, [] => 1
  | a :: x, b :: y => if a < b then -1 else if b < a then 1 else lx x y
/-- the class's comparison of two rows -/
theorem cmpC_loop {fu : Nat} {σ : gSt} {F i i' : Nat} {A B : List Nat} {φ : Nat → Nat} (hF : F = 60 ∨ F = 61) (hi : i < 121) (hi' : i' < 121) (hA : A.length ≤ 8) (hB : B.length ≤ 8)
    (hφ : ∀ a b, a < b → φ a < φ b) (vA : ∀ j a, A[j]? = some a → σ F i j = nI (φ a) ∧ φ a < 2000) (vB : ∀ j a, B[j]? = some a → σ F i' j = nI (φ a) ∧ φ a < 2000) :
    ∀ n k, k ≤ A.length → k ≤ B.length → 9 ≤ n + k → ∃ c, f_X3_compareBy_b70 fu n σ F i F i' (nI A.length) (nI B.length) (nI k) = some (c, σ) ∧ sgnI c (lx (A.drop k) (B.drop k)) := by
  intro n
  induction n with
  | zero => intro k h1 h2 h3; omega
  | succ n ih =>
    intro k h1 h2 h3
    have ok1 : k < 8 → okA 0 F i (nI k) = true := fun h => by
      rcases hF with rfl | rfl
      · exact ok_60 hi (inb_t h (by decide))
      · exact ok_61 hi (inb_t h (by decide))
    have ok2 : k < 8 → okA 0 F i' (nI k) = true := fun h => by
      rcases hF with rfl | rfl
      · exact ok_60 hi' (inb_t h (by decide))
      · exact ok_61 hi' (inb_t h (by decide))
    show ∃ c, f_X3_compareBy_b70_B fu (f_X3_compareBy_b70 fu n) σ F i F i' (nI A.length) (nI B.length) (nI k) = some (c, σ) ∧ _
    unfold f_X3_compareBy_b70_B
    by_cases ea : A.length ≤ k
    · rw [if_pos (nI_le ea (by omega))]
      have e : A.length = k := by omega
      refine ⟨_, rfl, sgn_mono (sgn_sub (by omega) (by omega)) ?_ ?_⟩
      · rw [List.drop_eq_nil_of_le (by omega : A.length ≤ k)]
        cases hd : B.drop k with
        | nil =>
          have h9 := congrArg List.length hd
          rw [List.length_drop, List.length_nil] at h9
          exact ⟨fun _ => rfl, fun _ => by omega⟩
        | cons b y => have := congrArg List.length hd; simp at this; simp only [lx]; omega
      · rw [List.drop_eq_nil_of_le (by omega : A.length ≤ k)]
        cases hd : B.drop k with
        | nil => have := congrArg List.length hd; simp at this; simp only [lx]; omega
        | cons b y => have := congrArg List.length hd; simp at this; simp only [lx]; omega
    · rw [if_neg (nI_ge (by omega) (by omega))]
      have la : k < A.length := by omega
      by_cases eb : B.length ≤ k
      · rw [if_pos (nI_le eb (by omega))]
        refine ⟨_, rfl, sgn_mono (sgn_sub (by omega) (by omega)) ?_ ?_⟩
        · rw [List.drop_eq_nil_of_le eb, List.drop_eq_getElem_cons la]; simp only [lx]; omega
        · rw [List.drop_eq_nil_of_le eb, List.drop_eq_getElem_cons la]; simp only [lx]; omega
      · rw [if_neg (nI_ge (by omega) (by omega))]
        have lb : k < B.length := by omega
        have k8 : k < 8 := by omega
        have kc : (nI k).toNatClampNeg = k := nI_clamp (by omega)
        obtain ⟨va, sa⟩ := vA k A[k] (List.getElem?_eq_getElem la)
        obtain ⟨vb, sb⟩ := vB k B[k] (List.getElem?_eq_getElem lb)
        rw [gd_t (ok1 k8), gd_t (ok2 k8), kc, va, vb, List.drop_eq_getElem_cons la, List.drop_eq_getElem_cons lb]
        by_cases e : φ A[k] = φ B[k]
        · rw [if_pos (by rw [e]), nI_1]
          have e2 : A[k] = B[k] := by
            rcases Nat.lt_trichotomy A[k] B[k] with h | h | h
            · have := hφ _ _ h; omega
            · exact h
            · have := hφ _ _ h; omega
          obtain ⟨c, h5, h6⟩ := ih (k + 1) (by omega) (by omega) (by omega)
          refine ⟨c, h5, ?_⟩
          simp only [lx, e2, Nat.lt_irrefl, if_false]
          exact h6
        · rw [if_neg (fun h => e ((nI_eq (by omega) (by omega)).mp h)), gd_t (ok1 k8), gd_t (ok2 k8)]
          refine ⟨_, rfl, ?_⟩
          rcases Nat.lt_trichotomy A[k] B[k] with h | h | h
          · have h7 := hφ _ _ h
            simp only [lx, if_pos h]
            exact sgn_mono (sgn_sub sa sb) (by omega) (by omega)
          · exact absurd (by rw [h]) e
          · have h7 := hφ _ _ h
            simp only [lx, if_pos h, if_neg (Nat.lt_asymm h)]
            exact sgn_mono (sgn_sub sa sb) (by omega) (by omega)
/-- a headword's codes (0 a blank or hyphen, 1..26 letters), as the reference keeps them; its letters -/
def cods (σ : gSt) (h : Nat) : List Nat := (List.range (σ 182 0 h).toNatClampNeg).map (fun k => (σ 181 0 (8 * h + k)).toNatClampNeg)
def nz (l : List Nat) : List Nat := l.filter (fun c => !Nat.beq c 0)
def chr (c : Nat) : Nat := if c = 0 then 32 else 96 + c
/-- class and reference hold the same headword -/
def hwRel (σ : gSt) (h : Nat) : Prop := (cods σ h).length ≤ 8 ∧ σ 62 h 0 = nI (cods σ h).length ∧ σ 182 0 h = nI (cods σ h).length ∧ (∀ k c, (cods σ h)[k]? = some c → c ≤ 26 ∧ σ 181 0 (8 * h + k) = nI c ∧ σ 60 h k = nI (chr c)) ∧ σ 63 h 0 = nI (nz (cods σ h)).length ∧ ∀ k c, (nz (cods σ h))[k]? = some c → c ≤ 26 ∧ σ 61 h k = nI (96 + c)
def key (b : Bool) (l : List Nat) : List Nat := cond b l (nz l)
theorem nz_len (l : List Nat) : (nz l).length ≤ l.length := List.length_filter_le _ _
/-- compareBy -/
theorem cmpC_ok {fu : Nat} {σ : gSt} {h h' : Nat} {x : Int32} (hfu : 9 ≤ fu) (hx : b01 x = true) (hh : h < 121) (hh' : h' < 121) (R : hwRel σ h) (R' : hwRel σ h') :
    ∃ c, f_X3_compareBy fu σ h x h' = some (c, σ) ∧ sgnI c (lx (key (!decide (x = 0)) (cods σ h)) (key (!decide (x = 0)) (cods σ h'))) := by
  obtain ⟨a1, a2, a3, a4, a5, a6⟩ := R
  obtain ⟨b1, b2, b3, b4, b5, b6⟩ := R'
  unfold f_X3_compareBy f_X3_compareBy_b15 f_X3_compareBy_b31 f_X3_compareBy_b48 f_X3_compareBy_b65
  by_cases e : x = 0
  · simp only [if_pos e]
    rw [a5, b5]
    have k0 : (!decide (x = 0)) = false := by simp [e]
    rw [k0]
    have n1 := nz_len (cods σ h)
    have n2 := nz_len (cods σ h')
    have := cmpC_loop (fu := fu) (σ := σ) (F := 61) (i := h) (i' := h') (A := nz (cods σ h)) (B := nz (cods σ h')) (φ := fun c => 96 + c) (Or.inr rfl) hh hh' (by omega) (by omega) (fun a b h => by omega) (fun j a hj => ⟨(a6 j a hj).2, by have := (a6 j a hj).1; omega⟩) (fun j a hj => ⟨(b6 j a hj).2, by have := (b6 j a hj).1; omega⟩) fu 0 (Nat.zero_le _) (Nat.zero_le _) (by omega)
    exact this
  · simp only [if_neg e]
    rw [a2, b2]
    have k0 : (!decide (x = 0)) = true := by simp [e]
    rw [k0]
    have mono : ∀ a b, a < b → chr a < chr b := fun a b h => by
      simp only [chr]
      split <;> split <;> omega
    have small : ∀ c, c ≤ 26 → chr c < 2000 := fun c h => by simp only [chr]; split <;> omega
    have := cmpC_loop (fu := fu) (σ := σ) (F := 60) (i := h) (i' := h') (A := cods σ h) (B := cods σ h') (φ := chr) (Or.inl rfl) hh hh' a1 b1 mono (fun j a hj => ⟨(a4 j a hj).2.2, small _ (a4 j a hj).1⟩) (fun j a hj => ⟨(b4 j a hj).2.2, small _ (b4 j a hj).1⟩) fu 0 (Nat.zero_le _) (Nat.zero_le _) (by omega)
    exact this

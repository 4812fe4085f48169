/-! helpers of both sides that only read -/
def anyN (p : Nat → Bool) : Nat → Bool
  | 0 => false
  | n + 1 => anyN p n || p n
theorem anyN_s (p : Nat → Bool) (n : Nat) : anyN p (n + 1) = (anyN p n || p n) := rfl
theorem anyN_t {p : Nat → Bool} {k : Nat} : ∀ {n}, k < n → p k = true → anyN p n = true
  | 0, h, _ => by omega
  | n + 1, h, hp => by
    rw [anyN_s]
    by_cases e : k = n
    · subst e; rw [hp]; simp
    · rw [anyN_t (by omega : k < n) hp]; rfl
theorem anyN_eq {p q : Nat → Bool} : ∀ {n}, (∀ k, k < n → p k = q k) → anyN p n = anyN q n
  | 0, _ => rfl
  | n + 1, h => by rw [anyN_s, anyN_s, anyN_eq fun k hk => h k (by omega), h n (by omega)]
theorem anyN_f {p : Nat → Bool} {n k : Nat} (h : anyN p n = false) (hk : k < n) : p k = false := by
  cases hp : p k with
  | false => rfl
  | true => rw [anyN_t hk hp] at h; cases h
def rcN (σ : gSt) (i : Nat) : Nat := (σ 191 0 i).toNatClampNeg
def refRel (σ : gSt) (N : Nat) : Prop := ∀ i, i < 24 → rcN σ i ≤ 4 ∧ σ 4 i 0 = nI (rcN σ i) ∧ σ 191 0 i = nI (rcN σ i) ∧ (N ≤ i → rcN σ i = 0) ∧ ∀ r, r < rcN σ i → hwl σ (24 + (4 * i + r))
/-- what stands still while volumes are printed: the plan -/
def sRel (σ : gSt) (N V : Nat) : Prop := qRel σ N V ∧ refRel σ N
theorem sRel.hN {σ : gSt} {N V : Nat} (S : sRel σ N V) : N ≤ 24 := S.1.1.1
theorem sRel.nC {σ : gSt} {N V : Nat} (S : sRel σ N V) : σ 156 0 0 = nI N := S.1.1.2.1
theorem sRel.nM {σ : gSt} {N V : Nat} (S : sRel σ N V) : σ 183 0 0 = nI N := S.1.1.2.2
theorem sRel.v {σ : gSt} {N V : Nat} (S : sRel σ N V) : vRel σ V := S.1.2.1
theorem sRel.r {σ : gSt} {N V : Nat} (S : sRel σ N V) : rRel σ := S.1.2.2.1
theorem sRel.hw {σ : gSt} {N V i : Nat} (S : sRel σ N V) (h : i < N) : hwl σ i := S.1.2.2.2.1 i h
theorem sRel.rf {σ : gSt} {N V i : Nat} (S : sRel σ N V) (h : i < 24) : rcN σ i ≤ 4 ∧ σ 4 i 0 = nI (rcN σ i) ∧ σ 191 0 i = nI (rcN σ i) ∧ (N ≤ i → rcN σ i = 0) ∧ ∀ r, r < rcN σ i → hwl σ (24 + (4 * i + r)) := S.2 i h
theorem bF {α : Sort _} {x y : α} : (if bI false = 0 then x else y) = x := rfl
theorem bT {α : Sort _} {x y : α} : (if bI true = 0 then x else y) = y := rfl
/-- refersTo -/
def rfS (σ : gSt) (i j : Nat) : Bool := anyN (fun r => alikeS σ (24 + (4 * i + r)) j) (rcN σ i)
theorem refC_loop {fu : Nat} {σ : gSt} {N V i j : Nat} (hfu : 9 ≤ fu) (S : sRel σ N V) (hi : i < 24) (hj : j < N) : ∀ n r, r ≤ rcN σ i → rcN σ i < n + r → anyN (fun r => alikeS σ (24 + (4 * i + r)) j) r = false → f_X6_refersTo_b2 fu n σ i j (nI r) = some (bI (rfS σ i j), σ) := by
  obtain ⟨c1, c2, c3, c4, c5⟩ := S.rf hi
  have hN := S.hN
  intro n
  induction n with
  | zero => intro r h1 h2; omega
  | succ n ih =>
    intro r h1 h2 h3
    show f_X6_refersTo_b2_B fu (f_X6_refersTo_b2 fu n) σ i j (nI r) = _
    unfold f_X6_refersTo_b2_B
    rw [c2]
    by_cases e : rcN σ i ≤ r
    · have e' : rcN σ i = r := by omega
      rw [if_pos (nI_le e (by omega))]
      simp only [rfS, e', h3]; rfl
    · rw [if_neg (nI_ge (by omega) (by omega)), gd_t (inb_t (by omega : r < 4) (by decide)), nI_clamp (by omega : r < 2 ^ 31), bd_s (alikeC_ok hfu S.r (by omega) (by omega) (c5 r (by omega)).1 (S.hw hj).1)]
      cases hp : alikeS σ (24 + (4 * i + r)) j with
      | false => rw [bF, nI_1]; exact ih (r + 1) (by omega) (by omega) (by rw [anyN_s, h3, hp]; rfl)
      | true => rw [bT, show rfS σ i j = true from anyN_t (k := r) (by omega) hp]; rfl
theorem refC_ok {fu : Nat} {σ : gSt} {N V i j : Nat} (hfu : 9 ≤ fu) (S : sRel σ N V) (hi : i < 24) (hj : j < N) : f_X6_refersTo fu σ i j = some (bI (rfS σ i j), σ) :=
  refC_loop hfu S hi hj fu 0 (Nat.zero_le _) (by have := (S.rf hi).1; omega) rfl
theorem row_nI (i r : Nat) : ((24 : Int32) + (4 : Int32) * nI i) + nI r = nI (24 + (4 * i + r)) := by
  rw [show (24 : Int32) = nI 24 from rfl, show (4 : Int32) = nI 4 from rfl, nI_mul, nI_add, nI_add, Nat.add_assoc]
theorem refM_loop {fu : Nat} {σ : gSt} {N V i j : Nat} (hfu : 9 ≤ fu) (S : sRel σ N V) (hi : i < 24) (hj : j < N) : ∀ n r, r ≤ rcN σ i → rcN σ i < n + r → f_X7_refersTo_b5 fu n σ (nI i) (nI j) (bI (anyN (fun r => alikeS σ (24 + (4 * i + r)) j) r)) (nI r) = some (bI (rfS σ i j), σ) := by
  obtain ⟨c1, c2, c3, c4, c5⟩ := S.rf hi
  have hN := S.hN
  intro n
  induction n with
  | zero => intro r h1 h2; omega
  | succ n ih =>
    intro r h1 h2
    show f_X7_refersTo_b5_B fu (f_X7_refersTo_b5 fu n) σ (nI i) (nI j) _ (nI r) = _
    unfold f_X7_refersTo_b5_B f_X7_refersTo_b34 f_X7_refersTo_b39
    rw [gd_t (inb_t hi (by decide)), nI_clamp (by omega : i < 2 ^ 31), c3]
    by_cases e : rcN σ i ≤ r
    · have e' : rcN σ i = r := by omega
      rw [if_pos (nI_le e (by omega)), gd_t (bI_01 _)]
      simp only [rfS, e']
    · rw [if_neg (nI_ge (by omega) (by omega)), nI_1]
      have go : ∀ b : Bool, anyN (fun r => alikeS σ (24 + (4 * i + r)) j) (r + 1) = b → f_X7_refersTo_b5 fu n σ (nI i) (nI j) (bI b) (nI (r + 1)) = some (bI (rfS σ i j), σ) := fun b hb => by
        rw [← hb]; exact ih (r + 1) (by omega) (by omega)
      cases ha : anyN (fun r => alikeS σ (24 + (4 * i + r)) j) r with
      | true => rw [bT]; exact go true (by rw [anyN_s, ha]; rfl)
      | false =>
        rw [bF, show f_X7_reference fu σ (nI i) (nI r) = some (nI (24 + (4 * i + r)), σ) by unfold f_X7_reference; rw [row_nI], bd_s rfl]
        obtain ⟨c, o1, o2⟩ := orderM_alike (fu := fu) hfu (by omega : 24 + (4 * i + r) < 121) (by omega : j < 121) (c5 r (by omega)).1 (S.hw hj).1
        rw [bd_s o1]
        by_cases ec : c = 0
        · rw [if_pos ec]; exact go true (by rw [anyN_s, ha, o2.mp ec]; rfl)
        · rw [if_neg ec]
          exact go false (by
            rw [anyN_s, ha]
            cases hp : alikeS σ (24 + (4 * i + r)) j with
            | false => rfl
            | true => exact absurd (o2.mpr hp) ec)
theorem refM_ok {fu : Nat} {σ : gSt} {N V i j : Nat} (hfu : 9 ≤ fu) (S : sRel σ N V) (hi : i < 24) (hj : j < N) : f_X7_refersTo fu σ (nI i) (nI j) = some (bI (rfS σ i j), σ) :=
  refM_loop hfu S hi hj fu 0 (Nat.zero_le _) (by have := (S.rf hi).1; omega)
/-- isThere -/
def thS (σ : gSt) (N : Nat) (p : Nat → Bool) (h : Nat) : Bool := anyN (fun k => p k && alikeS σ k h) N
theorem thC_loop {fu : Nat} {σ : gSt} {N V h : Nat} {p : Nat → Bool} (hfu : 9 ≤ fu) (S : sRel σ N V) (hh : h < 121) (R : hwl σ h) (hp : ∀ k, k < N → (σ 11 k 0 = bI (p k))) : ∀ n k, k ≤ N → N < n + k → anyN (fun k => p k && alikeS σ k h) k = false → f_X6_isThere_b2 fu n σ h (nI k) = some (bI (thS σ N p h), σ) := by
  have hN := S.hN
  intro n
  induction n with
  | zero => intro k h1 h2; omega
  | succ n ih =>
    intro k h1 h2 h3
    show f_X6_isThere_b2_B fu (f_X6_isThere_b2 fu n) σ h (nI k) = _
    unfold f_X6_isThere_b2_B f_X6_isThere_b41
    rw [S.nC]
    by_cases e : N ≤ k
    · have e' : N = k := by omega
      rw [if_pos (nI_le e (by omega))]
      simp only [thS, e', h3]; rfl
    · have hk : k < N := by omega
      rw [if_neg (nI_ge (by omega) (by omega)), gd_t (inb_t (by omega : k < 24) (by decide)), nI_clamp (by omega : k < 2 ^ 31), hp k hk, nI_1]
      cases pk : p k with
      | false => rw [bF]; exact ih (k + 1) (by omega) (by omega) (by rw [anyN_s, h3, pk]; rfl)
      | true =>
        rw [bT, gd_t (inb_t (by omega : k < 24) (by decide)), bd_s (alikeC_ok hfu S.r (by omega) hh (S.hw hk).1 R.1)]
        cases ha : alikeS σ k h with
        | false => rw [bF]; exact ih (k + 1) (by omega) (by omega) (by rw [anyN_s, h3, ha]; simp)
        | true => rw [bT, show thS σ N p h = true from anyN_t (k := k) hk (by rw [pk, ha]; rfl)]; rfl
theorem thC_ok {fu : Nat} {σ : gSt} {N V h : Nat} {p : Nat → Bool} (hfu : 30 ≤ fu) (S : sRel σ N V) (hh : h < 121) (R : hwl σ h) (hp : ∀ k, k < N → (σ 11 k 0 = bI (p k))) : f_X6_isThere fu σ h = some (bI (thS σ N p h), σ) :=
  thC_loop (by omega) S hh R hp fu 0 (Nat.zero_le _) (by have := S.hN; omega) rfl
theorem thM_loop {fu : Nat} {σ : gSt} {N V h : Nat} {p : Nat → Bool} (hfu : 9 ≤ fu) (S : sRel σ N V) (hh : h < 121) (R : hwl σ h) (hp : ∀ k, k < N → (σ 186 0 k = 3 ↔ p k = true)) : ∀ n k, k ≤ N → N < n + k → f_X7_isPrinted_b4 fu n σ (nI h) (bI (anyN (fun k => p k && alikeS σ k h) k)) (nI k) = some (bI (thS σ N p h), σ) := by
  have hN := S.hN
  intro n
  induction n with
  | zero => intro k h1 h2; omega
  | succ n ih =>
    intro k h1 h2
    show f_X7_isPrinted_b4_B fu (f_X7_isPrinted_b4 fu n) σ (nI h) _ (nI k) = _
    unfold f_X7_isPrinted_b4_B f_X7_isPrinted_b35 f_X7_isPrinted_b39 f_X7_isPrinted_b40
    rw [S.nM]
    by_cases e : N ≤ k
    · have e' : N = k := by omega
      rw [if_pos (nI_le e (by omega)), gd_t (bI_01 _)]
      simp only [thS, e']
    · have hk : k < N := by omega
      rw [if_neg (nI_ge (by omega) (by omega)), nI_1]
      have go : ∀ b : Bool, anyN (fun k => p k && alikeS σ k h) (k + 1) = b → f_X7_isPrinted_b4 fu n σ (nI h) (bI b) (nI (k + 1)) = some (bI (thS σ N p h), σ) := fun b hb => by
        rw [← hb]; exact ih (k + 1) (by omega) (by omega)
      cases ha : anyN (fun k => p k && alikeS σ k h) k with
      | true => rw [bT]; exact go true (by rw [anyN_s, ha]; rfl)
      | false =>
        rw [bF, gd_t (inb_t (by omega : k < 24) (by decide)), nI_clamp (by omega : k < 2 ^ 31)]
        cases pk : p k with
        | false => rw [if_neg (fun q => by have := (hp k hk).mp q; rw [pk] at this; cases this)]; exact go false (by rw [anyN_s, ha, pk]; rfl)
        | true =>
          rw [if_pos ((hp k hk).mpr pk)]
          obtain ⟨c, o1, o2⟩ := orderM_alike (fu := fu) hfu (by omega : k < 121) hh (S.hw hk).1 R.1
          rw [bd_s o1]
          by_cases ec : c = 0
          · rw [if_pos ec]; exact go true (by rw [anyN_s, ha, pk, o2.mp ec]; rfl)
          · rw [if_neg ec]
            exact go false (by
              rw [anyN_s, ha, pk]
              cases hq : alikeS σ k h with
              | false => rfl
              | true => exact absurd (o2.mpr hq) ec)
theorem thM_ok {fu : Nat} {σ : gSt} {N V h : Nat} {p : Nat → Bool} (hfu : 30 ≤ fu) (S : sRel σ N V) (hh : h < 121) (R : hwl σ h) (hp : ∀ k, k < N → (σ 186 0 k = 3 ↔ p k = true)) : f_X7_isPrinted fu σ (nI h) = some (bI (thS σ N p h), σ) :=
  thM_loop (by omega) S hh R hp fu 0 (Nat.zero_le _) (by have := S.hN; omega)
/-- of a printed volume -/
def opS (σ : gSt) (V P h : Nat) : Bool := !decide (vS σ V h = -1) && !decide (nI P ≤ vS σ V h)
theorem opC_ok {fu : Nat} {σ : gSt} {N V P h : Nat} (hfu : 9 ≤ fu) (S : sRel σ N V) (R : hwl σ h) (hP : σ 158 0 0 = nI P) : f_X6_isOfPrintedVolume fu σ h = some (bI (opS σ V P h), σ) := by
  unfold f_X6_isOfPrintedVolume f_X6_isOfPrintedVolume_b23 f_X6_isOfPrintedVolume_b24
  rw [bd_s (volC_ok hfu R S.v), hP]
  show (if vS σ V h = -1 then _ else if nI P ≤ vS σ V h then _ else _) = _
  by_cases e : vS σ V h = -1
  · rw [if_pos e]; simp only [opS, decide_eq_true e]; rfl
  · rw [if_neg e]
    by_cases g : nI P ≤ vS σ V h
    · rw [if_pos g]; simp only [opS, decide_eq_false e, decide_eq_true g]; rfl
    · rw [if_neg g]; simp only [opS, decide_eq_false e, decide_eq_false g]; rfl
theorem opM_ok {fu : Nat} {σ : gSt} {N V P h : Nat} (hfu : 9 ≤ fu) (S : sRel σ N V) (hh : h < 121) (R : hwl σ h) (hP : σ 200 0 0 = nI P) : f_X7_isPromise fu σ (nI h) = some (bI (!opS σ V P h), σ) := by
  unfold f_X7_isPromise f_X7_isPromise_b19 f_X7_isPromise_b24
  rw [bd_s (volM_ok hfu hh R S.v), hP]
  show (if vS σ V h = -1 then _ else if vS σ V h < nI P then _ else _) = _
  by_cases e : vS σ V h = -1
  · rw [if_pos e]; simp only [opS, decide_eq_true e]; rfl
  · rw [if_neg e]
    by_cases g : nI P ≤ vS σ V h
    · rw [if_neg (Int32.not_lt.mpr g)]; simp only [opS, decide_eq_false e, decide_eq_true g]; rfl
    · rw [if_pos (Int32.not_le.mp g)]; simp only [opS, decide_eq_false e, decide_eq_false g]; rfl
/-- broken -/
def brS (σ : gSt) (N V P : Nat) (p : Nat → Bool) (x : Int32) (h : Nat) : Bool := decide (x = 2) && (opS σ V P h && !thS σ N p h)
theorem brC_ok {fu : Nat} {σ : gSt} {N V P h : Nat} {p : Nat → Bool} (hfu : 30 ≤ fu) (S : sRel σ N V) (hh : h < 96) (R : hwl σ (24 + h)) (hP : σ 158 0 0 = nI P) (hp : ∀ k, k < N → (σ 11 k 0 = bI (p k))) (hF : okF (σ 91 h 0) = true) : f_X6_isBroken fu σ h = some (bI (brS σ N V P p (σ 91 h 0) (24 + h)), σ) := by
  unfold f_X6_isBroken f_X6_isBroken_b36 f_X6_isBroken_b37
  rw [gd_t hF, gd_t (by decide : okF (2 : Int32) = true)]
  by_cases e : σ 91 h 0 = 2
  · rw [if_pos e, bd_s (opC_ok (by omega) S R hP)]
    cases ho : opS σ V P (24 + h) with
    | false => rw [bF]; simp only [brS, decide_eq_true e, ho]; rfl
    | true =>
      rw [bT, bd_s (thC_ok hfu S (by omega) R hp)]
      cases ht : thS σ N p (24 + h) with
      | false => rw [bF]; simp only [brS, decide_eq_true e, ho, ht]; rfl
      | true => rw [bT]; simp only [brS, decide_eq_true e, ho, ht]; rfl
  · rw [if_neg e]; simp only [brS, decide_eq_false e]; rfl
theorem brM_ok {fu : Nat} {σ : gSt} {N V P i r : Nat} {p : Nat → Bool} (hfu : 30 ≤ fu) (S : sRel σ N V) (hi : i < 24) (hr : r < 4) (R : hwl σ (24 + (4 * i + r))) (hP : σ 200 0 0 = nI P) (hp : ∀ k, k < N → (σ 186 0 k = 3 ↔ p k = true)) : f_X7_isOpen fu σ (nI i) (nI r) = some (bI (brS σ N V P p (σ 192 0 (4 * i + r)) (24 + (4 * i + r))), σ) := by
  unfold f_X7_isOpen f_X7_isOpen_b40 f_X7_isOpen_b41
  rw [show f_X7_reference fu σ (nI i) (nI r) = some (nI (24 + (4 * i + r)), σ) by unfold f_X7_reference; rw [row_nI], bd_s rfl, nI4, gd_t (inb_t (by omega : 4 * i + r < 96) (by decide)), nI_clamp (by omega : 4 * i + r < 2 ^ 31)]
  by_cases e : σ 192 0 (4 * i + r) = 2
  · rw [if_pos e, bd_s (opM_ok (by omega) S (by omega) R hP)]
    cases ho : opS σ V P (24 + (4 * i + r)) with
    | false => rw [show bI (!false) = bI true from rfl, bT]; simp only [brS, decide_eq_true e, ho]; rfl
    | true =>
      rw [show bI (!true) = bI false from rfl, bF, bd_s (thM_ok hfu S (by omega) R hp)]
      cases ht : thS σ N p (24 + (4 * i + r)) with
      | false => rw [bF]; simp only [brS, decide_eq_true e, ho, ht]; rfl
      | true => rw [bT]; simp only [brS, decide_eq_true e, ho, ht]; rfl
  · rw [if_neg e]; simp only [brS, decide_eq_false e]; rfl
/-- the fate of a reference that is looked at -/
def ftS (σ : gSt) (N V P : Nat) (p : Nat → Bool) (h : Nat) : Int32 := cond (thS σ N p h) 1 (cond (opS σ V P h) 3 2)
theorem ftC_ok {fu : Nat} {σ : gSt} {N V P h : Nat} {p : Nat → Bool} (hfu : 30 ≤ fu) (S : sRel σ N V) (hh : h < 121) (R : hwl σ h) (hP : σ 158 0 0 = nI P) (hp : ∀ k, k < N → (σ 11 k 0 = bI (p k))) : f_X6_fateOf fu σ h = some (ftS σ N V P p h, σ) := by
  unfold f_X6_fateOf f_X6_fateOf_b29
  rw [bd_s (thC_ok hfu S hh R hp)]
  cases ht : thS σ N p h with
  | true => rw [bT]; simp only [ftS, ht]; rfl
  | false =>
    rw [bF, bd_s (opC_ok (by omega) S R hP)]
    cases ho : opS σ V P h with
    | false => rw [bF]; simp only [ftS, ht, ho]; rfl
    | true => rw [bT]; simp only [ftS, ht, ho]; rfl

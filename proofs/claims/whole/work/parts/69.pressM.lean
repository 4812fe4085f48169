/-! the press and what is told: the reference -/
def bt (x : Int32) (i : Nat) : Bool := x.toBitVec.getLsbD i
theorem b_ext {x y : Int32} (h : ∀ i, i < 32 → bt x i = bt y i) : x = y := Int32.toBitVec_inj.mp (BitVec.eq_of_getLsbD_eq (fun i hi => h i hi))
theorem b_or (x y : Int32) (i : Nat) : bt (x ||| y) i = (bt x i || bt y i) := by unfold bt; rw [Int32.toBitVec_or, BitVec.getLsbD_or]
theorem b_and (x y : Int32) (i : Nat) : bt (x &&& y) i = (bt x i && bt y i) := by unfold bt; rw [Int32.toBitVec_and, BitVec.getLsbD_and]
theorem b_0 (i : Nat) : bt 0 i = false := BitVec.getLsbD_zero
theorem s_l : ∀ n, n < 32 → ((nI n &&& 31).toBitVec.smod 32).toNat = n := by decide +kernel
theorem b_shl (n : Nat) (hn : n < 32) (x : Int32) {i : Nat} (hi : i < 32) : bt (x <<< (nI n &&& 31)) i = (decide (n ≤ i) && bt x (i - n)) := by
  unfold bt
  rw [Int32.toBitVec_shiftLeft]
  show (x.toBitVec <<< ((nI n &&& 31).toBitVec.smod 32).toNat).getLsbD i = _
  rw [s_l n hn, BitVec.getLsbD_shiftLeft]
  rcases Nat.lt_or_ge i n with h | h
  · simp [h, Nat.not_le.mpr h]
  · simp [hi, h, Nat.not_lt.mpr h]
theorem b_sshr (n : Nat) (hn : n < 32) (x : Int32) {i : Nat} (hi : i < 32) : bt (x >>> (nI n &&& 31)) i = if n + i < 32 then bt x (n + i) else bt x 31 := by
  unfold bt
  rw [Int32.toBitVec_shiftRight]
  show (x.toBitVec.sshiftRight ((nI n &&& 31).toBitVec.smod 32).toNat).getLsbD i = _
  rw [s_l n hn, BitVec.getLsbD_sshiftRight, BitVec.msb_eq_getLsbD_last]
  simp [hi]
theorem b_one : ∀ i, i < 32 → bt 1 i = decide (i = 0) := by decide +kernel
theorem bit_at {x : Int32} {k : Nat} (hk : k < 32) : ((x >>> (nI k &&& 31)) &&& 1) = bI (bt x k) := by
  apply b_ext
  intro i hi
  rw [b_and, b_one i hi]
  by_cases e : i = 0
  · subst e
    rw [b_sshr k hk x (by omega), if_pos (by omega), Nat.add_zero, decide_eq_true rfl, Bool.and_true]
    cases bt x k with
    | false => exact (b_0 0).symm
    | true => exact (b_one 0 (by decide)).symm
  · rw [decide_eq_false e, Bool.and_false]
    cases bt x k with
    | false => exact (b_0 i).symm
    | true => show false = bt 1 i; rw [b_one i hi, decide_eq_false e]
theorem bit_set {x : Int32} {i j : Nat} (hi : i < 32) (hj : j < 32) : bt (x ||| ((1 : Int32) <<< (nI i &&& 31))) j = (bt x j || decide (j = i)) := by
  rw [b_or, b_shl i hi 1 hj, b_one (j - i) (by omega)]
  congr 1
  apply beq_of
  simp only [Bool.and_eq_true, decide_eq_true_eq]
  omega
theorem bI_1 (b : Bool) : (bI b = 1) ↔ b = true := by cases b <;> decide
theorem gU_same {s : gSt} {F i k : Nat} : gU s F i k (s F i k) = s := by
  funext F' i' k'
  by_cases h : F' = F ∧ i' = i ∧ k' = k
  · obtain ⟨rfl, rfl, rfl⟩ := h
    rw [gU_e]
  · simp only [gU, if_neg h]
theorem okA186 {i : Nat} (hi : i < 24) : okA 1 186 0 (nI i) = true := by
  have : inb (nI i) 24 = true := inb_t hi (by decide)
  unfold okA
  rw [show lA 186 = 24 from rfl, this]; decide
theorem okA192 {i : Nat} (hi : i < 96) : okA 1 192 0 (nI i) = true := by
  have : inb (nI i) 96 = true := inb_t hi (by decide)
  unfold okA
  rw [show lA 192 = 96 from rfl, this]; decide
theorem told_loop {fu i : Nat} {x1 x2 x3 x4 : Int32} {k8 : gSt → Int32 → Int32 → Int32 → Int32 → Int32 → Option (Int32 × gSt)} (hi : i < 24) : ∀ n f (s : gSt), f ≤ 8 → 8 < n + f → ∃ τ, f_X7_prints_b126 fu k8 n s x1 x2 x3 x4 (nI i) 1 (nI f) = k8 τ x1 x2 x3 x4 (nI (i + 1)) ∧ fr [194] s τ ∧ (∀ g, f ≤ g → g < 8 → τ 194 0 (8 * i + g) = s 196 0 g) ∧ ∀ j g, g < 8 → (j ≠ i ∨ g < f) → τ 194 0 (8 * j + g) = s 194 0 (8 * j + g) := by
  intro n
  induction n with
  | zero => intro f s h1 h2; omega
  | succ n ih =>
    intro f s h1 h2
    show ∃ τ, f_X7_prints_b126_B fu k8 (f_X7_prints_b126 fu k8 n) s x1 x2 x3 x4 (nI i) 1 (nI f) = _ ∧ _
    unfold f_X7_prints_b126_B f_X7_prints_b164
    by_cases e : 8 ≤ f
    · rw [if_pos (show (8 : Int32) ≤ nI f from nI_le (a := 8) e (by omega)), nI_1]
      exact ⟨s, rfl, fr.rfl, fun g h3 h4 => by omega, fun j g _ _ => rfl⟩
    · rw [if_neg (show ¬ (8 : Int32) ≤ nI f from nI_ge (b := 8) (by omega) (by decide)), if_neg (show ¬ (1 : Int32) = 0 by decide), gd_t (inb_t (by omega : f < 8) (by decide)), nI8, gd_t (inb_t (by omega : 8 * i + f < 192) (by decide)), nI_clamp (by omega : f < 2 ^ 31), nI_clamp (by omega : 8 * i + f < 2 ^ 31), nI_1]
      obtain ⟨τ, t1, t2, t3, t4⟩ := ih (f + 1) (gU s 194 0 (8 * i + f) (s 196 0 f)) (by omega) (by omega)
      refine ⟨τ, t1, fr.tr (by (repeat (first | exact fr.rfl | assumption | refine fr_gU ?_ (by decide) | refine fr_gR ?_ (by decide)))) t2, fun g h3 h4 => ?_, fun j g hg hj => ?_⟩
      · by_cases eg : g = f
        · subst eg; rw [t4 i g h4 (Or.inr (by omega)), gU_e]
        · rw [t3 g (by omega) h4]; simp only [gU_n, gU_e, Nat.reduceEqDiff, not_false_eq_true]
      · rw [t4 j g hg (by omega), gU_i (by omega)]
theorem b67_f {fu i : Nat} {s : gSt} {x1 x2 x3 x4 : Int32} {k8 : gSt → Int32 → Int32 → Int32 → Int32 → Int32 → Option (Int32 × gSt)} (hfu : 1 ≤ fu) (hi : i < 24) : f_X7_prints_b67 fu k8 s x1 x2 x3 x4 (nI i) 0 = k8 s x1 x2 (x3 + 0) (x4 ||| 0) (nI (i + 1)) := by
  obtain ⟨fu, rfl⟩ : ∃ k, fu = k + 1 := ⟨fu - 1, by omega⟩
  unfold f_X7_prints_b67 f_X7_prints_b84 f_X7_prints_b98 f_X7_prints_b122
  rw [if_pos rfl, if_pos rfl, if_pos rfl, gd_t (inb_t (by omega : i < 24) (by decide)), gd_t (okA186 hi), nI_clamp (by omega : i < 2 ^ 31), gU_same]
  show f_X7_prints_b126_B (fu + 1) k8 (f_X7_prints_b126 (fu + 1) k8 fu) s x1 x2 (x3 + 0) (x4 ||| 0) (nI i) 0 0 = _
  unfold f_X7_prints_b126_B f_X7_prints_b164
  rw [if_neg (by decide), if_pos rfl, nI_1]
theorem b67_t {fu i : Nat} {s : gSt} {x1 x2 x3 x4 : Int32} {k8 : gSt → Int32 → Int32 → Int32 → Int32 → Int32 → Option (Int32 × gSt)} (hfu : 30 ≤ fu) (hi : i < 24) : ∃ τ, f_X7_prints_b67 fu k8 s x1 x2 x3 x4 (nI i) 1 = k8 τ x1 x2 (x3 + 1) (x4 ||| ((1 : Int32) <<< (nI i &&& 31))) (nI (i + 1)) ∧ fr [186, 194] s τ ∧ (∀ j, τ 186 0 j = if j = i then 3 else s 186 0 j) ∧ (∀ g, g < 8 → τ 194 0 (8 * i + g) = s 196 0 g) ∧ ∀ j g, g < 8 → j ≠ i → τ 194 0 (8 * j + g) = s 194 0 (8 * j + g) := by
  have n1 : ¬ (1 : Int32) = 0 := by decide
  unfold f_X7_prints_b67 f_X7_prints_b84 f_X7_prints_b98 f_X7_prints_b122
  rw [if_neg n1, if_neg n1, if_neg n1, gd_t (okA186 hi), nI_clamp (by omega : i < 2 ^ 31)]
  obtain ⟨τ, t1, t2, t3, t4⟩ := told_loop (fu := fu) (x1 := x1) (x2 := x2) (x3 := x3 + 1) (x4 := x4 ||| ((1 : Int32) <<< (nI i &&& 31))) (k8 := k8) hi fu 0 (gU s 186 0 i 3) (by omega) (by omega)
  refine ⟨τ, t1, fr.tr (by (repeat (first | exact fr.rfl | assumption | refine fr_gU ?_ (by decide) | refine fr_gR ?_ (by decide)))) (t2.mono (by decide)), fun j => ?_, fun g hg => ?_, fun j g hg hj => ?_⟩
  · rw [t2 186 (by decide)]
    by_cases ej : j = i
    · subst ej; rw [gU_e, if_pos rfl]
    · rw [gU_i (by omega), if_neg ej]
  · rw [t3 g (Nat.zero_le _) hg]; simp only [gU_n, gU_e, Nat.reduceEqDiff, not_false_eq_true]
  · rw [t4 j g hg (Or.inl hj)]; simp only [gU_n, gU_e, Nat.reduceEqDiff, not_false_eq_true]
theorem inV_ok {fu : Nat} {s σ : gSt} {V P a i : Nat} (hV : V ≤ 4) (hP : P ≤ 4) (ha : a ≤ 4) : f_X7_isIn fu s (vS σ V i) (nI a) (nI P - 1) = some (bI (!decide (vS σ V i < nI a) && opS σ V P i), s) := by
  unfold f_X7_isIn f_X7_isIn_b14 f_X7_isIn_b15 opS
  rcases volS_cases (σ := σ) (V := V) (c := fl (cods σ i)) with h | ⟨v, hv, h⟩
  · have h : vS σ V i = -1 := h
    rw [h, if_pos (neg1_lt ha), decide_eq_true (neg1_lt ha)]; rfl
  · have h : vS σ V i = nI v := h
    rw [h, decide_eq_false (m1_ne (v := v) (by omega))]
    by_cases h1 : nI v < nI a
    · rw [if_pos h1, decide_eq_true h1]; rfl
    · rw [if_neg h1, decide_eq_false h1]
      have q := pred_lt (x := nI v) (n := P) (nI_pos (by omega)) (by omega)
      by_cases h2 : nI P ≤ nI v
      · rw [if_pos (q.mpr h2), decide_eq_true h2]; rfl
      · rw [if_neg (fun z => h2 (q.mp z)), decide_eq_false h2]; rfl
theorem pressM_loop {fu : Nat} {σ0 : gSt} {N V P a : Nat} {ps ms : Nat → Bool} (hfu : 30 ≤ fu) (S : sRel σ0 N V) (hP4 : P ≤ 4) (ha : a ≤ 4) (hms : ∀ i, i < N → ((σ0 186 0 i = 2 ∨ (wN σ0 i = 0 ∧ σ0 186 0 i = 0)) ↔ ms i = true)) (hps : ∀ i, i < N → ps i = (ms i && (!decide (vS σ0 V i < nI a) && opS σ0 V P i))) : ∀ n i (s : gSt) (m : Int32), i ≤ N → N < n + i → fr [186, 194] σ0 s → (∀ j, s 186 0 j = cond (up ps i j) 3 (σ0 186 0 j)) → (∀ j f, f < 8 → s 194 0 (8 * j + f) = cond (up ps i j) (σ0 196 0 f) (σ0 194 0 (8 * j + f))) → (∀ j, j < 24 → bt m j = up ps i j) →
    ∃ τ m', f_X7_prints_b8 fu n s (nI a) (nI P - 1) (nI (cntN ps i)) m (nI i) = f_X7_prints_b173 fu fu τ (nI (cntN ps N)) m' 0 ∧ fr [186, 194] σ0 τ ∧ (∀ j, τ 186 0 j = cond (up ps N j) 3 (σ0 186 0 j)) ∧ (∀ j f, f < 8 → τ 194 0 (8 * j + f) = cond (up ps N j) (σ0 196 0 f) (σ0 194 0 (8 * j + f))) ∧ ∀ j, j < 24 → bt m' j = up ps N j := by
  have hN := S.hN
  have hV := S.v.1
  intro n
  induction n with
  | zero => intro i s m h1 h2; omega
  | succ n ih =>
    intro i s m h1 h2 f e186 e194 em
    show ∃ τ m', f_X7_prints_b8_B fu (f_X7_prints_b8 fu n) s (nI a) (nI P - 1) _ m (nI i) = _ ∧ _
    unfold f_X7_prints_b8_B f_X7_prints_b66 f_X7_prints_b62
    have Ss : sRel s N V := S.frm f (by decide)
    rw [Ss.nM]
    by_cases e : N ≤ i
    · have e' : N = i := by omega
      rw [if_pos (nI_le e (by omega))]
      subst e'
      exact ⟨s, m, rfl, f, e186, e194, em⟩
    · have hi : i < N := by omega
      have i24 : inb (nI i) 24 = true := inb_t (by omega) (by decide)
      have c186 : s 186 0 i = σ0 186 0 i := by rw [e186, up_0 (Nat.le_refl _)]; rfl
      have w185 := (wN_ok S.1 hi).2.2
      have w9 := (wN_ok S.1 hi).1
      have hd : (if (s 186 0 i) = (2 : Int32) then (f_X7_prints_b67 fu (f_X7_prints_b8 fu n) s (nI a) (nI P - 1) (nI (cntN ps i)) m (nI i) 1) else (if (s 185 0 i) = 0 then (if (s 186 0 i) = 0 then (f_X7_prints_b67 fu (f_X7_prints_b8 fu n) s (nI a) (nI P - 1) (nI (cntN ps i)) m (nI i) 1) else (f_X7_prints_b67 fu (f_X7_prints_b8 fu n) s (nI a) (nI P - 1) (nI (cntN ps i)) m (nI i) 0)) else (f_X7_prints_b67 fu (f_X7_prints_b8 fu n) s (nI a) (nI P - 1) (nI (cntN ps i)) m (nI i) 0))) = f_X7_prints_b67 fu (f_X7_prints_b8 fu n) s (nI a) (nI P - 1) (nI (cntN ps i)) m (nI i) (bI (ms i)) := by
        rw [c186, f 185 (by decide), w185]
        have hm := hms i hi
        by_cases g1 : σ0 186 0 i = 2
        · rw [if_pos g1, hm.mp (Or.inl g1)]; rfl
        · rw [if_neg g1]
          by_cases g2 : wN σ0 i = 0
          · rw [if_pos (by rw [g2]; rfl)]
            by_cases g3 : σ0 186 0 i = 0
            · rw [if_pos g3, hm.mp (Or.inr ⟨g2, g3⟩)]; rfl
            · rw [if_neg g3]
              have : ms i = false := by
                cases q : ms i with
                | false => rfl
                | true => rcases hm.mpr q with z | z
                          · exact absurd z g1
                          · exact absurd z.2 g3
              rw [this]; rfl
          · rw [if_neg (nI_ne0 (by omega) (by omega))]
            have : ms i = false := by
              cases q : ms i with
              | false => rfl
              | true => rcases hm.mpr q with z | z
                        · exact absurd z g1
                        · exact absurd z.1 g2
            rw [this]; rfl
      have hd2 : (bd (f_X7_volumeOf fu s (nI i)) (fun v2 σ2 => bd (f_X7_isIn fu σ2 v2 (nI a) (nI P - 1)) (fun v3 σ3 => if v3 = 0 then (f_X7_prints_b67 fu (f_X7_prints_b8 fu n) σ3 (nI a) (nI P - 1) (nI (cntN ps i)) m (nI i) 0) else (gd (inb (nI i) 24) (if (σ3 186 0 (nI i).toNatClampNeg) = (2 : Int32) then (f_X7_prints_b67 fu (f_X7_prints_b8 fu n) σ3 (nI a) (nI P - 1) (nI (cntN ps i)) m (nI i) 1) else (gd (inb (nI i) 24) (if (σ3 185 0 (nI i).toNatClampNeg) = 0 then (gd (inb (nI i) 24) (if (σ3 186 0 (nI i).toNatClampNeg) = 0 then (f_X7_prints_b67 fu (f_X7_prints_b8 fu n) σ3 (nI a) (nI P - 1) (nI (cntN ps i)) m (nI i) 1) else (f_X7_prints_b67 fu (f_X7_prints_b8 fu n) σ3 (nI a) (nI P - 1) (nI (cntN ps i)) m (nI i) 0))) else (f_X7_prints_b67 fu (f_X7_prints_b8 fu n) σ3 (nI a) (nI P - 1) (nI (cntN ps i)) m (nI i) 0)))))))) = f_X7_prints_b67 fu (f_X7_prints_b8 fu n) s (nI a) (nI P - 1) (nI (cntN ps i)) m (nI i) (bI (ps i)) := by
        rw [bd_s (volM_ok (by omega) (by omega) (Ss.hw hi) Ss.v)]
        show bd (f_X7_isIn fu s (vS s V i) (nI a) (nI P - 1)) _ = _
        rw [f.vSE (by decide), bd_s (inV_ok hV hP4 ha), i24, nI_clamp (by omega : i < 2 ^ 31), gd_true, gd_true, gd_true, hd, hps i hi]
        cases (!decide (vS σ0 V i < nI a) && opS σ0 V P i) with
        | false => rw [bF, Bool.and_false]; rfl
        | true => rw [bT, Bool.and_true]
      rw [if_neg (nI_ge (by omega) (by omega)), hd2]
      cases hp : ps i with
      | false =>
        have same : ∀ j, up ps (i + 1) j = up ps i j := fun j => by
          by_cases ej : j = i
          · subst ej; rw [up_s, up_0 (Nat.le_refl _), hp]
          · exact up_n ej
        have := ih (i + 1) s (m ||| 0) (by omega) (by omega) f (fun j => by rw [same]; exact e186 j) (fun j g hg => by rw [same]; exact e194 j g hg) (fun j hj => by rw [b_or, b_0, Bool.or_false, same]; exact em j hj)
        rw [cntN_s, hp] at this
        rw [show bI false = 0 from rfl, b67_f (by omega) (by omega), show (0 : Int32) = nI 0 from rfl, nI_add]
        exact this
      | true =>
        obtain ⟨t, t1, t2, t3, t4, t5⟩ := b67_t (s := s) (x1 := nI a) (x2 := nI P - 1) (x3 := nI (cntN ps i)) (x4 := m) (k8 := f_X7_prints_b8 fu n) hfu (by omega : i < 24)
        rw [show bI true = 1 from rfl, t1, nI_1]
        have := ih (i + 1) t (m ||| ((1 : Int32) <<< (nI i &&& 31))) (by omega) (by omega) (f.tr t2) (fun j => ?_) (fun j g hg => ?_) (fun j hj => ?_)
        · rw [cntN_s, hp] at this
          exact this
        · rw [t3]
          by_cases ej : j = i
          · subst ej; rw [if_pos rfl, up_s, hp]; rfl
          · rw [if_neg ej, up_n ej]; exact e186 j
        · by_cases ej : j = i
          · subst ej; rw [t4 g hg, up_s, hp, f 196 (by decide)]; rfl
          · rw [t5 j g hg ej, up_n ej]; exact e194 j g hg
        · rw [bit_set (by omega) (by omega), em j hj]
          by_cases ej : j = i
          · subst ej; rw [up_s, hp, decide_eq_true rfl, Bool.or_true]
          · rw [up_n ej, decide_eq_false ej, Bool.or_false]
def lmB (σ0 : gSt) (ps : Nat → Bool) (h : Nat) : Bool := ps (h / 4) && decide (h % 4 < rcN σ0 (h / 4))
def skD (σ0 : gSt) (N V P : Nat) (p ps : Nat → Bool) (i r : Nat) : Nat := cond (ps i) (cntN (fun r => decide (ftS σ0 N V P p (24 + (4 * i + r)) = 3)) r) 0
theorem lookM_in {fu : Nat} {σ0 : gSt} {N V P i c : Nat} {p ps : Nat → Bool} {m x3 : Int32} {k173 : gSt → Int32 → Int32 → Int32 → Option (Int32 × gSt)} (hfu : 30 ≤ fu) (S : sRel σ0 N V) (hP : σ0 200 0 0 = nI P) (hp : ∀ k, k < N → (σ0 186 0 k = 3 ↔ p k = true)) (hi : i < N) (hm : bt m i = ps i) : ∀ n r (s : gSt), r ≤ rcN σ0 i → rcN σ0 i < n + r → fr [192, 208] σ0 s → (∀ h, h < 96 → s 192 0 h = cond (dn i r h && lmB σ0 ps h) (ftS σ0 N V P p (24 + h)) (σ0 192 0 h)) → s 208 0 0 = nI (c + skD σ0 N V P p ps i r) →
    ∃ τ, f_X7_prints_b185 fu k173 n s x3 m (nI i) (nI r) = k173 τ x3 m (nI (i + 1)) ∧ fr [192, 208] σ0 τ ∧ (∀ h, h < 96 → τ 192 0 h = cond (dn (i + 1) 0 h && lmB σ0 ps h) (ftS σ0 N V P p (24 + h)) (σ0 192 0 h)) ∧ τ 208 0 0 = nI (c + skD σ0 N V P p ps i (rcN σ0 i)) := by
  have hN := S.hN
  obtain ⟨c1, c2, c3, c4, c5⟩ := S.rf (i := i) (by omega)
  intro n
  induction n with
  | zero => intro r s h1 h2; omega
  | succ n ih =>
    intro r s h1 h2 f e192 e208
    show ∃ τ, f_X7_prints_b185_B fu k173 (f_X7_prints_b185 fu k173 n) s x3 m (nI i) (nI r) = _ ∧ _
    unfold f_X7_prints_b185_B f_X7_prints_b292
    have Ss : sRel s N V := S.frm f (by decide)
    rw [gd_t (inb_t (by omega : i < 24) (by decide)), nI_clamp (by omega : i < 2 ^ 31), f 191 (by decide), c3, bit_at (by omega), hm, nI_1]
    by_cases e : rcN σ0 i ≤ r
    · have e' : r = rcN σ0 i := by omega
      rw [if_pos (nI_le e (by omega)), ← e']
      refine ⟨s, rfl, f, fun h hh => ?_, e208⟩
      rw [← dn_row (r := r) (fun e2 => by
        by_cases q : h % 4 < r
        · exact Or.inr q
        · left
          unfold lmB
          rw [e2, decide_eq_false (by omega : ¬ h % 4 < rcN σ0 i), Bool.and_false])]
      exact e192 h hh
    · rw [if_neg (nI_ge (by omega) (by omega))]
      cases hpi : ps i with
      | false =>
        rw [if_neg (by decide)]
        refine ⟨s, rfl, f, fun h hh => ?_, ?_⟩
        · rw [← dn_row (r := r) (fun e2 => by
            left
            unfold lmB
            rw [e2, hpi]; rfl)]
          exact e192 h hh
        · unfold skD at e208 ⊢
          rw [hpi] at e208 ⊢
          exact e208
      | true =>
        have r4 : r < 4 := by omega
        obtain ⟨q1, q2⟩ := h4 (i := i) r4
        have hh : 4 * i + r < 96 := by omega
        have hp' : ∀ k, k < N → (s 186 0 k = 3 ↔ p k = true) := fun k hk => by rw [f 186 (by decide)]; exact hp k hk
        have R : hwl s (24 + (4 * i + r)) := Ss.2 i (by omega) |>.2.2.2.2 r (by rw [f.rcNE' (by decide)]; omega)
        have lb : lmB σ0 ps (4 * i + r) = true := by
          unfold lmB
          rw [q1, q2, hpi, decide_eq_true (by omega : r < rcN σ0 i)]; rfl
        have go : ∀ x : Int32, x = ftS σ0 N V P p (24 + (4 * i + r)) → ∃ τ, f_X7_prints_b255 fu k173 (f_X7_prints_b185 fu k173 n) s x3 m (nI i) (nI r) 192 0 (nI (4 * i + r)) x = k173 τ x3 m (nI (i + 1)) ∧ fr [192, 208] σ0 τ ∧ (∀ h, h < 96 → τ 192 0 h = cond (dn (i + 1) 0 h && lmB σ0 ps h) (ftS σ0 N V P p (24 + h)) (σ0 192 0 h)) ∧ τ 208 0 0 = nI (c + skD σ0 N V P p ps i (rcN σ0 i)) := fun x hx => by
          unfold f_X7_prints_b255 f_X7_prints_b282
          rw [gd_t (okA192 hh), nI4, gd_t (inb_t hh (by decide)), nI_clamp (by omega : 4 * i + r < 2 ^ 31), gU_e, nI_1]
          simp only [gU_n, gU_e, Nat.reduceEqDiff, not_false_eq_true]
          have st : ∀ y : Int32, y = nI (c + skD σ0 N V P p ps i (r + 1)) → ∃ τ, f_X7_prints_b185 fu k173 n (gU (gU s 192 0 (4 * i + r) x) 208 0 0 y) x3 m (nI i) (nI (r + 1)) = k173 τ x3 m (nI (i + 1)) ∧ fr [192, 208] σ0 τ ∧ (∀ h, h < 96 → τ 192 0 h = cond (dn (i + 1) 0 h && lmB σ0 ps h) (ftS σ0 N V P p (24 + h)) (σ0 192 0 h)) ∧ τ 208 0 0 = nI (c + skD σ0 N V P p ps i (rcN σ0 i)) := fun y hy => by
            refine ih (r + 1) _ (by omega) (by omega) (by (repeat (first | exact fr.rfl | assumption | refine fr_gU ?_ (by decide) | refine fr_gR ?_ (by decide)))) (fun h hh' => ?_) (by rw [gU_e]; exact hy)
            simp only [gU_n, gU_e, Nat.reduceEqDiff, not_false_eq_true]
            by_cases eh : h = 4 * i + r
            · subst eh; rw [gU_e, dn_at1 r4, lb]; exact hx
            · rw [gU_i (by omega), dn_ne r4 eh]; exact e192 h hh'
          have sk1 : skD σ0 N V P p ps i (r + 1) = skD σ0 N V P p ps i r + cond (decide (x = 3)) 1 0 := by
            unfold skD
            rw [hpi, cntN_s, hx]; rfl
          by_cases h3 : x = 3
          · rw [if_pos h3]
            refine st _ ?_
            rw [e208, sk1, decide_eq_true h3, nI_1, Nat.add_assoc]; rfl
          · rw [if_neg h3]
            refine st _ ?_
            rw [e208, sk1, decide_eq_false h3, ← nI_0, nI_add, Nat.add_assoc]; rfl
        rw [if_pos (show bI true = 1 from rfl), show f_X7_reference fu s (nI i) (nI r) = some (nI (24 + (4 * i + r)), s) by unfold f_X7_reference; rw [row_nI], bd_s rfl, bd_s (thM_ok hfu Ss (by omega) R hp'), f.thE (by decide), nI4]
        cases ht : thS σ0 N p (24 + (4 * i + r)) with
        | true => rw [bT]; exact go 1 (by unfold ftS; rw [ht]; rfl)
        | false =>
          rw [bF, bd_s (opM_ok (by omega) Ss (by omega) R (by rw [f 200 (by decide)]; exact hP)), f.opE (by decide)]
          cases ho : opS σ0 V P (24 + (4 * i + r)) with
          | true => rw [show bI (!true) = bI false from rfl, bF]; exact go 3 (by unfold ftS; rw [ht, ho]; rfl)
          | false => rw [show bI (!false) = bI true from rfl, bT]; exact go 2 (by unfold ftS; rw [ht, ho]; rfl)
theorem lookM_loop {fu : Nat} {σ0 : gSt} {N V P c : Nat} {p ps : Nat → Bool} {m x3 : Int32} (hfu : 30 ≤ fu) (S : sRel σ0 N V) (hP : σ0 200 0 0 = nI P) (hp : ∀ k, k < N → (σ0 186 0 k = 3 ↔ p k = true)) (hm : ∀ i, i < N → bt m i = ps i) : ∀ n i (s : gSt), i ≤ N → N < n + i → fr [192, 208] σ0 s → (∀ h, h < 96 → s 192 0 h = cond (dn i 0 h && lmB σ0 ps h) (ftS σ0 N V P p (24 + h)) (σ0 192 0 h)) → s 208 0 0 = nI (c + sumN (fun i => skD σ0 N V P p ps i (rcN σ0 i)) i) →
    ∃ τ, f_X7_prints_b173 fu n s x3 m (nI i) = some (x3, τ) ∧ fr [192, 208] σ0 τ ∧ (∀ h, h < 96 → τ 192 0 h = cond (dn N 0 h && lmB σ0 ps h) (ftS σ0 N V P p (24 + h)) (σ0 192 0 h)) ∧ τ 208 0 0 = nI (c + sumN (fun i => skD σ0 N V P p ps i (rcN σ0 i)) N) := by
  have hN := S.hN
  intro n
  induction n with
  | zero => intro i s h1 h2; omega
  | succ n ih =>
    intro i s h1 h2 f e192 e208
    show ∃ τ, f_X7_prints_b173_B fu (f_X7_prints_b173 fu n) s x3 m (nI i) = _ ∧ _
    unfold f_X7_prints_b173_B
    rw [f 183 (by decide), S.nM]
    by_cases e : N ≤ i
    · have e' : N = i := by omega
      rw [if_pos (nI_le e (by omega))]
      subst e'
      exact ⟨s, rfl, f, e192, e208⟩
    · rw [if_neg (nI_ge (by omega) (by omega))]
      obtain ⟨τ, t1, t2, t3, t4⟩ := lookM_in (c := c + sumN (fun i => skD σ0 N V P p ps i (rcN σ0 i)) i) (x3 := x3) (k173 := f_X7_prints_b173 fu n) hfu S hP hp (by omega : i < N) (hm i (by omega)) fu 0 s (Nat.zero_le _) (by have := (S.rf (i := i) (by omega)).1; omega) f e192 (by
        have : skD σ0 N V P p ps i 0 = 0 := by unfold skD; cases ps i <;> rfl
        rw [this]; exact e208)
      rw [show f_X7_prints_b185 fu (f_X7_prints_b173 fu n) fu s x3 m (nI i) 0 = _ from t1]
      exact ih (i + 1) τ (by omega) (by omega) t2 t3 (by rw [t4, Nat.add_assoc]; rfl)

/-! the law: every call goes the same way on both sides -/
theorem lcmp0 (x : Int64) : lg_cmp x x = 0 := (lg_cmp_eq x x).mpr rfl
theorem bL_s {m : Option (Int32 × (Nat → Int64) × gSt)} {v : Int32} {w : Nat → Int64} {σ : gSt} {k : Int32 → (Nat → Int64) → gSt → Option Int32} (h : m = some (v, w, σ)) : bL m k = k v w σ := by rw [h]; rfl
theorem bC_0 {α : Type} {v : Int32} {σ : gSt} {k : Int32 → gSt → Option α} {x : Nat → gSt → Option α} : bC (some (0, v, σ)) k x = k v σ := rfl
theorem updL0 {w : Nat → Int64} {y : Int64} : vp_updL w 0 y 0 = y := by simp [vp_updL]
theorem law_int {fu G : Nat} {cm : Nat → Int32} {m : Option (Nat × Int32 × gSt)} {k : gSt → Option (Int32 × gSt)} {w : Nat → Int64} {x : Nat → gSt → Option (Int32 × (Nat → Int64) × gSt)} {K : (Nat → Int64) → gSt → Option Int32} (h0 : cm 0 = 0) (H : stepX cm m k G) (hx : ∀ c σ1, (c = 1 ∨ c = 2 ∨ c = 3) → ¬ cm c = 0 → x c σ1 = some (cm c, w, σ1)) (hK : ∀ w σ, (∃ N V P K' G', Inv σ N V P K' G' ∧ G' ≤ G + 1) → K w σ = some 1) :
    bL (bC m (fun v σ1 => some ((0 : Int32), vp_updL w 0 (v.toInt64), σ1)) x) (fun v1 w1 σ1 => bd (k σ1) (fun v2 σ2 => bd (f_X7_thrown fu σ2) (fun v3 σ3 => if v3 = v1 then (if v1 = 0 then (if (lg_cmp (w1 0) (v2.toInt64)) = 0 then K w1 σ3 else some 0) else K w1 σ3) else some 0))) = some 1 := by
  obtain ⟨c, v, σ1, v', σ2, h1, h2, h3, h4, h5, h6⟩ := H
  rw [h1]
  rcases h5 with rfl | ⟨h5, h7⟩
  · rw [bC_0, bL_s rfl, bd_s h2]
    show (if σ2 209 0 0 = 0 then (if (0 : Int32) = 0 then (if lg_cmp (vp_updL w 0 v.toInt64 0) v'.toInt64 = 0 then _ else _) else _) else _) = _
    rw [if_pos (h3.trans h0), if_pos rfl, updL0, h4 rfl, lcmp0, if_pos rfl]
    exact hK _ _ h6
  · have e : bC (some (c, v, σ1)) (fun v σ1 => some ((0 : Int32), vp_updL w 0 (v.toInt64), σ1)) x = x c σ1 := if_neg (by omega)
    rw [e, bL_s (hx c σ1 h5 h7), bd_s h2]
    show (if σ2 209 0 0 = cm c then (if cm c = 0 then _ else _) else _) = _
    rw [if_pos h3, if_neg h7]
    exact hK _ _ h6
theorem law_bool {fu G : Nat} {cm : Nat → Int32} {m : Option (Nat × Int32 × gSt)} {k : gSt → Option (Int32 × gSt)} {w : Nat → Int64} {x : Nat → gSt → Option (Int32 × (Nat → Int64) × gSt)} {K : (Nat → Int64) → gSt → Option Int32} (h0 : cm 0 = 0) (H : stepX cm m k G) (hx : ∀ c σ1, (c = 1 ∨ c = 2 ∨ c = 3) → ¬ cm c = 0 → x c σ1 = some (cm c, w, σ1)) (hK : ∀ w σ, (∃ N V P K' G', Inv σ N V P K' G' ∧ G' ≤ G + 1) → K w σ = some 1) :
    bL (bC m (fun v σ1 => if v = 0 then (some ((0 : Int32), vp_updL w 0 (0 : Int64), σ1)) else (some ((0 : Int32), vp_updL w 0 (1 : Int64), σ1))) x) (fun v1 w1 σ1 => bd (k σ1) (fun v2 σ2 => bd (f_X7_thrown fu σ2) (fun v3 σ3 => if v3 = v1 then (if v1 = 0 then (if v2 = 0 then (if (lg_cmp (w1 0) (0 : Int64)) = 0 then K w1 σ3 else some 0) else (if (lg_cmp (w1 0) (1 : Int64)) = 0 then K w1 σ3 else some 0)) else K w1 σ3) else some 0))) = some 1 := by
  obtain ⟨c, v, σ1, v', σ2, h1, h2, h3, h4, h5, h6⟩ := H
  rw [h1]
  rcases h5 with rfl | ⟨h5, h7⟩
  · by_cases hv : v = 0
    · have e : bC (some (0, v, σ1)) (fun v σ1 => if v = 0 then (some ((0 : Int32), vp_updL w 0 (0 : Int64), σ1)) else (some ((0 : Int32), vp_updL w 0 (1 : Int64), σ1))) x = some ((0 : Int32), vp_updL w 0 (0 : Int64), σ1) := if_pos hv
      rw [bL_s e, bd_s h2]
      show (if σ2 209 0 0 = 0 then (if (0 : Int32) = 0 then (if v' = 0 then (if lg_cmp (vp_updL w 0 (0 : Int64) 0) 0 = 0 then _ else _) else _) else _) else _) = _
      rw [if_pos (h3.trans h0), if_pos rfl, if_pos ((h4 rfl).trans hv), updL0, lcmp0, if_pos rfl]
      exact hK _ _ h6
    · have e : bC (some (0, v, σ1)) (fun v σ1 => if v = 0 then (some ((0 : Int32), vp_updL w 0 (0 : Int64), σ1)) else (some ((0 : Int32), vp_updL w 0 (1 : Int64), σ1))) x = some ((0 : Int32), vp_updL w 0 (1 : Int64), σ1) := if_neg hv
      rw [bL_s e, bd_s h2]
      show (if σ2 209 0 0 = 0 then (if (0 : Int32) = 0 then (if v' = 0 then _ else (if lg_cmp (vp_updL w 0 (1 : Int64) 0) 1 = 0 then _ else _)) else _) else _) = _
      rw [if_pos (h3.trans h0), if_pos rfl, if_neg (fun q => hv ((h4 rfl).symm.trans q)), updL0, lcmp0, if_pos rfl]
      exact hK _ _ h6
  · have e : bC (some (c, v, σ1)) (fun v σ1 => if v = 0 then (some ((0 : Int32), vp_updL w 0 (0 : Int64), σ1)) else (some ((0 : Int32), vp_updL w 0 (1 : Int64), σ1))) x = x c σ1 := if_neg (by omega)
    rw [e, bL_s (hx c σ1 h5 h7), bd_s h2]
    show (if σ2 209 0 0 = cm c then (if cm c = 0 then _ else _) else _) = _
    rw [if_pos h3, if_neg h7]
    exact hK _ _ h6
theorem law_p {G : Nat} {m : Option (Int32 × gSt)} {k : gSt → Option (Int32 × gSt)} {K : gSt → Option Int32} (H : stepP m k G) (hK : ∀ σ, (∃ N V P K' G', Inv σ N V P K' G' ∧ G' ≤ G + 1) → K σ = some 1) :
    bd m (fun v1 σ1 => bd (k σ1) (fun v2 σ2 => if v1 = v2 then K σ2 else some 0)) = some 1 := by
  obtain ⟨v, σ1, σ2, h1, h2, h3⟩ := H
  rw [bd_s h1, bd_s h2, if_pos rfl]
  exact hK _ h3
set_option maxRecDepth 100000 in
theorem blk_sign {fu L : Nat} {xs : Nat → Int32} {k23 : (Nat → Int64) → gSt → Int32 → Option Int32} {w : Nat → Int64} {σ : gSt} {x4 : Int32} {N V P K G : Nat} (hfu : 100 ≤ fu) (hG : G < 2 ^ 30) (i1 : inb (x4 + 1) L = true) (i2 : inb (x4 + 2) L = true) (I : Inv σ N V P K G) (hK : ∀ w σ, (∃ N V P K' G', Inv σ N V P K' G' ∧ G' ≤ G + 1) → k23 w σ (x4 + 3) = some 1) : f_L_law_b156 fu xs L k23 w σ x4 = some 1 := by
  unfold f_L_law_b156 f_L_law_b211 f_L_law_b1598 f_L_sign
  simp only [i1, i2, gd_true]
  exact law_int (K := fun w σ => k23 w σ (x4 + 3)) rfl (step_sign I) (fun c σ1 hc h0 => by rcases hc with rfl | rfl | rfl <;> first | rfl | exact absurd rfl h0) hK
set_option maxRecDepth 100000 in
theorem blk_article {fu L : Nat} {xs : Nat → Int32} {k23 : (Nat → Int64) → gSt → Int32 → Option Int32} {w : Nat → Int64} {σ : gSt} {x4 : Int32} {N V P K G : Nat} (hfu : 100 ≤ fu) (hG : G < 2 ^ 30) (i1 : inb (x4 + 1) L = true) (i2 : inb (x4 + 2) L = true) (I : Inv σ N V P K G) (hK : ∀ w σ, (∃ N V P K' G', Inv σ N V P K' G' ∧ G' ≤ G + 1) → k23 w σ (x4 + 3) = some 1) : f_L_law_b306 fu xs L k23 w σ x4 = some 1 := by
  unfold f_L_law_b306 f_L_law_b371 f_L_law_b1598 f_L_article
  simp only [i1, i2, gd_true]
  exact law_int (K := fun w σ => k23 w σ (x4 + 3)) rfl (step_article (by omega) I) (fun c σ1 hc h0 => by rcases hc with rfl | rfl | rfl <;> first | rfl | exact absurd rfl h0) hK
set_option maxRecDepth 100000 in
theorem blk_under {fu L : Nat} {xs : Nat → Int32} {k23 : (Nat → Int64) → gSt → Int32 → Option Int32} {w : Nat → Int64} {σ : gSt} {x4 : Int32} {N V P K G : Nat} (hfu : 100 ≤ fu) (hG : G < 2 ^ 30) (i1 : inb (x4 + 1) L = true) (i2 : inb (x4 + 2) L = true) (I : Inv σ N V P K G) (hK : ∀ w σ, (∃ N V P K' G', Inv σ N V P K' G' ∧ G' ≤ G + 1) → k23 w σ (x4 + 3) = some 1) : f_L_law_b374 fu xs L k23 w σ x4 = some 1 := by
  unfold f_L_law_b374 f_L_law_b439 f_L_law_b1598 f_L_under
  simp only [i1, i2, gd_true]
  exact law_int (K := fun w σ => k23 w σ (x4 + 3)) rfl (step_under I) (fun c σ1 hc h0 => by rcases hc with rfl | rfl | rfl <;> first | rfl | exact absurd rfl h0) hK
set_option maxRecDepth 100000 in
theorem blk_refer {fu L : Nat} {xs : Nat → Int32} {k23 : (Nat → Int64) → gSt → Int32 → Option Int32} {w : Nat → Int64} {σ : gSt} {x4 : Int32} {N V P K G : Nat} (hfu : 100 ≤ fu) (hG : G < 2 ^ 30) (i1 : inb (x4 + 1) L = true) (i2 : inb (x4 + 2) L = true) (I : Inv σ N V P K G) (hK : ∀ w σ, (∃ N V P K' G', Inv σ N V P K' G' ∧ G' ≤ G + 1) → k23 w σ (x4 + 3) = some 1) : f_L_law_b442 fu xs L k23 w σ x4 = some 1 := by
  unfold f_L_law_b442 f_L_law_b495 f_L_law_b1598 f_L_refer
  simp only [i1, i2, gd_true]
  exact law_int (K := fun w σ => k23 w σ (x4 + 3)) rfl (step_refer (by omega) I) (fun c σ1 hc h0 => by rcases hc with rfl | rfl | rfl <;> first | rfl | exact absurd rfl h0) hK
set_option maxRecDepth 100000 in
theorem blk_change {fu L : Nat} {xs : Nat → Int32} {k23 : (Nat → Int64) → gSt → Int32 → Option Int32} {w : Nat → Int64} {σ : gSt} {x4 : Int32} {N V P K G : Nat} (hfu : 100 ≤ fu) (hG : G < 2 ^ 30) (i1 : inb (x4 + 1) L = true) (i2 : inb (x4 + 2) L = true) (I : Inv σ N V P K G) (hK : ∀ w σ, (∃ N V P K' G', Inv σ N V P K' G' ∧ G' ≤ G + 1) → k23 w σ (x4 + 3) = some 1) : f_L_law_b573 fu xs L k23 w σ x4 = some 1 := by
  unfold f_L_law_b573 f_L_law_b638 f_L_law_b1598 f_L_change
  simp only [i1, i2, gd_true]
  exact law_int (K := fun w σ => k23 w σ (x4 + 3)) rfl (step_change I) (fun c σ1 hc h0 => by rcases hc with rfl | rfl | rfl <;> first | rfl | exact absurd rfl h0) hK
set_option maxRecDepth 100000 in
theorem blk_volume {fu L : Nat} {xs : Nat → Int32} {k23 : (Nat → Int64) → gSt → Int32 → Option Int32} {w : Nat → Int64} {σ : gSt} {x4 : Int32} {N V P K G : Nat} (hfu : 100 ≤ fu) (hG : G < 2 ^ 30) (i1 : inb (x4 + 1) L = true) (i2 : inb (x4 + 2) L = true) (I : Inv σ N V P K G) (hK : ∀ w σ, (∃ N V P K' G', Inv σ N V P K' G' ∧ G' ≤ G + 1) → k23 w σ (x4 + 3) = some 1) : f_L_law_b732 fu xs L k23 w σ x4 = some 1 := by
  unfold f_L_law_b732 f_L_law_b799 f_L_law_b1598 f_L_volume
  simp only [i1, i2, gd_true]
  exact law_int (K := fun w σ => k23 w σ (x4 + 3)) rfl (step_volume (by rw [pk_char]; exact isC_t (by omega)) I) (fun c σ1 hc h0 => by rcases hc with rfl | rfl | rfl <;> first | rfl | exact absurd rfl h0) hK
set_option maxRecDepth 100000 in
theorem blk_contributor {fu L : Nat} {xs : Nat → Int32} {k23 : (Nat → Int64) → gSt → Int32 → Option Int32} {w : Nat → Int64} {σ : gSt} {x4 : Int32} {N V P K G : Nat} (hfu : 100 ≤ fu) (hG : G < 2 ^ 30) (i1 : inb (x4 + 1) L = true) (i2 : inb (x4 + 2) L = true) (I : Inv σ N V P K G) (hK : ∀ w σ, (∃ N V P K' G', Inv σ N V P K' G' ∧ G' ≤ G + 1) → k23 w σ (x4 + 3) = some 1) : f_L_law_b802 fu xs L k23 w σ x4 = some 1 := by
  unfold f_L_law_b802 f_L_law_b855 f_L_law_b1598 f_L_contributor
  simp only [i1, i2, gd_true]
  exact law_int (K := fun w σ => k23 w σ (x4 + 3)) rfl (step_contributor I) (fun c σ1 hc h0 => by rcases hc with rfl | rfl | rfl <;> first | rfl | exact absurd rfl h0) hK
set_option maxRecDepth 100000 in
theorem blk_give {fu L : Nat} {xs : Nat → Int32} {k23 : (Nat → Int64) → gSt → Int32 → Option Int32} {w : Nat → Int64} {σ : gSt} {x4 : Int32} {N V P K G : Nat} (hfu : 100 ≤ fu) (hG : G < 2 ^ 30) (i1 : inb (x4 + 1) L = true) (i2 : inb (x4 + 2) L = true) (I : Inv σ N V P K G) (hK : ∀ w σ, (∃ N V P K' G', Inv σ N V P K' G' ∧ G' ≤ G + 1) → k23 w σ (x4 + 3) = some 1) : f_L_law_b933 fu xs L k23 w σ x4 = some 1 := by
  unfold f_L_law_b933 f_L_law_b998 f_L_law_b1598 f_L_give
  simp only [i1, i2, gd_true]
  exact law_int (K := fun w σ => k23 w σ (x4 + 3)) rfl (step_give (by omega) hG I) (fun c σ1 hc h0 => by rcases hc with rfl | rfl | rfl <;> first | rfl | exact absurd rfl h0) hK
set_option maxRecDepth 100000 in
theorem blk_die {fu L : Nat} {xs : Nat → Int32} {k23 : (Nat → Int64) → gSt → Int32 → Option Int32} {w : Nat → Int64} {σ : gSt} {x4 : Int32} {N V P K G : Nat} (hfu : 100 ≤ fu) (hG : G < 2 ^ 30) (i1 : inb (x4 + 1) L = true) (i2 : inb (x4 + 2) L = true) (I : Inv σ N V P K G) (hK : ∀ w σ, (∃ N V P K' G', Inv σ N V P K' G' ∧ G' ≤ G + 1) → k23 w σ (x4 + 3) = some 1) : f_L_law_b1001 fu xs L k23 w σ x4 = some 1 := by
  unfold f_L_law_b1001 f_L_law_b1054 f_L_law_b1598 f_L_die
  simp only [i1, i2, gd_true]
  exact law_int (K := fun w σ => k23 w σ (x4 + 3)) rfl (step_die (by omega) I) (fun c σ1 hc h0 => by rcases hc with rfl | rfl | rfl <;> first | rfl | exact absurd rfl h0) hK
set_option maxRecDepth 100000 in
theorem blk_pass {fu L : Nat} {xs : Nat → Int32} {k23 : (Nat → Int64) → gSt → Int32 → Option Int32} {w : Nat → Int64} {σ : gSt} {x4 : Int32} {N V P K G : Nat} (hfu : 100 ≤ fu) (hG : G < 2 ^ 30) (i1 : inb (x4 + 1) L = true) (i2 : inb (x4 + 2) L = true) (I : Inv σ N V P K G) (hK : ∀ w σ, (∃ N V P K' G', Inv σ N V P K' G' ∧ G' ≤ G + 1) → k23 w σ (x4 + 3) = some 1) : f_L_law_b1057 fu xs L k23 w σ x4 = some 1 := by
  unfold f_L_law_b1057 f_L_law_b1110 f_L_law_b1598 f_L_pass
  simp only [i1, i2, gd_true]
  exact law_int (K := fun w σ => k23 w σ (x4 + 3)) rfl (step_pass (by omega) hG I) (fun c σ1 hc h0 => by rcases hc with rfl | rfl | rfl <;> first | rfl | exact absurd rfl h0) hK
set_option maxRecDepth 100000 in
theorem blk_print {fu L : Nat} {xs : Nat → Int32} {k23 : (Nat → Int64) → gSt → Int32 → Option Int32} {w : Nat → Int64} {σ : gSt} {x4 : Int32} {N V P K G : Nat} (hfu : 100 ≤ fu) (hG : G < 2 ^ 30) (i1 : inb (x4 + 1) L = true) (i2 : inb (x4 + 2) L = true) (I : Inv σ N V P K G) (hK : ∀ w σ, (∃ N V P K' G', Inv σ N V P K' G' ∧ G' ≤ G + 1) → k23 w σ (x4 + 3) = some 1) : f_L_law_b1113 fu xs L k23 w σ x4 = some 1 := by
  unfold f_L_law_b1113 f_L_law_b1166 f_L_law_b1598 f_L_print
  simp only [i1, i2, gd_true]
  exact law_int (K := fun w σ => k23 w σ (x4 + 3)) rfl (step_print (by omega) I) (fun c σ1 hc h0 => by rcases hc with rfl | rfl | rfl <;> first | rfl | exact absurd rfl h0) hK
set_option maxRecDepth 100000 in
theorem blk_supplement {fu L : Nat} {xs : Nat → Int32} {k23 : (Nat → Int64) → gSt → Int32 → Option Int32} {w : Nat → Int64} {σ : gSt} {x4 : Int32} {N V P K G : Nat} (hfu : 100 ≤ fu) (hG : G < 2 ^ 30) (i1 : inb (x4 + 1) L = true) (i2 : inb (x4 + 2) L = true) (I : Inv σ N V P K G) (hK : ∀ w σ, (∃ N V P K' G', Inv σ N V P K' G' ∧ G' ≤ G + 1) → k23 w σ (x4 + 3) = some 1) : f_L_law_b1169 fu xs L k23 w σ x4 = some 1 := by
  unfold f_L_law_b1169 f_L_law_b1210 f_L_law_b1598 f_L_supplement
  exact law_int (K := fun w σ => k23 w σ (x4 + 3)) rfl (step_supplement (by omega) I) (fun c σ1 hc h0 => by rcases hc with rfl | rfl | rfl <;> first | rfl | exact absurd rfl h0) hK
set_option maxRecDepth 100000 in
theorem blk_at {fu L : Nat} {xs : Nat → Int32} {k23 : (Nat → Int64) → gSt → Int32 → Option Int32} {w : Nat → Int64} {σ : gSt} {x4 : Int32} {N V P K G : Nat} (hfu : 100 ≤ fu) (hG : G < 2 ^ 30) (i1 : inb (x4 + 1) L = true) (i2 : inb (x4 + 2) L = true) (I : Inv σ N V P K G) (hK : ∀ w σ, (∃ N V P K' G', Inv σ N V P K' G' ∧ G' ≤ G + 1) → k23 w σ (x4 + 3) = some 1) : f_L_law_b1226 fu xs L k23 w σ x4 = some 1 := by
  unfold f_L_law_b1226 f_L_law_b1279 f_L_law_b1598 f_L_at
  simp only [i1, i2, gd_true]
  exact law_int (K := fun w σ => k23 w σ (x4 + 3)) rfl (step_at (by omega) I) (fun c σ1 hc h0 => by rcases hc with rfl | rfl | rfl <;> first | rfl | exact absurd rfl h0) hK
set_option maxRecDepth 100000 in
theorem blk_about {fu L : Nat} {xs : Nat → Int32} {k23 : (Nat → Int64) → gSt → Int32 → Option Int32} {w : Nat → Int64} {σ : gSt} {x4 : Int32} {N V P K G : Nat} (hfu : 100 ≤ fu) (hG : G < 2 ^ 30) (i1 : inb (x4 + 1) L = true) (i2 : inb (x4 + 2) L = true) (I : Inv σ N V P K G) (hK : ∀ w σ, (∃ N V P K' G', Inv σ N V P K' G' ∧ G' ≤ G + 1) → k23 w σ (x4 + 3) = some 1) : f_L_law_b1282 fu xs L k23 w σ x4 = some 1 := by
  unfold f_L_law_b1282 f_L_law_b1347 f_L_law_b1598 f_L_about
  simp only [i1, i2, gd_true]
  exact law_int (K := fun w σ => k23 w σ (x4 + 3)) rfl (step_about (by omega) I) (fun c σ1 hc h0 => by rcases hc with rfl | rfl | rfl <;> first | rfl | exact absurd rfl h0) hK
set_option maxRecDepth 100000 in
theorem blk_errata {fu L : Nat} {xs : Nat → Int32} {k23 : (Nat → Int64) → gSt → Int32 → Option Int32} {w : Nat → Int64} {σ : gSt} {x4 : Int32} {N V P K G : Nat} (hfu : 100 ≤ fu) (hG : G < 2 ^ 30) (i1 : inb (x4 + 1) L = true) (i2 : inb (x4 + 2) L = true) (I : Inv σ N V P K G) (hK : ∀ w σ, (∃ N V P K' G', Inv σ N V P K' G' ∧ G' ≤ G + 1) → k23 w σ (x4 + 3) = some 1) : f_L_law_b1363 fu xs L k23 w σ x4 = some 1 := by
  unfold f_L_law_b1363 f_L_law_b1416 f_L_law_b1598 f_L_errata
  simp only [i1, i2, gd_true]
  exact law_int (K := fun w σ => k23 w σ (x4 + 3)) rfl (step_errata I) (fun c σ1 hc h0 => by rcases hc with rfl | rfl | rfl <;> first | rfl | exact absurd rfl h0) hK
set_option maxRecDepth 100000 in
theorem blk_synopsis {fu L : Nat} {xs : Nat → Int32} {k23 : (Nat → Int64) → gSt → Int32 → Option Int32} {w : Nat → Int64} {σ : gSt} {x4 : Int32} {N V P K G : Nat} (hfu : 100 ≤ fu) (hG : G < 2 ^ 30) (i1 : inb (x4 + 1) L = true) (i2 : inb (x4 + 2) L = true) (I : Inv σ N V P K G) (hK : ∀ w σ, (∃ N V P K' G', Inv σ N V P K' G' ∧ G' ≤ G + 1) → k23 w σ (x4 + 3) = some 1) : f_L_law_b1542 fu xs L k23 w σ x4 = some 1 := by
  unfold f_L_law_b1542 f_L_law_b1595 f_L_law_b1598 f_L_synopsis
  simp only [i1, i2, gd_true]
  exact law_int (K := fun w σ => k23 w σ (x4 + 3)) rfl (step_synopsis (by omega) I) (fun c σ1 hc h0 => by rcases hc with rfl | rfl | rfl <;> first | rfl | exact absurd rfl h0) hK
set_option maxRecDepth 100000 in
theorem blk_use {fu L : Nat} {xs : Nat → Int32} {k23 : (Nat → Int64) → gSt → Int32 → Option Int32} {w : Nat → Int64} {σ : gSt} {x4 : Int32} {N V P K G : Nat} (hfu : 100 ≤ fu) (hG : G < 2 ^ 30) (i1 : inb (x4 + 1) L = true) (i2 : inb (x4 + 2) L = true) (I : Inv σ N V P K G) (hK : ∀ w σ, (∃ N V P K' G', Inv σ N V P K' G' ∧ G' ≤ G + 1) → k23 w σ (x4 + 3) = some 1) : f_L_law_b498 fu xs L k23 w σ x4 = some 1 := by
  unfold f_L_law_b498 f_L_law_b564 f_L_law_b570 f_L_law_b1598 f_L_use
  simp only [i1, i2, gd_true]
  exact law_bool (K := fun w σ => k23 w σ (x4 + 3)) rfl (step_use I) (fun c σ1 hc h0 => by rcases hc with rfl | rfl | rfl <;> first | rfl | exact absurd rfl h0) hK
set_option maxRecDepth 100000 in
theorem blk_quarrel {fu L : Nat} {xs : Nat → Int32} {k23 : (Nat → Int64) → gSt → Int32 → Option Int32} {w : Nat → Int64} {σ : gSt} {x4 : Int32} {N V P K G : Nat} (hfu : 100 ≤ fu) (hG : G < 2 ^ 30) (i1 : inb (x4 + 1) L = true) (i2 : inb (x4 + 2) L = true) (I : Inv σ N V P K G) (hK : ∀ w σ, (∃ N V P K' G', Inv σ N V P K' G' ∧ G' ≤ G + 1) → k23 w σ (x4 + 3) = some 1) : f_L_law_b858 fu xs L k23 w σ x4 = some 1 := by
  unfold f_L_law_b858 f_L_law_b924 f_L_law_b930 f_L_law_b1598 f_L_quarrel
  simp only [i1, i2, gd_true]
  exact law_bool (K := fun w σ => k23 w σ (x4 + 3)) rfl (step_quarrel I) (fun c σ1 hc h0 => by rcases hc with rfl | rfl | rfl <;> first | rfl | exact absurd rfl h0) hK
set_option maxRecDepth 100000 in
theorem blk_rule {fu L : Nat} {xs : Nat → Int32} {k23 : (Nat → Int64) → gSt → Int32 → Option Int32} {w : Nat → Int64} {σ : gSt} {x4 : Int32} {N V P K G : Nat} (hfu : 100 ≤ fu) (hG : G < 2 ^ 30) (i1 : inb (x4 + 1) L = true) (i2 : inb (x4 + 2) L = true) (I : Inv σ N V P K G) (hK : ∀ w σ, (∃ N V P K' G', Inv σ N V P K' G' ∧ G' ≤ G + 1) → k23 w σ (x4 + 3) = some 1) : f_L_law_b227 fu xs L k23 w σ x4 = some 1 := by
  unfold f_L_law_b227 f_L_law_b242 f_L_law_b263 f_L_law_b297 f_L_law_b303 f_L_law_b1598 f_L_rule
  simp only [i1, i2, gd_true]
  by_cases h : xs (x4 + 1).toNatClampNeg = 0
  · simp only [h, if_true]
    exact law_bool (K := fun w σ => k23 w σ (x4 + 3)) rfl (step_rule (by decide) I) (fun c σ1 hc h0 => by rcases hc with rfl | rfl | rfl <;> first | rfl | exact absurd rfl h0) hK
  · simp only [h, if_false]
    exact law_bool (K := fun w σ => k23 w σ (x4 + 3)) rfl (step_rule (by decide) I) (fun c σ1 hc h0 => by rcases hc with rfl | rfl | rfl <;> first | rfl | exact absurd rfl h0) hK
set_option maxRecDepth 100000 in
theorem blk_forbid {fu L : Nat} {xs : Nat → Int32} {k23 : (Nat → Int64) → gSt → Int32 → Option Int32} {w : Nat → Int64} {σ : gSt} {x4 : Int32} {N V P K G : Nat} (hfu : 100 ≤ fu) (hG : G < 2 ^ 30) (i1 : inb (x4 + 1) L = true) (i2 : inb (x4 + 2) L = true) (I : Inv σ N V P K G) (hK : ∀ w σ, (∃ N V P K' G', Inv σ N V P K' G' ∧ G' ≤ G + 1) → k23 w σ (x4 + 3) = some 1) : f_L_law_b641 fu xs L k23 w σ x4 = some 1 := by
  unfold f_L_law_b641 f_L_law_b662 f_L_law_b689 f_L_law_b723 f_L_law_b729 f_L_law_b1598 f_L_forbid
  simp only [i1, i2, gd_true]
  by_cases h : xs (x4 + 2).toNatClampNeg = 0
  · simp only [h, if_true]
    exact law_bool (K := fun w σ => k23 w σ (x4 + 3)) rfl (step_forbid (by decide) I) (fun c σ1 hc h0 => by rcases hc with rfl | rfl | rfl <;> first | rfl | exact absurd rfl h0) hK
  · simp only [h, if_false]
    exact law_bool (K := fun w σ => k23 w σ (x4 + 3)) rfl (step_forbid (by decide) I) (fun c σ1 hc h0 => by rcases hc with rfl | rfl | rfl <;> first | rfl | exact absurd rfl h0) hK
theorem blk_erase {fu L : Nat} {xs : Nat → Int32} {k23 : (Nat → Int64) → gSt → Int32 → Option Int32} {w : Nat → Int64} {σ : gSt} {x4 : Int32} {N V P K G : Nat} (hfu : 100 ≤ fu) (hG : G < 2 ^ 30) (i1 : inb (x4 + 1) L = true) (i2 : inb (x4 + 2) L = true) (I : Inv σ N V P K G) (hK : ∀ w σ, (∃ N V P K' G', Inv σ N V P K' G' ∧ G' ≤ G + 1) → k23 w σ (x4 + 3) = some 1) : f_L_law_b214 fu xs L k23 w σ x4 = some 1 := by
  unfold f_L_law_b214 f_L_law_b1598
  exact law_p (K := fun σ => k23 w σ (x4 + 3)) (step_erase I) (hK w)
theorem blk_month {fu L : Nat} {xs : Nat → Int32} {k23 : (Nat → Int64) → gSt → Int32 → Option Int32} {w : Nat → Int64} {σ : gSt} {x4 : Int32} {N V P K G : Nat} (hfu : 100 ≤ fu) (hG : G < 2 ^ 30) (i1 : inb (x4 + 1) L = true) (i2 : inb (x4 + 2) L = true) (I : Inv σ N V P K G) (hK : ∀ w σ, (∃ N V P K' G', Inv σ N V P K' G' ∧ G' ≤ G + 1) → k23 w σ (x4 + 3) = some 1) : f_L_law_b1213 fu xs L k23 w σ x4 = some 1 := by
  unfold f_L_law_b1213 f_L_law_b1598
  exact law_p (K := fun σ => k23 w σ (x4 + 3)) (step_month I) (hK w)
theorem blk_struck {fu L : Nat} {xs : Nat → Int32} {k23 : (Nat → Int64) → gSt → Int32 → Option Int32} {w : Nat → Int64} {σ : gSt} {x4 : Int32} {N V P K G : Nat} (hfu : 100 ≤ fu) (hG : G < 2 ^ 30) (i1 : inb (x4 + 1) L = true) (i2 : inb (x4 + 2) L = true) (I : Inv σ N V P K G) (hK : ∀ w σ, (∃ N V P K' G', Inv σ N V P K' G' ∧ G' ≤ G + 1) → k23 w σ (x4 + 3) = some 1) : f_L_law_b1350 fu xs L k23 w σ x4 = some 1 := by
  unfold f_L_law_b1350 f_L_law_b1598
  exact law_p (K := fun σ => k23 w σ (x4 + 3)) (step_struck (by omega) I) (hK w)
theorem blk_open {fu L : Nat} {xs : Nat → Int32} {k23 : (Nat → Int64) → gSt → Int32 → Option Int32} {w : Nat → Int64} {σ : gSt} {x4 : Int32} {N V P K G : Nat} (hfu : 100 ≤ fu) (hG : G < 2 ^ 30) (i1 : inb (x4 + 1) L = true) (i2 : inb (x4 + 2) L = true) (I : Inv σ N V P K G) (hK : ∀ w σ, (∃ N V P K' G', Inv σ N V P K' G' ∧ G' ≤ G + 1) → k23 w σ (x4 + 3) = some 1) : f_L_law_b1419 fu xs L k23 w σ x4 = some 1 := by
  unfold f_L_law_b1419 f_L_law_b1434 f_L_law_b1452 f_L_law_b1598
  simp only [i1, gd_true]
  by_cases h : xs (x4 + 1).toNatClampNeg = 0
  · simp only [h, if_true]
    exact law_p (K := fun σ => k23 w σ (x4 + 3)) (step_open (by omega) I) (hK w)
  · simp only [h, if_false]
    exact law_p (K := fun σ => k23 w σ (x4 + 3)) (step_open (by omega) I) (hK w)
theorem blk_contradictions {fu L : Nat} {xs : Nat → Int32} {k23 : (Nat → Int64) → gSt → Int32 → Option Int32} {w : Nat → Int64} {σ : gSt} {x4 : Int32} {N V P K G : Nat} (hfu : 100 ≤ fu) (hG : G < 2 ^ 30) (i1 : inb (x4 + 1) L = true) (i2 : inb (x4 + 2) L = true) (I : Inv σ N V P K G) (hK : ∀ w σ, (∃ N V P K' G', Inv σ N V P K' G' ∧ G' ≤ G + 1) → k23 w σ (x4 + 3) = some 1) : f_L_law_b1460 fu xs L k23 w σ x4 = some 1 := by
  unfold f_L_law_b1460 f_L_law_b1475 f_L_law_b1493 f_L_law_b1598
  simp only [i1, gd_true]
  by_cases h : xs (x4 + 1).toNatClampNeg = 0
  · simp only [h, if_true]
    exact law_p (K := fun σ => k23 w σ (x4 + 3)) (step_contradictions (by omega) I) (hK w)
  · simp only [h, if_false]
    exact law_p (K := fun σ => k23 w σ (x4 + 3)) (step_contradictions (by omega) I) (hK w)
theorem blk_readAnew {fu L : Nat} {xs : Nat → Int32} {k23 : (Nat → Int64) → gSt → Int32 → Option Int32} {w : Nat → Int64} {σ : gSt} {x4 : Int32} {N V P K G : Nat} (hfu : 100 ≤ fu) (hG : G < 2 ^ 30) (i1 : inb (x4 + 1) L = true) (i2 : inb (x4 + 2) L = true) (I : Inv σ N V P K G) (hK : ∀ w σ, (∃ N V P K' G', Inv σ N V P K' G' ∧ G' ≤ G + 1) → k23 w σ (x4 + 3) = some 1) : f_L_law_b1501 fu xs L k23 w σ x4 = some 1 := by
  unfold f_L_law_b1501 f_L_law_b1516 f_L_law_b1534 f_L_law_b1598
  simp only [i1, gd_true]
  by_cases h : xs (x4 + 1).toNatClampNeg = 0
  · simp only [h, if_true]
    exact law_p (K := fun σ => k23 w σ (x4 + 3)) (step_readAnew (by omega) I) (hK w)
  · simp only [h, if_false]
    exact law_p (K := fun σ => k23 w σ (x4 + 3)) (step_readAnew (by omega) I) (hK w)
/-- the law's loop -/
theorem law_loop {fu L : Nat} {xs : Nat → Int32} (hfu : 100 ≤ fu) (hL : L ≤ 1536) : ∀ n i (w : Nat → Int64) (σ : gSt), i ≤ L → L < 3 * n + i → (∃ N V P K G, Inv σ N V P K G ∧ G ≤ i) → f_L_law_b23 fu xs L n w σ (nI i) = some 1 := by
  intro n
  induction n with
  | zero => intro i w σ h1 h2; omega
  | succ n ih =>
    intro i w σ h1 h2 hI
    obtain ⟨N, V, P, K, G, I, hG⟩ := hI
    show f_L_law_b23_B fu xs L (f_L_law_b23 fu xs L n) w σ (nI i) = _
    unfold f_L_law_b23_B
    have e3 : (Int32.ofNat L - 3).toInt = (L : Int) - 3 := by
      show (nI L - 3).toInt = _
      rw [Int32.toInt_sub, nI_toInt (by omega), show (3 : Int32).toInt = 3 from by decide]
      apply Int.bmod_eq_of_le <;> omega
    by_cases e : L < i + 3
    · rw [if_pos (by rw [Int32.lt_iff_toInt_lt, e3, nI_toInt (by omega)]; omega)]
    · rw [if_neg (by rw [Int32.lt_iff_toInt_lt, e3, nI_toInt (by omega)]; omega), gd_t (inb_t (by omega : i < L) (by omega))]
      obtain ⟨j, hj, ej⟩ := pk_andE (xs (nI i).toNatClampNeg) (m := 31) 5 (by decide)
      have i1 : inb (nI i + 1) L = true := by rw [nI_1]; exact inb_t (by omega) (by omega)
      have i2 : inb (nI i + 2) L = true := by rw [show (2 : Int32) = nI 2 from rfl, nI_add]; exact inb_t (by omega) (by omega)
      have hK : ∀ w σ, (∃ N V P K' G', Inv σ N V P K' G' ∧ G' ≤ G + 1) → f_L_law_b23 fu xs L n w σ (nI i + 3) = some 1 := fun w σ ⟨N, V, P, K', G', J, hJ⟩ => by
        rw [show (3 : Int32) = nI 3 from rfl, nI_add]
        exact ih (i + 3) w σ (by omega) (by omega) ⟨N, V, P, K', G', J, by omega⟩
      rw [ej, nI_clamp (by omega : j < 2 ^ 31), gd_t (decide_eq_true (nI_pos' (by omega)))]
      have hj32 : j = 0 ∨ j = 1 ∨ j = 2 ∨ j = 3 ∨ j = 4 ∨ j = 5 ∨ j = 6 ∨ j = 7 ∨ j = 8 ∨ j = 9 ∨ j = 10 ∨ j = 11 ∨ j = 12 ∨ j = 13 ∨ j = 14 ∨ j = 15 ∨ j = 16 ∨ j = 17 ∨ j = 18 ∨ j = 19 ∨ j = 20 ∨ j = 21 ∨ j = 22 ∨ j = 23 ∨ j = 24 ∨ j = 25 ∨ j = 26 ∨ j = 27 ∨ j = 28 ∨ j = 29 ∨ j = 30 ∨ j = 31 := by omega
      rcases hj32 with rfl | rfl | rfl | rfl | rfl | rfl | rfl | rfl | rfl | rfl | rfl | rfl | rfl | rfl | rfl | rfl | rfl | rfl | rfl | rfl | rfl | rfl | rfl | rfl | rfl | rfl | rfl | rfl | rfl | rfl | rfl | rfl
      · exact blk_sign hfu (by omega) i1 i2 I hK
      · exact blk_erase hfu (by omega) i1 i2 I hK
      · exact blk_rule hfu (by omega) i1 i2 I hK
      · exact blk_article hfu (by omega) i1 i2 I hK
      · exact blk_under hfu (by omega) i1 i2 I hK
      · exact blk_refer hfu (by omega) i1 i2 I hK
      · exact blk_use hfu (by omega) i1 i2 I hK
      · exact blk_change hfu (by omega) i1 i2 I hK
      · exact blk_forbid hfu (by omega) i1 i2 I hK
      · exact blk_volume hfu (by omega) i1 i2 I hK
      · exact blk_contributor hfu (by omega) i1 i2 I hK
      · exact blk_quarrel hfu (by omega) i1 i2 I hK
      · exact blk_give hfu (by omega) i1 i2 I hK
      · exact blk_die hfu (by omega) i1 i2 I hK
      · exact blk_pass hfu (by omega) i1 i2 I hK
      · exact blk_print hfu (by omega) i1 i2 I hK
      · exact blk_supplement hfu (by omega) i1 i2 I hK
      · exact blk_month hfu (by omega) i1 i2 I hK
      · exact blk_at hfu (by omega) i1 i2 I hK
      · exact blk_about hfu (by omega) i1 i2 I hK
      · exact blk_struck hfu (by omega) i1 i2 I hK
      · exact blk_errata hfu (by omega) i1 i2 I hK
      · exact blk_open hfu (by omega) i1 i2 I hK
      · exact blk_contradictions hfu (by omega) i1 i2 I hK
      · exact blk_readAnew hfu (by omega) i1 i2 I hK
      · exact blk_synopsis hfu (by omega) i1 i2 I hK
      · exact hK w σ ⟨N, V, P, K, G, I, by omega⟩
      · exact hK w σ ⟨N, V, P, K, G, I, by omega⟩
      · exact hK w σ ⟨N, V, P, K, G, I, by omega⟩
      · exact hK w σ ⟨N, V, P, K, G, I, by omega⟩
      · exact hK w σ ⟨N, V, P, K, G, I, by omega⟩
      · exact hK w σ ⟨N, V, P, K, G, I, by omega⟩
theorem inv_0 : Inv g0 0 0 0 0 0 := by
  have z : ∀ F i k, F ≠ 7 → F ≠ 8 → F ≠ 33 → F ≠ 154 → F ≠ 195 → g0 F i k = 0 := fun F i k h1 h2 h3 h4 h5 => by
    simp only [g0, h1, h2, h3, h4, h5, or_self, if_false]
  have rc : ∀ i, rcN g0 i = 0 := fun i => by unfold rcN; rw [z 191 0 i (by decide) (by decide) (by decide) (by decide) (by decide)]; rfl
  have p0 : ∀ i, prB g0 i = false := fun i => by unfold prB; rw [z 11 i 0 (by decide) (by decide) (by decide) (by decide) (by decide)]; rfl
  have t0 : ∀ i, txB g0 i = false := fun i => by unfold txB; rw [z 9 i 0 (by decide) (by decide) (by decide) (by decide) (by decide)]; rfl
  have e7 : ∀ i, g0 7 i 0 = -1 := fun i => rfl
  have e8 : ∀ i, g0 8 i 0 = -1 := fun i => rfl
  refine ⟨⟨⟨⟨by decide, rfl, rfl⟩, ⟨by decide, rfl, rfl, fun v hv => by omega⟩, ⟨rfl, by decide⟩, fun i hi => by omega, fun i hi => by omega⟩, fun i hi => ?_⟩, ⟨?_, fun k hk => ⟨show isC 0 = true by decide, show isC 0 = true by decide⟩⟩, ⟨by decide, rfl, rfl⟩, fun i hi => ?_, fun i hi => ⟨fun r hr => ?_, fun f hf => ?_⟩, ⟨fun k hk => ⟨?_, ?_⟩, fun f hf => rfl⟩, ⟨by decide, rfl, rfl, fun c hc => ⟨show b01 0 = true by decide, rfl, rfl, fun d hd => ⟨show b01 0 = true by decide, rfl⟩⟩, fun c hc => by omega⟩, ⟨rfl, fun c hc => ⟨[], rfl, fun k j h => by simp at h, fun j => ⟨fun h => by simp at h, fun h => by omega⟩, List.Pairwise.nil, fun j h => by simp at h⟩⟩, rfl, rfl⟩
  · rw [rc]
    exact ⟨by decide, rfl, rfl, fun _ => rfl, fun r hr => by omega⟩
  · exact (hwRel_of (cw_nil rfl rfl) (mwl_nil rfl)).1
  · unfold aR
    rw [p0, t0]
    exact ⟨rfl, rfl, show b01 0 = true by decide, rfl, rfl, Or.inl rfl, fun h => by omega, fun _ => ⟨rfl, rfl, rfl, rfl⟩, fun h => (by cases h), fun h => (by cases h)⟩
  · rw [p0]
    exact ⟨show okF 0 = true by decide, rfl, fun _ q => (by cases q.1), fun _ => rfl⟩
  · exact ⟨show b01 0 = true by decide, rfl, rfl⟩
  · rfl
  · left
    show (if k < 10 then (-1 : Int32) else 0) = -1
    rw [if_pos hk]
theorem law_pure (L : Nat) (xs : Nat → Int32) (hL : L ≤ 1536) : f_L_law_b20 600 xs L (fun _ => 0) g0 = some 1 := by
  unfold f_L_law_b20
  exact law_loop (by decide) hL 600 0 _ g0 (Nat.zero_le _) (by omega) ⟨0, 0, 0, 0, 0, inv_0, Nat.le_refl _⟩

/-! what is told: the reference -/
def tmB (σ0 : gSt) (p : Nat → Bool) (i f : Nat) : Bool := p i && (!decide (σ0 193 0 (8 * i + f) = 0) && !decide (σ0 194 0 (8 * i + f) = σ0 196 0 f))
def emW (σ0 : gSt) (p : Nat → Bool) (c i g : Nat) : Nat := cond (decide (σ0 187 0 i = nI c)) (cntN (tmB σ0 p i) g) 0
def emN (σ0 : gSt) (p : Nat → Bool) (c n : Nat) : Nat := sumN (fun i => emW σ0 p c i 8) n
theorem factsM_in {fu : Nat} {σ0 : gSt} {i x : Nat} {x1 : Int32} {p : Nat → Bool} {k37 : gSt → Int32 → Int32 → Int32 → Option (Int32 × gSt)} (hi : i < 24) (hp : σ0 186 0 i = 3 ↔ p i = true) (hw : σ0 187 0 i = -1 ∨ ∃ c, c < 6 ∧ σ0 187 0 i = nI c) : ∀ n g (s : gSt), g ≤ 8 → 8 < n + g → (∀ F, F ∉ [192, 194, 205] → s F = σ0 F) → (∀ j f, f < 8 → s 194 0 (8 * j + f) = cond (dg i g j f && tmB σ0 p j f) (σ0 196 0 f) (σ0 194 0 (8 * j + f))) → (∀ c, c < 6 → s 205 0 c = σ0 205 0 c + nI (emN σ0 p c i + emW σ0 p c i g)) →
    ∃ τ, f_X7_supplement_b48 fu k37 n s x1 (nI (x + cntN (tmB σ0 p i) g)) (nI i) (nI g) = f_X7_supplement_b158 fu k37 fu τ x1 (nI (x + cntN (tmB σ0 p i) 8)) (nI i) 0 ∧ fr [194, 205] s τ ∧ (∀ j f, f < 8 → τ 194 0 (8 * j + f) = cond (dg (i + 1) 0 j f && tmB σ0 p j f) (σ0 196 0 f) (σ0 194 0 (8 * j + f))) ∧ ∀ c, c < 6 → τ 205 0 c = σ0 205 0 c + nI (emN σ0 p c (i + 1)) := by
  intro n
  induction n with
  | zero => intro g s h1 h2; omega
  | succ n ih =>
    intro g s h1 h2 f e3 e34
    show ∃ τ, f_X7_supplement_b48_B fu k37 (f_X7_supplement_b48 fu k37 n) s x1 _ (nI i) (nI g) = _ ∧ _
    unfold f_X7_supplement_b48_B f_X7_supplement_b149 f_X7_supplement_b155
    by_cases e : 8 ≤ g
    · have e' : g = 8 := by omega
      rw [if_pos (show (8 : Int32) ≤ nI g from nI_le (a := 8) e (by omega)), e']
      subst e'
      refine ⟨s, rfl, fr.rfl, fun j f' hf => ?_, fun c hc => ?_⟩
      · rw [← dg_row (g := 8) (fun _ => Or.inr hf)]; exact e3 j f' hf
      · rw [e34 c hc]; rfl
    · have g8 : inb (nI g) 8 = true := inb_t (by omega) (by decide)
      have i24 : inb (nI i) 24 = true := inb_t (by omega) (by decide)
      have in192 : inb (nI (8 * i + g)) 192 = true := inb_t (by omega) (by decide)
      have cig : (nI (8 * i + g)).toNatClampNeg = 8 * i + g := nI_clamp (by omega)
      have v3 : s 194 0 (8 * i + g) = σ0 194 0 (8 * i + g) := by rw [e3 i g (by omega), dg_at]; rfl
      rw [if_neg (show ¬ (8 : Int32) ≤ nI g from nI_ge (b := 8) (by omega) (by decide)), nI8, cig, nI_clamp (by omega : i < 2 ^ 31), nI_clamp (by omega : g < 2 ^ 31), gd_t i24, f 186 (by decide), f 193 (by decide), f 196 (by decide), gd_t in192, gd_t in192, gd_t g8, gd_t g8, gd_t in192, v3, nI_1, gd_t i24, gd_t i24]
      have tf : tmB σ0 p i g = (p i && (!decide (σ0 193 0 (8 * i + g) = 0) && !decide (σ0 194 0 (8 * i + g) = σ0 196 0 g))) := rfl
      have no : tmB σ0 p i g = false → ∃ τ, f_X7_supplement_b48 fu k37 n s x1 (nI (x + cntN (tmB σ0 p i) g)) (nI i) (nI (g + 1)) = f_X7_supplement_b158 fu k37 fu τ x1 (nI (x + cntN (tmB σ0 p i) 8)) (nI i) 0 ∧ fr [194, 205] s τ ∧ (∀ j f, f < 8 → τ 194 0 (8 * j + f) = cond (dg (i + 1) 0 j f && tmB σ0 p j f) (σ0 196 0 f) (σ0 194 0 (8 * j + f))) ∧ ∀ c, c < 6 → τ 205 0 c = σ0 205 0 c + nI (emN σ0 p c (i + 1)) := fun ht => by
        have := ih (g + 1) s (by omega) (by omega) f (fun j f' hf => ?_) (fun c hc => ?_)
        · rw [cntN_s, ht] at this
          exact this
        · by_cases ej : j = i ∧ f' = g
          · obtain ⟨rfl, rfl⟩ := ej
            rw [ht, Bool.and_false]; exact v3
          · rw [dg_ne ej]; exact e3 j f' hf
        · have : emW σ0 p c i (g + 1) = emW σ0 p c i g := by unfold emW; rw [cntN_s, ht]; rfl
          rw [this]; exact e34 c hc
      cases hpi : p i with
      | false =>
        rw [if_neg (fun q => by rw [hp.mp q] at hpi; cases hpi)]
        have z : ∀ f', tmB σ0 p i f' = false := fun f' => by unfold tmB; rw [hpi]; rfl
        have zc : ∀ m, cntN (tmB σ0 p i) m = 0 := fun m => cntN_f (fun k _ => z k)
        have zw : ∀ c m, emW σ0 p c i m = 0 := fun c m => by unfold emW; rw [zc]; cases decide (σ0 187 0 i = nI c) <;> rfl
        rw [zc, zc]
        refine ⟨s, rfl, fr.rfl, fun j f' hf => ?_, fun c hc => ?_⟩
        · rw [← dg_row (g := g) (fun ej => Or.inl (by rw [ej]; exact z f'))]; exact e3 j f' hf
        · rw [e34 c hc, zw]
          have : emN σ0 p c (i + 1) = emN σ0 p c i + emW σ0 p c i 8 := rfl
          rw [this, zw]
      | true =>
        rw [if_pos (hp.mpr hpi)]
        by_cases h2' : σ0 193 0 (8 * i + g) = 0
        · rw [if_pos h2']; exact no (by rw [tf, decide_eq_true h2']; simp)
        · rw [if_neg h2']
          by_cases h3 : σ0 194 0 (8 * i + g) = σ0 196 0 g
          · rw [if_pos h3]; exact no (by rw [tf, decide_eq_true h3]; simp)
          · have ht : tmB σ0 p i g = true := by rw [tf, hpi, decide_eq_false h2', decide_eq_false h3]; rfl
            rw [if_neg h3]
            simp only [gU_n, gU_e, Nat.reduceEqDiff, not_false_eq_true]
            rw [f 187 (by decide)]
            have st3 : ∀ (τ : gSt), (∀ h, τ 194 0 h = gU s 194 0 (8 * i + g) (σ0 196 0 g) 194 0 h) → ∀ j f', f' < 8 → τ 194 0 (8 * j + f') = cond (dg i (g + 1) j f' && tmB σ0 p j f') (σ0 196 0 f') (σ0 194 0 (8 * j + f')) := fun τ h j f' hf => by
              rw [h]
              by_cases ej : j = i ∧ f' = g
              · obtain ⟨rfl, rfl⟩ := ej
                rw [gU_e, dg_at1, ht]; rfl
              · rw [gU_i (by omega), dg_ne ej]; exact e3 j f' hf
            rcases hw with h | ⟨c0, hc0, h⟩
            · rw [if_pos h, nI_1]
              have fs : fr [194, 205] s (gU s 194 0 (8 * i + g) (σ0 196 0 g)) := by (repeat (first | exact fr.rfl | assumption | refine fr_gU ?_ (by decide) | refine fr_gR ?_ (by decide)))
              have := ih (g + 1) (gU s 194 0 (8 * i + g) (σ0 196 0 g)) (by omega) (by omega) (fun F hF => by rw [fs F (fun q => hF (by simp at q ⊢; omega))]; exact f F hF) (st3 _ (fun _ => rfl)) (fun c hc => ?_)
              · rw [cntN_s, ht] at this
                obtain ⟨τ, t1, t2, t3⟩ := this
                exact ⟨τ, t1, fs.tr t2, t3⟩
              · simp only [gU_n, gU_e, Nat.reduceEqDiff, not_false_eq_true]
                have : emW σ0 p c i (g + 1) = emW σ0 p c i g := by
                  unfold emW
                  rw [h, decide_eq_false (fun q => m1_ne (v := c) (by omega) q.symm)]; rfl
                rw [this]; exact e34 c hc
            · rw [h, if_neg (m1_ne (by omega)), gd_t (inb_t hc0 (by decide)), gd_t (inb_t hc0 (by decide)), nI_clamp (by omega : c0 < 2 ^ 31), nI_1]
              have fs : fr [194, 205] s (gU (gU s 194 0 (8 * i + g) (σ0 196 0 g)) 205 0 c0 (s 205 0 c0 + 1)) := by (repeat (first | exact fr.rfl | assumption | refine fr_gU ?_ (by decide) | refine fr_gR ?_ (by decide)))
              have := ih (g + 1) (gU (gU s 194 0 (8 * i + g) (σ0 196 0 g)) 205 0 c0 (s 205 0 c0 + 1)) (by omega) (by omega) (fun F hF => by rw [fs F (fun q => hF (by simp at q ⊢; omega))]; exact f F hF) (st3 _ (fun _ => by simp only [gU_n, gU_e, Nat.reduceEqDiff, not_false_eq_true])) (fun c hc => ?_)
              · rw [cntN_s, ht] at this
                obtain ⟨τ, t1, t2, t3⟩ := this
                exact ⟨τ, t1, fs.tr t2, t3⟩
              · by_cases ec : c = c0
                · subst ec
                  have : emW σ0 p c i (g + 1) = emW σ0 p c i g + 1 := by
                    unfold emW
                    rw [h, decide_eq_true rfl, cntN_s, ht]; rfl
                  rw [gU_e, this, e34 c hc, ← Nat.add_assoc, ← nI_add _ 1, ← Int32.add_assoc]; rfl
                · have : emW σ0 p c i (g + 1) = emW σ0 p c i g := by
                    unfold emW
                    rw [h, decide_eq_false (fun q => ec ((nI_eq (by omega) (by omega)).mp q).symm)]; rfl
                  rw [gU_i (by omega)]
                  simp only [gU_n, gU_e, Nat.reduceEqDiff, not_false_eq_true]
                  rw [this]; exact e34 c hc
def bmB (σ0 : gSt) (N V P : Nat) (p : Nat → Bool) (h : Nat) : Bool := decide (h % 4 < rcN σ0 (h / 4)) && brS σ0 N V P p (σ0 192 0 h) (24 + h)
theorem promM_in {fu : Nat} {σ0 : gSt} {N V P i x : Nat} {x1 : Int32} {p : Nat → Bool} {k37 : gSt → Int32 → Int32 → Int32 → Option (Int32 × gSt)} (hfu : 30 ≤ fu) (S : sRel σ0 N V) (hP : σ0 200 0 0 = nI P) (hp : ∀ k, k < N → (σ0 186 0 k = 3 ↔ p k = true)) (hi : i < N) : ∀ n r (s : gSt), r ≤ rcN σ0 i → rcN σ0 i < n + r → fr [192, 194, 205] σ0 s → (∀ h, h < 96 → s 192 0 h = cond (dn i r h && bmB σ0 N V P p h) 4 (σ0 192 0 h)) →
    ∃ τ, f_X7_supplement_b158 fu k37 n s x1 (nI (x + cntN (fun r => bmB σ0 N V P p (4 * i + r)) r)) (nI i) (nI r) = k37 τ x1 (nI (x + cntN (fun r => bmB σ0 N V P p (4 * i + r)) (rcN σ0 i))) (nI (i + 1)) ∧ fr [192] s τ ∧ ∀ h, h < 96 → τ 192 0 h = cond (dn (i + 1) 0 h && bmB σ0 N V P p h) 4 (σ0 192 0 h) := by
  have hN := S.hN
  obtain ⟨c1, c2, c3, c4, c5⟩ := S.rf (i := i) (by omega)
  intro n
  induction n with
  | zero => intro r s h1 h2; omega
  | succ n ih =>
    intro r s h1 h2 f e91
    show ∃ τ, f_X7_supplement_b158_B fu k37 (f_X7_supplement_b158 fu k37 n) s x1 _ (nI i) (nI r) = _ ∧ _
    unfold f_X7_supplement_b158_B f_X7_supplement_b194
    have Ss : sRel s N V := S.frm f (by decide)
    rw [gd_t (inb_t (by omega : i < 24) (by decide)), nI_clamp (by omega : i < 2 ^ 31), f 191 (by decide), c3, nI_1]
    by_cases e : rcN σ0 i ≤ r
    · have e' : r = rcN σ0 i := by omega
      rw [if_pos (nI_le e (by omega)), ← e']
      refine ⟨s, rfl, fr.rfl, fun h hh => ?_⟩
      rw [← dn_row (r := r) (fun e2 => by
        by_cases q : h % 4 < r
        · exact Or.inr q
        · left
          unfold bmB
          rw [e2, decide_eq_false (by omega : ¬ h % 4 < rcN σ0 i)]
          rfl)]
      exact e91 h hh
    · have r4 : r < 4 := by omega
      obtain ⟨q1, q2⟩ := h4 (i := i) r4
      have hh : 4 * i + r < 96 := by omega
      have v : s 192 0 (4 * i + r) = σ0 192 0 (4 * i + r) := by rw [e91 _ hh, dn_at r4]; rfl
      have hp' : ∀ k, k < N → (s 186 0 k = 3 ↔ p k = true) := fun k hk => by rw [f 186 (by decide)]; exact hp k hk
      have bk : bmB σ0 N V P p (4 * i + r) = brS σ0 N V P p (σ0 192 0 (4 * i + r)) (24 + (4 * i + r)) := by
        unfold bmB
        rw [q1, q2, decide_eq_true (by omega : r < rcN σ0 i), Bool.true_and]
      rw [if_neg (nI_ge (by omega) (by omega)), bd_s (brM_ok hfu Ss (by omega) r4 (Ss.2 i (by omega) |>.2.2.2.2 r (by rw [f.rcNE' (by decide)]; omega)) (by rw [f 200 (by decide)]; exact hP) hp'), v, f.brE (by decide), ← bk, nI_1, nI4, gd_t (inb_t hh (by decide)), nI_clamp (by omega : 4 * i + r < 2 ^ 31)]
      cases hb : bmB σ0 N V P p (4 * i + r) with
      | false =>
        rw [bF]
        have := ih (r + 1) s (by omega) (by omega) f (fun h hh' => ?_)
        · rw [cntN_s, hb] at this
          exact this
        · by_cases eh : h = 4 * i + r
          · subst eh; rw [hb, Bool.and_false]; exact v
          · rw [dn_ne r4 eh]; exact e91 h hh'
      | true =>
        rw [bT, nI_1]
        have fs : fr [192] s (gU s 192 0 (4 * i + r) 4) := by (repeat (first | exact fr.rfl | assumption | refine fr_gU ?_ (by decide) | refine fr_gR ?_ (by decide)))
        have := ih (r + 1) (gU s 192 0 (4 * i + r) 4) (by omega) (by omega) (f.tr (fs.mono (by decide))) (fun h hh' => ?_)
        · rw [cntN_s, hb] at this
          obtain ⟨τ, t1, t2, t3⟩ := this
          exact ⟨τ, t1, fs.tr t2, t3⟩
        · by_cases eh : h = 4 * i + r
          · subst eh; rw [gU_e, dn_at1 r4, hb]; rfl
          · rw [gU_i (by omega), dn_ne r4 eh]; exact e91 h hh'
/-- what is told of an article -/
def teN (σ0 : gSt) (N V P : Nat) (p : Nat → Bool) (n : Nat) : Nat := sumN (fun i => cntN (tmB σ0 p i) 8 + cntN (fun r => bmB σ0 N V P p (4 * i + r)) (rcN σ0 i)) n
theorem tellM_loop {fu : Nat} {σ0 : gSt} {N V P : Nat} {x1 : Int32} {p : Nat → Bool} (hfu : 30 ≤ fu) (S : sRel σ0 N V) (hP : σ0 200 0 0 = nI P) (hp : ∀ k, k < N → (σ0 186 0 k = 3 ↔ p k = true)) (hw : ∀ k, k < N → (σ0 187 0 k = -1 ∨ ∃ c, c < 6 ∧ σ0 187 0 k = nI c)) : ∀ n i (s : gSt), i ≤ N → N < n + i → fr [192, 194, 205] σ0 s → (∀ j f, f < 8 → s 194 0 (8 * j + f) = cond (dg i 0 j f && tmB σ0 p j f) (σ0 196 0 f) (σ0 194 0 (8 * j + f))) → (∀ c, c < 6 → s 205 0 c = σ0 205 0 c + nI (emN σ0 p c i)) → (∀ h, h < 96 → s 192 0 h = cond (dn i 0 h && bmB σ0 N V P p h) 4 (σ0 192 0 h)) →
    ∃ τ, f_X7_supplement_b37 fu n s x1 (nI (teN σ0 N V P p i)) (nI i) = some ((100 : Int32) * x1 + nI (teN σ0 N V P p N), τ) ∧ fr [192, 194, 205] σ0 τ ∧ (∀ j f, f < 8 → τ 194 0 (8 * j + f) = cond (dg N 0 j f && tmB σ0 p j f) (σ0 196 0 f) (σ0 194 0 (8 * j + f))) ∧ (∀ c, c < 6 → τ 205 0 c = σ0 205 0 c + nI (emN σ0 p c N)) ∧ ∀ h, h < 96 → τ 192 0 h = cond (dn N 0 h && bmB σ0 N V P p h) 4 (σ0 192 0 h) := by
  have hN := S.hN
  intro n
  induction n with
  | zero => intro i s h1 h2; omega
  | succ n ih =>
    intro i s h1 h2 f e194 e205 e192
    show ∃ τ, f_X7_supplement_b37_B fu (f_X7_supplement_b37 fu n) s x1 _ (nI i) = _ ∧ _
    unfold f_X7_supplement_b37_B
    rw [f 183 (by decide), S.nM]
    by_cases e : N ≤ i
    · have e' : N = i := by omega
      rw [if_pos (nI_le e (by omega))]
      subst e'
      exact ⟨s, rfl, f, e194, e205, e192⟩
    · rw [if_neg (nI_ge (by omega) (by omega))]
      have hi : i < N := by omega
      obtain ⟨τ, t1, t2, t3, t4⟩ := factsM_in (fu := fu) (x := teN σ0 N V P p i) (x1 := x1) (k37 := f_X7_supplement_b37 fu n) (by omega) (hp i hi) (hw i hi) fu 0 s (Nat.zero_le _) (by omega) (fun F hF => f F hF) e194 (fun c hc => by
        have : emW σ0 p c i 0 = 0 := by unfold emW; cases decide (σ0 187 0 i = nI c) <;> rfl
        rw [this, Nat.add_zero]; exact e205 c hc)
      have fτ : fr [192, 194, 205] σ0 τ := f.tr (t2.mono (by decide))
      obtain ⟨υ, u1, u2, u3⟩ := promM_in (x := teN σ0 N V P p i + cntN (tmB σ0 p i) 8) (x1 := x1) (k37 := f_X7_supplement_b37 fu n) hfu S hP hp hi fu 0 τ (Nat.zero_le _) (by have := (S.rf (i := i) (by omega)).1; omega) fτ (fun h hh => by rw [t2 192 (by decide)]; exact e192 h hh)
      rw [show f_X7_supplement_b48 fu (f_X7_supplement_b37 fu n) fu s x1 (nI (teN σ0 N V P p i)) (nI i) 0 = _ from t1, show f_X7_supplement_b158 fu (f_X7_supplement_b37 fu n) fu τ x1 (nI (teN σ0 N V P p i + cntN (tmB σ0 p i) 8)) (nI i) 0 = _ from u1]
      have := ih (i + 1) υ (by omega) (by omega) (fτ.tr (u2.mono (by decide))) (fun j f' hf => by rw [u2 194 (by decide)]; exact t3 j f' hf) (fun c hc => by rw [u2 205 (by decide)]; exact t4 c hc) u3
      rw [show teN σ0 N V P p (i + 1) = teN σ0 N V P p i + cntN (tmB σ0 p i) 8 + cntN (fun r => bmB σ0 N V P p (4 * i + r)) (rcN σ0 i) from (Nat.add_assoc _ _ _).symm] at this
      exact this

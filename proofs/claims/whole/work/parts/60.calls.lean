/-! article, refer -/
theorem aR.cp {σ σ' : gSt} {N K i : Nat} (A : aR σ N K i) (c : σ' 5 i 0 = σ 5 i 0 ∧ σ' 7 i 0 = σ 7 i 0 ∧ σ' 8 i 0 = σ 8 i 0 ∧ σ' 9 i 0 = σ 9 i 0 ∧ σ' 10 i 0 = σ 10 i 0 ∧ σ' 11 i 0 = σ 11 i 0) (m : σ' 184 0 i = σ 184 0 i ∧ σ' 185 0 i = σ 185 0 i ∧ σ' 186 0 i = σ 186 0 i ∧ σ' 187 0 i = σ 187 0 i ∧ σ' 188 0 i = σ 188 0 i ∧ σ' 190 0 i = σ 190 0 i) : aR σ' N K i := by
  obtain ⟨c1, c2, c3, c4, c5, c6⟩ := c
  obtain ⟨m1, m2, m3, m4, m5, m6⟩ := m
  unfold aR prB txB wN at *
  simp only [c1, c2, c3, c4, c5, c6, m1, m2, m3, m4, m5, m6]
  exact A
theorem aR.lt {σ : gSt} {N K i : Nat} (A : aR σ N K i) (h : i ≠ N) : aR σ (N + 1) K i := by
  obtain ⟨a1, a2, a3, a4, a5, a6, a7, a8, a9, a10⟩ := A
  exact ⟨a1, a2, a3, a4, a5, a6, fun q => a7 (by omega), fun q => a8 (by omega), a9, a10⟩
theorem hasL {fu : Nat} {σ : gSt} {h : Nat} (R : hwRel σ h) : f_X3_hasLetter fu σ h = some (bI (!(nz (cods σ h)).isEmpty), σ) := by
  unfold f_X3_hasLetter f_X3_hasLetter_b12
  rw [R.2.2.2.2.1]
  have n := nz_len (cods σ h)
  have n8 := R.1
  cases e : nz (cods σ h) with
  | nil => rw [if_pos (by decide)]; rfl
  | cons a r =>
    rw [e, List.length_cons] at n
    rw [if_neg (nI_nle (by rw [List.length_cons]; omega) (by rw [List.length_cons]; omega))]; rfl
theorem fl0 {fu : Nat} {σ : gSt} (hfu : 9 ≤ fu) (R : hwRel σ 120) : ∃ v, f_X7_firstLetter fu σ 120 = some (v, σ) ∧ (v = 0 ↔ (nz (cods σ 120)).isEmpty = true) := by
  refine ⟨_, flM_ok (h := 120) hfu (by decide) R.mw, ?_⟩
  cases e : nz (cods σ 120) with
  | nil => simp only [fl, e]; exact ⟨fun _ => rfl, fun _ => rfl⟩
  | cons a r =>
    have hw : hwl σ 120 := ⟨R, by rw [e]; exact List.cons_ne_nil _ _⟩
    obtain ⟨h1, h2, -⟩ := fl_pos hw
    constructor
    · intro q; exact absurd q (nI_ne0 (by omega) (by omega))
    · intro q; cases q
theorem stV3 {p t : Bool} {w : Int32} : stV p t w = 3 ↔ p = true := by
  unfold stV
  cases p
  · cases t
    · by_cases h : w = -1
      · simp only [cond_false, if_pos h]; decide
      · simp only [cond_false, if_neg h]; decide
    · simp only [cond_false, cond_true]; decide
  · simp only [cond_true]
theorem sumN_s (f : Nat → Nat) (n : Nat) : sumN f (n + 1) = sumN f n + f n := rfl
theorem cntN_0 {p : Nat → Bool} {n : Nat} (h : n = 0) : cntN p n = 0 := by rw [h]; rfl
theorem step_article {fu : Nat} {σ : gSt} {N V P K G : Nat} {x1 x2 : Int32} (hfu : 9 ≤ fu) (I : Inv σ N V P K G) : stepX (cm3 2 3 1) (f_X6_article fu σ x1 x2) (fun σ1 => f_X7_article fu σ1 x1 x2) G := by
  have D := I.2.1
  have S := I.1
  have hN := S.hN
  obtain ⟨w, hw1, hw2⟩ := fl0 hfu D.1
  -- the reference's head
  have mh : f_X7_article fu σ x1 x2 = cond (inb x1 10) (cond (inb x2 10) (if σ 183 0 0 = 24 then f_X7_article_b51 fu σ x1 x2 3 else cond (nz (cods σ 120)).isEmpty (f_X7_article_b51 fu σ x1 x2 3) (f_X7_article_b51 fu σ x1 x2 0)) (f_X7_article_b51 fu σ x1 x2 2)) (f_X7_article_b51 fu σ x1 x2 1) := by
    unfold f_X7_article f_X7_article_b46
    rw [show (9 : Int32) = nI 10 - 1 by decide, bd_s (isIn0 x2 (by decide)), bd_s (isSub x1)]
    cases inb x1 10 with
    | false => rfl
    | true =>
      rw [bT]
      cases inb x2 10 with
      | false => rfl
      | true =>
        rw [bT, bd_s hw1]
        cases e : (nz (cods σ 120)).isEmpty with
        | true => rw [if_pos (hw2.mpr e)]; rfl
        | false => rw [if_neg (show ¬ w = 0 from fun q => by rw [hw2.mp q] at e; cases e)]; rfl
  have thr : ∀ y : Int32, ¬ y = 0 → f_X7_article_b51 fu σ x1 x2 y = some (0, gU σ 209 0 0 y) := fun y hy => by
    unfold f_X7_article_b51
    rw [goesX hy, if_pos rfl]
  unfold f_X6_article
  cases b1 : inb x1 10 with
  | false =>
    refine step_thr (c := 3) (v := 0) I (Or.inr (Or.inr rfl)) (by decide) (by rw [bx_x (n := 2) (by rw [reqSub, b1]; rfl)]) ⟨0, ?_⟩
    rw [mh, b1]; exact thr _ (by decide)
  | true =>
    rw [bx_s (by rw [reqSub, b1]; rfl), show (9 : Int32) = nI 9 from rfl, rle_eq _ _ x2 (by decide)]
    cases b2 : inb x2 (9 + 1) with
    | false =>
      refine step_thr (c := 1) (v := 0) I (Or.inl rfl) (by decide) rfl ⟨0, ?_⟩
      rw [mh, b1, b2]; exact thr 2 (by decide)
    | true =>
      show stepX _ (if (24 : Int32) ≤ σ 156 0 0 then _ else _) _ _
      rw [S.nC]
      by_cases full : 24 ≤ N
      · rw [if_pos (show (24 : Int32) ≤ nI N from nI_le (a := 24) full (by omega))]
        refine step_thr (c := 2) (v := 0) I (Or.inr (Or.inl rfl)) (by decide) rfl ⟨0, ?_⟩
        rw [mh, b1, b2, S.nM]
        show (if nI N = 24 then _ else _) = _
        rw [if_pos (show nI N = 24 by rw [show N = 24 by omega]; rfl)]; exact thr _ (by decide)
      · have n24 : ¬ nI N = 24 := fun q => by have := (nI_eq (b := 24) (by omega) (by decide)).mp q; omega
        rw [if_neg (show ¬ (24 : Int32) ≤ nI N from nI_ge (b := 24) (by omega) (by decide)), bd_s (hasL D.1)]
        cases e : (nz (cods σ 120)).isEmpty with
        | true =>
          rw [show bI (!true) = bI false from rfl, bF]
          refine step_thr (c := 2) (v := 0) I (Or.inr (Or.inl rfl)) (by decide) rfl ⟨0, ?_⟩
          rw [mh, b1, b2, S.nM, e]
          show (if nI N = 24 then _ else _) = _
          rw [if_neg n24]; exact thr _ (by decide)
        | false =>
          have hne : nz (cods σ 120) ≠ [] := fun q => by rw [q] at e; cases e
          obtain ⟨s, hs, rfl⟩ : ∃ s, s < 10 ∧ x1 = nI s := by
            rcases inb_cs x1 (n := 10) (by decide) with ⟨-, h⟩ | ⟨h, -⟩
            · exact h
            · rw [h] at b1; cases b1
          obtain ⟨wo, hwo, rfl⟩ : ∃ s, s < 10 ∧ x2 = nI s := by
            rcases inb_cs x2 (n := 10) (by decide) with ⟨-, h⟩ | ⟨h, -⟩
            · exact h
            · rw [h] at b2; cases b2
          rw [show bI (!false) = bI true from rfl, bT, S.nC, gd_t (inb_t (by omega : N < 24) (by decide)), nI_clamp (by omega : N < 2 ^ 31)]
          obtain ⟨τ, t1, T⟩ := take_ok (fu := fu) (s := gU (gU σ 5 N 0 (nI s)) 6 N 0 (nI wo)) (i := N) (by omega) (fun k hk => by simp only [gU_n, gU_e, Nat.reduceEqDiff, not_false_eq_true]; exact D.2 k hk)
          rw [bd_s t1]
          have e156 : τ 156 0 0 = nI N := by rw [T.1 156 (by decide)]; simp only [gU_n, gU_e, Nat.reduceEqDiff, not_false_eq_true]; exact S.nC
          have e183 : τ 183 0 0 = nI N := by rw [T.1 183 (by decide)]; simp only [gU_n, gU_e, Nat.reduceEqDiff, not_false_eq_true]; exact S.nM
          have eh : ∀ F, F ∉ [60, 61, 62, 63] → τ F = (gU (gU σ 5 N 0 (nI s)) 6 N 0 (nI wo)) F := T.1
          obtain ⟨μ, m1, M⟩ := takes_ok (fu := fu) (m := gU (gU τ 156 0 0 (nI (N + 1))) 209 0 0 0) (i := N) hfu (by omega)
          have u183 : μ 183 0 0 = nI N := by rw [M.1 183 (by decide)]; simp only [gU_n, gU_e, Nat.reduceEqDiff, not_false_eq_true]; exact e183
          have inN : inb (nI N) 24 = true := inb_t (by omega) (by decide)
          have cN : (nI N).toNatClampNeg = N := nI_clamp (by omega : N < 2 ^ 31)
          -- the reference goes the same way
          have mid : f_X7_article fu (gU τ 156 0 0 (nI (N + 1))) (nI s) (nI wo) = f_X7_article_b51 fu (gU τ 156 0 0 (nI (N + 1))) (nI s) (nI wo) 0 := by
            obtain ⟨v, hv1, hv2⟩ : ∃ v, f_X7_firstLetter fu (gU τ 156 0 0 (nI (N + 1))) 120 = some (v, gU τ 156 0 0 (nI (N + 1))) ∧ ¬ v = 0 := by
              have hm : mw (gU τ 156 0 0 (nI (N + 1))) 120 := by
                have e181 : (gU τ 156 0 0 (nI (N + 1))) 181 = σ 181 := by rw [gU_n (by decide), eh 181 (by decide)]; simp only [gU_n, gU_e, Nat.reduceEqDiff, not_false_eq_true]
                have e182 : (gU τ 156 0 0 (nI (N + 1))) 182 = σ 182 := by rw [gU_n (by decide), eh 182 (by decide)]; simp only [gU_n, gU_e, Nat.reduceEqDiff, not_false_eq_true]
                have ec : cods (gU τ 156 0 0 (nI (N + 1))) 120 = cods σ 120 := by simp only [cods, e181, e182]
                have := D.1.mw
                unfold mw at *
                rw [ec, e181, e182]
                exact this
              have ec : cods (gU τ 156 0 0 (nI (N + 1))) 120 = cods σ 120 := by
                have e181 : (gU τ 156 0 0 (nI (N + 1))) 181 = σ 181 := by rw [gU_n (by decide), eh 181 (by decide)]; simp only [gU_n, gU_e, Nat.reduceEqDiff, not_false_eq_true]
                have e182 : (gU τ 156 0 0 (nI (N + 1))) 182 = σ 182 := by rw [gU_n (by decide), eh 182 (by decide)]; simp only [gU_n, gU_e, Nat.reduceEqDiff, not_false_eq_true]
                simp only [cods, e181, e182]
              refine ⟨_, flM_ok (h := 120) hfu (by decide) hm, ?_⟩
              rw [ec]
              obtain ⟨h1, h2, -⟩ := fl_pos (σ := σ) (h := 120) ⟨D.1, hne⟩
              exact nI_ne0 (by omega) (by omega)
            unfold f_X7_article f_X7_article_b46
            rw [show (9 : Int32) = nI 10 - 1 by decide, bd_s (isIn0 _ (by decide)), bd_s (isSub _), b1, bT, b2, bT, gU_n (by decide), e183, if_neg n24, bd_s hv1, if_neg hv2]
          refine ⟨0, nI N, gU τ 156 0 0 (nI (N + 1)), nI N, gU (gU (gU (gU (gU μ 184 0 N (nI s)) 185 0 N (nI wo)) 187 0 N (-1)) 188 0 N (-1)) 183 0 0 (nI (N + 1)), ?_, ?_, ?_, fun _ => rfl, Or.inl rfl, N + 1, V, P, K, G, ?_, by omega⟩
          · rw [e156, nI_1]
          · show f_X7_article fu (gU τ 156 0 0 (nI (N + 1))) (nI s) (nI wo) = _
            rw [mid]
            unfold f_X7_article_b51
            rw [goes0, if_neg (by decide)]
            simp only [gU_n, gU_e, Nat.reduceEqDiff, not_false_eq_true, e183]
            rw [bd_s m1]
            simp only [gU_n, gU_e, Nat.reduceEqDiff, not_false_eq_true, u183, inN, gd_true, cN, nI_1, nI_pred]
          · simp only [gU_n, gU_e, Nat.reduceEqDiff, not_false_eq_true]
            rw [M.1 209 (by decide)]
            simp only [gU_n, gU_e, Nat.reduceEqDiff, not_false_eq_true]
            rfl
          · have hF : fr [60, 61, 62, 63, 181, 182] (gU (gU (gU (gU (gU (gU (gU (gU (gU σ 5 N 0 (nI s)) 6 N 0 (nI wo)) 156 0 0 (nI (N + 1))) 209 0 0 0) 184 0 N (nI s)) 185 0 N (nI wo)) 187 0 N (-1)) 188 0 N (-1)) 183 0 0 (nI (N + 1))) (gU (gU (gU (gU (gU μ 184 0 N (nI s)) 185 0 N (nI wo)) 187 0 N (-1)) 188 0 N (-1)) 183 0 0 (nI (N + 1))) := by
              refine fr_gU2 (fr_gU2 (fr_gU2 (fr_gU2 (fr_gU2 ?_))))
              exact (fr_gU2 (fr_gU2 (T.1.mono (by decide)))).tr (M.1.mono (by decide))
            have tk : took σ (gU (gU (gU (gU (gU μ 184 0 N (nI s)) 185 0 N (nI wo)) 187 0 N (-1)) 188 0 N (-1)) 183 0 0 (nI (N + 1))) N :=
              took_of (L1 := [5, 6]) (L2 := [156, 209]) (L3 := [183, 184, 185, 187, 188]) (by omega) D (by (repeat (first | exact fr.rfl | assumption | refine fr_gU ?_ (by decide) | refine fr_gR ?_ (by decide)))) T (by (repeat (first | exact fr.rfl | assumption | refine fr_gU ?_ (by decide) | refine fr_gR ?_ (by decide)))) M (by (repeat (first | exact fr.rfl | assumption | refine fr_gU ?_ (by decide) | refine fr_gR ?_ (by decide)))) (by decide) (by decide) (by decide)
            generalize gU (gU (gU (gU (gU μ 184 0 N (nI s)) 185 0 N (nI wo)) 187 0 N (-1)) 188 0 N (-1)) 183 0 0 (nI (N + 1)) = σ2 at hF tk ⊢
            generalize hβ : gU (gU (gU (gU (gU (gU (gU (gU (gU σ 5 N 0 (nI s)) 6 N 0 (nI wo)) 156 0 0 (nI (N + 1))) 209 0 0 0) 184 0 N (nI s)) 185 0 N (nI wo)) 187 0 N (-1)) 188 0 N (-1)) 183 0 0 (nI (N + 1)) = β at hF
            obtain ⟨k1, ⟨k2, k3⟩, k4⟩ := tk
            obtain ⟨i1, i2, i3, i4, i5, i6, i7, i8, i9, i10⟩ := I
            have hb : fr [5, 6, 156, 209, 184, 185, 187, 188, 183] σ β := by rw [← hβ]; (repeat (first | exact fr.rfl | assumption | refine fr_gU ?_ (by decide) | refine fr_gR ?_ (by decide)))
            have rcS : ∀ i, rcN σ2 i = rcN σ i := fun i => (hF.rcNE' (by decide)).trans (hb.rcNE' (by decide))
            have rc0 : rcN σ N = 0 := (i1.rf (i := N) (by omega)).2.2.2.1 (Nat.le_refl _)
            have rd : ∀ F, F ∉ [60, 61, 62, 63, 181, 182] → σ2 F = β F := fun F h => hF F h
            refine ⟨⟨⟨⟨by omega, ?_, ?_⟩, ?_, ?_, fun i hi => ?_, fun i hi => ?_⟩, fun i hi => ?_⟩, k4, (i3.frm hb (by decide)).frm hF (by decide), ?_, (i5.frm hb (by decide)).frm hF (by decide), (i6.frm hb (by decide)).frm hF (by decide), (i7.frm hb (by decide)).frm hF (by decide), ?_, (i9.frm hb (by decide)).frm hF (by decide), ?_⟩
            · rw [rd 156 (by decide), ← hβ]; simp only [gU_n, gU_e, Nat.reduceEqDiff, not_false_eq_true]
            · rw [rd 183 (by decide), ← hβ]; simp only [gU_n, gU_e, Nat.reduceEqDiff, not_false_eq_true]
            · exact (i1.v.frm hb (by decide)).frm hF (by decide)
            · exact (i1.r.frm hb (by decide)).frm hF (by decide)
            · by_cases ei : i = N
              · subst ei; exact ⟨k2, by rw [k3]; exact hne⟩
              · exact (k1 i (by omega) ei).hwl (i1.hw (by omega))
            · rw [rd 6 (by decide), rd 185 (by decide), ← hβ]
              by_cases ei : i = N
              · subst ei; exact ⟨wo, by omega, by simp only [gU_n, gU_e, Nat.reduceEqDiff, not_false_eq_true], by simp only [gU_n, gU_e, Nat.reduceEqDiff, not_false_eq_true]⟩
              · simp only [gU_n, gU_e, Nat.reduceEqDiff, not_false_eq_true]; rw [gU_i (by omega), gU_i (by omega)]; simp only [gU_n, gU_e, Nat.reduceEqDiff, not_false_eq_true]; exact i1.1.2.2.2.2 i (by omega)
            · obtain ⟨a1, a2, a3, a4, a5⟩ := i1.rf hi
              rw [rcS, rd 4 (by decide), rd 191 (by decide), ← hβ]
              simp only [gU_n, gU_e, Nat.reduceEqDiff, not_false_eq_true]
              exact ⟨a1, a2, a3, fun q => a4 (by omega), fun r hr => (k1 _ (by omega) (by omega)).hwl (a5 r hr)⟩
            · have ab : aRel β (N + 1) K := by
                intro i hi
                by_cases ei : i = N
                · subst ei
                  obtain ⟨a1, a2, a3, a4, a5, a6, a7, a8, a9, a10⟩ := i4 i hi
                  obtain ⟨b1, b2, b3, b4⟩ := a8 (Nat.le_refl _)
                  have p1 : prB β i = prB σ i := by rw [← hβ]; simp only [prB, gU_n, gU_e, Nat.reduceEqDiff, not_false_eq_true]
                  have t1 : txB β i = txB σ i := by rw [← hβ]; simp only [txB, gU_n, gU_e, Nat.reduceEqDiff, not_false_eq_true]
                  unfold aR
                  rw [p1, t1]
                  refine ⟨?_, ?_, ?_, ?_, ?_, ?_, fun _ => ⟨⟨s, hs, ?_, ?_⟩, ?_, ?_, fun _ => ?_⟩, fun q => by omega, ?_, ?_⟩
                  · rw [← hβ]; simp only [gU_n, gU_e, Nat.reduceEqDiff, not_false_eq_true]; exact a1
                  · rw [← hβ]; simp only [gU_n, gU_e, Nat.reduceEqDiff, not_false_eq_true]; exact a2
                  · rw [← hβ]; simp only [gU_n, gU_e, Nat.reduceEqDiff, not_false_eq_true]; exact a3
                  · rw [← hβ]; simp only [gU_n, gU_e, Nat.reduceEqDiff, not_false_eq_true]; exact a4
                  · rw [← hβ]; simp only [gU_n, gU_e, Nat.reduceEqDiff, not_false_eq_true]; exact a5
                  · rw [← hβ]; simp only [gU_n, gU_e, Nat.reduceEqDiff, not_false_eq_true]; exact a6
                  · rw [← hβ]; simp only [gU_n, gU_e, Nat.reduceEqDiff, not_false_eq_true]
                  · rw [← hβ]; simp only [gU_n, gU_e, Nat.reduceEqDiff, not_false_eq_true]
                  · rw [← hβ]; simp only [gU_n, gU_e, Nat.reduceEqDiff, not_false_eq_true]; exact b1.symm
                  · rw [← hβ]; simp only [gU_n, gU_e, Nat.reduceEqDiff, not_false_eq_true]; exact b2.symm
                  · rw [← hβ]; simp only [gU_n, gU_e, Nat.reduceEqDiff, not_false_eq_true]; exact b1
                  · rw [b3]; intro q; cases q
                  · rw [b4]; intro q; cases q
                · refine ((i4 i hi).lt ei).cp ?_ ?_
                  · rw [← hβ]; simp [gU, ei]
                  · rw [← hβ]; simp [gU, ei]
              exact ab.frm hF (by decide)
            · have lb : lRel β (N + 1) G := by
                obtain ⟨g, q⟩ := i8
                refine ⟨by rw [← hβ]; simp only [gU_n, gU_e, Nat.reduceEqDiff, not_false_eq_true]; exact g, fun c hc => ?_⟩
                obtain ⟨l, q1, q2, q3, q4, q5⟩ := q c hc
                have st0 : ¬ σ 186 0 N = 1 := by
                  obtain ⟨a1, a2, a3, a4, a5, a6, a7, a8, a9, a10⟩ := i4 N (by omega)
                  obtain ⟨b1, b2, b3, b4⟩ := a8 (Nat.le_refl _)
                  rw [a5, b1, b3, b4]; decide
                have nb : ∀ j, nthN β j = nthN σ j := fun j => by rw [← hβ]; simp only [nthN, gU_n, gU_e, Nat.reduceEqDiff, not_false_eq_true]
                refine ⟨l, by rw [← hβ]; simp only [gU_n, gU_e, Nat.reduceEqDiff, not_false_eq_true]; exact q1, by rw [← hβ]; simp only [gU_n, gU_e, Nat.reduceEqDiff, not_false_eq_true]; exact q2, fun j => ?_, ?_, fun j hj => ?_⟩
                · rw [q3 j]
                  by_cases ej : j = N
                  · subst ej
                    rw [← hβ]; simp only [gU_n, gU_e, Nat.reduceEqDiff, not_false_eq_true]
                    exact ⟨fun h => absurd h.1 (Nat.lt_irrefl _), fun h => absurd h.2.1 st0⟩
                  · have : β 186 0 j = σ 186 0 j ∧ β 187 0 j = σ 187 0 j := by rw [← hβ]; simp [gU, ej]
                    rw [this.1, this.2]
                    exact ⟨fun h => ⟨by omega, h.2⟩, fun h => ⟨by omega, h.2⟩⟩
                · simp only [nb]; exact q4
                · rw [nb, ← hβ]; simp only [gU_n, gU_e, Nat.reduceEqDiff, not_false_eq_true]; exact q5 j hj
              exact lb.frm hF (by decide)
            · have tb : tRel β (N + 1) := by
                unfold tRel skN
                have rb : rcN β = rcN σ := by funext i; exact hb.rcNE' (by decide)
                rw [sumN_s, rb, cntN_0 rc0, Nat.add_zero, ← hβ]
                simp only [gU_n, gU_e, Nat.reduceEqDiff, not_false_eq_true]
                exact i10
              exact tb.frm hF (by decide)
theorem inb_nI {x : Int32} {n : Nat} (hn : n < 2 ^ 31) (h : inb x n = true) : ∃ j, j < n ∧ x = nI j := by
  rcases inb_cs x hn with ⟨-, q⟩ | ⟨q, -⟩
  · exact q
  · rw [q] at h; cases h
theorem inb_mono {j n m : Nat} (h : j < n) (hm : n ≤ m) (hm2 : m < 2 ^ 31) : inb (nI j) m = true := inb_t (by omega) hm2
theorem step_refer {fu : Nat} {σ : gSt} {N V P K G : Nat} {x1 : Int32} (hfu : 9 ≤ fu) (I : Inv σ N V P K G) : stepX (cm3 0 2 1) (f_X6_refer fu σ x1) (fun σ1 => f_X7_refer fu σ1 x1) G := by
  have D := I.2.1
  have S := I.1
  have hN := S.hN
  obtain ⟨w, hw1, hw2⟩ := fl0 hfu D.1
  have thr : ∀ y : Int32, ¬ y = 0 → f_X7_refer_b49 fu σ x1 y = some (0, gU σ 209 0 0 y) := fun y hy => by
    unfold f_X7_refer_b49
    rw [goesX hy, if_pos rfl]
  unfold f_X6_refer f_X6_refer_b37
  cases b1 : inb x1 N with
  | false =>
    refine step_thr (c := 3) (v := 0) I (Or.inr (Or.inr rfl)) (by decide) (by rw [bx_x (n := 2) (by rw [reqArt x1 hN S.nC, b1]; rfl)]) ⟨0, ?_⟩
    show f_X7_refer fu σ x1 = _
    unfold f_X7_refer
    rw [bd_s (isArt x1 hN S.nM), b1, bF]; exact thr _ (by decide)
  | true =>
    obtain ⟨i, hi, rfl⟩ := inb_nI (by omega) b1
    obtain ⟨r1, r2, r3, r4, r5⟩ := S.rf (i := i) (by omega)
    have A := I.2.2.2.1 i (by omega)
    obtain ⟨a1, a2, a3, a4, a5, a6, a7, a8, a9, a10⟩ := A
    have ci : (nI i).toNatClampNeg = i := nI_clamp (by omega : i < 2 ^ 31)
    have in24 : inb (nI i) 24 = true := inb_t (by omega) (by decide)
    have mh : f_X7_refer fu σ (nI i) = cond (prB σ i || Nat.beq (rcN σ i) 4 || (nz (cods σ 120)).isEmpty) (f_X7_refer_b49 fu σ (nI i) 2) (f_X7_refer_b49 fu σ (nI i) 0) := by
      unfold f_X7_refer f_X7_refer_b44
      rw [bd_s (isArt _ hN S.nM), b1, bT, gd_t in24, gd_t in24, ci, a5, r3, bd_s hw1]
      cases ep : prB σ i with
      | true => rw [if_pos (stV3.mpr rfl)]; rfl
      | false =>
        rw [if_neg (fun q => by have := stV3.mp q; cases this)]
        cases er : Nat.beq (rcN σ i) 4 with
        | true => rw [if_pos (by rw [Nat.eq_of_beq_eq_true er]; rfl)]; rfl
        | false =>
          rw [if_neg (fun q => by
            have := (nI_eq (b := 4) (by omega) (by decide)).mp q
            rw [this] at er; cases er)]
          cases e : (nz (cods σ 120)).isEmpty with
          | true => rw [if_pos (hw2.mpr e)]; rfl
          | false => rw [if_neg (fun q => by rw [hw2.mp q] at e; cases e)]; rfl
    rw [bx_s (by rw [reqArt _ hN S.nC, b1]; rfl), gd_t in24, ci, a1]
    cases ep : prB σ i with
    | true =>
      rw [bT]
      refine step_thr (c := 2) (v := 0) I (Or.inr (Or.inl rfl)) (by decide) rfl ⟨0, ?_⟩
      show f_X7_refer fu σ (nI i) = _
      rw [mh, ep]; exact thr _ (by decide)
    | false =>
      rw [bF, r2]
      by_cases full : 4 ≤ rcN σ i
      · rw [if_pos (show (4 : Int32) ≤ nI (rcN σ i) from nI_le (a := 4) full (by omega))]
        refine step_thr (c := 2) (v := 0) I (Or.inr (Or.inl rfl)) (by decide) rfl ⟨0, ?_⟩
        show f_X7_refer fu σ (nI i) = _
        have e4 : rcN σ i = 4 := by omega
        rw [mh, ep, e4]; exact thr _ (by decide)
      · have rlt : rcN σ i < 4 := by omega
        have nb : Nat.beq (rcN σ i) 4 = false := by rw [beqN]; exact decide_eq_false (by omega)
        rw [if_neg (show ¬ (4 : Int32) ≤ nI (rcN σ i) from nI_ge (b := 4) rlt (by decide)), bd_s (hasL D.1)]
        cases e : (nz (cods σ 120)).isEmpty with
        | true =>
          rw [show bI (!true) = bI false from rfl, bF]
          refine step_thr (c := 2) (v := 0) I (Or.inr (Or.inl rfl)) (by decide) rfl ⟨0, ?_⟩
          show f_X7_refer fu σ (nI i) = _
          rw [mh, ep, nb, e]; exact thr _ (by decide)
        | false =>
          have hne : nz (cods σ 120) ≠ [] := fun q => by rw [q] at e; cases e
          have cr : (nI (rcN σ i)).toNatClampNeg = rcN σ i := nI_clamp (by omega)
          rw [show bI (!false) = bI true from rfl, bT, r2, gd_t (inb_t rlt (by decide)), cr]
          generalize hrow : 24 + (4 * i + rcN σ i) = row
          have hrow2 : row < 120 := by omega
          obtain ⟨τ, t1, T⟩ := take_ok (fu := fu) (s := σ) (i := row) hrow2 (fun k hk => D.2 k hk)
          rw [bd_s t1]
          have eh : ∀ F, F ∉ [60, 61, 62, 63] → τ F = σ F := T.1
          have e4 : τ 4 i 0 = nI (rcN σ i) := by rw [eh 4 (by decide)]; exact r2
          rw [e4, nI_1]
          obtain ⟨μ, m1, M⟩ := takes_ok (fu := fu) (m := gU (gU τ 4 i 0 (nI (rcN σ i + 1))) 209 0 0 0) (i := row) hfu hrow2
          have u191 : μ 191 0 i = nI (rcN σ i) := by rw [M.1 191 (by decide)]; simp only [gU_n, gU_e, Nat.reduceEqDiff, not_false_eq_true]; rw [eh 191 (by decide)]; exact r3
          refine ⟨0, nI (rcN σ i + 1), gU τ 4 i 0 (nI (rcN σ i + 1)), nI (rcN σ i + 1), gU μ 191 0 i (nI (rcN σ i + 1)), ?_, ?_, ?_, fun _ => rfl, Or.inl rfl, N, V, P, K, G, ?_, by omega⟩
          · simp only [gU_n, gU_e, Nat.reduceEqDiff, not_false_eq_true]
          · show f_X7_refer fu (gU τ 4 i 0 (nI (rcN σ i + 1))) (nI i) = _
            have ms : (gU τ 4 i 0 (nI (rcN σ i + 1))) 183 = σ 183 := by rw [gU_n (by decide), eh 183 (by decide)]
            have ms1 : (gU τ 4 i 0 (nI (rcN σ i + 1))) 186 = σ 186 := by rw [gU_n (by decide), eh 186 (by decide)]
            have ms2 : (gU τ 4 i 0 (nI (rcN σ i + 1))) 191 = σ 191 := by rw [gU_n (by decide), eh 191 (by decide)]
            have e181 : (gU τ 4 i 0 (nI (rcN σ i + 1))) 181 = σ 181 := by rw [gU_n (by decide), eh 181 (by decide)]
            have e182 : (gU τ 4 i 0 (nI (rcN σ i + 1))) 182 = σ 182 := by rw [gU_n (by decide), eh 182 (by decide)]
            have ec : cods (gU τ 4 i 0 (nI (rcN σ i + 1))) 120 = cods σ 120 := by simp only [cods, e181, e182]
            have hm : mw (gU τ 4 i 0 (nI (rcN σ i + 1))) 120 := by
              have := D.1.mw
              unfold mw at *
              rw [ec, e181, e182]
              exact this
            obtain ⟨v, hv1, hv2⟩ : ∃ v, f_X7_firstLetter fu (gU τ 4 i 0 (nI (rcN σ i + 1))) 120 = some (v, gU τ 4 i 0 (nI (rcN σ i + 1))) ∧ ¬ v = 0 := by
              refine ⟨_, flM_ok (h := 120) hfu (by decide) hm, ?_⟩
              rw [ec]
              obtain ⟨h1, h2, -⟩ := fl_pos (σ := σ) (h := 120) ⟨D.1, hne⟩
              exact nI_ne0 (by omega) (by omega)
            unfold f_X7_refer f_X7_refer_b49
            rw [bd_s (isArt _ hN (by rw [ms]; exact S.nM)), b1, bT, gd_t in24, gd_t in24, ci, ms1, ms2, a5, ep, r3, if_neg (fun q => by have := stV3.mp q; cases this), if_neg (fun q => by have := (nI_eq (b := 4) (by omega) (by decide)).mp q; omega), bd_s hv1, if_neg hv2, goes0, if_neg (by decide), gd_t in24]
            simp only [gU_n, gU_e, Nat.reduceEqDiff, not_false_eq_true]
            rw [eh 191 (by decide), r3, show f_X7_reference fu (gU (gU τ 4 i 0 (nI (rcN σ i + 1))) 209 0 0 0) (nI i) (nI (rcN σ i)) = some (nI row, gU (gU τ 4 i 0 (nI (rcN σ i + 1))) 209 0 0 0) by unfold f_X7_reference; rw [row_nI, hrow], bd_s rfl, bd_s m1, gd_t in24, gd_t in24, gd_t in24, u191, nI_1]
          · simp only [gU_n, gU_e, Nat.reduceEqDiff, not_false_eq_true]
            rw [M.1 209 (by decide)]
            simp only [gU_n, gU_e, Nat.reduceEqDiff, not_false_eq_true]
            rfl
          · have hF : fr [60, 61, 62, 63, 181, 182] (gU (gU (gU σ 4 i 0 (nI (rcN σ i + 1))) 209 0 0 0) 191 0 i (nI (rcN σ i + 1))) (gU μ 191 0 i (nI (rcN σ i + 1))) := by
              refine fr_gU2 ?_
              exact (fr_gU2 (fr_gU2 (T.1.mono (by decide)))).tr (M.1.mono (by decide))
            have tk : took σ (gU μ 191 0 i (nI (rcN σ i + 1))) row :=
              took_of (L1 := []) (L2 := [4, 209]) (L3 := [191]) hrow2 D (by (repeat (first | exact fr.rfl | assumption | refine fr_gU ?_ (by decide) | refine fr_gR ?_ (by decide)))) T (by (repeat (first | exact fr.rfl | assumption | refine fr_gU ?_ (by decide) | refine fr_gR ?_ (by decide)))) M (by (repeat (first | exact fr.rfl | assumption | refine fr_gU ?_ (by decide) | refine fr_gR ?_ (by decide)))) (by decide) (by decide) (by decide)
            generalize gU μ 191 0 i (nI (rcN σ i + 1)) = σ2 at hF tk ⊢
            generalize hβ : gU (gU (gU σ 4 i 0 (nI (rcN σ i + 1))) 209 0 0 0) 191 0 i (nI (rcN σ i + 1)) = β at hF
            obtain ⟨k1, ⟨k2, k3⟩, k4⟩ := tk
            obtain ⟨i1, i2, i3, i4, i5, i6, i7, i8, i9, i10⟩ := I
            have hb : fr [4, 209, 191] σ β := by rw [← hβ]; (repeat (first | exact fr.rfl | assumption | refine fr_gU ?_ (by decide) | refine fr_gR ?_ (by decide)))
            have rd : ∀ F, F ∉ [60, 61, 62, 63, 181, 182] → σ2 F = β F := fun F h => hF F h
            have rcB : ∀ j, rcN β j = if j = i then rcN σ i + 1 else rcN σ j := fun j => by
              rw [← hβ]
              show ((gU (gU (gU σ 4 i 0 (nI (rcN σ i + 1))) 209 0 0 0) 191 0 i (nI (rcN σ i + 1))) 191 0 j).toNatClampNeg = _
              by_cases ej : j = i
              · subst ej; rw [gU_e, if_pos rfl, nI_clamp (by omega)]
              · rw [gU_i (by omega), if_neg ej]; simp only [gU_n, gU_e, Nat.reduceEqDiff, not_false_eq_true]; rfl
            have rcS : ∀ j, rcN σ2 j = rcN β j := fun j => hF.rcNE' (by decide)
            have fr0 : ∀ j, j < 24 → prB β j = prB σ j := fun j _ => by simp only [prB, hb 11 (by decide)]
            refine ⟨⟨⟨⟨hN, ?_, ?_⟩, ?_, ?_, fun j hj => ?_, fun j hj => ?_⟩, fun j hj => ?_⟩, k4, (i3.frm hb (by decide)).frm hF (by decide), (i4.frm hb (by decide)).frm hF (by decide), ?_, (i6.frm hb (by decide)).frm hF (by decide), (i7.frm hb (by decide)).frm hF (by decide), (i8.frm hb (by decide)).frm hF (by decide), (i9.frm hb (by decide)).frm hF (by decide), ?_⟩
            · rw [rd 156 (by decide), hb 156 (by decide)]; exact i1.nC
            · rw [rd 183 (by decide), hb 183 (by decide)]; exact i1.nM
            · exact (i1.v.frm hb (by decide)).frm hF (by decide)
            · exact (i1.r.frm hb (by decide)).frm hF (by decide)
            · exact (k1 j (by omega) (by omega)).hwl (i1.hw hj)
            · rw [rd 6 (by decide), rd 185 (by decide), hb 6 (by decide), hb 185 (by decide)]
              exact i1.1.2.2.2.2 j hj
            · obtain ⟨s1, s2, s3, s4, s5⟩ := i1.rf hj
              rw [rcS, rcB, rd 4 (by decide), rd 191 (by decide), ← hβ]
              by_cases ej : j = i
              · subst ej
                rw [if_pos rfl]
                simp only [gU_n, gU_e, Nat.reduceEqDiff, not_false_eq_true]
                refine ⟨by omega, trivial, trivial, fun q => by omega, fun r hr => ?_⟩
                by_cases er : r = rcN σ j
                · subst er; rw [hrow]; exact ⟨k2, by rw [k3]; exact hne⟩
                · exact (k1 _ (by omega) (by omega)).hwl (s5 r (by omega))
              · rw [if_neg ej]
                simp only [gU_n, gU_e, Nat.reduceEqDiff, not_false_eq_true]
                rw [gU_i (by omega), gU_i (by omega)]
                simp only [gU_n, gU_e, Nat.reduceEqDiff, not_false_eq_true]
                exact ⟨s1, s2, s3, s4, fun r hr => (k1 _ (by omega) (by omega)).hwl (s5 r hr)⟩
            · have fb : fRel β := by
                intro j hj
                obtain ⟨f1, f2⟩ := i5 j hj
                refine ⟨fun r hr => ?_, fun f hf => ?_⟩
                · obtain ⟨g1, g2, g3⟩ := f1 r hr
                  rw [fr0 j hj, hb 91 (by decide), hb 192 (by decide), rcB]
                  refine ⟨g1, g2, ?_⟩
                  by_cases ej : j = i
                  · subst ej
                    rw [ep] at g3 ⊢
                    exact g3.trans ⟨fun _ q => (by cases q.1), fun _ q => (by cases q.1)⟩
                  · rw [if_neg ej]; exact g3
                · rw [hb 2 (by decide), hb 193 (by decide), hb 194 (by decide), hb 3 (by decide)]; exact f2 f hf
              exact fb.frm hF (by decide)
            · have tb : tRel β N := by
                have e91 : β 91 = σ 91 := hb 91 (by decide)
                have sk : skN β N = skN σ N := by
                  unfold skN
                  apply sumN_eq
                  intro j hj
                  rw [e91, rcB]
                  by_cases ej : j = i
                  · subst ej
                    rw [if_pos rfl, cntN_s]
                    obtain ⟨f1, f2⟩ := i5 j (by omega)
                    obtain ⟨g1, g2, g3⟩ := f1 (rcN σ j) rlt
                    have : σ 91 (4 * j + rcN σ j) 0 = 0 := g3.mpr (fun q => by rw [ep] at q; cases q.1)
                    rw [this]; rfl
                  · rw [if_neg ej]
                unfold tRel
                rw [sk, hb 208 (by decide)]
                exact i10
              exact tb.frm hF (by decide)

/-! give, die -/
theorem step_give {fu : Nat} {σ : gSt} {N V P K G : Nat} {x1 x2 : Int32} (hfu : 30 ≤ fu) (hG : G < 2 ^ 30) (I : Inv σ N V P K G) : stepX (cm3 0 2 1) (f_X6_give fu σ x1 x2) (fun σ1 => f_X7_give fu σ1 x1 x2) G := by
  have S := I.1
  have hN := S.hN
  obtain ⟨k1, k2, k3, k4, k5⟩ := I.2.2.2.2.2.2.1
  have thr : ∀ y : Int32, ¬ y = 0 → f_X7_give_b45 fu σ x1 x2 y = some (0, gU σ 209 0 0 y) := fun y hy => by
    unfold f_X7_give_b45
    rw [goesX hy, if_pos rfl]
  unfold f_X6_give f_X6_give_b51
  cases b1 : inb x1 N with
  | false =>
    refine step_thr (c := 3) (v := 0) I (Or.inr (Or.inr rfl)) (by decide) (by rw [bx_x (n := 2) (by rw [reqArt x1 hN S.nC, b1]; rfl)]) ⟨0, ?_⟩
    show f_X7_give fu σ x1 x2 = _
    unfold f_X7_give f_X7_give_b20 f_X7_give_b21
    rw [bd_s (isArt x1 hN S.nM), b1, bF, if_pos rfl]; exact thr _ (by decide)
  | true =>
    obtain ⟨i, hi, rfl⟩ := inb_nI (by omega) b1
    rw [bx_s (by rw [reqArt _ hN S.nC, b1]; rfl)]
    cases b2 : inb x2 K with
    | false =>
      refine step_thr (c := 3) (v := 0) I (Or.inr (Or.inr rfl)) (by decide) (by rw [bx_x (n := 2) (by rw [reqCon x2 k1 k2, b2]; rfl)]) ⟨0, ?_⟩
      show f_X7_give fu σ (nI i) x2 = _
      unfold f_X7_give f_X7_give_b20 f_X7_give_b21
      rw [bd_s (isArt _ hN S.nM), b1, bT, bd_s (isCon _ k1 k3), b2, bF, if_pos rfl]; exact thr _ (by decide)
    | true =>
      obtain ⟨c, hc, rfl⟩ := inb_nI (by omega) b2
      have ci : (nI i).toNatClampNeg = i := nI_clamp (by omega : i < 2 ^ 31)
      have cc : (nI c).toNatClampNeg = c := nI_clamp (by omega : c < 2 ^ 31)
      have in24 : inb (nI i) 24 = true := inb_t (by omega) (by decide)
      have in6 : inb (nI c) 6 = true := inb_t (by omega) (by decide)
      obtain ⟨en1, -⟩ := enBoth (c := c) hfu I hi (by omega)
      obtain ⟨t1, t2⟩ := tgM I hi
      obtain ⟨dd1, dd2, dd3, dd4⟩ := k4 c (by omega)
      -- the reference's head, over any state that differs in 7, 8, 30, 32 alone
      have mh : ∀ s : gSt, fr [7, 8, 30, 32] σ s → f_X7_give fu s (nI i) (nI c) = cond (tgS σ V P i && (decide (σ 35 c 0 = 0) && !enS σ N i c)) (f_X7_give_b45 fu s (nI i) (nI c) 0) (f_X7_give_b45 fu s (nI i) (nI c) 2) := fun s hs => by
        have Ss : sRel s N V := S.frm hs (by decide)
        have rd : ∀ F, F ∉ [7, 8, 30, 32] → s F = σ F := fun F h => hs F h
        -- enemies by the reference read its own rows alone
        have enM : f_X7_isBarred fu s (nI i) (nI c) = some (bI (enS σ N i c), s) := by
          have loop : ∀ n k, k ≤ N → N < n + k → f_X7_isBarred_b5 fu n s (nI i) (nI c) (bI (enS σ k i c)) (nI k) = some (bI (enS σ N i c), s) := by
            intro n
            induction n with
            | zero => intro k h1 h2; omega
            | succ n ih =>
              intro k h1 h2
              show f_X7_isBarred_b5_B fu (f_X7_isBarred_b5 fu n) s (nI i) (nI c) _ (nI k) = _
              unfold f_X7_isBarred_b5_B f_X7_isBarred_b49 f_X7_isBarred_b50 f_X7_isBarred_b81 f_X7_isBarred_b85 f_X7_isBarred_b86
              rw [Ss.nM]
              by_cases e : N ≤ k
              · have e' : N = k := by omega
                rw [if_pos (nI_le e (by omega)), gd_t (bI_01 _), e']
              · have hk : k < N := by omega
                obtain ⟨a1, a2, a3, a4, a5, a6, a7, a8, a9, a10⟩ := I.2.2.2.1 k (by omega)
                have w7 : s 187 0 k = σ 7 k 0 := by rw [rd 187 (by decide)]; exact (a7 hk).2.1
                have go : ∀ b : Bool, (!decide (σ 7 k 0 = -1) && (!decide (σ 31 c (σ 7 k 0).toNatClampNeg = 0) && (rfS σ i k || rfS σ k i))) = b → f_X7_isBarred_b5 fu n s (nI i) (nI c) (bI (enS σ k i c || b)) (nI (k + 1)) = some (bI (enS σ N i c), s) := fun b hb => by
                  rw [← ih (k + 1) (by omega) (by omega), ← hb]; rfl
                rw [if_neg (nI_ge (by omega) (by omega)), gd_t (inb_t (by omega : k < 24) (by decide)), nI_clamp (by omega : k < 2 ^ 31), nI_1, w7]
                cases hs' : enS σ k i c with
                | true =>
                  have g : f_X7_isBarred_b5 fu n s (nI i) (nI c) 1 (nI (k + 1)) = some (bI (enS σ N i c), s) := by
                    have := go _ rfl
                    rw [hs', Bool.true_or] at this
                    exact this
                  by_cases hw : σ 7 k 0 = -1
                  · rw [if_pos hw, bT]; exact g
                  · obtain ⟨d, hd, ed⟩ := a6.resolve_left hw
                    rw [if_neg hw, gd_t (inb_t (by omega : k < 24) (by decide)), ed, nI6, gd_t (inb_t (by omega : 6 * c + d < 36) (by decide)), bT]
                    split <;> exact g
                | false =>
                  rw [hs'] at go
                  by_cases hw : σ 7 k 0 = -1
                  · rw [if_pos hw, bF, if_pos rfl]
                    exact go false (by rw [decide_eq_true hw]; rfl)
                  · obtain ⟨d, hd, ed⟩ := a6.resolve_left hw
                    have cd : (σ 7 k 0).toNatClampNeg = d := by rw [ed]; exact nI_clamp (by omega : d < 2 ^ 31)
                    rw [cd] at go
                    rw [if_neg hw, gd_t (inb_t (by omega : k < 24) (by decide)), ed, nI6, gd_t (inb_t (by omega : 6 * c + d < 36) (by decide)), nI_clamp (by omega : 6 * c + d < 2 ^ 31), rd 204 (by decide), (dd4 d (by omega)).2, bF]
                    by_cases hq : σ 31 c d = 0
                    · rw [if_pos hq, if_pos rfl]
                      exact go false (by rw [decide_eq_true hq]; simp)
                    · rw [if_neg hq, if_neg (show ¬ (1 : Int32) = 0 by decide), bd_s (refM_ok (by omega) Ss (by omega) hk), hs.rfE (by decide)]
                      cases r1 : rfS σ i k with
                      | true => rw [bT]; exact go true (by rw [decide_eq_false hw, decide_eq_false hq, r1]; rfl)
                      | false =>
                        rw [bF, bd_s (refM_ok (by omega) Ss (by omega) hi), hs.rfE (by decide)]
                        cases r2 : rfS σ k i with
                        | true => rw [bT]; exact go true (by rw [decide_eq_false hw, decide_eq_false hq, r1, r2]; rfl)
                        | false => rw [bF]; exact go false (by rw [r1, r2]; simp)
          exact loop fu 0 (Nat.zero_le _) (by omega)
        unfold f_X7_give f_X7_give_b21
        rw [bd_s (isArt _ hN Ss.nM), b1, bT, bd_s (isCon _ k1 (by rw [rd 201 (by decide)]; exact k3)), b2, bT, if_neg (show ¬ (1 : Int32) = 0 by decide)]
        have cb : f_X7_canBeGiven fu s (nI i) (nI c) = some (bI (tgS σ V P i && (decide (σ 35 c 0 = 0) && !enS σ N i c)), s) := by
          unfold f_X7_canBeGiven f_X7_canBeGiven_b64 f_X7_canBeGiven_b65
          rw [bd_s (volM_ok (by omega) (by omega) (Ss.hw hi) Ss.v)]
          show gd (inb (nI i) 24) (if s 185 0 (nI i).toNatClampNeg ≤ 0 then _ else if vS s V i < s 200 0 0 then _ else _) = _
          rw [gd_t in24, gd_t in24, gd_t in24, gd_t in6, ci, cc, hs.vSE (by decide), rd 185 (by decide), rd 200 (by decide), rd 187 (by decide), rd 186 (by decide), rd 203 (by decide), dd2]
          cases tg : tgS σ V P i with
          | true =>
            obtain ⟨g1, g2, g3, g4⟩ := t1.mp tg
            rw [if_neg g1, if_neg g2, if_pos g3, if_pos g4]
            by_cases hd : σ 35 c 0 = 0
            · rw [if_pos hd, bd_s enM, decide_eq_true hd]
              cases enS σ N i c <;> rfl
            · rw [if_neg hd, decide_eq_false hd]; rfl
          | false =>
            have nt : ¬ (¬ σ 185 0 i ≤ 0 ∧ ¬ vS σ V i < σ 200 0 0 ∧ σ 187 0 i = -1 ∧ σ 186 0 i = 0) := fun q => by rw [t1.mpr q] at tg; cases tg
            by_cases g1 : σ 185 0 i ≤ 0
            · rw [if_pos g1]; rfl
            rw [if_neg g1]
            by_cases g2 : vS σ V i < σ 200 0 0
            · rw [if_pos g2]; rfl
            rw [if_neg g2]
            by_cases g3 : σ 187 0 i = -1
            · rw [if_pos g3, if_neg (fun g4 => nt ⟨g1, g2, g3, g4⟩)]; rfl
            · rw [if_neg g3]; rfl
        rw [bd_s cb]
        cases tgS σ V P i && (decide (σ 35 c 0 = 0) && !enS σ N i c) <;> rfl
      rw [bx_s (by rw [reqCon _ k1 k2, b2]; rfl), gd_t in24, gd_t in6, ci, cc, bd_s (tgC hfu I hi)]
      cases tg : tgS σ V P i with
      | false =>
        rw [bF]
        refine step_thr (c := 2) (v := 0) I (Or.inr (Or.inl rfl)) (by decide) rfl ⟨0, ?_⟩
        show f_X7_give fu σ (nI i) (nI c) = _
        rw [mh σ fr.rfl, tg]; exact thr _ (by decide)
      | true =>
        rw [bT]
        by_cases dead' : ¬ σ 35 c 0 = 0
        · rw [if_neg dead']
          refine step_thr (c := 2) (v := 0) I (Or.inr (Or.inl rfl)) (by decide) rfl ⟨0, ?_⟩
          show f_X7_give fu σ (nI i) (nI c) = _
          rw [mh σ fr.rfl, tg, decide_eq_false dead']; exact thr _ (by decide)
        have dead : σ 35 c 0 = 0 := Classical.byContradiction dead'
        rw [if_pos dead, bd_s en1]
        cases en : enS σ N i c with
        | true =>
          rw [bT]
          refine step_thr (c := 2) (v := 0) I (Or.inr (Or.inl rfl)) (by decide) rfl ⟨0, ?_⟩
          show f_X7_give fu σ (nI i) (nI c) = _
          rw [mh σ fr.rfl, tg, decide_eq_true dead, en]; exact thr _ (by decide)
        | false =>
          rw [bF]
          obtain ⟨np, nt⟩ := t2 tg
          obtain ⟨g1, g2, g3, g4⟩ := t1.mp tg
          obtain ⟨a1, a2, a3, a4, a5, a6, a7, a8, a9, a10⟩ := I.2.2.2.1 i (by omega)
          have w7 : σ 7 i 0 = -1 := by rw [← (a7 hi).2.1]; exact g3
          have w0 : ¬ wN σ i = 0 := fun q => by
            have := (wN_ok S.1 hi).2.2
            rw [this, q] at g1
            exact g1 (by decide)
          obtain ⟨q, Q⟩ := I.2.2.2.2.2.2.2.1.2 c (by omega)
          have eG := I.2.2.2.2.2.2.2.1.1
          have iq : i ∉ q := fun h => by
            have := ((Q.2.2.1 i).mp h).2.1
            rw [g4] at this
            exact absurd this (by decide)
          have pi0 : pB σ c i = false := by
            simp only [pB, g4]; rfl
          have ql : q.length < 24 := by
            have := cntN_lt hi pi0
            rw [Q.cnt] at this
            omega
          have cl : (nI q.length).toNatClampNeg = q.length := nI_clamp (by omega)
          obtain ⟨pc, pc1, pc2, pc3, pc4⟩ := k5 c hc
          have e33 : ¬ σ 33 c 0 = 0 := by rw [pc3]; exact nI_ne0 (by omega) (by omega)
          have e202 : σ 202 0 c = σ 33 c 0 := by rw [pc3, pc4]
          have add : f_X1_addToWrite fu (gU σ 7 i 0 (nI c)) c (nI i) = some (0, gU (gU (gU σ 7 i 0 (nI c)) 30 c q.length (nI i)) 32 c 0 (nI (q.length + 1))) := by
            unfold f_X1_addToWrite f_X1_addToWrite_b29
            simp only [gU_n, gU_e, Nat.reduceEqDiff, not_false_eq_true, Q.1]
            rw [if_neg (show ¬ (24 : Int32) ≤ nI q.length from nI_ge (b := 24) ql (by decide)), gd_t (inb_t ql (by decide)), cl, nI_1]
          rw [bd_s add]
          -- both go on; z: the months that the first one takes
          generalize hz : moS σ N V i (σ 33 c 0) = z
          have fin : ∀ τ μ : gSt, τ = (if q.length = 0 then gU (gU (gU (gU σ 7 i 0 (nI c)) 30 c q.length (nI i)) 32 c 0 (nI (q.length + 1))) 8 i 0 (σ 160 0 0 + z) else gU (gU (gU σ 7 i 0 (nI c)) 30 c q.length (nI i)) 32 c 0 (nI (q.length + 1))) →
              μ = (if q.length = 0 then gU (gU (gU (gU (gU (gU τ 209 0 0 0) 186 0 i 1) 187 0 i (nI c)) 189 0 i (nI G)) 206 0 0 (nI (G + 1))) 188 0 i (σ 160 0 0 + z) else gU (gU (gU (gU (gU τ 209 0 0 0) 186 0 i 1) 187 0 i (nI c)) 189 0 i (nI G)) 206 0 0 (nI (G + 1))) →
              fr [7, 8, 30, 32] σ τ ∧ f_X7_give fu τ (nI i) (nI c) = some (nI (q.length + 1), μ) ∧ μ 209 0 0 = 0 ∧ Inv μ N V P K (G + 1) := by
            intro τ μ hτ hμ
            have fτ : fr [7, 8, 30, 32] σ τ := by
              rw [hτ]; split <;> (repeat (first | exact fr.rfl | assumption | refine fr_gU ?_ (by decide) | refine fr_gR ?_ (by decide)))
            have rd : ∀ F, F ∉ [7, 8, 30, 32] → τ F = σ F := fun F h => fτ F h
            have fμ : fr [7, 8, 30, 32, 209, 186, 187, 189, 206, 188] σ μ := by
              have := fτ.mono (M := [7, 8, 30, 32, 209, 186, 187, 189, 206, 188]) (by decide)
              rw [hμ]; split <;> (repeat (first | exact fr.rfl | assumption | refine fr_gU ?_ (by decide) | refine fr_gR ?_ (by decide)))
            have cN : cntN (pB σ c) N = q.length := Q.cnt
            have S9 : sRel (gU τ 209 0 0 0) N V := (S.frm fτ (by decide)).frm (fr209 τ 0) (by decide)
            refine ⟨fτ, ?_, ?_, ?_⟩
            · rw [mh τ fτ, tg, decide_eq_true dead, en]
              show f_X7_give_b45 fu τ (nI i) (nI c) 0 = _
              unfold f_X7_give_b45 f_X7_give_b105
              have pb : pB (gU τ 209 0 0 0) c = pB σ c := by
                funext j
                simp only [pB, gU_n, gU_e, Nat.reduceEqDiff, not_false_eq_true, rd 186 (by decide), rd 187 (by decide)]
              have tw : f_X7_toWrite fu (gU τ 209 0 0 0) (nI c) = some (nI q.length, gU τ 209 0 0 0) := by
                have := toW_loop (fu := fu) (c := c) hN S9.nM fu 0 (Nat.zero_le _) (by omega)
                rw [pb, cN] at this
                exact this
              rw [goes0, if_neg (show ¬ (1 : Int32) = 0 by decide), bd_s tw, gd_t in24, gd_t in24, gd_t in24, ci]
              simp only [gU_n, gU_e, Nat.reduceEqDiff, not_false_eq_true, rd 206 (by decide), eG, nI_1]
              by_cases l0 : q.length = 0
              · rw [if_pos (by rw [l0]; rfl), hμ, if_pos l0]
                have Sb : sRel (gU (gU (gU (gU (gU τ 209 0 0 0) 186 0 i 1) 187 0 i (nI c)) 189 0 i (nI G)) 206 0 0 (nI (G + 1))) N V := S9.frm (L := [186, 187, 189, 206]) (by (repeat (first | exact fr.rfl | assumption | refine fr_gU ?_ (by decide) | refine fr_gR ?_ (by decide)))) (by decide)
                rw [bd_s (beginM hfu Sb hi (by omega) (by simp only [gU_n, gU_e, Nat.reduceEqDiff, not_false_eq_true, rd 202 (by decide)]; rw [e202]; exact e33))]
                simp only [gU_n, gU_e, Nat.reduceEqDiff, not_false_eq_true, rd 207 (by decide), rd 202 (by decide), e202]
                have tm : σ 207 0 0 = σ 160 0 0 := I.2.2.2.2.2.2.2.2.1
                have mo : moS (gU (gU (gU (gU (gU τ 209 0 0 0) 186 0 i 1) 187 0 i (nI c)) 189 0 i (nI G)) 206 0 0 (nI (G + 1))) N V i (σ 33 c 0) = z := by
                  have hf : fr [7, 8, 30, 32, 209, 186, 187, 189, 206] σ (gU (gU (gU (gU (gU τ 209 0 0 0) 186 0 i 1) 187 0 i (nI c)) 189 0 i (nI G)) 206 0 0 (nI (G + 1))) := by
                    have := fτ.mono (M := [7, 8, 30, 32, 209, 186, 187, 189, 206]) (by decide)
                    (repeat (first | exact fr.rfl | assumption | refine fr_gU ?_ (by decide) | refine fr_gR ?_ (by decide)))
                  rw [← hz]
                  unfold moS
                  rw [hf.colE (by decide)]
                rw [tm, mo]
              · rw [if_neg (nI_ne0 (by omega) (by omega)), hμ, if_neg l0]
            · rw [hμ]; split <;> simp only [gU_n, gU_e, Nat.reduceEqDiff, not_false_eq_true]
            · obtain ⟨i1, i2, i3, i4, i5, i6, i7, i8, i9, i10⟩ := I
              have r7 : ∀ j, μ 7 j 0 = if j = i then nI c else σ 7 j 0 := fun j => by
                have : μ 7 = τ 7 := by rw [hμ]; split <;> simp only [gU_n, gU_e, Nat.reduceEqDiff, not_false_eq_true]
                rw [this, hτ]
                by_cases ej : j = i
                · subst ej; rw [if_pos rfl]; split <;> simp only [gU_n, gU_e, Nat.reduceEqDiff, not_false_eq_true]
                · rw [if_neg ej]
                  split
                  · simp only [gU_n, gU_e, Nat.reduceEqDiff, not_false_eq_true]; rw [gU_i (by omega)]
                  · simp only [gU_n, gU_e, Nat.reduceEqDiff, not_false_eq_true]; rw [gU_i (by omega)]
              have r8 : ∀ j, μ 8 j 0 = if j = i ∧ q.length = 0 then σ 160 0 0 + z else σ 8 j 0 := fun j => by
                have : μ 8 = τ 8 := by rw [hμ]; split <;> simp only [gU_n, gU_e, Nat.reduceEqDiff, not_false_eq_true]
                rw [this, hτ]
                by_cases l0 : q.length = 0
                · rw [if_pos l0]
                  by_cases ej : j = i
                  · subst ej; rw [if_pos ⟨rfl, l0⟩, gU_e]
                  · rw [if_neg (fun h => ej h.1), gU_i (by omega)]; simp only [gU_n, gU_e, Nat.reduceEqDiff, not_false_eq_true]
                · rw [if_neg l0, if_neg (fun h => l0 h.2)]; simp only [gU_n, gU_e, Nat.reduceEqDiff, not_false_eq_true]
              have r186 : ∀ j, μ 186 0 j = if j = i then 1 else σ 186 0 j := fun j => by
                have : μ 186 = gU (gU τ 209 0 0 0) 186 0 i 1 186 := by rw [hμ]; split <;> simp only [gU_n, gU_e, Nat.reduceEqDiff, not_false_eq_true]
                rw [this]
                by_cases ej : j = i
                · subst ej; rw [if_pos rfl, gU_e]
                · rw [if_neg ej, gU_i (by omega)]; simp only [gU_n, gU_e, Nat.reduceEqDiff, not_false_eq_true, rd 186 (by decide)]
              have r187 : ∀ j, μ 187 0 j = if j = i then nI c else σ 187 0 j := fun j => by
                have : μ 187 = gU (gU (gU τ 209 0 0 0) 186 0 i 1) 187 0 i (nI c) 187 := by rw [hμ]; split <;> simp only [gU_n, gU_e, Nat.reduceEqDiff, not_false_eq_true]
                rw [this]
                by_cases ej : j = i
                · subst ej; rw [if_pos rfl, gU_e]
                · rw [if_neg ej, gU_i (by omega)]; simp only [gU_n, gU_e, Nat.reduceEqDiff, not_false_eq_true, rd 187 (by decide)]
              have r189 : ∀ j, μ 189 0 j = if j = i then nI G else σ 189 0 j := fun j => by
                have : μ 189 = gU (gU (gU (gU τ 209 0 0 0) 186 0 i 1) 187 0 i (nI c)) 189 0 i (nI G) 189 := by rw [hμ]; split <;> simp only [gU_n, gU_e, Nat.reduceEqDiff, not_false_eq_true]
                rw [this]
                by_cases ej : j = i
                · subst ej; rw [if_pos rfl, gU_e]
                · rw [if_neg ej, gU_i (by omega)]; simp only [gU_n, gU_e, Nat.reduceEqDiff, not_false_eq_true, rd 189 (by decide)]
              have r188 : ∀ j, μ 188 0 j = if j = i ∧ q.length = 0 then σ 160 0 0 + z else σ 188 0 j := fun j => by
                rw [hμ]
                by_cases l0 : q.length = 0
                · rw [if_pos l0]
                  by_cases ej : j = i
                  · subst ej; rw [if_pos ⟨rfl, l0⟩, gU_e]
                  · rw [if_neg (fun h => ej h.1), gU_i (by omega)]; simp only [gU_n, gU_e, Nat.reduceEqDiff, not_false_eq_true, rd 188 (by decide)]
                · rw [if_neg l0, if_neg (fun h => l0 h.2)]; simp only [gU_n, gU_e, Nat.reduceEqDiff, not_false_eq_true, rd 188 (by decide)]
              have r206 : μ 206 0 0 = nI (G + 1) := by rw [hμ]; split <;> simp only [gU_n, gU_e, Nat.reduceEqDiff, not_false_eq_true]
              have r32 : ∀ d, μ 32 d 0 = if d = c then nI (q.length + 1) else σ 32 d 0 := fun d => by
                have : μ 32 = τ 32 := by rw [hμ]; split <;> simp only [gU_n, gU_e, Nat.reduceEqDiff, not_false_eq_true]
                rw [this, hτ]
                by_cases ej : d = c
                · subst ej; rw [if_pos rfl]; split <;> simp only [gU_n, gU_e, Nat.reduceEqDiff, not_false_eq_true]
                · rw [if_neg ej]
                  split
                  · simp only [gU_n, gU_e, Nat.reduceEqDiff, not_false_eq_true]; rw [gU_i (by omega)]; simp only [gU_n, gU_e, Nat.reduceEqDiff, not_false_eq_true]
                  · rw [gU_i (by omega)]; simp only [gU_n, gU_e, Nat.reduceEqDiff, not_false_eq_true]
              have r30 : ∀ d m, μ 30 d m = if d = c ∧ m = q.length then nI i else σ 30 d m := fun d m => by
                have : μ 30 = τ 30 := by rw [hμ]; split <;> simp only [gU_n, gU_e, Nat.reduceEqDiff, not_false_eq_true]
                rw [this, hτ]
                by_cases ej : d = c ∧ m = q.length
                · rw [if_pos ej, ej.1, ej.2]
                  split <;> simp only [gU_n, gU_e, Nat.reduceEqDiff, not_false_eq_true]
                · rw [if_neg ej]
                  split
                  · simp only [gU_n, gU_e, Nat.reduceEqDiff, not_false_eq_true]; rw [gU_i ej]; simp only [gU_n, gU_e, Nat.reduceEqDiff, not_false_eq_true]
                  · simp only [gU_n, gU_e, Nat.reduceEqDiff, not_false_eq_true]; rw [gU_i ej]; simp only [gU_n, gU_e, Nat.reduceEqDiff, not_false_eq_true]
              have hp : prB μ = prB σ := by funext j; simp only [prB, fμ 11 (by decide)]
              have ht : txB μ = txB σ := by funext j; simp only [txB, fμ 9 (by decide)]
              have hn : ∀ j, j ≠ i → nthN μ j = nthN σ j := fun j hj => by simp only [nthN, r189, if_neg hj]
              refine ⟨i1.frm fμ (by decide), i2.frm fμ (by decide), i3.frm fμ (by decide), fun j hj => ?_, i5.frm fμ (by decide), i6.frm fμ (by decide), i7.frm fμ (by decide), ⟨r206, fun d hd => ?_⟩, i9.frm fμ (by decide), i10.frm fμ (by decide)⟩
              · obtain ⟨u1, u2, u3, u4, u5, u6, u7, u8, u9, u10⟩ := i4 j hj
                unfold aR
                rw [hp, ht, r7, r186, r187, r188, r8, fμ 11 (by decide), fμ 9 (by decide), fμ 10 (by decide), fμ 190 (by decide), fμ 5 (by decide), fμ 184 (by decide), show wN μ j = wN σ j by simp only [wN, fμ 185 (by decide)]]
                by_cases ej : j = i
                · subst ej
                  rw [if_pos rfl, if_pos rfl, if_pos rfl, np, nt]
                  refine ⟨by rw [u1, np], by rw [u2, nt], u3, u4, by unfold stV; simp only [cond_false]; rw [if_neg (m1_ne (by omega))], Or.inr ⟨c, hc, rfl⟩, fun _ => ⟨(u7 hi).1, rfl, ?_, fun q => absurd q w0⟩, fun q => by omega, fun q => (by cases q), fun q => (by cases q)⟩
                  rw [(u7 hi).2.2.1]
                · rw [if_neg ej, if_neg ej, if_neg ej, if_neg (fun h => ej h.1), if_neg (fun h => ej h.1)]
                  exact ⟨u1, u2, u3, u4, u5, u6, u7, u8, u9, u10⟩
              · by_cases ed : d = c
                · subst ed
                  obtain ⟨q1, q2, q3, q4, q5⟩ := Q
                  refine ⟨q ++ [i], by rw [r32, if_pos rfl, List.length_append]; rfl, fun k j hk => ?_, fun j => ?_, ?_, fun j hj => ?_⟩
                  · rw [r30]
                    rcases app_at hk with ⟨h1, h2⟩ | ⟨rfl, rfl⟩
                    · rw [if_neg (fun h => by omega)]; exact q2 k j h2
                    · rw [if_pos ⟨rfl, rfl⟩]
                  · rw [r186, r187, List.mem_append, List.mem_singleton]
                    by_cases ej : j = i
                    · subst ej
                      rw [if_pos rfl, if_pos rfl]
                      exact ⟨fun _ => ⟨hi, rfl, rfl⟩, fun _ => Or.inr rfl⟩
                    · rw [if_neg ej, if_neg ej, q3 j]
                      exact ⟨fun h => h.resolve_right ej, fun h => Or.inl h⟩
                  · rw [List.pairwise_append]
                    refine ⟨q4.imp_of_mem (fun {a b} ha hb h => ?_), List.pairwise_singleton _ _, fun a ha b hb => ?_⟩
                    · rw [hn a (fun e => iq (e ▸ ha)), hn b (fun e => iq (e ▸ hb))]; exact h
                    · rw [List.mem_singleton] at hb
                      subst hb
                      rw [hn a (fun e => iq (e ▸ ha))]
                      have : nthN μ b = G := by simp only [nthN, r189, if_pos]; exact nI_clamp (by omega)
                      rw [this]
                      exact (q5 a ha).2
                  · rw [List.mem_append, List.mem_singleton] at hj
                    rcases hj with hj | rfl
                    · have ne : j ≠ i := fun e => iq (e ▸ hj)
                      rw [hn j ne, r189, if_neg ne]
                      exact ⟨(q5 j hj).1, by have := (q5 j hj).2; omega⟩
                    · have : nthN μ j = G := by simp only [nthN, r189, if_pos]; exact nI_clamp (by omega)
                      rw [this, r189, if_pos rfl]
                      exact ⟨rfl, by omega⟩
                · obtain ⟨q', q1, q2, q3, q4, q5⟩ := i8.2 d hd
                  have iq' : i ∉ q' := fun h => by
                    have := ((q3 i).mp h).2.1
                    rw [g4] at this
                    exact absurd this (by decide)
                  refine ⟨q', by rw [r32, if_neg ed]; exact q1, fun k j hk => by rw [r30, if_neg (fun h => ed h.1)]; exact q2 k j hk, fun j => ?_, ?_, fun j hj => ?_⟩
                  · rw [r186, r187]
                    by_cases ej : j = i
                    · subst ej
                      rw [if_pos rfl, if_pos rfl]
                      exact ⟨fun h => absurd h iq', fun h => absurd ((nI_eq (by omega) (by omega)).mp h.2.2).symm ed⟩
                    · rw [if_neg ej, if_neg ej]; exact q3 j
                  · exact q4.imp_of_mem (fun {a b} ha hb h => by rw [hn a (fun e => iq' (e ▸ ha)), hn b (fun e => iq' (e ▸ hb))]; exact h)
                  · have ne : j ≠ i := fun e => iq' (e ▸ hj)
                    rw [hn j ne, r189, if_neg ne]
                    exact ⟨(q5 j hj).1, by have := (q5 j hj).2; omega⟩
          obtain ⟨f1, f2, f3, f4⟩ := fin _ _ rfl rfl
          refine ⟨0, nI (q.length + 1), _, nI (q.length + 1), _, ?_, f2, f3, fun _ => rfl, Or.inl rfl, N, V, P, K, G + 1, f4, Nat.le_refl _⟩
          unfold f_X6_give_b87
          simp only [gU_n, gU_e, Nat.reduceEqDiff, not_false_eq_true]
          by_cases l0 : q.length = 0
          · have bg : f_X6_beginFirst fu (gU (gU (gU σ 7 i 0 (nI c)) 30 c q.length (nI i)) 32 c 0 (nI (q.length + 1))) c = some (0, gU (gU (gU (gU σ 7 i 0 (nI c)) 30 c q.length (nI i)) 32 c 0 (nI (q.length + 1))) 8 i 0 (σ 160 0 0 + z)) := by
              have hf : fr [7, 30, 32] σ (gU (gU (gU σ 7 i 0 (nI c)) 30 c q.length (nI i)) 32 c 0 (nI (q.length + 1))) := by (repeat (first | exact fr.rfl | assumption | refine fr_gU ?_ (by decide) | refine fr_gR ?_ (by decide)))
              rw [beginC (n := q.length + 1) (h := i) hfu (S.frm hf (by decide)) hi (by simp only [gU_n, gU_e, Nat.reduceEqDiff, not_false_eq_true]) (by omega) (by omega) (by simp only [gU_n, gU_e, Nat.reduceEqDiff, not_false_eq_true]; rw [l0, gU_e]) (by simp only [gU_n, gU_e, Nat.reduceEqDiff, not_false_eq_true]; exact e33)]
              simp only [gU_n, gU_e, Nat.reduceEqDiff, not_false_eq_true]
              have mo : moS (gU (gU (gU σ 7 i 0 (nI c)) 30 c q.length (nI i)) 32 c 0 (nI (q.length + 1))) N V i (σ 33 c 0) = z := by
                rw [← hz]
                unfold moS
                rw [hf.colE (by decide)]
              rw [mo]
            rw [if_pos (by rw [l0]; rfl), bd_s bg, if_pos l0]
            simp only [gU_n, gU_e, Nat.reduceEqDiff, not_false_eq_true]
          · rw [if_neg (fun h => by have := (nI_eq (b := 1) (by omega) (by decide)).mp h; omega), if_neg l0]

/-! under, use, change, forbid, volume, contributor, quarrel, month, errata -/
theorem step_under {fu : Nat} {σ : gSt} {N V P K G : Nat} {x1 x2 : Int32} (I : Inv σ N V P K G) : stepX (cm3 2 0 1) (f_X6_under fu σ x1 x2) (fun σ1 => f_X7_under fu σ1 x1 x2) G := by
  have thr : ∀ y : Int32, ¬ y = 0 → f_X7_under_b34 fu σ x1 x2 y = some (0, gU σ 209 0 0 y) := fun y hy => by
    unfold f_X7_under_b34
    rw [goesX hy, if_pos rfl]
  unfold f_X6_under
  cases b1 : inb x1 10 with
  | false =>
    refine step_thr (c := 3) (v := 0) I (Or.inr (Or.inr rfl)) (by decide) (by rw [bx_x (n := 2) (by rw [reqSub, b1]; rfl)]) ⟨0, ?_⟩
    show f_X7_under fu σ x1 x2 = _
    unfold f_X7_under f_X7_under_b20
    rw [bd_s (isSub x1), b1, bF]; exact thr _ (by decide)
  | true =>
    obtain ⟨k, hk, rfl⟩ := inb_nI (by decide) b1
    have ck : (nI k).toNatClampNeg = k := nI_clamp (by omega : k < 2 ^ 31)
    rw [bx_s (by rw [reqSub, b1]; rfl)]
    have ok : (x2 = -1 ∨ ∃ a, a < 10 ∧ x2 = nI a) → stepX (cm3 2 0 1) (f_X6_under_b13 fu σ (nI k) x2) (fun σ1 => f_X7_under_b24 fu σ1 (nI k) x2) G := by
      intro hx
      unfold f_X6_under_b13 f_X7_under_b24
      by_cases lt : x2 < nI k
      · rw [if_pos lt, gd_t b1, gd_t b1, ck]
        have ge : ¬ nI k ≤ x2 := Int32.not_le.mpr lt
        have u := I.2.2.2.2.2.1
        refine ⟨0, _, _, σ 154 0 k, gU (gU (gU σ 154 0 k x2) 209 0 0 0) 195 0 k x2, rfl, ?_, by simp only [gU_n, gU_e, Nat.reduceEqDiff, not_false_eq_true]; rfl, fun _ => rfl, Or.inl rfl, N, V, P, K, G, ?_, by omega⟩
        · show (if nI k ≤ x2 then _ else _) = _
          rw [if_neg ge]
          unfold f_X7_under_b34
          rw [goes0, if_neg (by decide), gd_t b1, gd_t b1, ck]
          simp only [gU_n, gU_e, Nat.reduceEqDiff, not_false_eq_true]
          rw [(u.1 k hk).1]
        · have h : fr [154, 209, 195] σ (gU (gU (gU σ 154 0 k x2) 209 0 0 0) 195 0 k x2) := by (repeat (first | exact fr.rfl | assumption | refine fr_gU ?_ (by decide) | refine fr_gR ?_ (by decide)))
          obtain ⟨i1, i2, i3, i4, i5, i6, i7, i8, i9, i10⟩ := I
          refine ⟨i1.frm h (by decide), i2.frm h (by decide), i3.frm h (by decide), i4.frm h (by decide), i5.frm h (by decide), ⟨fun j hj => ?_, fun f hf => ?_⟩, i7.frm h (by decide), i8.frm h (by decide), i9.frm h (by decide), i10.frm h (by decide)⟩
          · by_cases ej : j = k
            · subst ej
              simp only [gU_n, gU_e, Nat.reduceEqDiff, not_false_eq_true]
              refine ⟨trivial, ?_⟩
              rcases hx with hx | ⟨a, ha, rfl⟩
              · exact Or.inl hx
              · exact Or.inr ⟨a, by have := (nI_ltI (by omega) (by omega)).mp lt; omega, rfl⟩
            · rw [gU_i (by omega)]; simp only [gU_n, gU_e, Nat.reduceEqDiff, not_false_eq_true]; rw [gU_i (by omega)]; exact u.1 j hj
          · simp only [gU_n, gU_e, Nat.reduceEqDiff, not_false_eq_true]; exact u.2 f hf
      · rw [if_neg lt]
        refine step_thr (c := 1) (v := 0) I (Or.inl rfl) (by decide) rfl ⟨0, ?_⟩
        show (if nI k ≤ x2 then _ else _) = _
        rw [if_pos (Int32.not_lt.mp lt)]; exact thr _ (by decide)
    by_cases e2 : x2 = -1
    · rw [if_pos e2]
      have m : (fun σ1 => f_X7_under fu σ1 (nI k) x2) = fun σ1 => f_X7_under_b24 fu σ1 (nI k) x2 := by
        funext s
        unfold f_X7_under
        rw [bd_s (isSub _), b1, bT, if_pos e2]
      rw [m]; exact ok (Or.inl e2)
    · rw [if_neg e2]
      cases b2 : inb x2 10 with
      | false =>
        refine step_thr (c := 3) (v := 0) I (Or.inr (Or.inr rfl)) (by decide) (by rw [bx_x (n := 2) (by rw [reqSub, b2]; rfl)]) ⟨0, ?_⟩
        show f_X7_under fu σ (nI k) x2 = _
        unfold f_X7_under f_X7_under_b20
        rw [bd_s (isSub _), b1, bT, if_neg e2, bd_s (isSub _), b2, bF]; exact thr _ (by decide)
      | true =>
        rw [bx_s (by rw [reqSub, b2]; rfl)]
        have m : (fun σ1 => f_X7_under fu σ1 (nI k) x2) = fun σ1 => f_X7_under_b24 fu σ1 (nI k) x2 := by
          funext s
          unfold f_X7_under
          rw [bd_s (isSub _), b1, bT, if_neg e2, bd_s (isSub _), b2, bT]
        rw [m]; exact ok (Or.inr (inb_nI (by decide) b2))
theorem step_use {fu : Nat} {σ : gSt} {N V P K G : Nat} {x1 x2 : Int32} (I : Inv σ N V P K G) : stepX (cm3 0 2 1) (f_X6_use fu σ x1 x2) (fun σ1 => f_X7_use fu σ1 x1 x2) G := by
  have S := I.1
  have hN := S.hN
  have thr : ∀ y : Int32, ¬ y = 0 → f_X7_use_b54 fu σ x1 x2 y = some (0, gU σ 209 0 0 y) := fun y hy => by
    unfold f_X7_use_b54
    rw [goesX hy, if_pos rfl]
  unfold f_X6_use f_X6_use_b30
  cases b1 : inb x1 N with
  | false =>
    refine step_thr (c := 3) (v := 0) I (Or.inr (Or.inr rfl)) (by decide) (by rw [bx_x (n := 2) (by rw [reqArt x1 hN S.nC, b1]; rfl)]) ⟨0, ?_⟩
    show f_X7_use fu σ x1 x2 = _
    unfold f_X7_use f_X7_use_b19 f_X7_use_b20
    rw [bd_s (isArt x1 hN S.nM), b1, bF, if_pos rfl]; exact thr _ (by decide)
  | true =>
    obtain ⟨i, hi, rfl⟩ := inb_nI (by omega) b1
    rw [bx_s (by rw [reqArt _ hN S.nC, b1]; rfl)]
    cases b2 : inb x2 8 with
    | false =>
      refine step_thr (c := 3) (v := 0) I (Or.inr (Or.inr rfl)) (by decide) (by rw [bx_x (n := 2) (by rw [reqFac, b2]; rfl)]) ⟨0, ?_⟩
      show f_X7_use fu σ (nI i) x2 = _
      unfold f_X7_use f_X7_use_b19 f_X7_use_b20
      rw [bd_s (isArt _ hN S.nM), b1, bT, bd_s (isFac _), b2, bF, if_pos rfl]; exact thr _ (by decide)
    | true =>
      obtain ⟨f, hf, rfl⟩ := inb_nI (by decide) b2
      have ci : (nI i).toNatClampNeg = i := nI_clamp (by omega : i < 2 ^ 31)
      have cf : (nI f).toNatClampNeg = f := nI_clamp (by omega : f < 2 ^ 31)
      have in24 : inb (nI i) 24 = true := inb_t (by omega) (by decide)
      obtain ⟨a1, a2, a3, a4, a5, a6, a7, a8, a9, a10⟩ := I.2.2.2.1 i (by omega)
      obtain ⟨w9, w6, w185⟩ := wN_ok S.1 hi
      obtain ⟨-, f2⟩ := I.2.2.2.2.1 i (by omega)
      obtain ⟨g1, g2, g3⟩ := f2 f hf
      have mh : ∀ s : gSt, s 183 = σ 183 → s 186 = σ 186 → s 185 = σ 185 → f_X7_use fu s (nI i) (nI f) = cond (prB σ i || Nat.beq (wN σ i) 0) (f_X7_use_b54 fu s (nI i) (nI f) 2) (f_X7_use_b54 fu s (nI i) (nI f) 0) := fun s e1 e2 e3 => by
        unfold f_X7_use f_X7_use_b20 f_X7_use_b49
        rw [bd_s (isArt _ hN (by rw [e1]; exact S.nM)), b1, bT, bd_s (isFac _), b2, bT, if_neg (by decide), gd_t in24, gd_t in24, ci, e2, e3, a5, w185]
        cases ep : prB σ i with
        | true => rw [if_pos (stV3.mpr rfl)]; rfl
        | false =>
          rw [if_neg (fun q => by have := stV3.mp q; cases this)]
          cases er : Nat.beq (wN σ i) 0 with
          | true => rw [if_pos (by rw [Nat.eq_of_beq_eq_true er]; rfl)]; rfl
          | false =>
            rw [if_neg (fun q => by
              have := (nI_eq (b := 0) (by omega) (by decide)).mp q
              rw [this] at er; cases er)]; rfl
      rw [bx_s (by rw [reqFac, b2]; rfl), gd_t in24, ci, a1]
      cases ep : prB σ i with
      | true =>
        rw [bT]
        refine step_thr (c := 2) (v := 0) I (Or.inr (Or.inl rfl)) (by decide) rfl ⟨0, ?_⟩
        show f_X7_use fu σ (nI i) (nI f) = _
        rw [mh σ rfl rfl rfl, ep]; exact thr _ (by decide)
      | false =>
        rw [bF]
        have bl : f_X0_isBlind fu σ i = some (bI (Nat.beq (wN σ i) 0), σ) := by
          unfold f_X0_isBlind f_X0_isBlind_b12
          rw [w6]
          cases er : Nat.beq (wN σ i) 0 with
          | true => rw [if_pos (by rw [Nat.eq_of_beq_eq_true er]; rfl)]; rfl
          | false =>
            rw [if_neg (fun q => by
              have := (nI_eq (b := 0) (by omega) (by decide)).mp q
              rw [this] at er; cases er)]; rfl
        rw [bd_s bl]
        cases er : Nat.beq (wN σ i) 0 with
        | true =>
          rw [bT]
          refine step_thr (c := 2) (v := 0) I (Or.inr (Or.inl rfl)) (by decide) rfl ⟨0, ?_⟩
          show f_X7_use fu σ (nI i) (nI f) = _
          rw [mh σ rfl rfl rfl, ep, er]; exact thr _ (by decide)
        | false =>
          rw [bF, gd_true, cf]
          have in192 : inb (nI (8 * i + f)) 192 = true := inb_t (by omega) (by decide)
          have c8 : (nI (8 * i + f)).toNatClampNeg = 8 * i + f := nI_clamp (by omega)
          have hv : ∃ v : Int32, (if σ 2 i f = 0 then f_X6_use_b54 fu σ (nI f) i 1 else f_X6_use_b54 fu σ (nI f) i 0) = some (0, v, gU σ 2 i f 1) ∧ f_X7_use fu (gU σ 2 i f 1) (nI i) (nI f) = some (v, gU (gU (gU σ 2 i f 1) 209 0 0 0) 193 0 (8 * i + f) 1) := by
            rw [mh _ (by simp only [gU_n, gU_e, Nat.reduceEqDiff, not_false_eq_true]) (by simp only [gU_n, gU_e, Nat.reduceEqDiff, not_false_eq_true]) (by simp only [gU_n, gU_e, Nat.reduceEqDiff, not_false_eq_true]), ep, er]
            show ∃ v, _ ∧ f_X7_use_b54 fu (gU σ 2 i f 1) (nI i) (nI f) 0 = _
            unfold f_X7_use_b54 f_X7_use_b97
            rw [goes0, if_neg (show ¬ (1 : Int32) = 0 by decide), nI8, gd_t in192, gd_t in192, c8]
            simp only [gU_n, gU_e, Nat.reduceEqDiff, not_false_eq_true]
            rw [g2]
            unfold f_X6_use_b54
            by_cases u : σ 2 i f = 0
            · rw [if_pos u, if_pos u, gd_t b2, cf]; exact ⟨1, rfl, rfl⟩
            · rw [if_neg u, if_neg u, gd_t b2, cf]; exact ⟨0, rfl, rfl⟩
          obtain ⟨v, v1, v2⟩ := hv
          refine ⟨0, v, _, v, _, v1, v2, by simp only [gU_n, gU_e, Nat.reduceEqDiff, not_false_eq_true]; rfl, fun _ => rfl, Or.inl rfl, N, V, P, K, G, ?_, by omega⟩
          have h : fr [2, 209, 193] σ (gU (gU (gU σ 2 i f 1) 209 0 0 0) 193 0 (8 * i + f) 1) := by (repeat (first | exact fr.rfl | assumption | refine fr_gU ?_ (by decide) | refine fr_gR ?_ (by decide)))
          obtain ⟨i1, i2, i3, i4, i5, i6, i7, i8, i9, i10⟩ := I
          refine ⟨i1.frm h (by decide), i2.frm h (by decide), i3.frm h (by decide), i4.frm h (by decide), fun j hj => ⟨?_, fun f' hf' => ?_⟩, i6.frm h (by decide), i7.frm h (by decide), i8.frm h (by decide), i9.frm h (by decide), i10.frm h (by decide)⟩
          · simp only [prB, rcN, gU_n, gU_e, Nat.reduceEqDiff, not_false_eq_true]; exact (i5 j hj).1
          · simp only [gU_n, gU_e, Nat.reduceEqDiff, not_false_eq_true]
            by_cases ej : j = i ∧ f' = f
            · obtain ⟨rfl, rfl⟩ := ej
              simp only [gU_n, gU_e, Nat.reduceEqDiff, not_false_eq_true]
              exact ⟨by decide, trivial, g3⟩
            · rw [gU_i (by omega), gU_i (by omega)]
              simp only [gU_n, gU_e, Nat.reduceEqDiff, not_false_eq_true]
              exact (i5 j hj).2 f' hf'
theorem step_change {fu : Nat} {σ : gSt} {N V P K G : Nat} {x1 x2 : Int32} (I : Inv σ N V P K G) : stepX (cm3 0 0 1) (f_X6_change fu σ x1 x2) (fun σ1 => f_X7_change fu σ1 x1 x2) G := by
  unfold f_X6_change
  cases b1 : inb x1 8 with
  | false =>
    refine step_thr (c := 3) (v := 0) I (Or.inr (Or.inr rfl)) (by decide) (by rw [bx_x (n := 2) (by rw [reqFac, b1]; rfl)]) ⟨0, ?_⟩
    show f_X7_change fu σ x1 x2 = _
    unfold f_X7_change f_X7_change_b13
    rw [bd_s (isFac x1), b1, bF, goesX (by decide), if_pos rfl]
    rfl
  | true =>
    obtain ⟨f, hf, rfl⟩ := inb_nI (by decide) b1
    have cf : (nI f).toNatClampNeg = f := nI_clamp (by omega : f < 2 ^ 31)
    have u := I.2.2.2.2.2.1
    rw [bx_s (by rw [reqFac, b1]; rfl), gd_true, gd_true, cf]
    refine ⟨0, _, _, σ 155 0 f, gU (gU (gU σ 155 0 f x2) 209 0 0 0) 196 0 f x2, rfl, ?_, by simp only [gU_n, gU_e, Nat.reduceEqDiff, not_false_eq_true]; rfl, fun _ => rfl, Or.inl rfl, N, V, P, K, G, ?_, by omega⟩
    · show f_X7_change fu (gU σ 155 0 f x2) (nI f) x2 = _
      unfold f_X7_change f_X7_change_b13
      rw [bd_s (isFac _), b1, bT, goes0, if_neg (by decide), gd_true, gd_true, cf]
      simp only [gU_n, gU_e, Nat.reduceEqDiff, not_false_eq_true]
      rw [u.2 f hf]
    · have h : fr [155, 209, 196] σ (gU (gU (gU σ 155 0 f x2) 209 0 0 0) 196 0 f x2) := by (repeat (first | exact fr.rfl | assumption | refine fr_gU ?_ (by decide) | refine fr_gR ?_ (by decide)))
      obtain ⟨i1, i2, i3, i4, i5, i6, i7, i8, i9, i10⟩ := I
      refine ⟨i1.frm h (by decide), i2.frm h (by decide), i3.frm h (by decide), i4.frm h (by decide), i5.frm h (by decide), ⟨fun j hj => ?_, fun g hg => ?_⟩, i7.frm h (by decide), i8.frm h (by decide), i9.frm h (by decide), i10.frm h (by decide)⟩
      · simp only [gU_n, gU_e, Nat.reduceEqDiff, not_false_eq_true]; exact u.1 j hj
      · by_cases eg : g = f
        · subst eg; simp only [gU_n, gU_e, Nat.reduceEqDiff, not_false_eq_true]
        · rw [gU_i (by omega)]; simp only [gU_n, gU_e, Nat.reduceEqDiff, not_false_eq_true]; rw [gU_i (by omega)]; exact u.2 g hg
theorem step_forbid {fu : Nat} {σ : gSt} {N V P K G : Nat} {x1 x2 : Int32} (hx : b01 x2 = true) (I : Inv σ N V P K G) : stepX (cm3 0 2 1) (f_X6_forbid fu σ x1 x2) (fun σ1 => f_X7_forbid fu σ1 x1 x2) G := by
  have S := I.1
  have hN := S.hN
  unfold f_X6_forbid
  cases b1 : inb x1 N with
  | false =>
    refine step_thr (c := 3) (v := 0) I (Or.inr (Or.inr rfl)) (by decide) (by rw [bx_x (n := 2) (by rw [reqArt x1 hN S.nC, b1]; rfl)]) ⟨0, ?_⟩
    show f_X7_forbid fu σ x1 x2 = _
    unfold f_X7_forbid f_X7_forbid_b28
    rw [bd_s (isArt x1 hN S.nM), b1, bF, goesX (by decide), if_pos rfl]
    rfl
  | true =>
    obtain ⟨i, hi, rfl⟩ := inb_nI (by omega) b1
    have ci : (nI i).toNatClampNeg = i := nI_clamp (by omega : i < 2 ^ 31)
    have in24 : inb (nI i) 24 = true := inb_t (by omega) (by decide)
    obtain ⟨a1, a2, a3, a4, a5, a6, a7, a8, a9, a10⟩ := I.2.2.2.1 i (by omega)
    rw [bx_s (by rw [reqArt _ hN S.nC, b1]; rfl), gd_t in24, ci, a1]
    cases ep : prB σ i with
    | true =>
      rw [bT]
      refine step_thr (c := 2) (v := 0) I (Or.inr (Or.inl rfl)) (by decide) rfl ⟨0, ?_⟩
      show f_X7_forbid fu σ (nI i) x2 = _
      unfold f_X7_forbid f_X7_forbid_b28
      rw [bd_s (isArt _ hN S.nM), b1, bT, gd_t in24, ci, a5, if_pos (stV3.mpr ep), goesX (by decide), if_pos rfl]
      rfl
    | false =>
      rw [bF, gd_t in24, gd_t in24, gd_t hx, gd_t a3]
      refine ⟨0, _, _, σ 10 i 0, gU (gU (gU σ 10 i 0 x2) 209 0 0 0) 190 0 i x2, rfl, ?_, by simp only [gU_n, gU_e, Nat.reduceEqDiff, not_false_eq_true]; rfl, fun _ => rfl, Or.inl rfl, N, V, P, K, G, ?_, by omega⟩
      · show f_X7_forbid fu (gU σ 10 i 0 x2) (nI i) x2 = _
        unfold f_X7_forbid f_X7_forbid_b28
        rw [bd_s (isArt _ hN (by simp only [gU_n, gU_e, Nat.reduceEqDiff, not_false_eq_true]; exact S.nM)), b1, bT, gd_t in24, ci]
        simp only [gU_n, gU_e, Nat.reduceEqDiff, not_false_eq_true]
        rw [a5, if_neg (fun q => by have := stV3.mp q; rw [ep] at this; cases this), goes0, if_neg (by decide), gd_t in24, gd_t in24, gd_t hx, gd_t (by simp only [gU_n, gU_e, Nat.reduceEqDiff, not_false_eq_true]; rw [a4]; exact a3)]
        simp only [gU_n, gU_e, Nat.reduceEqDiff, not_false_eq_true]
        rw [a4]
      · have h : fr [10, 209, 190] σ (gU (gU (gU σ 10 i 0 x2) 209 0 0 0) 190 0 i x2) := by (repeat (first | exact fr.rfl | assumption | refine fr_gU ?_ (by decide) | refine fr_gR ?_ (by decide)))
        obtain ⟨i1, i2, i3, i4, i5, i6, i7, i8, i9, i10⟩ := I
        refine ⟨i1.frm h (by decide), i2.frm h (by decide), i3.frm h (by decide), fun j hj => ?_, i5.frm h (by decide), i6.frm h (by decide), i7.frm h (by decide), i8.frm h (by decide), i9.frm h (by decide), i10.frm h (by decide)⟩
        by_cases ej : j = i
        · subst ej
          unfold aR prB txB wN
          simp only [gU_n, gU_e, Nat.reduceEqDiff, not_false_eq_true]
          exact ⟨a1, a2, hx, trivial, a5, a6, a7, a8, a9, a10⟩
        · refine (i4 j hj).cp ?_ ?_
          · simp [gU, ej]
          · simp [gU, ej]
theorem step_contributor {fu : Nat} {σ : gSt} {N V P K G : Nat} {x1 : Int32} (I : Inv σ N V P K G) : stepX (cm3 1 2 0) (f_X6_contributor fu σ x1) (fun σ1 => f_X7_contributor fu σ1 x1) G := by
  obtain ⟨k1, k2, k3, k4, k5⟩ := I.2.2.2.2.2.2.1
  have pc : (x1 < 1 ∨ 9 < x1) ∨ ∃ p, 1 ≤ p ∧ p ≤ 9 ∧ x1 = nI p := by
    by_cases h1 : x1 < 1
    · exact Or.inl (Or.inl h1)
    · by_cases h2 : 9 < x1
      · exact Or.inl (Or.inr h2)
      · right
        obtain ⟨j, hj, rfl⟩ := nI_of (x := x1) (fun q => h1 (Int32.lt_trans q (by decide)))
        have e1 : ¬ j < 1 := fun q => h1 (nI_lt q (by decide))
        have e2 : ¬ 9 < j := fun q => h2 (nI_lt q hj)
        exact ⟨j, by omega, by omega, rfl⟩
  rcases pc with bad | ⟨p, p1, p2, rfl⟩
  · refine step_thr (c := 1) (v := 0) I (Or.inl rfl) (by decide) ?_ ⟨0, ?_⟩
    · unfold f_X6_contributor f_X6_contributor_b11
      by_cases h1 : x1 < 1
      · rw [if_pos h1]
      · rw [if_neg h1, if_neg (Int32.not_le.mpr (bad.resolve_left h1))]
    · show f_X7_contributor fu σ x1 = _
      unfold f_X7_contributor f_X7_contributor_b29 f_X7_isIn f_X7_isIn_b14 f_X7_isIn_b15
      have e : (if x1 < 1 then gd (b01 0) (some ((0 : Int32), σ)) else if 9 < x1 then gd (b01 0) (some ((0 : Int32), σ)) else gd (b01 1) (some ((1 : Int32), σ))) = some (0, σ) := by
        by_cases h1 : x1 < 1
        · rw [if_pos h1]; rfl
        · rw [if_neg h1, if_pos (bad.resolve_left h1)]; rfl
      rw [bd_s e, if_pos rfl, goesX (by decide), if_pos rfl]
      rfl
  · have n1 : ¬ nI p < 1 := nI_nlt (b := 1) p1 (by omega)
    have n9 : nI p ≤ 9 := nI_le (b := 9) p2 (by decide)
    have n9' : ¬ 9 < nI p := nI_nlt (a := 9) p2 (by decide)
    have mh : ∀ s : gSt, f_X7_contributor fu s (nI p) = if s 201 0 0 = 6 then f_X7_contributor_b29 fu s (nI p) 2 else f_X7_contributor_b29 fu s (nI p) 0 := fun s => by
      unfold f_X7_contributor f_X7_isIn f_X7_isIn_b14 f_X7_isIn_b15
      rw [if_neg n1, if_neg n9', gd_t (by decide), bd_s rfl, if_neg (by decide)]
    unfold f_X6_contributor
    rw [if_neg n1, if_pos n9, k2]
    by_cases full : 6 ≤ K
    · rw [if_neg (show ¬ _ < (6 : Int32) from nI_nlt (b := 6) full (by omega))]
      refine step_thr (c := 2) (v := 0) I (Or.inr (Or.inl rfl)) (by decide) rfl ⟨0, ?_⟩
      show f_X7_contributor fu σ (nI p) = _
      rw [mh, k3, if_pos (show nI K = 6 by rw [show K = 6 by omega]; rfl)]
      unfold f_X7_contributor_b29
      rw [goesX (by decide), if_pos rfl]
      rfl
    · have cK : (nI K).toNatClampNeg = K := nI_clamp (by omega : K < 2 ^ 31)
      have in6 : inb (nI K) 6 = true := inb_t (by omega) (by decide)
      rw [if_pos (show nI K < (6 : Int32) from nI_lt (b := 6) (by omega) (by decide)), gd_t in6]
      simp only [gU_n, gU_e, Nat.reduceEqDiff, not_false_eq_true, k2, cK, nI_1]
      refine ⟨0, _, _, nI K, gU (gU (gU (gU (gU σ 33 K 0 (nI p)) 159 0 0 (nI (K + 1))) 209 0 0 0) 202 0 K (nI p)) 201 0 0 (nI (K + 1)), rfl, ?_, by simp only [gU_n, gU_e, Nat.reduceEqDiff, not_false_eq_true]; rfl, fun _ => rfl, Or.inl rfl, N, V, P, K + 1, G, ?_, by omega⟩
      · show f_X7_contributor fu (gU (gU σ 33 K 0 (nI p)) 159 0 0 (nI (K + 1))) (nI p) = _
        rw [mh]
        simp only [gU_n, gU_e, Nat.reduceEqDiff, not_false_eq_true]
        rw [k3, if_neg (fun q => by have := (nI_eq (b := 6) (by omega) (by decide)).mp q; omega)]
        unfold f_X7_contributor_b29
        rw [goes0, if_neg (by decide)]
        simp only [gU_n, gU_e, Nat.reduceEqDiff, not_false_eq_true, k3, in6, gd_true, cK, nI_1, nI_pred]
      · have h : fr [33, 159, 209, 202, 201] σ (gU (gU (gU (gU (gU σ 33 K 0 (nI p)) 159 0 0 (nI (K + 1))) 209 0 0 0) 202 0 K (nI p)) 201 0 0 (nI (K + 1))) := by (repeat (first | exact fr.rfl | assumption | refine fr_gU ?_ (by decide) | refine fr_gR ?_ (by decide)))
        obtain ⟨i1, i2, i3, i4, i5, i6, i7, i8, i9, i10⟩ := I
        refine ⟨i1.frm h (by decide), i2.frm h (by decide), i3.frm h (by decide), fun j hj => ?_, i5.frm h (by decide), i6.frm h (by decide), ⟨by omega, by simp only [gU_n, gU_e, Nat.reduceEqDiff, not_false_eq_true], by simp only [gU_n, gU_e, Nat.reduceEqDiff, not_false_eq_true], fun c hc => ?_, fun c hc => ?_⟩, i8.frm h (by decide), i9.frm h (by decide), i10.frm h (by decide)⟩
        · obtain ⟨a1, a2, a3, a4, a5, a6, a7, a8, a9, a10⟩ := i4 j hj
          have A : aR σ N (K + 1) j := ⟨a1, a2, a3, a4, a5, a6.imp (fun q => q) (fun ⟨c, q1, q2⟩ => ⟨c, by omega, q2⟩), a7, a8, a9, a10⟩
          refine A.cp ?_ ?_
          · simp [gU]
          · simp [gU]
        · simp only [gU_n, gU_e, Nat.reduceEqDiff, not_false_eq_true]; exact k4 c hc
        · by_cases ec : c = K
          · subst ec; exact ⟨p, p1, p2, by simp only [gU_n, gU_e, Nat.reduceEqDiff, not_false_eq_true], by simp only [gU_n, gU_e, Nat.reduceEqDiff, not_false_eq_true]⟩
          · simp only [gU_n, gU_e, Nat.reduceEqDiff, not_false_eq_true]; rw [gU_i (by omega), gU_i (by omega)]; simp only [gU_n, gU_e, Nat.reduceEqDiff, not_false_eq_true]; exact k5 c (by omega)
theorem nI6 (h k : Nat) : (6 : Int32) * nI h + nI k = nI (6 * h + k) := by
  rw [show (6 : Int32) = nI 6 from rfl, nI_mul, nI_add]
theorem step_quarrel {fu : Nat} {σ : gSt} {N V P K G : Nat} {x1 x2 : Int32} (I : Inv σ N V P K G) : stepX (cm3 2 0 1) (f_X6_quarrel fu σ x1 x2) (fun σ1 => f_X7_quarrel fu σ1 x1 x2) G := by
  obtain ⟨k1, k2, k3, k4, k5⟩ := I.2.2.2.2.2.2.1
  have thr : ∀ y : Int32, ¬ y = 0 → f_X7_quarrel_b41 fu σ x1 x2 y = some (0, gU σ 209 0 0 y) := fun y hy => by
    unfold f_X7_quarrel_b41
    rw [goesX hy, if_pos rfl]
  unfold f_X6_quarrel
  cases b1 : inb x1 K with
  | false =>
    refine step_thr (c := 3) (v := 0) I (Or.inr (Or.inr rfl)) (by decide) (by rw [bx_x (n := 2) (by rw [reqCon x1 k1 k2, b1]; rfl)]) ⟨0, ?_⟩
    show f_X7_quarrel fu σ x1 x2 = _
    unfold f_X7_quarrel f_X7_quarrel_b20 f_X7_quarrel_b21
    rw [bd_s (isCon x1 k1 k3), b1, bF, if_pos rfl]; exact thr _ (by decide)
  | true =>
    obtain ⟨i, hi, rfl⟩ := inb_nI (by omega) b1
    rw [bx_s (by rw [reqCon _ k1 k2, b1]; rfl)]
    cases b2 : inb x2 K with
    | false =>
      refine step_thr (c := 3) (v := 0) I (Or.inr (Or.inr rfl)) (by decide) (by rw [bx_x (n := 2) (by rw [reqCon x2 k1 k2, b2]; rfl)]) ⟨0, ?_⟩
      show f_X7_quarrel fu σ (nI i) x2 = _
      unfold f_X7_quarrel f_X7_quarrel_b20 f_X7_quarrel_b21
      rw [bd_s (isCon _ k1 k3), b1, bT, bd_s (isCon _ k1 k3), b2, bF, if_pos rfl]; exact thr _ (by decide)
    | true =>
      obtain ⟨j, hj, rfl⟩ := inb_nI (by omega) b2
      rw [bx_s (by rw [reqCon _ k1 k2, b2]; rfl)]
      have ci : (nI i).toNatClampNeg = i := nI_clamp (by omega : i < 2 ^ 31)
      have cj : (nI j).toNatClampNeg = j := nI_clamp (by omega : j < 2 ^ 31)
      have in1 : inb (nI i) 6 = true := inb_t (by omega) (by decide)
      have in2 : inb (nI j) 6 = true := inb_t (by omega) (by decide)
      have mh : ∀ s : gSt, s 201 = σ 201 → f_X7_quarrel fu s (nI i) (nI j) = if nI i = nI j then f_X7_quarrel_b41 fu s (nI i) (nI j) 2 else f_X7_quarrel_b41 fu s (nI i) (nI j) 0 := fun s e => by
        unfold f_X7_quarrel f_X7_quarrel_b21
        rw [bd_s (isCon _ k1 (by rw [e]; exact k3)), b1, bT, bd_s (isCon _ k1 (by rw [e]; exact k3)), b2, bT, if_neg (by decide)]
      by_cases eq : nI i = nI j
      · rw [if_pos eq]
        refine step_thr (c := 1) (v := 0) I (Or.inl rfl) (by decide) rfl ⟨0, ?_⟩
        show f_X7_quarrel fu σ (nI i) (nI j) = _
        rw [mh σ rfl, if_pos eq]; exact thr _ (by decide)
      · have hne : i ≠ j := fun q => eq (by rw [q])
        have q1 := (k4 i (by omega)).2.2.2 j (by omega)
        rw [if_neg eq, gd_t in1, gd_t in2, gd_t in1, gd_t in2, gd_t in2, gd_t in1, ci, cj, gd_t q1.1]
        refine ⟨0, _, _, σ 31 i j, gU (gU (gU (gU (gU σ 31 i j 1) 31 j i 1) 209 0 0 0) 204 0 (6 * i + j) 1) 204 0 (6 * j + i) 1, rfl, ?_, by simp only [gU_n, gU_e, Nat.reduceEqDiff, not_false_eq_true]; rfl, fun _ => rfl, Or.inl rfl, N, V, P, K, G, ?_, by omega⟩
        · show f_X7_quarrel fu (gU (gU σ 31 i j 1) 31 j i 1) (nI i) (nI j) = _
          have in36 : inb (nI (6 * i + j)) 36 = true := inb_t (by omega) (by decide)
          have in36' : inb (nI (6 * j + i)) 36 = true := inb_t (by omega) (by decide)
          rw [mh _ (by simp only [gU_n, gU_e, Nat.reduceEqDiff, not_false_eq_true]), if_neg eq]
          unfold f_X7_quarrel_b41
          rw [goes0, if_neg (by decide), nI6, nI6, gd_t in36, gd_t in36, gd_t in36', nI_clamp (by omega : 6 * i + j < 2 ^ 31), nI_clamp (by omega : 6 * j + i < 2 ^ 31)]
          simp only [gU_n, gU_e, Nat.reduceEqDiff, not_false_eq_true]
          rw [q1.2, gd_t q1.1]
        · have h : fr [31, 209, 204] σ (gU (gU (gU (gU (gU σ 31 i j 1) 31 j i 1) 209 0 0 0) 204 0 (6 * i + j) 1) 204 0 (6 * j + i) 1) := by (repeat (first | exact fr.rfl | assumption | refine fr_gU ?_ (by decide) | refine fr_gR ?_ (by decide)))
          obtain ⟨i1, i2, i3, i4, i5, i6, i7, i8, i9, i10⟩ := I
          refine ⟨i1.frm h (by decide), i2.frm h (by decide), i3.frm h (by decide), i4.frm h (by decide), i5.frm h (by decide), i6.frm h (by decide), ⟨k1, by simp only [gU_n, gU_e, Nat.reduceEqDiff, not_false_eq_true]; exact k2, by simp only [gU_n, gU_e, Nat.reduceEqDiff, not_false_eq_true]; exact k3, fun c hc => ?_, fun c hc => ?_⟩, i8.frm h (by decide), i9.frm h (by decide), i10.frm h (by decide)⟩
          · obtain ⟨d1, d2, d3, d4⟩ := k4 c hc
            refine ⟨by simp only [gU_n, gU_e, Nat.reduceEqDiff, not_false_eq_true]; exact d1, by simp only [gU_n, gU_e, Nat.reduceEqDiff, not_false_eq_true]; exact d2, by simp only [gU_n, gU_e, Nat.reduceEqDiff, not_false_eq_true]; exact d3, fun d hd => ?_⟩
            by_cases e1 : c = j ∧ d = i
            · obtain ⟨rfl, rfl⟩ := e1
              simp only [gU_n, gU_e, Nat.reduceEqDiff, not_false_eq_true]
              exact ⟨by decide, trivial⟩
            · by_cases e2 : c = i ∧ d = j
              · obtain ⟨rfl, rfl⟩ := e2
                rw [gU_i (by omega)]
                simp only [gU_n, gU_e, Nat.reduceEqDiff, not_false_eq_true]
                rw [gU_i (by omega)]
                simp only [gU_n, gU_e, Nat.reduceEqDiff, not_false_eq_true]
                exact ⟨by decide, trivial⟩
              · rw [gU_i (by omega), gU_i (by omega)]
                simp only [gU_n, gU_e, Nat.reduceEqDiff, not_false_eq_true]
                rw [gU_i (by omega), gU_i (by omega)]
                exact d4 d hd
          · simp only [gU_n, gU_e, Nat.reduceEqDiff, not_false_eq_true]; exact k5 c hc

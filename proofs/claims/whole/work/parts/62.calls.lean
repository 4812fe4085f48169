/-! volume, at, about, struck, errata, month -/
theorem step_volume {fu : Nat} {σ : gSt} {N V P K G : Nat} {x1 x2 : Int32} (hc : isC x1 = true) (I : Inv σ N V P K G) : stepX (cm3 1 2 0) (f_X6_volume fu σ x1 x2) (fun σ1 => f_X7_volume fu σ1 x1 x2) G := by
  have v := I.1.v
  obtain ⟨v1, v2, v3, v4⟩ := v
  have thr1 : ∀ s : gSt, f_X7_volume_b53 fu s x1 x2 = some (0, gU s 209 0 0 1) := fun s => by
    unfold f_X7_volume_b53 f_X7_volume_b54 f_X7_volume_b77
    rw [if_pos rfl, goesX (by decide), if_pos rfl]
  cases hb : letB x1 with
  | false =>
    refine step_thr (c := 1) (v := 0) I (Or.inl rfl) (by decide) ?_ ⟨0, ?_⟩
    · unfold f_X6_volume f_X6_volume_b18
      rw [bd_s (isLet x1), hb, bF]
    · show f_X7_volume fu σ x1 x2 = _
      unfold f_X7_volume
      by_cases h1 : x1 < 97
      · rw [if_pos h1]; exact thr1 σ
      · by_cases h2 : 122 < x1
        · rw [if_neg h1, if_pos h2]; exact thr1 σ
        · simp only [letB, decide_eq_false h1, decide_eq_false h2] at hb; cases hb
  | true =>
    obtain ⟨a, a1, a2, rfl⟩ := letB_t hb
    have n97 : ¬ nI (96 + a) < 97 := nI_nlt (b := 97) (by omega) (by omega)
    have n122 : ¬ 122 < nI (96 + a) := nI_nlt (a := 122) (by omega) (by omega)
    have va : nI (96 + a) - 97 + 1 = nI a := by
      rw [show (97 : Int32) = nI 97 from rfl, nI_sub (by omega), nI_1, show 96 + a - 97 + 1 = a by omega]
    have pc : (x2 < 1 ∨ (¬ x2 < 1 ∧ 99 < x2)) ∨ ∃ p, 1 ≤ p ∧ p ≤ 99 ∧ x2 = nI p := by
      by_cases h1 : x2 < 1
      · exact Or.inl (Or.inl h1)
      · by_cases h2 : 99 < x2
        · exact Or.inl (Or.inr ⟨h1, h2⟩)
        · right
          obtain ⟨j, hj, rfl⟩ := nI_of (x := x2) (fun q => h1 (Int32.lt_trans q (by decide)))
          have e1 : ¬ j < 1 := fun q => h1 (nI_lt q (by decide))
          have e2 : ¬ 99 < j := fun q => h2 (nI_lt q hj)
          exact ⟨j, by omega, by omega, rfl⟩
    -- is it behind the volume ahead
    have ahead : V = 0 ∨ ∃ b, 0 < V ∧ b ≤ 26 ∧ inb (nI V - 1) 4 = true ∧ σ 120 (nI V - 1).toNatClampNeg 0 = nI (96 + b) ∧ σ 198 0 (nI V - 1).toNatClampNeg = nI b := by
      by_cases h0 : V = 0
      · exact Or.inl h0
      · right
        obtain ⟨⟨b, b1, b2, b3, b4⟩, -⟩ := v4 (V - 1) (by omega)
        have e : nI V - 1 = nI (V - 1) := by
          rw [show nI V = nI (V - 1 + 1) by congr 1; omega, nI_pred]
        rw [e, nI_clamp (by omega : V - 1 < 2 ^ 31)]
        exact ⟨b, by omega, b2, inb_t (by omega) (by decide), b3, b4⟩
    have mh : ∀ s : gSt, s 197 = σ 197 → s 198 = σ 198 → f_X7_volume fu s (nI (96 + a)) x2 = if V = 0 then f_X7_volume_b39 fu s (nI (96 + a)) x2 else if nI a ≤ σ 198 0 (nI V - 1).toNatClampNeg then f_X7_volume_b53 fu s (nI (96 + a)) x2 else f_X7_volume_b39 fu s (nI (96 + a)) x2 := fun s e1 e2 => by
      unfold f_X7_volume
      rw [if_neg n97, if_neg n122, e1, e2, v3, va]
      rcases ahead with h0 | ⟨b, b0, b2, b3, b4, b5⟩
      · rw [if_pos h0, if_pos (by rw [h0]; rfl)]
      · rw [if_neg (nI_ne0 b0 (by omega)), gd_t b3, if_neg (show ¬ V = 0 by omega)]
    rcases pc with bad | ⟨p, p1, p2, rfl⟩
    · refine step_thr (c := 1) (v := 0) I (Or.inl rfl) (by decide) ?_ ⟨0, ?_⟩
      · unfold f_X6_volume f_X6_volume_b18
        rw [bd_s (isLet _), hb, bT]
        rcases bad with h | ⟨h, h'⟩
        · rw [if_pos h]
        · rw [if_neg h, if_neg (Int32.not_le.mpr h')]
      · show f_X7_volume fu σ (nI (96 + a)) x2 = _
        have b39 : f_X7_volume_b39 fu σ (nI (96 + a)) x2 = f_X7_volume_b53 fu σ (nI (96 + a)) x2 := by
          unfold f_X7_volume_b39 f_X7_isIn f_X7_isIn_b14
          rcases bad with h | ⟨h, h'⟩
          · rw [if_pos h]; rfl
          · rw [if_neg h, if_pos h']; rfl
        rw [mh σ rfl rfl, b39]
        have := thr1 σ
        split
        · exact this
        · split <;> exact this
    · have q1 : ¬ nI p < 1 := nI_nlt (b := 1) p1 (by omega)
      have q2 : nI p ≤ 99 := nI_le (b := 99) p2 (by decide)
      have q3 : ¬ 99 < nI p := nI_nlt (a := 99) p2 (by decide)
      have b39 : ∀ s : gSt, f_X7_volume_b39 fu s (nI (96 + a)) (nI p) = f_X7_volume_b54 fu s (nI (96 + a)) (nI p) 1 := fun s => by
        unfold f_X7_volume_b39 f_X7_isIn f_X7_isIn_b15
        rw [if_neg q1, if_neg q3]; rfl
      by_cases behind : V = 0 ∨ ¬ nI a ≤ σ 198 0 (nI V - 1).toNatClampNeg
      · have ch : f_X6_volume fu σ (nI (96 + a)) (nI p) = f_X6_volume_b63 fu σ (nI (96 + a)) (nI p) := by
          unfold f_X6_volume
          rw [bd_s (isLet _), hb, bT, if_neg q1, if_pos q2, v2]
          rcases ahead with h0 | ⟨b, b0, b2, b3, b4, b5⟩
          · rw [if_pos (by rw [h0]; decide)]
          · rw [if_neg (nI_nle b0 (by omega)), gd_t b3, b4]
            have h := behind.resolve_left (by omega)
            rw [b5] at h
            have h' : b < a := by
              rcases Nat.lt_or_ge b a with q | q
              · exact q
              · exact absurd (nI_le q (by omega)) h
            rw [if_pos (nI_lt (by omega) (by omega))]
        have mh2 : ∀ s : gSt, s 197 = σ 197 → s 198 = σ 198 → f_X7_volume fu s (nI (96 + a)) (nI p) = f_X7_volume_b54 fu s (nI (96 + a)) (nI p) 1 := fun s e1 e2 => by
          rw [mh s e1 e2, b39]
          rcases behind with h | h
          · rw [if_pos h]
          · split
            · rfl
            · first | rfl | rw [if_neg h]
        rw [ch]
        unfold f_X6_volume_b63
        rw [v2]
        by_cases full : 4 ≤ V
        · rw [if_neg (show ¬ _ < (4 : Int32) from nI_nlt (b := 4) full (by omega))]
          refine step_thr (c := 2) (v := 0) I (Or.inr (Or.inl rfl)) (by decide) rfl ⟨0, ?_⟩
          show f_X7_volume fu σ (nI (96 + a)) (nI p) = _
          rw [mh2 σ rfl rfl]
          unfold f_X7_volume_b54 f_X7_volume_b77
          rw [if_neg (by decide), v3, if_pos (show nI V = 4 by rw [show V = 4 by omega]; rfl), goesX (by decide), if_pos rfl]
          rfl
        · have cV : (nI V).toNatClampNeg = V := nI_clamp (by omega : V < 2 ^ 31)
          have in4 : inb (nI V) 4 = true := inb_t (by omega) (by decide)
          rw [if_pos (show nI V < (4 : Int32) from nI_lt (b := 4) (by omega) (by decide)), gd_t in4, gd_t hc]
          simp only [gU_n, gU_e, Nat.reduceEqDiff, not_false_eq_true, v2, cV, in4, gd_true, nI_1]
          refine ⟨0, _, _, nI V, gU (gU (gU (gU (gU (gU (gU σ 120 V 0 (nI (96 + a))) 121 V 0 (nI p)) 157 0 0 (nI (V + 1))) 209 0 0 0) 198 0 V (nI a)) 199 0 V (nI p)) 197 0 0 (nI (V + 1)), rfl, ?_, by simp only [gU_n, gU_e, Nat.reduceEqDiff, not_false_eq_true]; rfl, fun _ => rfl, Or.inl rfl, N, V + 1, P, K, G, ?_, by omega⟩
          · show f_X7_volume fu (gU (gU (gU σ 120 V 0 (nI (96 + a))) 121 V 0 (nI p)) 157 0 0 (nI (V + 1))) (nI (96 + a)) (nI p) = _
            rw [mh2 _ (by simp only [gU_n, gU_e, Nat.reduceEqDiff, not_false_eq_true]) (by simp only [gU_n, gU_e, Nat.reduceEqDiff, not_false_eq_true])]
            unfold f_X7_volume_b54 f_X7_volume_b77
            rw [if_neg (by decide)]
            simp only [gU_n, gU_e, Nat.reduceEqDiff, not_false_eq_true]
            rw [v3, if_neg (fun q => by have := (nI_eq (b := 4) (by omega) (by decide)).mp q; omega), goes0, if_neg (by decide)]
            simp only [gU_n, gU_e, Nat.reduceEqDiff, not_false_eq_true, v3, in4, gd_true, cV, va, nI_1, nI_pred]
          · have h : fr [120, 121, 157, 209, 198, 199, 197] σ (gU (gU (gU (gU (gU (gU (gU σ 120 V 0 (nI (96 + a))) 121 V 0 (nI p)) 157 0 0 (nI (V + 1))) 209 0 0 0) 198 0 V (nI a)) 199 0 V (nI p)) 197 0 0 (nI (V + 1))) := by (repeat (first | exact fr.rfl | assumption | refine fr_gU ?_ (by decide) | refine fr_gR ?_ (by decide)))
            obtain ⟨i1, i2, i3, i4, i5, i6, i7, i8, i9, i10⟩ := I
            refine ⟨?_, i2.frm h (by decide), ?_, i4.frm h (by decide), i5.frm h (by decide), i6.frm h (by decide), i7.frm h (by decide), i8.frm h (by decide), i9.frm h (by decide), i10.frm h (by decide)⟩
            · obtain ⟨⟨⟨n1, n2, n3⟩, vv, rr, w, u⟩, rf⟩ := i1
              refine ⟨⟨⟨n1, by simp only [gU_n, gU_e, Nat.reduceEqDiff, not_false_eq_true]; exact n2, by simp only [gU_n, gU_e, Nat.reduceEqDiff, not_false_eq_true]; exact n3⟩, ⟨by omega, by simp only [gU_n, gU_e, Nat.reduceEqDiff, not_false_eq_true], by simp only [gU_n, gU_e, Nat.reduceEqDiff, not_false_eq_true], fun k hk => ?_⟩, rr.frm h (by decide), fun i hi => (sameH.of h (by decide) i).hwl (w i hi), fun i hi => ?_⟩, fun i hi => ?_⟩
              · by_cases ek : k = V
                · subst ek
                  simp only [gU_n, gU_e, Nat.reduceEqDiff, not_false_eq_true]
                  exact ⟨⟨a, a1, a2, (by first | rfl | trivial), (by first | rfl | trivial)⟩, p, p1, p2, (by first | rfl | trivial), (by first | rfl | trivial)⟩
                · simp only [gU_n, gU_e, Nat.reduceEqDiff, not_false_eq_true]
                  rw [gU_i (by omega), gU_i (by omega), gU_i (by omega), gU_i (by omega)]
                  simp only [gU_n, gU_e, Nat.reduceEqDiff, not_false_eq_true]
                  exact v4 k (by omega)
              · simp only [gU_n, gU_e, Nat.reduceEqDiff, not_false_eq_true]; exact u i hi
              · obtain ⟨a1, a2, a3, a4, a5⟩ := rf i hi
                rw [h.rcNE' (by decide)]
                simp only [gU_n, gU_e, Nat.reduceEqDiff, not_false_eq_true]
                exact ⟨a1, a2, a3, a4, fun r hr => (sameH.of h (by decide) _).hwl (a5 r hr)⟩
            · exact ⟨by have := i3.1; omega, by simp only [gU_n, gU_e, Nat.reduceEqDiff, not_false_eq_true]; exact i3.2.1, by simp only [gU_n, gU_e, Nat.reduceEqDiff, not_false_eq_true]; exact i3.2.2⟩
      · have hV : ¬ V = 0 := fun q => behind (Or.inl q)
        have hle : nI a ≤ σ 198 0 (nI V - 1).toNatClampNeg := by
          by_cases q : nI a ≤ σ 198 0 (nI V - 1).toNatClampNeg
          · exact q
          · exact absurd (Or.inr q) behind
        refine step_thr (c := 1) (v := 0) I (Or.inl rfl) (by decide) ?_ ⟨0, ?_⟩
        · unfold f_X6_volume
          rw [bd_s (isLet _), hb, bT, if_neg q1, if_pos q2, v2]
          rcases ahead with h0 | ⟨b, b0, b2, b3, b4, b5⟩
          · exact absurd h0 hV
          · rw [if_neg (nI_nle b0 (by omega)), gd_t b3, b4]
            rw [b5] at hle
            have := (nI_leI (by omega) (by omega)).mp hle
            rw [if_neg (nI_nlt (by omega) (by omega))]
        · show f_X7_volume fu σ (nI (96 + a)) (nI p) = _
          rw [mh σ rfl rfl, if_neg hV, if_pos hle]; exact thr1 σ
/-- the article at a place -/
def atS (σ : gSt) (N : Nat) (x : Int32) : Nat → Nat → Int32
  | 0, _ => -1
  | n + 1, i => if nI (cntN (fun k => aheadS σ k i) N) = x then nI i else atS σ N x n (i + 1)
theorem placeC_loop {fu : Nat} {σ : gSt} {N V i : Nat} (hfu : 30 ≤ fu) (S : sRel σ N V) (hi : i < N) : ∀ n k, k ≤ N → N < n + k → f_X6_placeOf_b4 fu n σ (nI i) (nI (cntN (fun k => aheadS σ k i) k)) (nI k) = some (nI (cntN (fun k => aheadS σ k i) N), σ) := by
  have hN := S.hN
  intro n
  induction n with
  | zero => intro k h1 h2; omega
  | succ n ih =>
    intro k h1 h2
    show f_X6_placeOf_b4_B fu (f_X6_placeOf_b4 fu n) σ (nI i) _ (nI k) = _
    unfold f_X6_placeOf_b4_B f_X6_placeOf_b24
    rw [S.nC]
    by_cases e : N ≤ k
    · have e' : N = k := by omega
      rw [if_pos (nI_le e (by omega)), e']
    · have hk : k < N := by omega
      rw [if_neg (nI_ge (by omega) (by omega)), bd_s (aheadC_ok (by omega) S.r (by omega) (by omega) (S.hw hk).1 (S.hw hi).1), ← ih (k + 1) (by omega) (by omega), cntN_s, nI_1]
      cases aheadS σ k i with
      | false => rw [bF]; rfl
      | true => rw [bT, nI_1]; rfl
theorem atC_loop {fu : Nat} {σ : gSt} {N V : Nat} {x : Int32} (hfu : 30 ≤ fu) (S : sRel σ N V) : ∀ n m i, i + m = N → m < n → f_X6_at_b16 fu n σ x (nI i) = some (0, atS σ N x m i, σ) := by
  have hN := S.hN
  intro n
  induction n with
  | zero => intro m i h1 h2; omega
  | succ n ih =>
    intro m i h1 h2
    show f_X6_at_b16_B fu (f_X6_at_b16 fu n) σ x (nI i) = _
    unfold f_X6_at_b16_B
    rw [S.nC]
    cases m with
    | zero => rw [if_pos (nI_le (by omega) (by omega))]; rfl
    | succ m =>
      rw [if_neg (nI_ge (by omega) (by omega)), bd_s (show f_X6_placeOf fu σ (nI i) = _ from placeC_loop hfu S (by omega) fu 0 (Nat.zero_le _) (by omega))]
      simp only [atS]
      by_cases e : nI (cntN (fun k => aheadS σ k i) N) = x
      · rw [if_pos e, if_pos e]
      · rw [if_neg e, if_neg e, nI_1, ih m (i + 1) (by omega) (by omega)]
theorem atM_in {fu : Nat} {σ : gSt} {N V i : Nat} {x : Int32} {k20 : gSt → Int32 → Int32 → Option (Int32 × gSt)} (hfu : 30 ≤ fu) (S : sRel σ N V) (hi : i < N) : ∀ n k, k ≤ N → N < n + k → f_X7_at_b33 fu k20 n σ x (nI i) (nI (cntN (fun k => aheadS σ k i) k)) (nI k) = if nI (cntN (fun k => aheadS σ k i) N) = x then some (nI i, σ) else k20 σ x (nI (i + 1)) := by
  have hN := S.hN
  intro n
  induction n with
  | zero => intro k h1 h2; omega
  | succ n ih =>
    intro k h1 h2
    show f_X7_at_b33_B fu k20 (f_X7_at_b33 fu k20 n) σ x (nI i) _ (nI k) = _
    unfold f_X7_at_b33_B f_X7_at_b63 f_X7_at_b64
    rw [S.nM]
    by_cases e : N ≤ k
    · have e' : N = k := by omega
      rw [if_pos (nI_le e (by omega)), e', nI_1]
    · have hk : k < N := by omega
      rw [if_neg (nI_ge (by omega) (by omega))]
      have go : ∀ b : Bool, aheadS σ k i = b → f_X7_at_b33 fu k20 n σ x (nI i) (nI (cntN (fun k => aheadS σ k i) k) + bI b) (nI k + 1) = if nI (cntN (fun k => aheadS σ k i) N) = x then some (nI i, σ) else k20 σ x (nI (i + 1)) := fun b hb => by
        rw [← ih (k + 1) (by omega) (by omega), cntN_s, hb, nI_1]
        cases b with
        | false => rw [show bI false = nI 0 from rfl, nI_add]; rfl
        | true => rw [show bI true = nI 1 from rfl, nI_add]; rfl
      by_cases ek : k = i
      · rw [if_pos (by rw [ek])]
        exact go false (by rw [ek]; exact ahead_irr σ i)
      · rw [if_neg (fun q => ek ((nI_eq (by omega) (by omega)).mp q)), bd_s (aheadM_ok (by omega) (by omega) (by omega) (S.hw hk).1 (S.hw hi).1)]
        cases ha : aheadS σ k i with
        | false => rw [bF]; exact go false ha
        | true => rw [bT]; exact go true ha
theorem atM_loop {fu : Nat} {σ : gSt} {N V : Nat} {x : Int32} (hfu : 30 ≤ fu) (S : sRel σ N V) : ∀ n m i, i + m = N → m < n → f_X7_at_b20 fu n σ x (nI i) = some (atS σ N x m i, σ) := by
  have hN := S.hN
  intro n
  induction n with
  | zero => intro m i h1 h2; omega
  | succ n ih =>
    intro m i h1 h2
    show f_X7_at_b20_B fu (f_X7_at_b20 fu n) σ x (nI i) = _
    unfold f_X7_at_b20_B
    rw [S.nM]
    cases m with
    | zero => rw [if_pos (nI_le (by omega) (by omega))]; rfl
    | succ m =>
      rw [if_neg (nI_ge (by omega) (by omega)), show f_X7_at_b33 fu (f_X7_at_b20 fu n) fu σ x (nI i) 0 0 = _ from atM_in (k20 := f_X7_at_b20 fu n) hfu S (by omega) fu 0 (Nat.zero_le _) (by omega)]
      simp only [atS]
      by_cases e : nI (cntN (fun k => aheadS σ k i) N) = x
      · rw [if_pos e, if_pos e]
      · rw [if_neg e, if_neg e, ih m (i + 1) (by omega) (by omega)]
theorem fr.atE {L : List Nat} {σ σ' : gSt} (h : fr L σ σ') (d : dj L sF = true) (N : Nat) (x : Int32) : ∀ n i, atS σ' N x n i = atS σ N x n i := by
  intro n
  induction n with
  | zero => intro i; rfl
  | succ n ih =>
    intro i
    simp only [atS, ih, h.aheadE d]
theorem fr209 (σ : gSt) (x : Int32) : fr [209] σ (gU σ 209 0 0 x) := by (repeat (first | exact fr.rfl | assumption | refine fr_gU ?_ (by decide) | refine fr_gR ?_ (by decide)))
theorem step_at {fu : Nat} {σ : gSt} {N V P K G : Nat} {x : Int32} (hfu : 30 ≤ fu) (I : Inv σ N V P K G) : stepX (cm3 0 0 1) (f_X6_at fu σ x) (fun σ1 => f_X7_at fu σ1 x) G := by
  have S := I.1
  have hN := S.hN
  unfold f_X6_at
  by_cases h : 0 ≤ x
  · rw [if_pos h, show f_X6_at_b16 fu fu σ x 0 = _ from atC_loop hfu S fu N 0 (by omega) (by omega)]
    have I2 := I.thr 0 0 0
    refine ⟨0, _, _, atS σ N x N 0, gU σ 209 0 0 0, rfl, ?_, by simp only [gU_n, gU_e, Nat.reduceEqDiff, not_false_eq_true]; rfl, fun _ => rfl, Or.inl rfl, N, V, P, K, G, I2, by omega⟩
    show f_X7_at fu σ x = _
    unfold f_X7_at f_X7_at_b10
    rw [if_pos h, goes0, if_neg (by decide), show f_X7_at_b20 fu fu (gU σ 209 0 0 0) x 0 = _ from atM_loop hfu I2.1 fu N 0 (by omega) (by omega), (fr209 σ 0).atE (by decide)]
  · rw [if_neg h]
    refine step_thr (c := 3) (v := 0) I (Or.inr (Or.inr rfl)) (by decide) rfl ⟨0, ?_⟩
    show f_X7_at fu σ x = _
    unfold f_X7_at f_X7_at_b10
    rw [if_neg h, goesX (by decide), if_pos rfl]
    rfl
theorem stateC {fu : Nat} {σ : gSt} {N K i : Nat} (A : aR σ N K i) : f_X0_state fu σ i = some (σ 186 0 i, σ) := by
  obtain ⟨a1, a2, a3, a4, a5, a6, a7, a8, a9, a10⟩ := A
  unfold f_X0_state f_X0_state_b31
  rw [a1, a2, a5]
  unfold stV
  cases prB σ i
  · rw [bF]
    cases txB σ i
    · rw [bF]
      by_cases h : σ 7 i 0 = -1
      · rw [if_pos h]; simp only [cond_false, if_pos h]
      · rw [if_neg h]; simp only [cond_false, if_neg h]
    · rw [bT]; rfl
  · rw [bT]; rfl
theorem step_about {fu : Nat} {σ : gSt} {N V P K G : Nat} {x1 x2 : Int32} (hfu : 30 ≤ fu) (I : Inv σ N V P K G) : stepX (cm3 2 0 1) (f_X6_about fu σ x1 x2) (fun σ1 => f_X7_about fu σ1 x1 x2) G := by
  have S := I.1
  have hN := S.hN
  have thr : ∀ y : Int32, ¬ y = 0 → f_X7_about_b27 fu σ x1 x2 y = some (0, gU σ 209 0 0 y) := fun y hy => by
    unfold f_X7_about_b27
    rw [goesX hy, if_pos rfl]
  unfold f_X6_about f_X6_about_b14
  cases b1 : inb x1 N with
  | false =>
    refine step_thr (c := 3) (v := 0) I (Or.inr (Or.inr rfl)) (by decide) (by rw [bx_x (n := 2) (by rw [reqArt x1 hN S.nC, b1]; rfl)]) ⟨0, ?_⟩
    show f_X7_about fu σ x1 x2 = _
    unfold f_X7_about
    rw [bd_s (isArt x1 hN S.nM), b1, bF]; exact thr _ (by decide)
  | true =>
    obtain ⟨i, hi, rfl⟩ := inb_nI (by omega) b1
    have mh : f_X7_about fu σ (nI i) x2 = cond (inb x2 5) (f_X7_about_b27 fu σ (nI i) x2 0) (f_X7_about_b27 fu σ (nI i) x2 2) := by
      unfold f_X7_about
      rw [bd_s (isArt _ hN S.nM), b1, bT, show (4 : Int32) = nI 5 - 1 by decide, bd_s (isIn0 x2 (by decide))]
      cases inb x2 5 <;> rfl
    rw [bx_s (by rw [reqArt _ hN S.nC, b1]; rfl), show (4 : Int32) = nI 4 from rfl, rle_eq _ _ x2 (by decide)]
    cases b2 : inb x2 (4 + 1) with
    | false =>
      refine step_thr (c := 1) (v := 0) I (Or.inl rfl) (by decide) rfl ⟨0, ?_⟩
      show f_X7_about fu σ (nI i) x2 = _
      rw [mh, b2]; exact thr _ (by decide)
    | true =>
      have ci : (nI i).toNatClampNeg = i := nI_clamp (by omega : i < 2 ^ 31)
      have in24 : inb (nI i) 24 = true := inb_t (by omega) (by decide)
      have A := I.2.2.2.1 i (by omega)
      have a7 := A.2.2.2.2.2.2.1 hi
      have I2 := I.thr 0 0 0
      have key : ∃ v, (gd (inb (nI i) 24) (if x2 = 0 then (bd (f_X0_state fu σ ((nI i).toNatClampNeg)) (fun v5 σ5 => some (0, v5, σ5))) else (if x2 = 1 then (bd (f_X6_volumeOf fu σ ((nI i).toNatClampNeg)) (fun v6 σ6 => some (0, v6, σ6))) else (if x2 = 2 then (bd (f_X6_columnsOf fu σ (nI i)) (fun v7 σ7 => some (0, v7, σ7))) else (if x2 = 3 then (some (0, (σ 7 ((nI i).toNatClampNeg) 0), σ)) else (some (0, (σ 8 ((nI i).toNatClampNeg) 0), σ))))))) = some (0, v, σ) ∧ f_X7_about_b27 fu σ (nI i) x2 0 = some (v, gU σ 209 0 0 0) := by
        unfold f_X7_about_b27 f_X7_about_b94
        rw [gd_t in24, goes0, if_neg (show ¬ (1 : Int32) = 0 by decide), ci]
        by_cases h0 : x2 = 0
        · rw [if_pos h0, if_pos h0, bd_s (stateC A), gd_t in24]
          exact ⟨_, rfl, by simp only [gU_n, gU_e, Nat.reduceEqDiff, not_false_eq_true]⟩
        rw [if_neg h0, if_neg h0]
        by_cases h1 : x2 = 1
        · rw [if_pos h1, if_pos h1, bd_s (volC_ok (by omega) (S.hw hi) S.v), bd_s (volM_ok (by omega) (by omega) (I2.1.hw hi) I2.1.v)]
          exact ⟨_, rfl, congrArg (fun v => some (v, gU σ 209 0 0 0)) ((fr209 σ 0).vSE (by decide) V i)⟩
        rw [if_neg h1, if_neg h1]
        by_cases h2 : x2 = 2
        · rw [if_pos h2, if_pos h2, bd_s (colsC_ok hfu S.1 hi), bd_s (colsM_ok hfu I2.1.1 hi)]
          exact ⟨_, rfl, congrArg (fun v => some (nI v, gU σ 209 0 0 0)) ((fr209 σ 0).colE (by decide) N V i)⟩
        rw [if_neg h2, if_neg h2]
        by_cases h3 : x2 = 3
        · rw [if_pos h3, if_pos h3, gd_t in24]
          refine ⟨_, rfl, ?_⟩
          simp only [gU_n, gU_e, Nat.reduceEqDiff, not_false_eq_true]
          rw [a7.2.1]
        · rw [if_neg h3, if_neg h3, gd_t in24]
          refine ⟨_, rfl, ?_⟩
          simp only [gU_n, gU_e, Nat.reduceEqDiff, not_false_eq_true]
          rw [a7.2.2.1]
      obtain ⟨v, k1, k2⟩ := key
      refine ⟨0, v, σ, v, _, k1, ?_, by simp only [gU_n, gU_e, Nat.reduceEqDiff, not_false_eq_true]; rfl, fun _ => rfl, Or.inl rfl, N, V, P, K, G, I2, by omega⟩
      show f_X7_about fu σ (nI i) x2 = _
      rw [mh, b2]; exact k2
theorem cntRef_loop {fu : Nat} {σ : gSt} {N V i : Nat} (S : sRel σ N V) (F : fRel σ) (hi : i < 24) : ∀ n r, r ≤ rcN σ i → rcN σ i < n + r → f_X0_countReferences_b4 fu n σ i 3 (nI (cntN (fun r => decide (σ 91 (4 * i + r) 0 = 3)) r)) (nI r) = some (nI (cntN (fun r => decide (σ 91 (4 * i + r) 0 = 3)) (rcN σ i)), σ) := by
  obtain ⟨c1, c2, c3, c4, c5⟩ := S.rf hi
  intro n
  induction n with
  | zero => intro r h1 h2; omega
  | succ n ih =>
    intro r h1 h2
    show f_X0_countReferences_b4_B fu (f_X0_countReferences_b4 fu n) σ i 3 _ (nI r) = _
    unfold f_X0_countReferences_b4_B f_X0_countReferences_b28
    rw [c2]
    by_cases e : rcN σ i ≤ r
    · have e' : rcN σ i = r := by omega
      rw [if_pos (nI_le e (by omega)), e']
    · have r4 : r < 4 := by omega
      rw [if_neg (nI_ge (by omega) (by omega)), gd_t (inb_t (by omega : r < 4) (by decide)), nI_clamp (by omega : r < 2 ^ 31), gd_t ((F i hi).1 r r4).1, gd_t (by decide), ← ih (r + 1) (by omega) (by omega), cntN_s, nI_1]
      by_cases h : σ 91 (4 * i + r) 0 = 3
      · rw [if_pos h, nI_1, decide_eq_true h]; rfl
      · rw [if_neg h, nI_1, decide_eq_false h]; rfl
theorem struckC_loop {fu : Nat} {σ : gSt} {N V : Nat} (hfu : 30 ≤ fu) (S : sRel σ N V) (F : fRel σ) : ∀ n i, i ≤ N → N < n + i → f_X6_struck_b4 fu n σ (nI (skN σ i)) (nI i) = some (nI (skN σ N), σ) := by
  have hN := S.hN
  intro n
  induction n with
  | zero => intro i h1 h2; omega
  | succ n ih =>
    intro i h1 h2
    show f_X6_struck_b4_B fu (f_X6_struck_b4 fu n) σ _ (nI i) = _
    unfold f_X6_struck_b4_B
    rw [S.nC]
    by_cases e : N ≤ i
    · have e' : N = i := by omega
      rw [if_pos (nI_le e (by omega)), e']
    · rw [if_neg (nI_ge (by omega) (by omega)), gd_t (inb_t (by omega : i < 24) (by decide)), nI_clamp (by omega : i < 2 ^ 31), bd_s (show f_X0_countReferences fu σ i 3 = _ from cntRef_loop S F (by omega) fu 0 (Nat.zero_le _) (by have := (S.rf (i := i) (by omega)).1; omega)), ← ih (i + 1) (by omega) (by omega), nI_1, nI_add]
      rfl
theorem step_struck {fu : Nat} {σ : gSt} {N V P K G : Nat} (hfu : 30 ≤ fu) (I : Inv σ N V P K G) : stepP (f_X6_struck fu σ) (fun σ1 => f_X7_struck fu σ1) G := by
  refine ⟨nI (skN σ N), σ, gU σ 209 0 0 0, struckC_loop hfu I.1 I.2.2.2.2.1 fu 0 (Nat.zero_le _) (by have := I.1.hN; omega), ?_, N, V, P, K, G, I.thr 0 0 0, by omega⟩
  unfold f_X7_struck
  simp only [gU_n, gU_e, Nat.reduceEqDiff, not_false_eq_true]
  have t : σ 208 0 0 = nI (skN σ N) := I.2.2.2.2.2.2.2.2.2
  rw [t]
theorem step_month {fu : Nat} {σ : gSt} {N V P K G : Nat} (I : Inv σ N V P K G) : stepP (f_X6_month fu σ) (fun σ1 => f_X7_month fu σ1) G := by
  refine ⟨σ 160 0 0, σ, gU σ 209 0 0 0, rfl, ?_, N, V, P, K, G, I.thr 0 0 0, by omega⟩
  unfold f_X7_month
  simp only [gU_n, gU_e, Nat.reduceEqDiff, not_false_eq_true]
  have t : σ 207 0 0 = σ 160 0 0 := I.2.2.2.2.2.2.2.2.1
  rw [t]
theorem step_errata {fu : Nat} {σ : gSt} {N V P K G : Nat} {x : Int32} (I : Inv σ N V P K G) : stepX (cm3 0 0 1) (f_X6_errata fu σ x) (fun σ1 => f_X7_errata fu σ1 x) G := by
  obtain ⟨k1, k2, k3, k4, k5⟩ := I.2.2.2.2.2.2.1
  unfold f_X6_errata
  cases b1 : inb x K with
  | false =>
    refine step_thr (c := 3) (v := 0) I (Or.inr (Or.inr rfl)) (by decide) (by rw [bx_x (n := 2) (by rw [reqCon x k1 k2, b1]; rfl)]) ⟨0, ?_⟩
    show f_X7_errata fu σ x = _
    unfold f_X7_errata f_X7_errata_b14 f_X7_errata_b30
    rw [bd_s (isCon x k1 k3), b1, bF, goesX (by decide), if_pos rfl]
    rfl
  | true =>
    obtain ⟨c, hc, rfl⟩ := inb_nI (by omega) b1
    have cc : (nI c).toNatClampNeg = c := nI_clamp (by omega : c < 2 ^ 31)
    have in6 : inb (nI c) 6 = true := inb_t (by omega) (by decide)
    rw [bx_s (by rw [reqCon _ k1 k2, b1]; rfl), gd_t in6, cc]
    refine ⟨0, _, _, σ 34 c 0, gU σ 209 0 0 0, rfl, ?_, by simp only [gU_n, gU_e, Nat.reduceEqDiff, not_false_eq_true]; rfl, fun _ => rfl, Or.inl rfl, N, V, P, K, G, I.thr 0 0 0, by omega⟩
    show f_X7_errata fu σ (nI c) = _
    unfold f_X7_errata f_X7_errata_b14 f_X7_errata_b30
    rw [bd_s (isCon _ k1 k3), b1, bT, goes0, if_neg (by decide), gd_t in6, cc]
    simp only [gU_n, gU_e, Nat.reduceEqDiff, not_false_eq_true]
    rw [(k4 c (by omega)).2.2.1]

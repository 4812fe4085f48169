/-! sign, erase, rule, article, refer -/
theorem gd_true {α : Type} {k : Option α} : gd true k = k := rfl
theorem rle_eq {α : Type} (A B : α) (x : Int32) {n : Nat} (hn : n + 1 < 2 ^ 31) : (if x < 0 then A else if x ≤ nI n then B else A) = cond (inb x (n + 1)) B A := by
  rcases inb_cs x hn with ⟨h, j, hj, rfl⟩ | ⟨h, h2 | ⟨h2, h3⟩⟩
  · rw [h, if_neg (nI_pos (by omega)), if_pos (nI_le (by omega) (by omega))]; rfl
  · rw [h, if_pos h2]; rfl
  · obtain ⟨j, hj, rfl⟩ := nI_of h2
    have := (nI_leI hn hj).mp h3
    rw [h, if_neg h2, if_neg (nI_ge (by omega) hj)]; rfl
theorem sameH.of {L : List Nat} {σ σ' : gSt} (h : fr L σ σ') (d : dj L [60, 61, 62, 63, 181, 182] = true) (i : Nat) : sameH σ σ' i := by
  unfold sameH
  rw [h.at d (F := 60) (by decide), h.at d (F := 61) (by decide), h.at d (F := 62) (by decide), h.at d (F := 63) (by decide), h.at d (F := 181) (by decide), h.at d (F := 182) (by decide)]
  exact ⟨fun _ _ => rfl, fun _ _ => rfl, rfl, rfl, rfl, fun _ _ => rfl⟩
theorem fr.rcNE' {L : List Nat} {σ σ' : gSt} (h : fr L σ σ') (d : dj L [191] = true) {i : Nat} : rcN σ' i = rcN σ i := by
  simp only [rcN, h.at d (F := 191) (by decide)]
theorem app_at {l : List Nat} {a k c : Nat} (h : (l ++ [a])[k]? = some c) : (k < l.length ∧ l[k]? = some c) ∨ (k = l.length ∧ c = a) := by
  by_cases hk : k < l.length
  · rw [List.getElem?_append_left hk] at h; exact Or.inl ⟨hk, h⟩
  · rw [List.getElem?_append_right (by omega)] at h
    have h1 := at_lt h
    have : k - l.length = 0 := by simpa using h1
    rw [this] at h
    exact Or.inr ⟨by omega, (Option.some.inj h).symm⟩
theorem nz_app (l : List Nat) (a : Nat) : nz (l ++ [a]) = nz l ++ nz [a] := List.filter_append _ _
theorem nz_one {a : Nat} (h : a ≠ 0) : nz [a] = [a] := by rw [nz_cons, if_neg h]; rfl
theorem nz_zero : nz [0] = [] := rfl
theorem cw.add {σ σ' : gSt} {h : Nat} {l : List Nat} {a : Nat} (c : cw σ h l) (hl : l.length < 8) (e60 : σ' 60 h l.length = nI (chr a)) (f60 : ∀ k, k ≠ l.length → σ' 60 h k = σ 60 h k) (e62 : σ' 62 h 0 = nI (l.length + 1)) (e63 : σ' 63 h 0 = nI (nz (l ++ [a])).length) (e61 : a ≠ 0 → σ' 61 h (nz l).length = nI (96 + a)) (f61 : ∀ k, k ≠ (nz l).length → σ' 61 h k = σ 61 h k) : cw σ' h (l ++ [a]) := by
  obtain ⟨c1, c2, c3, c4, c5⟩ := c
  refine ⟨by rw [List.length_append]; exact hl, by rw [e62, List.length_append]; rfl, e63, fun k x hk => ?_, fun k x hk => ?_⟩
  · rcases app_at hk with ⟨h1, h2⟩ | ⟨rfl, rfl⟩
    · rw [f60 k (by omega)]; exact c4 k x h2
    · exact e60
  · by_cases ha : a = 0
    · subst ha
      rw [nz_app, nz_zero, List.append_nil] at hk
      rw [f61 k (by have := at_lt hk; omega)]; exact c5 k x hk
    · rw [nz_app, nz_one ha] at hk
      rcases app_at hk with ⟨h1, h2⟩ | ⟨rfl, rfl⟩
      · rw [f61 k (by omega)]; exact c5 k x h2
      · exact e61 ha
theorem mwl.add {σ σ' : gSt} {h : Nat} {l : List Nat} {a : Nat} (m : mwl σ h l) (ha : a ≤ 26) (e181 : σ' 181 0 (8 * h + l.length) = nI a) (f181 : ∀ k, k ≠ l.length → σ' 181 0 (8 * h + k) = σ 181 0 (8 * h + k)) (e182 : σ' 182 0 h = nI (l.length + 1)) : mwl σ' h (l ++ [a]) := by
  refine ⟨by rw [e182, List.length_append]; rfl, fun k x hk => ?_⟩
  rcases app_at hk with ⟨h1, h2⟩ | ⟨rfl, rfl⟩
  · rw [f181 k (by omega)]; exact m.2 k x h2
  · exact ⟨ha, e181⟩
def letB (x : Int32) : Bool := !decide (x < 97) && !decide (122 < x)
def gapB (x : Int32) : Bool := decide (x = 32) || decide (x = 45)
theorem isLet {fu : Nat} {σ : gSt} (x : Int32) : f_X6_isLetter fu σ x = some (bI (letB x), σ) := by
  unfold f_X6_isLetter f_X6_isLetter_b16 f_X6_isLetter_b17 letB
  by_cases h1 : x < 97
  · rw [if_pos h1, decide_eq_true h1]; rfl
  · rw [if_neg h1, decide_eq_false h1]
    by_cases h2 : 122 < x
    · rw [if_pos h2, decide_eq_true h2]; rfl
    · rw [if_neg h2, decide_eq_false h2]; rfl
theorem isGap {fu : Nat} {σ : gSt} (x : Int32) : f_X6_isGap fu σ x = some (bI (gapB x), σ) := by
  unfold f_X6_isGap f_X6_isGap_b12 f_X6_isGap_b17 gapB
  by_cases h1 : x = 32
  · rw [if_pos h1, decide_eq_true h1]; rfl
  · rw [if_neg h1, decide_eq_false h1]
    by_cases h2 : x = 45
    · rw [if_pos h2, decide_eq_true h2]; rfl
    · rw [if_neg h2, decide_eq_false h2]; rfl
theorem letB_t {x : Int32} (h : letB x = true) : ∃ a, 1 ≤ a ∧ a ≤ 26 ∧ x = nI (96 + a) := by
  simp only [letB, Bool.and_eq_true, Bool.not_eq_true', decide_eq_false_iff_not] at h
  have n0 : ¬ x < 0 := fun q => h.1 (Int32.lt_trans q (by decide))
  obtain ⟨j, hj, rfl⟩ := nI_of n0
  have h1 : ¬ j < 97 := fun q => h.1 (nI_lt q (by decide))
  have h2 : ¬ 122 < j := fun q => h.2 (nI_lt q hj)
  exact ⟨j - 96, by omega, by omega, by rw [show 96 + (j - 96) = j by omega]⟩
theorem letB_nI {a : Nat} (h1 : 1 ≤ a) (h2 : a ≤ 26) : letB (nI (96 + a)) = true := by
  have e1 : ¬ nI (96 + a) < 97 := nI_nlt (b := 97) (by omega) (by omega)
  have e2 : ¬ 122 < nI (96 + a) := nI_nlt (a := 122) (by omega) (by omega)
  simp only [letB, decide_eq_false e1, decide_eq_false e2]
  rfl
theorem gap_let {x : Int32} (h : gapB x = true) : letB x = false := by
  simp only [gapB, Bool.or_eq_true, decide_eq_true_eq] at h
  rcases h with rfl | rfl <;> decide
theorem signM {fu : Nat} {σ : gSt} (x : Int32) : f_X7_sign fu σ x = f_X7_sign_b29 fu σ x (bI (letB x || gapB x)) := by
  unfold f_X7_sign f_X7_sign_b12 f_X7_sign_b24 letB gapB
  by_cases h1 : x < 97
  · rw [if_pos h1, decide_eq_true h1]
    by_cases h2 : x = 32
    · rw [if_pos h2, decide_eq_true h2]; rfl
    · rw [if_neg h2, decide_eq_false h2]
      by_cases h3 : x = 45
      · rw [if_pos h3, decide_eq_true h3]; rfl
      · rw [if_neg h3, decide_eq_false h3]; rfl
  · rw [if_neg h1, decide_eq_false h1]
    by_cases h4 : 122 < x
    · rw [if_neg (Int32.not_le.mpr h4), decide_eq_true h4]
      by_cases h2 : x = 32
      · rw [if_pos h2, decide_eq_true h2]; rfl
      · rw [if_neg h2, decide_eq_false h2]
        by_cases h3 : x = 45
        · rw [if_pos h3, decide_eq_true h3]; rfl
        · rw [if_neg h3, decide_eq_false h3]; rfl
    · rw [if_pos (Int32.not_lt.mp h4), decide_eq_false h4]; rfl
/-- the draft alone has changed -/
theorem Inv.drf {L : List Nat} {σ σ' : gSt} {N V P K G : Nat} (I : Inv σ N V P K G) (h : fr L σ σ') (d : dj L [2, 3, 4, 5, 6, 7, 8, 9, 10, 11, 30, 31, 32, 33, 34, 35, 91, 120, 121, 154, 155, 156, 157, 158, 159, 160, 161, 180, 183, 184, 185, 186, 187, 188, 189, 190, 191, 192, 193, 194, 195, 196, 197, 198, 199, 200, 201, 202, 203, 204, 205, 206, 207, 208] = true) (e : ∀ h, h < 120 → sameH σ σ' h) (D : dRel σ') : Inv σ' N V P K G := by
  obtain ⟨i1, i2, i3, i4, i5, i6, i7, i8, i9, i10⟩ := I
  have dd : ∀ M, M.all (fun F => [2, 3, 4, 5, 6, 7, 8, 9, 10, 11, 30, 31, 32, 33, 34, 35, 91, 120, 121, 154, 155, 156, 157, 158, 159, 160, 161, 180, 183, 184, 185, 186, 187, 188, 189, 190, 191, 192, 193, 194, 195, 196, 197, 198, 199, 200, 201, 202, 203, 204, 205, 206, 207, 208].contains F) = true → dj L M = true := fun M hM => by
    unfold dj at d ⊢
    rw [List.all_eq_true] at d ⊢
    intro F hF
    exact d F (by have := List.all_eq_true.mp hM F hF; simpa using this)
  exact ⟨i1.drf h (dd _ (by decide)) e, D, i3.frm h (dd _ (by decide)), i4.frm h (dd _ (by decide)), i5.frm h (dd _ (by decide)), i6.frm h (dd _ (by decide)), i7.frm h (dd _ (by decide)), i8.frm h (dd _ (by decide)), i9.frm h (dd _ (by decide)), i10.frm h (dd _ (by decide))⟩
theorem step_sign {fu : Nat} {σ : gSt} {N V P K G : Nat} {x : Int32} (I : Inv σ N V P K G) : stepX (cm3 1 2 0) (f_X6_sign fu σ x) (fun σ1 => f_X7_sign fu σ1 x) G := by
  have D := I.2.1
  obtain ⟨d1, d2, d3, d4, d5, d6⟩ := D.1
  have C := D.1.cw
  have M := D.1.mwl
  generalize hl : cods σ 120 = l at d1 d2 d3 d4 d5 d6 C M
  have zl := nz_len l
  have c120 : (120 : Int32).toNatClampNeg = 120 := rfl
  have clE : ∀ k, k < 2000 → (nI k).toNatClampNeg = k := fun k hk => nI_clamp (by omega)
  -- the class's and the reference's answers, by the kind of sign
  have body : ∀ a, a ≤ 26 → (a = 0 ∧ gapB x = true ∧ letB x = false ∨ a ≠ 0 ∧ x = nI (96 + a) ∧ letB x = true ∧ gapB x = false) → stepX (cm3 1 2 0) (f_X6_sign_b24 fu σ x) (fun σ1 => f_X7_sign_b29 fu σ1 x 1) G := by
    intro a ha hk
    unfold f_X6_sign_b24
    by_cases full : 8 ≤ l.length
    · rw [d2, if_neg (show ¬ _ < (8 : Int32) from nI_nlt (b := 8) full (by omega))]
      refine step_thr I (Or.inr (Or.inl rfl)) (by decide) rfl ⟨0, ?_⟩
      show f_X7_sign_b29 fu σ x 1 = _
      unfold f_X7_sign_b29 f_X7_sign_b56
      rw [if_neg (by decide), gd_t (by decide), c120, d3, if_pos (show nI l.length = 8 by rw [show l.length = 8 by omega]; rfl), goesX (by decide), if_pos rfl]
      rfl
    · have lt : l.length < 8 := by omega
      rw [d2, if_pos (show nI l.length < (8 : Int32) from nI_lt (b := 8) lt (by decide))]
      have cadd : ∃ σ1, f_X3_add fu σ 120 x = some (0, σ1) ∧ fr [60, 61, 62, 63] σ σ1 ∧ (∀ F h, h ≠ 120 → σ1 F h = σ F h) ∧ cw σ1 120 (l ++ [a]) ∧ ∀ k, k < 8 → isC (σ1 60 120 k) = true ∧ isC (σ1 61 120 k) = true := by
        unfold f_X3_add f_X3_add_b30 f_X3_add_b41 f_X3_add_b77
        rw [d2, if_neg (show ¬ (8 : Int32) ≤ nI l.length from nI_ge (b := 8) lt (by decide)), bd_s (isGap x)]
        rcases hk with ⟨rfl, hg, hl0⟩ | ⟨a0, rfl, hl0, hg⟩
        · rw [hg, bT, gd_t (ok_60 (by decide) (inb_t lt (by decide))), gd_t (by decide), clE _ (by omega), bd_s (isLet x), hl0, bF]
          refine ⟨_, rfl, by (repeat (first | exact fr.rfl | assumption | refine fr_gU ?_ (by decide) | refine fr_gR ?_ (by decide))), fun F h hn => ?_, ?_, fun k hk => ?_⟩
          · funext k'; simp [gU, hn]
          · refine C.add lt ?_ ?_ ?_ ?_ ?_ ?_
            · simp only [gU_n, gU_e, Nat.reduceEqDiff, not_false_eq_true]; rfl
            · intro k hk; simp only [gU_n, gU_e, Nat.reduceEqDiff, not_false_eq_true]; rw [gU_i (by omega)]
            · simp only [gU_n, gU_e, Nat.reduceEqDiff, not_false_eq_true, d2, nI_1]
            · simp only [gU_n, gU_e, Nat.reduceEqDiff, not_false_eq_true, d5, nz_app, nz_zero, List.append_nil]
            · intro h; exact absurd rfl h
            · intro k _; simp only [gU_n, gU_e, Nat.reduceEqDiff, not_false_eq_true]
          · simp only [gU_n, gU_e, Nat.reduceEqDiff, not_false_eq_true]
            refine ⟨?_, (D.2 k hk).2⟩
            by_cases ek : k = l.length
            · subst ek; rw [gU_e]; decide
            · rw [gU_i (by omega)]; exact (D.2 k hk).1
        · have ic : isC (nI (96 + a)) = true := isC_t (by omega)
          rw [hg, bF, gd_t (ok_60 (by decide) (inb_t lt (by decide))), gd_t ic, clE _ (by omega), bd_s (isLet _), hl0, bT]
          simp only [gU_n, gU_e, Nat.reduceEqDiff, not_false_eq_true]
          rw [d5, if_neg (show ¬ (8 : Int32) ≤ nI (nz l).length from nI_ge (b := 8) (by omega) (by decide)), gd_t (inb_t (by omega) (by decide)), gd_t ic, clE _ (by omega)]
          refine ⟨_, rfl, by (repeat (first | exact fr.rfl | assumption | refine fr_gU ?_ (by decide) | refine fr_gR ?_ (by decide))), fun F h hn => ?_, ?_, fun k hk => ?_⟩
          · funext k'; simp [gU, hn]
          · refine C.add lt ?_ ?_ ?_ ?_ ?_ ?_
            · simp only [gU_n, gU_e, Nat.reduceEqDiff, not_false_eq_true, chr, if_neg a0]
            · intro k hk; simp only [gU_n, gU_e, Nat.reduceEqDiff, not_false_eq_true]; rw [gU_i (by omega)]
            · simp only [gU_n, gU_e, Nat.reduceEqDiff, not_false_eq_true, d2, nI_1]
            · simp only [gU_n, gU_e, Nat.reduceEqDiff, not_false_eq_true, nz_app, nz_one a0, List.length_append]; rw [nI_1]; rfl
            · intro h; simp only [gU_n, gU_e, Nat.reduceEqDiff, not_false_eq_true]
            · intro k hk; simp only [gU_n, gU_e, Nat.reduceEqDiff, not_false_eq_true]; rw [gU_i (by omega)]; simp only [gU_n, gU_e, Nat.reduceEqDiff, not_false_eq_true]
          · simp only [gU_n, gU_e, Nat.reduceEqDiff, not_false_eq_true]
            refine ⟨?_, ?_⟩
            · by_cases ek : k = l.length
              · subst ek; rw [gU_e]; exact ic
              · rw [gU_i (by omega)]; exact (D.2 k hk).1
            · by_cases ek : k = (nz l).length
              · subst ek; rw [gU_e]; exact ic
              · rw [gU_i (by omega)]; exact (D.2 k hk).2
      obtain ⟨σ1, a1, a2, a3, a4, a5⟩ := cadd
      rw [bd_s a1]
      have e181 : σ1 181 = σ 181 := a2 181 (by decide)
      have e182 : σ1 182 = σ 182 := a2 182 (by decide)
      have mod : f_X7_sign_b29 fu σ1 x 1 = some (nI (l.length + 1), gU (gU (gU σ1 209 0 0 0) 181 0 (960 + l.length) (nI a)) 182 0 120 (nI (l.length + 1))) := by
        have n8 : ¬ nI l.length = 8 := fun q => by
          have := (nI_eq (b := 8) (by omega) (by decide)).mp q
          omega
        have va : (if (97 : Int32) ≤ x then f_X7_sign_b95 fu (gU σ1 209 0 0 0) 181 0 (nI (960 + l.length)) ((x - (97 : Int32)) + (1 : Int32)) else f_X7_sign_b95 fu (gU σ1 209 0 0 0) 181 0 (nI (960 + l.length)) (0 : Int32)) = f_X7_sign_b95 fu (gU σ1 209 0 0 0) 181 0 (nI (960 + l.length)) (nI a) := by
          rcases hk with ⟨rfl, hg, hl0⟩ | ⟨a0, rfl, hl0, hg⟩
          · rw [if_neg]; · rfl
            simp only [gapB, Bool.or_eq_true, decide_eq_true_eq] at hg
            rcases hg with rfl | rfl <;> decide
          · rw [if_pos (show (97 : Int32) ≤ nI (96 + a) from nI_le (a := 97) (by omega) (by omega)), show (97 : Int32) = nI 97 from rfl, nI_sub (by omega), nI_1, show 96 + a - 97 + 1 = a by omega]
        unfold f_X7_sign_b29 f_X7_sign_b56
        rw [if_neg (by decide), gd_t (by decide), c120, e182, d3, if_neg n8, goes0, if_neg (by decide), gd_t (by decide)]
        simp only [gU_n, gU_e, Nat.reduceEqDiff, not_false_eq_true, e182, d3]
        rw [show (960 : Int32) = nI 960 from rfl, nI_add, va]
        unfold f_X7_sign_b95
        have oA : okA 1 181 0 (nI (960 + l.length)) = true := by
          have : inb (nI (960 + l.length)) 1000 = true := inb_t (by omega) (by decide)
          unfold okA
          rw [show lA 181 = 1000 from rfl, this]; decide
        rw [gd_t oA, gd_t (by decide), gd_t (by decide), gd_t (by decide), c120, clE _ (by omega)]
        simp only [gU_n, gU_e, Nat.reduceEqDiff, not_false_eq_true, e182, d3, nI_1]
      refine ⟨0, _, _, nI (l.length + 1), _, rfl, mod, by simp only [gU_n, gU_e, Nat.reduceEqDiff, not_false_eq_true]; rfl, fun _ => (a4.2.1.trans (by rw [List.length_append]; rfl)).symm, Or.inl rfl, N, V, P, K, G, ?_, by omega⟩
      have fr1 : fr [60, 61, 62, 63, 181, 182, 209] σ (gU (gU (gU σ1 209 0 0 0) 181 0 (960 + l.length) (nI a)) 182 0 120 (nI (l.length + 1))) := by
        have := a2.mono (M := [60, 61, 62, 63, 181, 182, 209]) (by decide)
        (repeat (first | exact fr.rfl | assumption | refine fr_gU ?_ (by decide) | refine fr_gR ?_ (by decide)))
      refine I.drf fr1 (by decide) (fun h hh => ⟨fun k _ => ?_, fun k _ => ?_, ?_, ?_, ?_, fun k hk => ?_⟩) ⟨?_, fun k hk => ?_⟩
      · simp only [gU_n, gU_e, Nat.reduceEqDiff, not_false_eq_true, a3 60 h (by omega)]
      · simp only [gU_n, gU_e, Nat.reduceEqDiff, not_false_eq_true, a3 61 h (by omega)]
      · simp only [gU_n, gU_e, Nat.reduceEqDiff, not_false_eq_true, a3 62 h (by omega)]
      · simp only [gU_n, gU_e, Nat.reduceEqDiff, not_false_eq_true, a3 63 h (by omega)]
      · rw [gU_i (by omega)]; simp only [gU_n, gU_e, Nat.reduceEqDiff, not_false_eq_true, e182]
      · simp only [gU_n, gU_e, Nat.reduceEqDiff, not_false_eq_true]; rw [gU_i (by omega)]; simp only [gU_n, gU_e, Nat.reduceEqDiff, not_false_eq_true, e181]
      · refine (hwRel_of (a4.cp (fun k _ => ?_) (fun k _ => ?_) ?_ ?_) (M.add ha ?_ (fun k hk => ?_) ?_)).1
        · simp only [gU_n, gU_e, Nat.reduceEqDiff, not_false_eq_true]
        · simp only [gU_n, gU_e, Nat.reduceEqDiff, not_false_eq_true]
        · simp only [gU_n, gU_e, Nat.reduceEqDiff, not_false_eq_true]
        · simp only [gU_n, gU_e, Nat.reduceEqDiff, not_false_eq_true]
        · simp only [gU_n, gU_e, Nat.reduceEqDiff, not_false_eq_true]
        · simp only [gU_n, gU_e, Nat.reduceEqDiff, not_false_eq_true]; rw [gU_i (by omega)]; simp only [gU_n, gU_e, Nat.reduceEqDiff, not_false_eq_true, e181]
        · simp only [gU_n, gU_e, Nat.reduceEqDiff, not_false_eq_true]
      · simp only [gU_n, gU_e, Nat.reduceEqDiff, not_false_eq_true]; exact a5 k hk
  have neg : letB x = false → gapB x = false → stepX (cm3 1 2 0) (f_X6_sign fu σ x) (fun σ1 => f_X7_sign fu σ1 x) G := by
    intro h1 h2
    refine step_thr (c := 1) (v := 0) I (Or.inl rfl) (by decide) ?_ ⟨0, ?_⟩
    · unfold f_X6_sign
      rw [bd_s (isLet x), h1, bF, bd_s (isGap x), h2, bF]
    · show f_X7_sign fu σ x = _
      rw [signM, h1, h2]
      unfold f_X7_sign_b29 f_X7_sign_b56
      rw [if_pos (show bI (false || false) = 0 from rfl), goesX (by decide), if_pos rfl]
      rfl
  cases hb : letB x with
  | true =>
    obtain ⟨a, h1, h2, h3⟩ := letB_t hb
    have hg : gapB x = false := by
      cases hg : gapB x with
      | false => rfl
      | true => rw [gap_let hg] at hb; cases hb
    have := body a h2 (Or.inr ⟨by omega, h3, hb, hg⟩)
    have e1 : f_X6_sign fu σ x = f_X6_sign_b24 fu σ x := by
      unfold f_X6_sign; rw [bd_s (isLet x), hb, bT]
    have e2 : (fun σ1 => f_X7_sign fu σ1 x) = fun σ1 => f_X7_sign_b29 fu σ1 x 1 := by
      funext s; rw [signM, hb]; rfl
    rw [e1, e2]; exact this
  | false =>
    cases hg : gapB x with
    | false => exact neg hb hg
    | true =>
      have := body 0 (by decide) (Or.inl ⟨rfl, hg, hb⟩)
      have e1 : f_X6_sign fu σ x = f_X6_sign_b24 fu σ x := by
        unfold f_X6_sign; rw [bd_s (isLet x), hb, bF, bd_s (isGap x), hg, bT]
      have e2 : (fun σ1 => f_X7_sign fu σ1 x) = fun σ1 => f_X7_sign_b29 fu σ1 x 1 := by
        funext s; rw [signM, hb, hg]; rfl
      rw [e1, e2]; exact this
/-- a call that throws nothing, on both sides -/
def stepP (m : Option (Int32 × gSt)) (k : gSt → Option (Int32 × gSt)) (G : Nat) : Prop :=
  ∃ v σ1 σ2, m = some (v, σ1) ∧ k σ1 = some (v, σ2) ∧ ∃ N V P K G', Inv σ2 N V P K G' ∧ G' ≤ G + 1
theorem step_erase {fu : Nat} {σ : gSt} {N V P K G : Nat} (I : Inv σ N V P K G) : stepP (f_X6_erase fu σ) (fun σ1 => f_X7_erase fu σ1) G := by
  have D := I.2.1
  have c120 : (120 : Int32).toNatClampNeg = 120 := rfl
  unfold f_X6_erase f_X3_clear f_X7_erase
  refine ⟨σ 62 120 0, gU (gU σ 62 120 0 0) 63 120 0 0, gU (gU (gU (gU σ 62 120 0 0) 63 120 0 0) 209 0 0 0) 182 0 120 0, rfl, ?_, N, V, P, K, G, ?_, by omega⟩
  · show gd _ (gd _ _) = _
    rw [gd_t (by decide), gd_t (by decide), c120]
    simp only [gU_n, gU_e, Nat.reduceEqDiff, not_false_eq_true]
    rw [D.1.2.2.1, D.1.2.1]
  · refine I.drf (L := [62, 63, 209, 182]) (by (repeat (first | exact fr.rfl | assumption | refine fr_gU ?_ (by decide) | refine fr_gR ?_ (by decide)))) (by decide) (fun h hh => ⟨fun k _ => ?_, fun k _ => ?_, ?_, ?_, ?_, fun k hk => ?_⟩) ⟨?_, fun k hk => ?_⟩
    · simp only [gU_n, gU_e, Nat.reduceEqDiff, not_false_eq_true]
    · simp only [gU_n, gU_e, Nat.reduceEqDiff, not_false_eq_true]
    · simp only [gU_n, gU_e, Nat.reduceEqDiff, not_false_eq_true]; rw [gU_i (by omega)]
    · simp only [gU_n, gU_e, Nat.reduceEqDiff, not_false_eq_true]; rw [gU_i (by omega)]; simp only [gU_n, gU_e, Nat.reduceEqDiff, not_false_eq_true]
    · rw [gU_i (by omega)]; simp only [gU_n, gU_e, Nat.reduceEqDiff, not_false_eq_true]
    · simp only [gU_n, gU_e, Nat.reduceEqDiff, not_false_eq_true]
    · refine (hwRel_of (cw_nil ?_ ?_) (mwl_nil ?_)).1
      · simp only [gU_n, gU_e, Nat.reduceEqDiff, not_false_eq_true]
      · simp only [gU_n, gU_e, Nat.reduceEqDiff, not_false_eq_true]
      · simp only [gU_n, gU_e, Nat.reduceEqDiff, not_false_eq_true]
    · simp only [gU_n, gU_e, Nat.reduceEqDiff, not_false_eq_true]; exact D.2 k hk
theorem step_rule {fu : Nat} {σ : gSt} {N V P K G : Nat} {x : Int32} (hx : b01 x = true) (I : Inv σ N V P K G) : stepX (cm3 0 1 0) (f_X6_rule fu σ x) (fun σ1 => f_X7_rule fu σ1 x) G := by
  have p := I.2.2.1
  have v4 := I.1.1.2.1.1
  have hP := p.1
  have r := I.1.r
  unfold f_X6_rule
  rw [p.2.1]
  by_cases h0 : P = 0
  · subst h0
    rw [if_pos (by decide), gd_t hx, gd_t (by rw [r.1]; exact r.2)]
    refine ⟨0, _, _, _, gU (gU (gU σ 161 0 0 x) 209 0 0 0) 180 0 0 x, rfl, ?_, by simp only [gU_n, gU_e, Nat.reduceEqDiff, not_false_eq_true]; rfl, fun _ => r.1.symm, Or.inl rfl, N, V, 0, K, G, ?_, by omega⟩
    · show f_X7_rule fu (gU σ 161 0 0 x) x = _
      unfold f_X7_rule f_X7_rule_b13
      simp only [gU_n, gU_e, Nat.reduceEqDiff, not_false_eq_true]
      rw [p.2.2, if_pos (by decide), goes0, if_neg (by decide), gd_t hx, gd_t (by simp only [gU_n, gU_e, Nat.reduceEqDiff, not_false_eq_true]; exact r.2)]
      simp only [gU_n, gU_e, Nat.reduceEqDiff, not_false_eq_true]
    · have h : fr [161, 209, 180] σ (gU (gU (gU σ 161 0 0 x) 209 0 0 0) 180 0 0 x) := by (repeat (first | exact fr.rfl | assumption | refine fr_gU ?_ (by decide) | refine fr_gR ?_ (by decide)))
      obtain ⟨i1, i2, i3, i4, i5, i6, i7, i8, i9, i10⟩ := I
      refine ⟨?_, i2.frm h (by decide), i3.frm h (by decide), i4.frm h (by decide), i5.frm h (by decide), i6.frm h (by decide), i7.frm h (by decide), i8.frm h (by decide), i9.frm h (by decide), i10.frm h (by decide)⟩
      have hN := i1.hN
      obtain ⟨⟨⟨n1, n2, n3⟩, vv, rr, w, u⟩, rf⟩ := i1
      refine ⟨⟨⟨n1, by simp only [gU_n, gU_e, Nat.reduceEqDiff, not_false_eq_true]; exact n2, by simp only [gU_n, gU_e, Nat.reduceEqDiff, not_false_eq_true]; exact n3⟩, vv.frm h (by decide), ⟨by simp only [gU_n, gU_e, Nat.reduceEqDiff, not_false_eq_true], by simp only [gU_n, gU_e, Nat.reduceEqDiff, not_false_eq_true]; exact hx⟩, fun i hi => (sameH.of h (by decide) i).hwl (w i hi), fun i hi => ?_⟩, fun i hi => ?_⟩
      · simp only [gU_n, gU_e, Nat.reduceEqDiff, not_false_eq_true]; exact u i hi
      · obtain ⟨a1, a2, a3, a4, a5⟩ := rf i hi
        rw [h.rcNE' (by decide)]
        simp only [gU_n, gU_e, Nat.reduceEqDiff, not_false_eq_true]
        exact ⟨a1, a2, a3, a4, fun r hr => (sameH.of h (by decide) _).hwl (a5 r hr)⟩
  · rw [if_neg (nI_nle (by omega) (by omega))]
    refine step_thr I (Or.inr (Or.inl rfl)) (by decide) rfl ⟨0, ?_⟩
    show f_X7_rule fu σ x = _
    unfold f_X7_rule f_X7_rule_b13
    rw [p.2.2, if_neg (nI_nle (by omega) (by omega)), goesX (by decide), if_pos rfl]
    rfl

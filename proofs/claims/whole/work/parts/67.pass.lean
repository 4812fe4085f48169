/-! pass: both sides month by month, contributor by contributor -/
def qM (σ : gSt) (N G c : Nat) (q : List Nat) : Prop := (∀ j, j ∈ q ↔ j < N ∧ σ 186 0 j = 1 ∧ σ 187 0 j = nI c) ∧ q.Pairwise (fun a b => nthN σ a < nthN σ b) ∧ ∀ j, j ∈ q → σ 189 0 j = nI (nthN σ j) ∧ nthN σ j < G
theorem first_okM {fu : Nat} {σ : gSt} {N G c : Nat} {q : List Nat} (hfu : 30 ≤ fu) (hG : G < 2 ^ 31) (hN : N ≤ 24) (eN : σ 183 0 0 = nI N) (Q : qM σ N G c q) : f_X7_first fu σ (nI c) = some (hdI q, σ) := by
  obtain ⟨q3, q4, q5⟩ := Q
  have hm : ∀ j, j < N → pB σ c j = true → j ∈ q := fun j hj hp => (q3 j).mpr ⟨hj, pB_iff.mp hp⟩
  obtain ⟨z, z1, z2⟩ := first_loop (fu := fu) (c := c) hN eN (fun j hj hp => by
    have := q5 j (hm j hj hp)
    exact ⟨this.1, by omega⟩) fu 0 (-1) (Nat.zero_le _) (by omega) (Or.inl ⟨rfl, fun j hj => by omega⟩)
  rw [show f_X7_first fu σ (nI c) = _ from z1]
  have : z = hdI q := by
    cases q with
    | nil =>
      rcases z2 with ⟨h, -⟩ | ⟨m, h1, h2, h3, h4⟩
      · exact h
      · exact absurd (hm m h1 h3) (by simp)
    | cons a r =>
      obtain ⟨a1, a2⟩ := (q3 a).mp List.mem_cons_self
      have pa := pB_iff.mpr a2
      rcases z2 with ⟨h, h'⟩ | ⟨m, h1, h2, h3, h4⟩
      · rw [h' a a1] at pa; cases pa
      · rcases List.mem_cons.mp (hm m h1 h3) with e | e
        · rw [h2, e]; rfl
        · have := (List.pairwise_cons.mp q4).1 m e
          have := h4 a a1 pa
          omega
  rw [this]
theorem qM.frm {L : List Nat} {σ σ' : gSt} {N G c : Nat} {q : List Nat} (Q : qM σ N G c q) (h : fr L σ σ') (d : dj L [186, 187, 189] = true) : qM σ' N G c q := by
  unfold qM nthN at *
  simp only [h.at d (F := 186) (by decide), h.at d (F := 187) (by decide), h.at d (F := 189) (by decide)]
  exact Q
theorem remF {fu : Nat} {s : gSt} {c n : Nat} (hc : c < 6) (hn : n < 24) (e32 : s 32 c 0 = nI (n + 1)) : f_X1_removeFirst fu s c = some (0, gR (gU s 32 c 0 (nI n)) 30 c (va_cpy (fun k => s 30 c k) (fun k => s 30 c k) 1 0 n)) := by
  have ok : ∀ f : Nat → Int32, okCp 1 30 c 30 c 1 0 (nI n) f = true := fun f => by
    have b1 : Nat.blt c 6 = true := Nat.ble_eq_true_of_le hc
    have b2 : Nat.ble (1 + n) 24 = true := Nat.ble_eq_true_of_le (by omega)
    have b3 : Nat.ble (0 + n) 24 = true := Nat.ble_eq_true_of_le (by omega)
    unfold okCp
    rw [show nA 30 = 6 from rfl, b1, nI_clamp (by omega : n < 2 ^ 31), show (1 : Int32).toNatClampNeg = 1 from rfl, show (0 : Int32).toNatClampNeg = 0 from rfl, show lA 30 = 24 from rfl, b2, b3, decide_eq_true (nI_pos' (by omega : n < 2 ^ 31))]
    rfl
  unfold f_X1_removeFirst f_X1_removeFirst_b34
  simp only [gU_n, gU_e, Nat.reduceEqDiff, not_false_eq_true, e32, nI_pred]
  rw [if_neg (nI_nle (by omega) (by omega)), gd_t (ok _), nI_clamp (by omega : n < 2 ^ 31)]
  rfl
theorem begin0 {fu : Nat} {s : gSt} {c : Nat} (e32 : s 32 c 0 = nI 0) : f_X6_beginFirst fu s c = some (0, s) := by
  unfold f_X6_beginFirst f_X6_beginFirst_b37
  rw [e32, if_pos (by decide)]
def Mp : List Nat := [186, 188, 207, 209]
def Cp : List Nat := [8, 9, 30, 32, 160, 209]
/-- one contributor in one month -/
def psR (ρ : gSt) (N V c h : Nat) (r : List Nat) : gSt :=
  let ρ1 := gU (gR (gU (gU ρ 9 h 0 1) 32 c 0 (nI r.length)) 30 c (va_cpy (fun k => ρ 30 c k) (fun k => ρ 30 c k) 1 0 r.length)) 186 0 h 2
  match r with
  | [] => ρ1
  | r0 :: _ => gU (gU ρ1 8 r0 0 (ρ 160 0 0 + moS ρ N V r0 (ρ 33 c 0))) 188 0 r0 (ρ 160 0 0 + moS ρ N V r0 (ρ 33 c 0))
theorem psR_fr {ρ : gSt} {N V c h : Nat} {r : List Nat} : fr [8, 9, 30, 32, 186, 188] ρ (psR ρ N V c h r) := by
  unfold psR
  cases r with
  | nil => show fr _ ρ (gU (gR (gU (gU ρ 9 h 0 1) 32 c 0 _) 30 c _) 186 0 h 2); (repeat (first | exact fr.rfl | assumption | refine fr_gU ?_ (by decide) | refine fr_gR ?_ (by decide)))
  | cons r0 t => show fr _ ρ (gU (gU (gU (gR (gU (gU ρ 9 h 0 1) 32 c 0 _) 30 c _) 186 0 h 2) 8 r0 0 _) 188 0 r0 _); (repeat (first | exact fr.rfl | assumption | refine fr_gU ?_ (by decide) | refine fr_gR ?_ (by decide)))
theorem psR_inv {ρ : gSt} {N V P K G c h : Nat} {r : List Nat} (I : Inv ρ N V P K G) (hc : c < K) (Q : qOk ρ N G c (h :: r)) : Inv (psR ρ N V c h r) N V P K G := by
  have f := psR_fr (ρ := ρ) (N := N) (V := V) (c := c) (h := h) (r := r)
  obtain ⟨i1, i2, i3, i4, i5, i6, i7, i8, i9, i10⟩ := I
  have hN := i1.hN
  have K6 := i7.1
  have ql := Q.len
  obtain ⟨q1, q2, q3, q4, q5⟩ := Q
  obtain ⟨hhN, h186, h187⟩ := (q3 h).mp List.mem_cons_self
  obtain ⟨p1, p2⟩ := List.pairwise_cons.mp q4
  have hr : h ∉ r := fun z => Nat.lt_irrefl _ (p1 h z)
  have hrl : r.length < 24 := by rw [List.length_cons] at ql; omega
  have r0N : ∀ r0 t, r = r0 :: t → r0 ≠ h ∧ r0 < N := fun r0 t e => by
    refine ⟨fun z => hr (by rw [e, z]; exact List.mem_cons_self), ((q3 r0).mp (List.mem_cons_of_mem _ (by rw [e]; exact List.mem_cons_self))).1⟩
  -- what it reads as
  have r9 : ∀ j, psR ρ N V c h r 9 j 0 = if j = h then 1 else ρ 9 j 0 := fun j => by
    have : psR ρ N V c h r 9 = gU ρ 9 h 0 1 9 := by
      unfold psR
      cases r with
      | nil => show (gU (gR (gU (gU ρ 9 h 0 1) 32 c 0 _) 30 c _) 186 0 h 2) 9 = _; funext a b; simp [gU, gR]
      | cons r0 t => show (gU (gU (gU (gR (gU (gU ρ 9 h 0 1) 32 c 0 _) 30 c _) 186 0 h 2) 8 r0 0 _) 188 0 r0 _) 9 = _; funext a b; simp [gU, gR]
    rw [this]
    by_cases ej : j = h
    · subst ej; rw [if_pos rfl, gU_e]
    · rw [if_neg ej, gU_i (by omega)]
  have r186 : ∀ j, psR ρ N V c h r 186 0 j = if j = h then 2 else ρ 186 0 j := fun j => by
    have : psR ρ N V c h r 186 = gU ρ 186 0 h 2 186 := by
      unfold psR
      cases r with
      | nil => show (gU (gR (gU (gU ρ 9 h 0 1) 32 c 0 _) 30 c _) 186 0 h 2) 186 = _; funext a b; simp [gU, gR]
      | cons r0 t => show (gU (gU (gU (gR (gU (gU ρ 9 h 0 1) 32 c 0 _) 30 c _) 186 0 h 2) 8 r0 0 _) 188 0 r0 _) 186 = _; funext a b; simp [gU, gR]
    rw [this]
    by_cases ej : j = h
    · subst ej; rw [if_pos rfl, gU_e]
    · rw [if_neg ej, gU_i (by omega)]
  have r32 : ∀ d, psR ρ N V c h r 32 d 0 = if d = c then nI r.length else ρ 32 d 0 := fun d => by
    have : psR ρ N V c h r 32 = gU ρ 32 c 0 (nI r.length) 32 := by
      unfold psR
      cases r with
      | nil => show (gU (gR (gU (gU ρ 9 h 0 1) 32 c 0 _) 30 c _) 186 0 h 2) 32 = _; funext a b; simp [gU, gR]
      | cons r0 t => show (gU (gU (gU (gR (gU (gU ρ 9 h 0 1) 32 c 0 _) 30 c _) 186 0 h 2) 8 r0 0 _) 188 0 r0 _) 32 = _; funext a b; simp [gU, gR]
    rw [this]
    by_cases ej : d = c
    · subst ej; rw [if_pos rfl, gU_e]
    · rw [if_neg ej, gU_i (by omega)]
  have r30 : ∀ d k, psR ρ N V c h r 30 d k = if d = c then va_cpy (fun k => ρ 30 c k) (fun k => ρ 30 c k) 1 0 r.length k else ρ 30 d k := fun d k => by
    unfold psR
    cases r with
    | nil => show (gU (gR (gU (gU ρ 9 h 0 1) 32 c 0 _) 30 c _) 186 0 h 2) 30 d k = _; simp only [gU, gR]; by_cases e : d = c <;> simp [e]
    | cons r0 t => show (gU (gU (gU (gR (gU (gU ρ 9 h 0 1) 32 c 0 _) 30 c _) 186 0 h 2) 8 r0 0 _) 188 0 r0 _) 30 d k = _; simp only [gU, gR]; by_cases e : d = c <;> simp [e]
  have r8 : ∀ j, j < N → psR ρ N V c h r 188 0 j = psR ρ N V c h r 8 j 0 := fun j hj => by
    have e0 := ((i4 j (by omega)).2.2.2.2.2.2.1 hj).2.2.1
    unfold psR
    cases r with
    | nil => show (gU (gR (gU (gU ρ 9 h 0 1) 32 c 0 _) 30 c _) 186 0 h 2) 188 0 j = (gU (gR (gU (gU ρ 9 h 0 1) 32 c 0 _) 30 c _) 186 0 h 2) 8 j 0; simp [gU, gR]; exact e0
    | cons r0 t =>
      show (gU (gU (gU (gR (gU (gU ρ 9 h 0 1) 32 c 0 _) 30 c _) 186 0 h 2) 8 r0 0 _) 188 0 r0 _) 188 0 j = (gU (gU (gU (gR (gU (gU ρ 9 h 0 1) 32 c 0 _) 30 c _) 186 0 h 2) 8 r0 0 _) 188 0 r0 _) 8 j 0
      by_cases ej : j = r0
      · subst ej; simp [gU]
      · simp [gU, gR, ej]; exact e0
  have r8N : ∀ j, N ≤ j → psR ρ N V c h r 8 j 0 = ρ 8 j 0 := fun j hj => by
    unfold psR
    cases r with
    | nil => show (gU (gR (gU (gU ρ 9 h 0 1) 32 c 0 _) 30 c _) 186 0 h 2) 8 j 0 = _; simp [gU, gR]
    | cons r0 t =>
      have := (r0N r0 t rfl).2
      show (gU (gU (gU (gR (gU (gU ρ 9 h 0 1) 32 c 0 _) 30 c _) 186 0 h 2) 8 r0 0 _) 188 0 r0 _) 8 j 0 = _
      have ej : ¬ j = r0 := by omega
      simp [gU, gR, ej]
  generalize psR ρ N V c h r = σ at f r9 r186 r32 r30 r8 r8N ⊢
  have hp : prB σ = prB ρ := by funext j; simp only [prB, f 11 (by decide)]
  have hn : nthN σ = nthN ρ := by funext j; simp only [nthN, f 189 (by decide)]
  refine ⟨i1.frm f (by decide), i2.frm f (by decide), i3.frm f (by decide), fun j hj => ?_, i5.frm f (by decide), i6.frm f (by decide), i7.frm f (by decide), ⟨by rw [f 206 (by decide)]; exact i8.1, fun d hd => ?_⟩, i9.frm f (by decide), i10.frm f (by decide)⟩
  · obtain ⟨u1, u2, u3, u4, u5, u6, u7, u8, u9, u10⟩ := i4 j hj
    have ht : txB σ j = if j = h then true else txB ρ j := by
      simp only [txB, r9]
      by_cases ej : j = h
      · rw [if_pos ej, if_pos ej]; rfl
      · rw [if_neg ej, if_neg ej]
    unfold aR
    rw [hp, ht, r186, r9, f 11 (by decide), f 7 (by decide), f 10 (by decide), f 190 (by decide), f 5 (by decide), f 184 (by decide), f 187 (by decide), show wN σ j = wN ρ j by simp only [wN, f 185 (by decide)]]
    by_cases ej : j = h
    · subst ej
      rw [if_pos rfl, if_pos rfl, if_pos rfl]
      rw [u5] at h186
      obtain ⟨np, nt, nw⟩ := stV1 h186
      rw [np] at u1 ⊢
      exact ⟨u1, rfl, u3, u4, rfl, u6, fun _ => ⟨(u7 hhN).1, (u7 hhN).2.1, r8 j hhN, (u7 hhN).2.2.2⟩, fun z => by omega, fun _ => nw, fun z => (by cases z)⟩
    · rw [if_neg ej, if_neg ej, if_neg ej]
      exact ⟨u1, u2, u3, u4, u5, u6, fun z => ⟨(u7 z).1, (u7 z).2.1, r8 j z, (u7 z).2.2.2⟩, fun z => by rw [r8N j z]; exact u8 z, u9, u10⟩
  · show ∃ q' : List Nat, σ 32 d 0 = nI q'.length ∧ (∀ k j, q'[k]? = some j → σ 30 d k = nI j) ∧ (∀ j, j ∈ q' ↔ j < N ∧ σ 186 0 j = 1 ∧ σ 187 0 j = nI d) ∧ q'.Pairwise (fun a b => nthN σ a < nthN σ b) ∧ ∀ j, j ∈ q' → σ 189 0 j = nI (nthN σ j) ∧ nthN σ j < G
    rw [hn, f 189 (by decide), f 187 (by decide), r32]
    by_cases ed : d = c
    · subst ed
      refine ⟨r, if_pos rfl, fun k j hk => ?_, fun j => ?_, p2, fun j hj => q5 j (List.mem_cons_of_mem _ hj)⟩
      · have lk := at_lt hk
        rw [r30, if_pos rfl]
        have : va_cpy (fun k => ρ 30 d k) (fun k => ρ 30 d k) 1 0 r.length k = ρ 30 d (k + 1) := by
          unfold va_cpy
          rw [if_pos (by omega)]
          show ρ 30 d (1 + (k - 0)) = _
          congr 1; omega
        rw [this]
        exact q2 (k + 1) j (by rw [List.getElem?_cons_succ]; exact hk)
      · rw [r186]
        by_cases ej : j = h
        · subst ej
          rw [if_pos rfl]
          exact ⟨fun z => absurd z hr, fun z => absurd z.2.1 (by decide)⟩
        · rw [if_neg ej, ← q3 j, List.mem_cons]
          exact ⟨fun z => Or.inr z, fun z => z.resolve_left ej⟩
    · obtain ⟨q', s1, s2, s3, s4, s5⟩ := i8.2 d hd
      have hq' : h ∉ q' := fun z => by
        have := ((s3 h).mp z).2.2
        rw [h187] at this
        exact ed ((nI_eq (by omega) (by omega)).mp this).symm
      refine ⟨q', by rw [if_neg ed]; exact s1, fun k j hk => by rw [r30, if_neg ed]; exact s2 k j hk, fun j => ?_, s4, s5⟩
      rw [r186]
      by_cases ej : j = h
      · subst ej
        rw [if_pos rfl]
        exact ⟨fun z => absurd z hq', fun z => absurd z.2.1 (by decide)⟩
      · rw [if_neg ej]; exact s3 j
theorem Mp_sF : dj Mp sF = true := by decide
theorem Cp_sF : dj Cp sF = true := by decide
theorem pass_step {fu : Nat} {ρ : gSt} {N V P K G c : Nat} (hfu : 30 ≤ fu) (hG : G < 2 ^ 30) (I : Inv ρ N V P K G) (hc : c < K) : ∃ (b : Bool) (ρ' : gSt), Inv ρ' N V P K G ∧ fr [8, 9, 30, 32, 186, 188] ρ ρ' ∧
    (∀ σ, fr Mp ρ σ → ∃ σ', f_X6_endsAnArticle fu σ c = some (bI b, σ') ∧ fr Mp ρ' σ' ∧ fr [8, 9, 30, 32] σ σ') ∧
    (∀ (μ : gSt) (k28 : gSt → Int32 → Int32 → Int32 → Option (Int32 × gSt)) (k46 : gSt → Int32 → Int32 → Int32 → Int32 → Option (Int32 × gSt)) (x1 x2 x3 : Int32), fr Cp ρ μ → ∃ μ', f_X7_pass_b46_B fu k28 k46 μ x1 x2 x3 (nI c) = k46 μ' x1 (cond b (x2 + 1) x2) x3 (nI (c + 1)) ∧ fr Cp ρ' μ' ∧ fr [186, 188] μ μ') := by
  have S := I.1
  have hN := S.hN
  obtain ⟨k1, k2, k3, k4, k5⟩ := I.2.2.2.2.2.2.1
  obtain ⟨pc, pc1, pc2, pc3, pc4⟩ := k5 c hc
  have e33 : ¬ ρ 33 c 0 = 0 := by rw [pc3]; exact nI_ne0 (by omega) (by omega)
  have e202 : ρ 202 0 c = ρ 33 c 0 := by rw [pc3, pc4]
  have tm : ρ 207 0 0 = ρ 160 0 0 := I.2.2.2.2.2.2.2.2.1
  obtain ⟨q, Q⟩ := I.2.2.2.2.2.2.2.1.2 c (by omega)
  have Qm : qM ρ N G c q := ⟨Q.2.2.1, Q.2.2.2.1, Q.2.2.2.2⟩
  have rdS : ∀ {σ : gSt}, fr Mp ρ σ → ∀ F, F ∉ Mp → σ F = ρ F := fun h F hF => h F hF
  have hd : ∀ (μ : gSt) (k28 : gSt → Int32 → Int32 → Int32 → Option (Int32 × gSt)) (k46 : gSt → Int32 → Int32 → Int32 → Int32 → Option (Int32 × gSt)) (x1 x2 x3 : Int32), fr Cp ρ μ → f_X7_pass_b46_B fu k28 k46 μ x1 x2 x3 (nI c) = (if hdI q = (-1 : Int32) then k46 μ x1 x2 x3 (nI (c + 1)) else (gd (inb (hdI q) 24) (if (ρ 188 0 (hdI q).toNatClampNeg) = (ρ 160 0 0) then (gd (inb (hdI q) 24) (bd (f_X7_first fu (gU μ 186 0 (hdI q).toNatClampNeg (2 : Int32)) (nI c)) (fun v5 σ5 => if v5 = (-1 : Int32) then k46 σ5 x1 (x2 + (1)) x3 (nI (c + 1)) else (bd (f_X7_begins fu σ5 v5 (nI c)) (fun _ σ7 => k46 σ7 x1 (x2 + (1)) x3 (nI (c + 1))))))) else k46 μ x1 x2 x3 (nI (c + 1))))) := fun μ k28 k46 x1 x2 x3 hμ => by
    have Sμ : sRel μ N V := S.frm hμ Cp_sF
    unfold f_X7_pass_b46_B f_X7_pass_b116
    rw [hμ 201 (by decide), k3, if_neg (nI_ge hc (by omega)), bd_s (first_okM hfu (by omega) hN Sμ.nM (Qm.frm hμ (by decide))), nI_1, hμ 188 (by decide), hμ 207 (by decide), tm]
  cases q with
  | nil =>
    refine ⟨false, ρ, I, fr.rfl, fun σ hσ => ⟨σ, ?_, hσ, fr.rfl⟩, fun μ k28 k46 x1 x2 x3 hμ => ⟨μ, ?_, hμ, fr.rfl⟩⟩
    · unfold f_X6_endsAnArticle
      rw [rdS hσ 32 (by decide), Q.1, if_pos (show nI ([] : List Nat).length = 0 from rfl)]; rfl
    · rw [hd μ k28 k46 x1 x2 x3 hμ, if_pos (show hdI [] = -1 from rfl)]; rfl
  | cons h r =>
    obtain ⟨hhN, h186, h187⟩ := (Q.2.2.1 h).mp List.mem_cons_self
    have ql := Q.len
    have rl : r.length < 24 := by rw [List.length_cons] at ql; omega
    have e8 : ρ 188 0 h = ρ 8 h 0 := ((I.2.2.2.1 h (by omega)).2.2.2.2.2.2.1 hhN).2.2.1
    have e30 : ρ 30 c 0 = nI h := Q.2.1 0 h rfl
    have ch : (nI h).toNatClampNeg = h := nI_clamp (by omega : h < 2 ^ 31)
    have in24 : inb (nI h) 24 = true := inb_t (by omega) (by decide)
    have chead : ∀ σ, fr Mp ρ σ → f_X6_endsAnArticle fu σ c = (if ρ 8 h 0 = ρ 160 0 0 then (bd (f_X1_removeFirst fu (gU σ 9 h 0 (1 : Int32)) c) (fun _ σ3 => bd (f_X6_beginFirst fu σ3 c) (fun _ σ4 => some ((1 : Int32), σ4)))) else (some ((0 : Int32), σ))) := fun σ hσ => by
      unfold f_X6_endsAnArticle
      rw [rdS hσ 32 (by decide), Q.1, if_neg (nI_ne0 (by rw [List.length_cons]; omega) (by rw [List.length_cons]; omega)), gd_t (by decide), rdS hσ 30 (by decide), show (0 : Int32).toNatClampNeg = 0 from rfl, e30, gd_t in24, ch, rdS hσ 8 (by decide), rdS hσ 160 (by decide)]
    have hd' : hdI (h :: r) = nI h := rfl
    by_cases due : ρ 8 h 0 = ρ 160 0 0
    · have I' := psR_inv I hc Q
      refine ⟨true, psR ρ N V c h r, I', psR_fr, fun σ hσ => ?_, fun μ k28 k46 x1 x2 x3 hμ => ?_⟩
      · rw [chead σ hσ, if_pos due]
        have s32 : (gU σ 9 h 0 1) 32 c 0 = nI (r.length + 1) := by simp only [gU_n, gU_e, Nat.reduceEqDiff, not_false_eq_true]; rw [rdS hσ 32 (by decide), Q.1]; rfl
        rw [bd_s (remF (by omega) rl s32)]
        have hσ9 : ∀ k, (gU σ 9 h 0 1) 30 c k = ρ 30 c k := fun k => by simp only [gU_n, gU_e, Nat.reduceEqDiff, not_false_eq_true]; rw [rdS hσ 30 (by decide)]
        simp only [hσ9]
        generalize hs : gR (gU (gU σ 9 h 0 1) 32 c 0 (nI r.length)) 30 c (va_cpy (fun k => ρ 30 c k) (fun k => ρ 30 c k) 1 0 r.length) = s
        have fs : fr [9, 32, 30] σ s := by rw [← hs]; (repeat (first | exact fr.rfl | assumption | refine fr_gU ?_ (by decide) | refine fr_gR ?_ (by decide)))
        have fs2 : fr Mp (gU (gR (gU (gU ρ 9 h 0 1) 32 c 0 (nI r.length)) 30 c (va_cpy (fun k => ρ 30 c k) (fun k => ρ 30 c k) 1 0 r.length)) 186 0 h 2) s := by
          rw [← hs]
          intro F hF
          funext a b
          have h1 : σ F a b = ρ F a b := by rw [rdS hσ F hF]
          have h2 : ¬ F = 186 := fun z => hF (by rw [z]; decide)
          simp only [gU, gR, h1, h2, false_and, if_false]
        cases r with
        | nil =>
          refine ⟨s, ?_, fs2, fs.mono (by decide)⟩
          rw [bd_s (begin0 (by rw [← hs]; simp [gU, gR]))]; rfl
        | cons r0 t =>
          have r0N := ((Q.2.2.1 r0).mp (List.mem_cons_of_mem _ List.mem_cons_self)).1
          have Ss : sRel s N V := (S.frm hσ Mp_sF).frm fs (by decide)
          have v30 : s 30 c 0 = nI r0 := by
            rw [← hs]
            simp only [gR, and_self, if_true]
            unfold va_cpy
            rw [if_pos (by rw [List.length_cons]; omega)]
            exact Q.2.1 1 r0 rfl
          have v32 : s 32 c 0 = nI (r0 :: t).length := by rw [← hs]; simp [gU, gR]
          have v33 : s 33 = ρ 33 := by rw [fs 33 (by decide), rdS hσ 33 (by decide)]
          have v160 : s 160 = ρ 160 := by rw [fs 160 (by decide), rdS hσ 160 (by decide)]
          have mo : moS s N V r0 (ρ 33 c 0) = moS ρ N V r0 (ρ 33 c 0) := by
            unfold moS
            rw [fs.colE (by decide), hσ.colE Mp_sF]
          refine ⟨gU s 8 r0 0 (ρ 160 0 0 + moS ρ N V r0 (ρ 33 c 0)), ?_, ?_, ?_⟩
          · rw [bd_s (beginC hfu Ss r0N v32 (by rw [List.length_cons]; omega) (by omega) v30 (by rw [v33]; exact e33)), v33, v160, mo]; rfl
          · have : fr Mp (gU (gU (gU (gR (gU (gU ρ 9 h 0 1) 32 c 0 (nI (r0 :: t).length)) 30 c (va_cpy (fun k => ρ 30 c k) (fun k => ρ 30 c k) 1 0 (r0 :: t).length)) 186 0 h 2) 8 r0 0 (ρ 160 0 0 + moS ρ N V r0 (ρ 33 c 0))) 188 0 r0 (ρ 160 0 0 + moS ρ N V r0 (ρ 33 c 0))) (gU s 8 r0 0 (ρ 160 0 0 + moS ρ N V r0 (ρ 33 c 0))) :=
              (fr.sym (fr_gU (L := Mp) fr.rfl (by decide))).tr (fr_gU2 fs2)
            exact this
          · have := fs.mono (M := [8, 9, 30, 32]) (by decide)
            (repeat (first | exact fr.rfl | assumption | refine fr_gU ?_ (by decide) | refine fr_gR ?_ (by decide)))
      · have Sμ : sRel μ N V := S.frm hμ Cp_sF
        rw [hd μ k28 k46 x1 x2 x3 hμ, hd', if_neg (m1_ne (by omega)), gd_t in24, gd_t in24, ch, e8, if_pos due]
        have Q' := (psR_inv I hc Q).2.2.2.2.2.2.2.1.2 c (by omega)
        have fμ : fr [186] μ (gU μ 186 0 h 2) := by (repeat (first | exact fr.rfl | assumption | refine fr_gU ?_ (by decide) | refine fr_gR ?_ (by decide)))
        have Qr : qM (gU μ 186 0 h 2) N G c r := by
          obtain ⟨q3, q4, q5⟩ := Qm
          obtain ⟨p1, p2⟩ := List.pairwise_cons.mp q4
          have hr : h ∉ r := fun z => Nat.lt_irrefl _ (p1 h z)
          have nn : nthN (gU μ 186 0 h 2) = nthN ρ := by funext j; simp only [nthN, gU_n, gU_e, Nat.reduceEqDiff, not_false_eq_true]; rw [hμ 189 (by decide)]
          refine ⟨fun j => ?_, ?_, fun j hj => ?_⟩
          · by_cases ej : j = h
            · subst ej
              rw [gU_e]
              exact ⟨fun z => absurd z hr, fun z => absurd z.2.1 (by decide)⟩
            · rw [gU_i (by omega)]
              simp only [gU_n, gU_e, Nat.reduceEqDiff, not_false_eq_true]
              rw [hμ 186 (by decide), hμ 187 (by decide), ← q3 j, List.mem_cons]
              exact ⟨fun z => Or.inr z, fun z => z.resolve_left ej⟩
          · rw [nn]; exact p2
          · rw [nn]; simp only [gU_n, gU_e, Nat.reduceEqDiff, not_false_eq_true]; rw [hμ 189 (by decide)]; exact q5 j (List.mem_cons_of_mem _ hj)
        have S2 : sRel (gU μ 186 0 h 2) N V := Sμ.frm fμ (by decide)
        rw [bd_s (first_okM hfu (by omega) hN S2.nM Qr)]
        have f2 : fr Cp (gU (gR (gU (gU ρ 9 h 0 1) 32 c 0 (nI r.length)) 30 c (va_cpy (fun k => ρ 30 c k) (fun k => ρ 30 c k) 1 0 r.length)) 186 0 h 2) (gU μ 186 0 h 2) := by
          refine fr_gU2 ?_
          refine (fr.sym ?_).tr hμ
          (repeat (first | exact fr.rfl | assumption | refine fr_gU ?_ (by decide) | refine fr_gR ?_ (by decide)))
        cases r with
        | nil =>
          refine ⟨gU μ 186 0 h 2, ?_, f2, by (repeat (first | exact fr.rfl | assumption | refine fr_gU ?_ (by decide) | refine fr_gR ?_ (by decide)))⟩
          rw [if_pos (show hdI [] = -1 from rfl)]; rfl
        | cons r0 t =>
          have r0N := ((Q.2.2.1 r0).mp (List.mem_cons_of_mem _ List.mem_cons_self)).1
          have hh0 : hdI (r0 :: t) = nI r0 := rfl
          have mo : moS (gU μ 186 0 h 2) N V r0 (ρ 33 c 0) = moS ρ N V r0 (ρ 33 c 0) := by
            unfold moS
            rw [fμ.colE (by decide), hμ.colE Cp_sF]
          refine ⟨gU (gU μ 186 0 h 2) 188 0 r0 (ρ 160 0 0 + moS ρ N V r0 (ρ 33 c 0)), ?_, ?_, by (repeat (first | exact fr.rfl | assumption | refine fr_gU ?_ (by decide) | refine fr_gR ?_ (by decide)))⟩
          · rw [hh0, if_neg (m1_ne (by omega)), bd_s (beginM hfu S2 r0N (by omega) (by simp only [gU_n, gU_e, Nat.reduceEqDiff, not_false_eq_true]; rw [hμ 202 (by decide), e202]; exact e33))]
            simp only [gU_n, gU_e, Nat.reduceEqDiff, not_false_eq_true]
            rw [hμ 202 (by decide), hμ 207 (by decide), e202, tm, mo]; rfl
          · have : fr Cp (gU (gU (gU (gR (gU (gU ρ 9 h 0 1) 32 c 0 (nI (r0 :: t).length)) 30 c (va_cpy (fun k => ρ 30 c k) (fun k => ρ 30 c k) 1 0 (r0 :: t).length)) 186 0 h 2) 8 r0 0 (ρ 160 0 0 + moS ρ N V r0 (ρ 33 c 0))) 188 0 r0 (ρ 160 0 0 + moS ρ N V r0 (ρ 33 c 0))) (gU (gU μ 186 0 h 2) 188 0 r0 (ρ 160 0 0 + moS ρ N V r0 (ρ 33 c 0))) :=
              fr_gU2 ((fr.sym (fr_gU (L := Cp) fr.rfl (by decide))).tr f2)
            exact this
    · refine ⟨false, ρ, I, fr.rfl, fun σ hσ => ⟨σ, ?_, hσ, fr.rfl⟩, fun μ k28 k46 x1 x2 x3 hμ => ⟨μ, ?_, hμ, fr.rfl⟩⟩
      · rw [chead σ hσ, if_neg due]; rfl
      · rw [hd μ k28 k46 x1 x2 x3 hμ, hd', if_neg (m1_ne (by omega)), gd_t in24, ch, e8, if_neg due]; rfl

theorem addc {x : Int32} {b : Bool} {w : Nat} : cond b (x + 1) x + nI w = x + nI (cond b 1 0 + w) := by
  cases b with
  | false => simp only [cond_false, Nat.zero_add]
  | true =>
    simp only [cond_true]
    rw [← nI_add, Int32.add_assoc]; rfl
/-- one month -/
theorem pass_in {fu : Nat} {N V P K G : Nat} (hfu : 30 ≤ fu) (hG : G < 2 ^ 30) : ∀ m c (ρ : gSt), c + m = K → Inv ρ N V P K G → ∃ (w : Nat) (ρ' : gSt), Inv ρ' N V P K G ∧ fr [8, 9, 30, 32, 186, 188] ρ ρ' ∧
    (∀ (σ : gSt) (n : Nat) (k25 : gSt → Int32 → Int32 → Int32 → Option (Nat × Int32 × gSt)) (x1 x2 x3 : Int32), fr Mp ρ σ → m < n → ∃ σ', f_X6_pass_b43 fu k25 n σ x1 x2 x3 (nI c) = k25 σ' x1 (x2 + nI w) (x3 + 1) ∧ fr Mp ρ' σ' ∧ fr [8, 9, 30, 32] σ σ') ∧
    (∀ (μ : gSt) (n : Nat) (k28 : gSt → Int32 → Int32 → Int32 → Option (Int32 × gSt)) (x1 x2 x3 : Int32), fr Cp ρ μ → m < n → ∃ μ', f_X7_pass_b46 fu k28 n μ x1 x2 x3 (nI c) = k28 μ' x1 (x2 + nI w) (x3 + 1) ∧ fr Cp ρ' μ' ∧ fr [186, 188] μ μ') := by
  intro m
  induction m with
  | zero =>
    intro c ρ h I
    obtain ⟨k1, k2, k3, k4, k5⟩ := I.2.2.2.2.2.2.1
    have z : ∀ x : Int32, x + nI 0 = x := fun x => Int32.add_zero x
    refine ⟨0, ρ, I, fr.rfl, fun σ n k25 x1 x2 x3 hσ hn => ⟨σ, ?_, hσ, fr.rfl⟩, fun μ n k28 x1 x2 x3 hμ hn => ⟨μ, ?_, hμ, fr.rfl⟩⟩
    · obtain ⟨n, rfl⟩ : ∃ k, n = k + 1 := ⟨n - 1, by omega⟩
      show f_X6_pass_b43_B fu k25 (f_X6_pass_b43 fu k25 n) σ x1 x2 x3 (nI c) = _
      unfold f_X6_pass_b43_B
      rw [hσ 159 (by decide), k2, if_pos (nI_le (by omega) (by omega)), z]
    · obtain ⟨n, rfl⟩ : ∃ k, n = k + 1 := ⟨n - 1, by omega⟩
      show f_X7_pass_b46_B fu k28 (f_X7_pass_b46 fu k28 n) μ x1 x2 x3 (nI c) = _
      unfold f_X7_pass_b46_B
      rw [hμ 201 (by decide), k3, if_pos (nI_le (by omega) (by omega)), z]
  | succ m ih =>
    intro c ρ h I
    obtain ⟨k1, k2, k3, k4, k5⟩ := I.2.2.2.2.2.2.1
    obtain ⟨b, ρ1, I1, f1, s1, s2⟩ := pass_step (c := c) hfu hG I (by omega)
    obtain ⟨w, ρ2, I2, f2, t1, t2⟩ := ih (c + 1) ρ1 (by omega) I1
    refine ⟨cond b 1 0 + w, ρ2, I2, f1.tr f2, fun σ n k25 x1 x2 x3 hσ hn => ?_, fun μ n k28 x1 x2 x3 hμ hn => ?_⟩
    · obtain ⟨n, rfl⟩ : ∃ k, n = k + 1 := ⟨n - 1, by omega⟩
      obtain ⟨σ1, a1, a2, a3⟩ := s1 σ hσ
      obtain ⟨σ2, b1, b2, b3⟩ := t1 σ1 n k25 x1 (cond b (x2 + 1) x2) x3 a2 (by omega)
      refine ⟨σ2, ?_, b2, a3.tr b3⟩
      show f_X6_pass_b43_B fu k25 (f_X6_pass_b43 fu k25 n) σ x1 x2 x3 (nI c) = _
      unfold f_X6_pass_b43_B f_X6_pass_b69
      rw [hσ 159 (by decide), k2, if_neg (nI_ge (by omega) (by omega)), gd_t (inb_t (by omega : c < 6) (by decide)), nI_clamp (by omega : c < 2 ^ 31), bd_s a1, nI_1, ← addc, ← b1]
      cases b with
      | false => rw [bF]; rfl
      | true => rw [bT]; rfl
    · obtain ⟨n, rfl⟩ : ∃ k, n = k + 1 := ⟨n - 1, by omega⟩
      obtain ⟨μ1, a1, a2, a3⟩ := s2 μ k28 (f_X7_pass_b46 fu k28 n) x1 x2 x3 hμ
      obtain ⟨μ2, b1, b2, b3⟩ := t2 μ1 n k28 x1 (cond b (x2 + 1) x2) x3 a2 (by omega)
      refine ⟨μ2, ?_, b2, a3.tr b3⟩
      show f_X7_pass_b46_B fu k28 (f_X7_pass_b46 fu k28 n) μ x1 x2 x3 (nI c) = _
      rw [a1, b1, addc]
/-- the months -/
theorem pass_out {fu : Nat} {N V P K G M : Nat} (hfu : 100 ≤ fu) (hG : G < 2 ^ 30) (hM : M ≤ 50) : ∀ t i (ρ : gSt), i + t = M → Inv ρ N V P K G → ∃ (w : Nat) (ρ' : gSt), Inv ρ' N V P K G ∧ fr [8, 9, 30, 32, 160, 186, 188, 207] ρ ρ' ∧
    (∀ (σ : gSt) (n : Nat) (x2 : Int32), fr Mp ρ σ → t < n → ∃ σ', f_X6_pass_b25 fu n σ (nI M) x2 (nI i) = some (0, x2 + nI w, σ') ∧ fr Mp ρ' σ' ∧ fr [8, 9, 30, 32, 160] σ σ') ∧
    (∀ (μ : gSt) (n : Nat) (x2 : Int32), fr Cp ρ μ → t < n → ∃ μ', f_X7_pass_b28 fu n μ (nI M) x2 (nI i) = some (x2 + nI w, μ') ∧ fr Cp ρ' μ' ∧ fr [186, 188, 207] μ μ') := by
  intro t
  induction t with
  | zero =>
    intro i ρ h I
    have z : ∀ x : Int32, x + nI 0 = x := fun x => Int32.add_zero x
    refine ⟨0, ρ, I, fr.rfl, fun σ n x2 hσ hn => ⟨σ, ?_, hσ, fr.rfl⟩, fun μ n x2 hμ hn => ⟨μ, ?_, hμ, fr.rfl⟩⟩
    · obtain ⟨n, rfl⟩ : ∃ k, n = k + 1 := ⟨n - 1, by omega⟩
      show f_X6_pass_b25_B fu (f_X6_pass_b25 fu n) σ (nI M) x2 (nI i) = _
      unfold f_X6_pass_b25_B
      rw [if_pos (nI_le (by omega) (by omega)), z]
    · obtain ⟨n, rfl⟩ : ∃ k, n = k + 1 := ⟨n - 1, by omega⟩
      show f_X7_pass_b28_B fu (f_X7_pass_b28 fu n) μ (nI M) x2 (nI i) = _
      unfold f_X7_pass_b28_B
      rw [if_pos (nI_le (by omega) (by omega)), z]
  | succ t ih =>
    intro i ρ h I
    have tm : ρ 207 0 0 = ρ 160 0 0 := I.2.2.2.2.2.2.2.2.1
    have f0 : fr [160, 207] ρ (gU (gU ρ 160 0 0 (ρ 160 0 0 + 1)) 207 0 0 (ρ 160 0 0 + 1)) := by (repeat (first | exact fr.rfl | assumption | refine fr_gU ?_ (by decide) | refine fr_gR ?_ (by decide)))
    have I0 : Inv (gU (gU ρ 160 0 0 (ρ 160 0 0 + 1)) 207 0 0 (ρ 160 0 0 + 1)) N V P K G := by
      obtain ⟨i1, i2, i3, i4, i5, i6, i7, i8, i9, i10⟩ := I
      refine ⟨i1.frm f0 (by decide), i2.frm f0 (by decide), i3.frm f0 (by decide), i4.frm f0 (by decide), i5.frm f0 (by decide), i6.frm f0 (by decide), i7.frm f0 (by decide), i8.frm f0 (by decide), ?_, i10.frm f0 (by decide)⟩
      unfold tmRel
      simp only [gU_n, gU_e, Nat.reduceEqDiff, not_false_eq_true]
    have K6 := I.2.2.2.2.2.2.1.1
    obtain ⟨w1, ρ1, I1, f1, s1, s2⟩ := pass_in (m := K) (c := 0) (fu := fu) (by omega) hG _ (Nat.zero_add K) I0
    obtain ⟨w2, ρ2, I2, f2, t1, t2⟩ := ih (i + 1) ρ1 (by omega) I1
    have aw : ∀ x : Int32, x + nI w1 + nI w2 = x + nI (w1 + w2) := fun x => by rw [Int32.add_assoc, nI_add]
    refine ⟨w1 + w2, ρ2, I2, (f0.mono (by decide)).tr ((f1.mono (by decide)).tr f2), fun σ n x2 hσ hn => ?_, fun μ n x2 hμ hn => ?_⟩
    · obtain ⟨n, rfl⟩ : ∃ k, n = k + 1 := ⟨n - 1, by omega⟩
      have e160 : σ 160 0 0 = ρ 160 0 0 := by rw [hσ 160 (by decide)]
      have hσ0 : fr Mp (gU (gU ρ 160 0 0 (ρ 160 0 0 + 1)) 207 0 0 (ρ 160 0 0 + 1)) (gU σ 160 0 0 (ρ 160 0 0 + 1)) :=
        (fr.sym (fr_gU (L := Mp) fr.rfl (by decide))).tr (fr_gU2 hσ)
      obtain ⟨σ1, a1, a2, a3⟩ := s1 _ fu (f_X6_pass_b25 fu n) (nI M) x2 (nI i) hσ0 (by omega)
      obtain ⟨σ2, b1, b2, b3⟩ := t1 σ1 n (x2 + nI w1) a2 (by omega)
      refine ⟨σ2, ?_, b2, ?_⟩
      · show f_X6_pass_b25_B fu (f_X6_pass_b25 fu n) σ (nI M) x2 (nI i) = _
        unfold f_X6_pass_b25_B
        rw [if_neg (nI_ge (by omega) (by omega)), e160, show f_X6_pass_b43 fu (f_X6_pass_b25 fu n) fu (gU σ 160 0 0 (ρ 160 0 0 + 1)) (nI M) x2 (nI i) 0 = _ from a1, nI_1, b1, aw]
      · have c0 : fr [8, 9, 30, 32, 160] σ (gU σ 160 0 0 (ρ 160 0 0 + 1)) := by (repeat (first | exact fr.rfl | assumption | refine fr_gU ?_ (by decide) | refine fr_gR ?_ (by decide)))
        exact c0.tr ((a3.mono (by decide)).tr b3)
    · obtain ⟨n, rfl⟩ : ∃ k, n = k + 1 := ⟨n - 1, by omega⟩
      have e207 : μ 207 0 0 = ρ 160 0 0 := by rw [hμ 207 (by decide), tm]
      have hμ0 : fr Cp (gU (gU ρ 160 0 0 (ρ 160 0 0 + 1)) 207 0 0 (ρ 160 0 0 + 1)) (gU μ 207 0 0 (ρ 160 0 0 + 1)) :=
        fr_gU2 ((fr.sym (fr_gU (L := Cp) fr.rfl (by decide))).tr hμ)
      obtain ⟨μ1, a1, a2, a3⟩ := s2 _ fu (f_X7_pass_b28 fu n) (nI M) x2 (nI i) hμ0 (by omega)
      obtain ⟨μ2, b1, b2, b3⟩ := t2 μ1 n (x2 + nI w1) a2 (by omega)
      refine ⟨μ2, ?_, b2, ?_⟩
      · show f_X7_pass_b28_B fu (f_X7_pass_b28 fu n) μ (nI M) x2 (nI i) = _
        unfold f_X7_pass_b28_B
        rw [if_neg (nI_ge (by omega) (by omega)), e207, show f_X7_pass_b46 fu (f_X7_pass_b28 fu n) fu (gU μ 207 0 0 (ρ 160 0 0 + 1)) (nI M) x2 (nI i) 0 = _ from a1, nI_1, b1, aw]
      · have c0 : fr [186, 188, 207] μ (gU μ 207 0 0 (ρ 160 0 0 + 1)) := by (repeat (first | exact fr.rfl | assumption | refine fr_gU ?_ (by decide) | refine fr_gR ?_ (by decide)))
        exact c0.tr ((a3.mono (by decide)).tr b3)
theorem Inv.f209 {σ σ' : gSt} {N V P K G : Nat} (I : Inv σ N V P K G) (h : fr [209] σ σ') : Inv σ' N V P K G := by
  obtain ⟨i1, i2, i3, i4, i5, i6, i7, i8, i9, i10⟩ := I
  exact ⟨i1.frm h (by decide), i2.frm h (by decide), i3.frm h (by decide), i4.frm h (by decide), i5.frm h (by decide), i6.frm h (by decide), i7.frm h (by decide), i8.frm h (by decide), i9.frm h (by decide), i10.frm h (by decide)⟩
theorem step_pass {fu : Nat} {σ : gSt} {N V P K G : Nat} {x1 : Int32} (hfu : 100 ≤ fu) (hG : G < 2 ^ 30) (I : Inv σ N V P K G) : stepX (cm3 1 0 0) (f_X6_pass fu σ x1) (fun σ1 => f_X7_pass fu σ1 x1) G := by
  have pc : (x1 < 1 ∨ 50 < x1) ∨ ∃ p, 1 ≤ p ∧ p ≤ 50 ∧ x1 = nI p := by
    by_cases h1 : x1 < 1
    · exact Or.inl (Or.inl h1)
    · by_cases h2 : 50 < x1
      · exact Or.inl (Or.inr h2)
      · right
        obtain ⟨j, hj, rfl⟩ := nI_of (x := x1) (fun q => h1 (Int32.lt_trans q (by decide)))
        have e1 : ¬ j < 1 := fun q => h1 (nI_lt q (by decide))
        have e2 : ¬ 50 < j := fun q => h2 (nI_lt q hj)
        exact ⟨j, by omega, by omega, rfl⟩
  rcases pc with bad | ⟨p, p1, p2, rfl⟩
  · refine step_thr (c := 1) (v := 0) I (Or.inl rfl) (by decide) ?_ ⟨0, ?_⟩
    · unfold f_X6_pass f_X6_pass_b11
      by_cases h1 : x1 < 1
      · rw [if_pos h1]
      · rw [if_neg h1, if_neg (Int32.not_le.mpr (bad.resolve_left h1))]
    · show f_X7_pass fu σ x1 = _
      unfold f_X7_pass f_X7_pass_b16 f_X7_isIn f_X7_isIn_b14 f_X7_isIn_b15
      have e : (if x1 < 1 then gd (b01 0) (some ((0 : Int32), σ)) else if 50 < x1 then gd (b01 0) (some ((0 : Int32), σ)) else gd (b01 1) (some ((1 : Int32), σ))) = some (0, σ) := by
        by_cases h1 : x1 < 1
        · rw [if_pos h1]; rfl
        · rw [if_neg h1, if_pos (bad.resolve_left h1)]; rfl
      rw [bd_s e, if_pos rfl, goesX (by decide), if_pos rfl]
      rfl
  · have n1 : ¬ nI p < 1 := nI_nlt (b := 1) p1 (by omega)
    have n9 : nI p ≤ 50 := nI_le (b := 50) p2 (by decide)
    have n9' : ¬ 50 < nI p := nI_nlt (a := 50) p2 (by decide)
    obtain ⟨w, ρ, I', f, s1, s2⟩ := pass_out (fu := fu) (M := p) hfu hG p2 p 0 σ (by omega) I
    obtain ⟨τ, t1, t2, t3⟩ := s1 σ fu 0 fr.rfl (by omega)
    have c0 : fr Cp σ (gU τ 209 0 0 0) := by
      have := t3.mono (M := Cp) (by decide)
      exact fr_gU this (by decide)
    obtain ⟨μ, m1, m2, m3⟩ := s2 (gU τ 209 0 0 0) fu 0 c0 (by omega)
    have z : ∀ w : Nat, (0 : Int32) + nI w = nI w := fun w => Int32.zero_add _
    rw [z] at t1 m1
    refine ⟨0, nI w, τ, nI w, μ, ?_, ?_, ?_, fun _ => rfl, Or.inl rfl, N, V, P, K, G, I'.f209 (fun F hF => ?_), by omega⟩
    · unfold f_X6_pass
      rw [if_neg n1, if_pos n9]; exact t1
    · show f_X7_pass fu τ (nI p) = _
      unfold f_X7_pass f_X7_pass_b16 f_X7_isIn f_X7_isIn_b14 f_X7_isIn_b15
      rw [if_neg n1, if_neg n9', gd_t (by decide), bd_s rfl, if_neg (show ¬ (1 : Int32) = 0 by decide), goes0, if_neg (show ¬ (1 : Int32) = 0 by decide)]
      exact m1
    · rw [m3 209 (by decide)]; simp only [gU_n, gU_e, Nat.reduceEqDiff, not_false_eq_true]; rfl
    · have h9 : ¬ F = 209 := by simpa using hF
      by_cases hC : F ∈ Cp
      · have hM : F ∉ Mp := by
          intro z
          simp [Cp] at hC
          simp [Mp] at z
          omega
        have h186 : F ∉ [186, 188, 207] := by
          intro z
          simp [Cp] at hC
          simp at z
          omega
        rw [m3 F h186, gU_n h9, t2 F hM]
      · exact m2 F hC

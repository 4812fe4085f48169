/-! headwords that are written, taken, cleared -/
theorem gU_n {σ : gSt} {F i k F' : Nat} {x : Int32} (h : ¬ F' = F) : gU σ F i k x F' = σ F' := by
  funext i' k'
  simp only [gU, h, false_and, if_false]
theorem gU_e {σ : gSt} {F i k : Nat} {x : Int32} : gU σ F i k x F i k = x := by
  simp only [gU, and_self, if_true]
theorem gU_i {σ : gSt} {F i k i' k' : Nat} {x : Int32} (h : ¬ (i' = i ∧ k' = k)) : gU σ F i k x F i' k' = σ F i' k' := by
  simp only [gU, true_and, h, if_false]
theorem fr_gU2 {L : List Nat} {σ σ' : gSt} {F i k : Nat} {x : Int32} (h : fr L σ σ') : fr L (gU σ F i k x) (gU σ' F i k x) := by
  intro F' hF'
  funext i' k'
  simp only [gU, h F' hF']
theorem fr.sym {L : List Nat} {σ σ' : gSt} (h : fr L σ σ') : fr L σ' σ := fun F hF => (h F hF).symm
def cw (σ : gSt) (h : Nat) (l : List Nat) : Prop := l.length ≤ 8 ∧ σ 62 h 0 = nI l.length ∧ σ 63 h 0 = nI (nz l).length ∧ (∀ k c, l[k]? = some c → σ 60 h k = nI (chr c)) ∧ ∀ k c, (nz l)[k]? = some c → σ 61 h k = nI (96 + c)
def mwl (σ : gSt) (h : Nat) (l : List Nat) : Prop := σ 182 0 h = nI l.length ∧ ∀ k c, l[k]? = some c → c ≤ 26 ∧ σ 181 0 (8 * h + k) = nI c
theorem cods_of {σ : gSt} {h : Nat} {l : List Nat} (hl : l.length ≤ 8) (m : mwl σ h l) : cods σ h = l := by
  apply List.ext_getElem?
  intro k
  simp only [cods, m.1, nI_clamp (by omega : l.length < 2 ^ 31), List.getElem?_map]
  by_cases hk : k < l.length
  · rw [List.getElem?_range hk]
    have q := m.2 k l[k] (List.getElem?_eq_getElem hk)
    rw [List.getElem?_eq_getElem hk, Option.map_some, q.2, nI_clamp (by omega)]
  · rw [List.getElem?_eq_none (by rw [List.length_range]; omega), List.getElem?_eq_none (by omega)]
    rfl
theorem mem_at {l : List Nat} {c : Nat} (h : c ∈ l) : ∃ k : Nat, l[k]? = some c := List.mem_iff_getElem?.mp h
theorem hwRel_of {σ : gSt} {h : Nat} {l : List Nat} (c : cw σ h l) (m : mwl σ h l) : hwRel σ h ∧ cods σ h = l := by
  have e := cods_of c.1 m
  refine ⟨?_, e⟩
  unfold hwRel
  rw [e]
  refine ⟨c.1, c.2.1, m.1, fun k x hk => ⟨(m.2 k x hk).1, (m.2 k x hk).2, c.2.2.2.1 k x hk⟩, c.2.2.1, fun k x hk => ⟨?_, c.2.2.2.2 k x hk⟩⟩
  obtain ⟨k', hk'⟩ := mem_at (List.mem_filter.mp (List.mem_iff_getElem?.mpr ⟨k, hk⟩)).1
  exact (m.2 k' x hk').1
theorem hwRel.cw {σ : gSt} {h : Nat} (R : hwRel σ h) : cw σ h (cods σ h) := ⟨R.1, R.2.1, R.2.2.2.2.1, fun k c hk => (R.2.2.2.1 k c hk).2.2, fun k c hk => (R.2.2.2.2.2 k c hk).2⟩
theorem hwRel.mwl {σ : gSt} {h : Nat} (R : hwRel σ h) : mwl σ h (cods σ h) := ⟨R.2.2.1, fun k c hk => ⟨(R.2.2.2.1 k c hk).1, (R.2.2.2.1 k c hk).2.1⟩⟩
theorem at_lt {l : List Nat} {k c : Nat} (h : l[k]? = some c) : k < l.length := (List.getElem?_eq_some_iff.mp h).1
theorem cw.cp {σ σ' : gSt} {h h' : Nat} {l : List Nat} (c : cw σ h l) (e60 : ∀ k, k < 8 → σ' 60 h' k = σ 60 h k) (e61 : ∀ k, k < 8 → σ' 61 h' k = σ 61 h k) (e62 : σ' 62 h' 0 = σ 62 h 0) (e63 : σ' 63 h' 0 = σ 63 h 0) : cw σ' h' l := by
  obtain ⟨c1, c2, c3, c4, c5⟩ := c
  have n := nz_len l
  exact ⟨c1, e62.trans c2, e63.trans c3, fun k x hk => (e60 k (by have := at_lt hk; omega)).trans (c4 k x hk), fun k x hk => (e61 k (by have := at_lt hk; omega)).trans (c5 k x hk)⟩
theorem mwl.cp {σ σ' : gSt} {h h' : Nat} {l : List Nat} (hl : l.length ≤ 8) (m : mwl σ h l) (e182 : σ' 182 0 h' = σ 182 0 h) (e181 : ∀ k, k < 8 → σ' 181 0 (8 * h' + k) = σ 181 0 (8 * h + k)) : mwl σ' h' l :=
  ⟨e182.trans m.1, fun k c hk => ⟨(m.2 k c hk).1, (e181 k (by have := at_lt hk; omega)).trans (m.2 k c hk).2⟩⟩
def sameH (σ σ' : gSt) (h : Nat) : Prop := (∀ k, k < 8 → σ' 60 h k = σ 60 h k) ∧ (∀ k, k < 8 → σ' 61 h k = σ 61 h k) ∧ σ' 62 h 0 = σ 62 h 0 ∧ σ' 63 h 0 = σ 63 h 0 ∧ σ' 182 0 h = σ 182 0 h ∧ ∀ k, k < 8 → σ' 181 0 (8 * h + k) = σ 181 0 (8 * h + k)
theorem sameH.hw {σ σ' : gSt} {h : Nat} (e : sameH σ σ' h) (R : hwRel σ h) : hwRel σ' h ∧ cods σ' h = cods σ h :=
  hwRel_of (R.cw.cp e.1 e.2.1 e.2.2.1 e.2.2.2.1) (R.mwl.cp R.1 e.2.2.2.2.1 e.2.2.2.2.2)
theorem sameH.hwl {σ σ' : gSt} {h : Nat} (e : sameH σ σ' h) (R : hwl σ h) : hwl σ' h := by
  obtain ⟨h1, h2⟩ := e.hw R.1
  exact ⟨h1, by rw [h2]; exact R.2⟩
theorem cw_nil {σ : gSt} {h : Nat} (e62 : σ 62 h 0 = 0) (e63 : σ 63 h 0 = 0) : cw σ h [] := ⟨Nat.zero_le _, e62, e63, fun k c hk => by simp at hk, fun k c hk => by simp [nz] at hk⟩
theorem mwl_nil {σ : gSt} {h : Nat} (e : σ 182 0 h = 0) : mwl σ h [] := ⟨e, fun k c hk => by simp at hk⟩
/-- what the class's take does -/
def takeC (s τ : gSt) (i : Nat) : Prop := fr [60, 61, 62, 63] s τ ∧ (∀ k, k < 8 → τ 60 i k = s 60 120 k ∧ τ 61 i k = s 61 120 k) ∧ τ 62 i 0 = s 62 120 0 ∧ τ 63 i 0 = s 63 120 0 ∧ τ 62 120 0 = 0 ∧ τ 63 120 0 = 0 ∧ (∀ h, h ≠ i → ∀ k, τ 60 h k = s 60 h k ∧ τ 61 h k = s 61 h k) ∧ ∀ h, h ≠ i → h ≠ 120 → τ 62 h 0 = s 62 h 0 ∧ τ 63 h 0 = s 63 h 0
theorem okCp_hw {F i i' : Nat} {f : Nat → Int32} (hF : F = 60 ∨ F = 61) (hi : i < 121) (hi' : i' < 121) (hf : ∀ k, k < 8 → isC (f k) = true) : okCp 0 F i F i' 0 0 8 f = true := by
  have b1 : Nat.blt i 121 = true := Nat.ble_eq_true_of_le hi
  have b2 : Nat.blt i' 121 = true := Nat.ble_eq_true_of_le hi'
  have al : (List.range ((8 : Int32).toNatClampNeg)).all (fun k => isC (f ((0 : Int32).toNatClampNeg + k))) = true := by
    rw [List.all_eq_true]
    intro k hk
    have hk : k < 8 := List.mem_range.mp hk
    rw [show (0 : Int32).toNatClampNeg = 0 from rfl, Nat.zero_add]
    exact hf k hk
  unfold okCp
  rw [al, Bool.or_true, Bool.and_true]
  rcases hF with rfl | rfl
  · rw [show nA 60 = 121 from rfl, b1, b2]; decide
  · rw [show nA 61 = 121 from rfl, b1, b2]; decide
theorem take_ok {fu : Nat} {s : gSt} {i : Nat} (hi : i < 120) (hc : ∀ k, k < 8 → isC (s 60 120 k) = true ∧ isC (s 61 120 k) = true) : ∃ τ, f_X3_take fu s i 120 = some (0, τ) ∧ takeC s τ i := by
  unfold f_X3_take f_X3_clear
  rw [gd_t (okCp_hw (Or.inl rfl) (by omega) (by omega) (fun k hk => (hc k hk).1)), gd_t (okCp_hw (Or.inr rfl) (by omega) (by omega) (fun k hk => by simp only [gR]; exact (hc k hk).2))]
  refine ⟨_, rfl, ?_⟩
  have ni : ¬ i = 120 := by omega
  have ni2 : ¬ 120 = i := by omega
  refine ⟨?_, ?_, ?_, ?_, ?_, ?_, ?_, ?_⟩
  · (repeat (first | exact fr.rfl | assumption | refine fr_gU ?_ (by decide) | refine fr_gR ?_ (by decide)))
  · intro k hk
    have hk' : k < 0 + 8 := by omega
    constructor
    · simp [gU, gR, va_cpy, hk, show (8 : Int32).toNatClampNeg = 8 from rfl, show (0 : Int32).toNatClampNeg = 0 from rfl]
    · simp [gU, gR, va_cpy, hk, show (8 : Int32).toNatClampNeg = 8 from rfl, show (0 : Int32).toNatClampNeg = 0 from rfl]
  · simp [gU, gR, ni]
  · simp [gU, gR, ni]
  · simp [gU, gR]
  · simp [gU, gR]
  · intro h h1 k
    constructor
    · simp [gU, gR, h1]
    · simp [gU, gR, h1]
  · intro h h1 h2
    constructor
    · simp [gU, gR, h1, h2]
    · simp [gU, gR, h1, h2]
/-- what the reference's takes does -/
def takeM (m μ : gSt) (i : Nat) : Prop := fr [181, 182] m μ ∧ (∀ k, k < 8 → μ 181 0 (8 * i + k) = m 181 0 (960 + k)) ∧ μ 182 0 i = m 182 0 120 ∧ μ 182 0 120 = 0 ∧ (∀ h, h ≠ i → ∀ k, k < 8 → μ 181 0 (8 * h + k) = m 181 0 (8 * h + k)) ∧ ∀ h, h ≠ i → h ≠ 120 → μ 182 0 h = m 182 0 h
theorem takes_loop {fu i : Nat} (hi : i < 120) : ∀ n k (m : gSt), 9 ≤ n + k → k ≤ 8 → ∃ μ, f_X7_takes_b2 fu n m (nI i) (nI k) = some (0, μ) ∧ fr [181, 182] m μ ∧ (∀ j, k ≤ j → j < 8 → μ 181 0 (8 * i + j) = m 181 0 (960 + j)) ∧ (∀ q, (∀ j, k ≤ j → j < 8 → q ≠ 8 * i + j) → μ 181 0 q = m 181 0 q) ∧ μ 182 0 i = m 182 0 120 ∧ μ 182 0 120 = 0 ∧ ∀ h, h ≠ i → h ≠ 120 → μ 182 0 h = m 182 0 h := by
  intro n
  induction n with
  | zero => intro k m h1 h2; omega
  | succ n ih =>
    intro k m h1 h2
    show ∃ μ, f_X7_takes_b2_B fu (f_X7_takes_b2 fu n) m (nI i) (nI k) = some (0, μ) ∧ _
    unfold f_X7_takes_b2_B
    by_cases e : 8 ≤ k
    · rw [if_pos (show (8 : Int32) ≤ nI k from nI_le (a := 8) e (by omega)), gd_t (by decide), gd_t (inb_t (by omega : i < 125) (by decide)), gd_t (by decide)]
      refine ⟨_, rfl, ?_, ?_, ?_, ?_, ?_, ?_⟩
      · (repeat (first | exact fr.rfl | assumption | refine fr_gU ?_ (by decide) | refine fr_gR ?_ (by decide)))
      · intro j h3 h4; omega
      · intro q _
        simp only [gU_n, gU_e, Nat.reduceEqDiff, not_false_eq_true]
      · rw [nI_clamp (by omega : i < 2 ^ 31), show (120 : Int32).toNatClampNeg = 120 from rfl, gU_i (by omega), gU_e]
      · rw [show (120 : Int32).toNatClampNeg = 120 from rfl, gU_e]
      · intro h h3 h4
        rw [nI_clamp (by omega : i < 2 ^ 31), show (120 : Int32).toNatClampNeg = 120 from rfl, gU_i (by omega), gU_i (by omega)]
    · rw [if_neg (show ¬ (8 : Int32) ≤ nI k from nI_ge (b := 8) (by omega) (by omega)), nI8, show (960 : Int32) = nI 960 from rfl, nI_add, gd_t (inb_t (by omega : 960 + k < 1000) (by decide)), gd_t (inb_t (by omega : 8 * i + k < 1000) (by decide)), nI_1, nI_clamp (by omega : 960 + k < 2 ^ 31), nI_clamp (by omega : 8 * i + k < 2 ^ 31)]
      obtain ⟨μ, m1, m2, m3, m4, m5, m6, m7⟩ := ih (k + 1) (gU m 181 0 (8 * i + k) (m 181 0 (960 + k))) (by omega) (by omega)
      refine ⟨μ, m1, ?_, ?_, ?_, ?_, m6, ?_⟩
      · exact fr.tr (by (repeat (first | exact fr.rfl | assumption | refine fr_gU ?_ (by decide) | refine fr_gR ?_ (by decide)))) m2
      · intro j h3 h4
        by_cases ej : j = k
        · subst ej
          rw [m4 (8 * i + j) (fun j' h5 h6 => by omega), gU_e]
        · rw [m3 j (by omega) h4, gU_i (by omega)]
      · intro q hq
        rw [m4 q (fun j h3 h4 => hq j (by omega) h4), gU_i (by have := hq k (Nat.le_refl _) (by omega); omega)]
      · rw [m5]; simp only [gU_n, gU_e, Nat.reduceEqDiff, not_false_eq_true]
      · intro h h3 h4
        rw [m7 h h3 h4]; simp only [gU_n, gU_e, Nat.reduceEqDiff, not_false_eq_true]
theorem takes_ok {fu : Nat} {m : gSt} {i : Nat} (hfu : 9 ≤ fu) (hi : i < 120) : ∃ μ, f_X7_takes fu m (nI i) = some (0, μ) ∧ takeM m μ i := by
  obtain ⟨μ, m1, m2, m3, m4, m5, m6, m7⟩ := takes_loop (fu := fu) hi fu 0 m (by omega) (Nat.zero_le _)
  exact ⟨μ, m1, m2, fun k hk => m3 k (Nat.zero_le _) hk, m5, m6, fun h h1 k hk => m4 _ (fun j _ hj => by omega), m7⟩
/-- the draft is taken by row i -/
def took (σ σ2 : gSt) (i : Nat) : Prop := (∀ h, h < 120 → h ≠ i → sameH σ σ2 h) ∧ (hwRel σ2 i ∧ cods σ2 i = cods σ 120) ∧ dRel σ2
theorem took_of {L1 L2 L3 : List Nat} {σ s τ m μ σ2 : gSt} {i : Nat} (hi : i < 120) (D : dRel σ) (h1 : fr L1 σ s) (T : takeC s τ i) (h2 : fr L2 τ m) (M : takeM m μ i) (h3 : fr L3 μ σ2) (d1 : dj L1 [60, 61, 62, 63, 181, 182] = true) (d2 : dj L2 [60, 61, 62, 63, 181, 182] = true) (d3 : dj L3 [60, 61, 62, 63, 181, 182] = true) : took σ σ2 i := by
  obtain ⟨t0, t1, t2, t3, t4, t5, t6, t7⟩ := T
  obtain ⟨m0, m1, m2, m3, m4, m5⟩ := M
  have c : ∀ F, F ∈ [60, 61, 62, 63] → σ2 F = τ F ∧ s F = σ F := fun F hF => by
    have hF' : F ∈ [60, 61, 62, 63, 181, 182] := by simp at hF ⊢; omega
    exact ⟨(h3.at d3 hF').trans ((m0 F (by simp at hF ⊢; omega)).trans (h2.at d2 hF')), h1.at d1 hF'⟩
  have e : ∀ F, F ∈ [181, 182] → σ2 F = μ F ∧ m F = σ F := fun F hF => by
    have hF' : F ∈ [60, 61, 62, 63, 181, 182] := by simp at hF ⊢; omega
    exact ⟨h3.at d3 hF', (h2.at d2 hF').trans ((t0 F (by simp at hF ⊢; omega)).trans (h1.at d1 hF'))⟩
  obtain ⟨c60, s60⟩ := c 60 (by decide)
  obtain ⟨c61, s61⟩ := c 61 (by decide)
  obtain ⟨c62, s62⟩ := c 62 (by decide)
  obtain ⟨c63, s63⟩ := c 63 (by decide)
  obtain ⟨e181, r181⟩ := e 181 (by decide)
  obtain ⟨e182, r182⟩ := e 182 (by decide)
  rw [s60] at t1 t6
  rw [s61] at t1 t6
  rw [s62] at t2 t7
  rw [s63] at t3 t7
  rw [r181] at m1 m4
  rw [r182] at m2 m5
  have n120 : ¬ 120 = i := by omega
  refine ⟨fun h hh hn => ⟨fun k _ => ?_, fun k _ => ?_, ?_, ?_, ?_, fun k hk => ?_⟩, ?_, ?_, fun k hk => ?_⟩
  · rw [c60]; exact (t6 h hn k).1
  · rw [c61]; exact (t6 h hn k).2
  · rw [c62]; exact (t7 h hn (by omega)).1
  · rw [c63]; exact (t7 h hn (by omega)).2
  · rw [e182]; exact m5 h hn (by omega)
  · rw [e181]; exact m4 h hn k hk
  · refine hwRel_of (D.1.cw.cp (fun k hk => ?_) (fun k hk => ?_) ?_ ?_) (D.1.mwl.cp D.1.1 ?_ (fun k hk => ?_))
    · rw [c60]; exact (t1 k hk).1
    · rw [c61]; exact (t1 k hk).2
    · rw [c62]; exact t2
    · rw [c63]; exact t3
    · rw [e182]; exact m2
    · rw [e181]; exact m1 k hk
  · exact (hwRel_of (cw_nil (by rw [c62]; exact t4) (by rw [c63]; exact t5)) (mwl_nil (by rw [e182]; exact m3))).1
  · rw [c60, c61, (t6 120 n120 k).1, (t6 120 n120 k).2]; exact D.2 k hk
/-! what stands still, piece by piece -/
theorem vRel.frm {L : List Nat} {σ σ' : gSt} {V : Nat} (S : vRel σ V) (h : fr L σ σ') (d : dj L [120, 121, 157, 197, 198, 199] = true) : vRel σ' V := by
  unfold vRel at *
  simp only [h.at d (F := 120) (by decide), h.at d (F := 121) (by decide), h.at d (F := 157) (by decide), h.at d (F := 197) (by decide), h.at d (F := 198) (by decide), h.at d (F := 199) (by decide)]
  exact S
theorem rRel.frm {L : List Nat} {σ σ' : gSt} (S : rRel σ) (h : fr L σ σ') (d : dj L [161, 180] = true) : rRel σ' := by
  unfold rRel at *
  simp only [h.at d (F := 161) (by decide), h.at d (F := 180) (by decide)]
  exact S
/-- only the draft has changed -/
theorem sRel.drf {L : List Nat} {σ σ' : gSt} {N V : Nat} (S : sRel σ N V) (h : fr L σ σ') (d : dj L [4, 6, 120, 121, 156, 157, 161, 180, 183, 185, 191, 197, 198, 199] = true) (e : ∀ h, h < 120 → sameH σ σ' h) : sRel σ' N V := by
  have hN := S.hN
  obtain ⟨⟨⟨n1, n2, n3⟩, v, r, w, u⟩, rf⟩ := S
  have hd : ∀ F, F ∈ [4, 6, 120, 121, 156, 157, 161, 180, 183, 185, 191, 197, 198, 199] → σ' F = σ F := fun F hF => h.at d hF
  refine ⟨⟨⟨n1, by rw [hd 156 (by decide)]; exact n2, by rw [hd 183 (by decide)]; exact n3⟩, ?_, ?_, fun i hi => (e i (by omega)).hwl (w i hi), fun i hi => ?_⟩, fun i hi => ?_⟩
  · unfold vRel at *
    simp only [hd 120 (by decide), hd 121 (by decide), hd 157 (by decide), hd 197 (by decide), hd 198 (by decide), hd 199 (by decide)]
    exact v
  · unfold rRel at *
    simp only [hd 161 (by decide), hd 180 (by decide)]
    exact r
  · rw [hd 6 (by decide), hd 185 (by decide)]; exact u i hi
  · have rc : rcN σ' i = rcN σ i := by simp only [rcN, hd 191 (by decide)]
    rw [rc, hd 4 (by decide), hd 191 (by decide)]
    obtain ⟨a1, a2, a3, a4, a5⟩ := rf i hi
    exact ⟨a1, a2, a3, a4, fun r hr => (e _ (by omega)).hwl (a5 r hr)⟩
/-! ranges -/
theorem inb_cs (x : Int32) {n : Nat} (hn : n < 2 ^ 31) : (inb x n = true ∧ ∃ j, j < n ∧ x = nI j) ∨ (inb x n = false ∧ (x < 0 ∨ (¬ x < 0 ∧ nI n ≤ x))) := by
  by_cases h : x < 0
  · right
    refine ⟨?_, Or.inl h⟩
    have : ¬ 0 ≤ x := Int32.not_le.mpr h
    simp only [inb, decide_eq_false this, Bool.false_and]
  · obtain ⟨j, hj, rfl⟩ := nI_of h
    by_cases hl : j < n
    · exact Or.inl ⟨inb_t hl hn, j, hl, rfl⟩
    · right
      refine ⟨?_, Or.inr ⟨h, nI_le (by omega) hj⟩⟩
      simp only [inb, nI_clamp hj]
      have : Nat.blt j n = false := by
        cases hb : Nat.blt j n with
        | false => rfl
        | true => exact absurd (Nat.le_of_ble_eq_true hb) hl
      rw [this, Bool.and_false]
theorem req_eq {α : Type} (A B : α) (x : Int32) {n : Nat} (hn : n < 2 ^ 31) : (if x < 0 then A else if x < nI n then B else A) = cond (inb x n) B A := by
  rcases inb_cs x hn with ⟨h, j, hj, rfl⟩ | ⟨h, h2 | ⟨h2, h3⟩⟩
  · rw [h, if_neg (nI_pos (by omega)), if_pos (nI_lt hj hn)]; rfl
  · rw [h, if_pos h2]; rfl
  · rw [h, if_neg h2, if_neg (Int32.not_lt.mpr h3)]; rfl
theorem pred_lt {x : Int32} {n : Nat} (hx : ¬ x < 0) (hn : n < 2 ^ 31) : nI n - 1 < x ↔ nI n ≤ x := by
  obtain ⟨j, hj, rfl⟩ := nI_of hx
  rw [Int32.lt_iff_toInt_lt, nI_leI hn hj]
  have : (nI n - 1).toInt = (n : Int) - 1 := by
    rw [Int32.toInt_sub, nI_toInt hn, show (1 : Int32).toInt = 1 from by decide]
    apply Int.bmod_eq_of_le <;> omega
  rw [this, nI_toInt hj]
  omega
theorem isIn_eq {α : Type} (A B : α) (x : Int32) {n : Nat} (hn : n < 2 ^ 31) : (if x < 0 then A else if nI n - 1 < x then A else B) = cond (inb x n) B A := by
  rcases inb_cs x hn with ⟨h, j, hj, rfl⟩ | ⟨h, h2 | ⟨h2, h3⟩⟩
  · rw [h, if_neg (nI_pos (by omega)), if_neg (fun q => nI_ge hj hn ((pred_lt (nI_pos (by omega)) hn).mp q))]; rfl
  · rw [h, if_pos h2]; rfl
  · rw [h, if_neg h2, if_pos ((pred_lt h2 hn).mpr h3)]; rfl
theorem goes_ok {fu : Nat} {σ : gSt} (x : Int32) : f_X7_goes fu σ x = some (bI (decide (x = 0)), gU σ 209 0 0 x) := by
  unfold f_X7_goes f_X7_goes_b14
  by_cases e : x = 0
  · rw [if_pos e, decide_eq_true e]; rfl
  · rw [if_neg e, decide_eq_false e]; rfl
theorem goes0 {fu : Nat} {σ : gSt} {α : Type} {k : Int32 → gSt → Option α} : bd (f_X7_goes fu σ 0) k = k 1 (gU σ 209 0 0 0) := by rw [bd_s (goes_ok 0)]; rfl
theorem isIn0 {fu : Nat} {σ : gSt} (x : Int32) {n : Nat} (hn : n < 2 ^ 31) : f_X7_isIn fu σ x 0 (nI n - 1) = some (bI (inb x n), σ) := by
  unfold f_X7_isIn f_X7_isIn_b14 f_X7_isIn_b15
  rw [isIn_eq _ _ x hn]
  cases inb x n <;> rfl
theorem isArt {fu : Nat} {σ : gSt} (x : Int32) {N : Nat} (hN : N ≤ 24) (e : σ 183 0 0 = nI N) : f_X7_isArticle fu σ x = some (bI (inb x N), σ) := by
  unfold f_X7_isArticle
  rw [e, bd_s (isIn0 x (by omega)), gd_t (bI_01 _)]
theorem isCon {fu : Nat} {σ : gSt} (x : Int32) {K : Nat} (hK : K ≤ 6) (e : σ 201 0 0 = nI K) : f_X7_isContributor fu σ x = some (bI (inb x K), σ) := by
  unfold f_X7_isContributor
  rw [e, bd_s (isIn0 x (by omega)), gd_t (bI_01 _)]
theorem isSub {fu : Nat} {σ : gSt} (x : Int32) : f_X7_isSubject fu σ x = some (bI (inb x 10), σ) := by
  unfold f_X7_isSubject
  rw [show (9 : Int32) = nI 10 - 1 by decide, bd_s (isIn0 x (by decide)), gd_t (bI_01 _)]
theorem isFac {fu : Nat} {σ : gSt} (x : Int32) : f_X7_isFact fu σ x = some (bI (inb x 8), σ) := by
  unfold f_X7_isFact
  rw [show (7 : Int32) = nI 8 - 1 by decide, bd_s (isIn0 x (by decide)), gd_t (bI_01 _)]
theorem reqArt {fu : Nat} {σ : gSt} (x : Int32) {N : Nat} (hN : N ≤ 24) (e : σ 156 0 0 = nI N) : f_X6_requireArticle fu σ x = some (cond (inb x N) 0 3, 0, σ) := by
  unfold f_X6_requireArticle f_X6_requireArticle_b12
  rw [e, req_eq _ _ x (by omega)]
  cases inb x N <;> rfl
theorem reqCon {fu : Nat} {σ : gSt} (x : Int32) {K : Nat} (hK : K ≤ 6) (e : σ 159 0 0 = nI K) : f_X6_requireContributor fu σ x = some (cond (inb x K) 0 3, 0, σ) := by
  unfold f_X6_requireContributor f_X6_requireContributor_b12
  rw [e, req_eq _ _ x (by omega)]
  cases inb x K <;> rfl
theorem reqVol {fu : Nat} {σ : gSt} (x : Int32) {V : Nat} (hV : V ≤ 4) (e : σ 157 0 0 = nI V) : f_X6_requireVolume fu σ x = some (cond (inb x V) 0 3, 0, σ) := by
  unfold f_X6_requireVolume f_X6_requireVolume_b12
  rw [e, req_eq _ _ x (by omega)]
  cases inb x V <;> rfl
theorem reqSub {fu : Nat} {σ : gSt} (x : Int32) : f_X6_requireSubject fu σ x = some (cond (inb x 10) 0 3, 0, σ) := by
  unfold f_X6_requireSubject f_X6_requireSubject_b10
  rw [show (10 : Int32) = nI 10 from rfl, req_eq _ _ x (by decide)]
  cases inb x 10 <;> rfl
theorem reqFac {fu : Nat} {σ : gSt} (x : Int32) : f_X6_requireFact fu σ x = some (cond (inb x 8) 0 3, 0, σ) := by
  unfold f_X6_requireFact f_X6_requireFact_b10
  rw [show (8 : Int32) = nI 8 from rfl, req_eq _ _ x (by decide)]
  cases inb x 8 <;> rfl
/-! a call of both sides -/
def cm3 (a b c : Int32) : Nat → Int32
  | 0 => 0
  | 1 => a
  | 2 => b
  | 3 => c
  | _ => 0
def stepX (cm : Nat → Int32) (m : Option (Nat × Int32 × gSt)) (k : gSt → Option (Int32 × gSt)) (G : Nat) : Prop :=
  ∃ c v σ1 v' σ2, m = some (c, v, σ1) ∧ k σ1 = some (v', σ2) ∧ σ2 209 0 0 = cm c ∧ (c = 0 → v' = v) ∧ (c = 0 ∨ ((c = 1 ∨ c = 2 ∨ c = 3) ∧ ¬ cm c = 0)) ∧ ∃ N V P K G', Inv σ2 N V P K G' ∧ G' ≤ G + 1
theorem step_thr {cm : Nat → Int32} {m : Option (Nat × Int32 × gSt)} {k : gSt → Option (Int32 × gSt)} {σ : gSt} {N V P K G c : Nat} {v : Int32} (I : Inv σ N V P K G) (hc : c = 1 ∨ c = 2 ∨ c = 3) (h0 : ¬ cm c = 0) (h1 : m = some (c, v, σ)) (h2 : ∃ v', k σ = some (v', gU σ 209 0 0 (cm c))) : stepX cm m k G := by
  obtain ⟨v', h2⟩ := h2
  exact ⟨c, v, σ, v', _, h1, h2, gU_e, fun q => by omega, Or.inr ⟨hc, h0⟩, N, V, P, K, G, I.thr 0 0 _, by omega⟩
theorem goesX {fu : Nat} {σ : gSt} {α : Type} {k : Int32 → gSt → Option α} {x : Int32} (h : ¬ x = 0) : bd (f_X7_goes fu σ x) k = k 0 (gU σ 209 0 0 x) := by rw [bd_s (goes_ok x), decide_eq_false h]; rfl

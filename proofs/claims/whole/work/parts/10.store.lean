/-! the store: one function by family, owner's number, place; the world: 606 cells behind the law's entry -/
abbrev gSt : Type := Nat → Nat → Nat → Int32
abbrev gE : Type := va_G × (Nat → ClassId) × (Nat → Nat) × (Nat → Nat) × Nat
def eD (E : gE) : va_G := E.1
def eT (E : gE) : Nat → ClassId := E.2.1
def eF (E : gE) : Nat → Nat := E.2.2.1
def eS (E : gE) : Nat → Nat := E.2.2.2.1
def eB (E : gE) : Nat := E.2.2.2.2
def gU (σ : gSt) (F i k : Nat) (x : Int32) : gSt := fun F' i' k' => if F' = F ∧ i' = i ∧ k' = k then x else σ F' i' k'
def gR (σ : gSt) (F i : Nat) (f : Nat → Int32) : gSt := fun F' i' k' => if F' = F ∧ i' = i then f k' else σ F' i' k'
theorem gU_R (σ : gSt) (F i k : Nat) (x : Int32) : gU σ F i k x = gR σ F i (fun k' => if k' = k then x else σ F i k') := by
  funext F' i' k'
  by_cases h : F' = F ∧ i' = i
  · obtain ⟨rfl, rfl⟩ := h
    simp [gU, gR]
  · have h2 : ¬ (F' = F ∧ i' = i ∧ k' = k) := fun q => h ⟨q.1, q.2.1⟩
    simp only [gU, gR, if_neg h, if_neg h2]
/-- which families are arrays of ints, booleans, chars; their lengths; their types: 0 char, 1 int, 2 boolean -/
def isArr (F : Nat) : Bool := Nat.beq F 2 || Nat.beq F 3 || Nat.beq F 30 || Nat.beq F 31 || Nat.beq F 60 || Nat.beq F 61 || Nat.beq F 154 || Nat.beq F 155 || (Nat.ble 181 F && Nat.ble F 182) || (Nat.ble 184 F && Nat.ble F 196) || (Nat.ble 198 F && Nat.ble F 199) || (Nat.ble 202 F && Nat.ble F 205)
def tA (F : Nat) : Nat := cond (Nat.beq F 60 || Nat.beq F 61) 0 (cond (Nat.beq F 2 || Nat.beq F 31 || Nat.beq F 190 || Nat.beq F 193 || Nat.beq F 203 || Nat.beq F 204) 2 1)
def lA (F : Nat) : Nat := cond (Nat.beq F 60 || Nat.beq F 61 || Nat.beq F 2 || Nat.beq F 3 || Nat.beq F 155 || Nat.beq F 196) 8 (cond (Nat.beq F 30) 24 (cond (Nat.beq F 31 || Nat.beq F 202 || Nat.beq F 203 || Nat.beq F 205) 6 (cond (Nat.beq F 154 || Nat.beq F 195) 10 (cond (Nat.beq F 181) 1000 (cond (Nat.beq F 182) 125 (cond (Nat.beq F 192) 96 (cond (Nat.beq F 193 || Nat.beq F 194) 192 (cond (Nat.beq F 198 || Nat.beq F 199) 4 (cond (Nat.beq F 204) 36 24)))))))))
/-- the cells' numbers -/
def oArt (i : Nat) : Nat := 9 + 23 * i
def oRef (r : Nat) : Nat := 16 + 23 * (r / 4) + 4 * (r % 4)
def oHw (h : Nat) : Nat := if h = 120 then 1 else if h < 24 then 10 + 23 * h else oRef (h - 24) + 1
def oVol (v : Nat) : Nat := 561 + v
def oCon (c : Nat) : Nat := 565 + 3 * c
def oRa (i : Nat) : Nat := 13 + 23 * i
def oA (F i : Nat) : Nat := cond (Nat.beq F 60) (oHw i + 1) (cond (Nat.beq F 61) (oHw i + 2) (cond (Nat.beq F 2) (oArt i + 5) (cond (Nat.beq F 3) (oArt i + 6) (cond (Nat.beq F 30) (oCon i + 1) (cond (Nat.beq F 31) (oCon i + 2) (cond (Nat.beq F 154) 7 (cond (Nat.beq F 155) 8 (cond (Nat.ble F 182) (403 + F) (cond (Nat.ble F 196) (402 + F) (cond (Nat.ble F 199) (401 + F) (399 + F)))))))))))
/-- a cell's kind, family, owner's number -/
def dec (o : Nat) : Nat × Nat × Nat :=
  if o = 0 then (5, 0, 0) else if o = 1 then (2, 0, 120) else if o = 2 then (10, 60, 120) else if o = 3 then (10, 61, 120) else if o = 4 then (17, 0, 0) else if o = 5 then (18, 0, 0) else if o = 6 then (19, 0, 0) else if o = 7 then (10, 154, 0) else if o = 8 then (10, 155, 0) else
  if o < 561 then (if (o - 9) % 23 = 0 then (0, 0, (o - 9) / 23) else if (o - 9) % 23 = 1 then (2, 0, (o - 9) / 23) else if (o - 9) % 23 = 2 then (10, 60, (o - 9) / 23) else if (o - 9) % 23 = 3 then (10, 61, (o - 9) / 23) else if (o - 9) % 23 = 4 then (12, 0, (o - 9) / 23) else if (o - 9) % 23 = 5 then (10, 2, (o - 9) / 23) else if (o - 9) % 23 = 6 then (10, 3, (o - 9) / 23) else
    if ((o - 9) % 23 - 7) % 4 = 0 then (3, 0, 4 * ((o - 9) / 23) + ((o - 9) % 23 - 7) / 4) else if ((o - 9) % 23 - 7) % 4 = 1 then (2, 0, 24 + (4 * ((o - 9) / 23) + ((o - 9) % 23 - 7) / 4)) else if ((o - 9) % 23 - 7) % 4 = 2 then (10, 60, 24 + (4 * ((o - 9) / 23) + ((o - 9) % 23 - 7) / 4)) else (10, 61, 24 + (4 * ((o - 9) / 23) + ((o - 9) % 23 - 7) / 4))) else
  if o < 565 then (4, 0, o - 561) else if o < 583 then (if (o - 565) % 3 = 0 then (1, 0, (o - 565) / 3) else if (o - 565) % 3 = 1 then (10, 30, (o - 565) / 3) else (10, 31, (o - 565) / 3)) else
  if o = 583 then (6, 0, 0) else if o < 586 then (10, o - 403, 0) else if o < 599 then (10, o - 402, 0) else if o < 601 then (10, o - 401, 0) else if o < 605 then (10, o - 399, 0) else (23, 0, 0)
def oEnc (kd F i : Nat) : Nat := match kd with
  | 0 => oArt i
  | 1 => oCon i
  | 2 => oHw i
  | 3 => oRef i
  | 4 => oVol i
  | 5 => 0
  | 6 => 583
  | 12 => oRa i
  | 17 => 4
  | 18 => 5
  | 19 => 6
  | 23 => 605
  | _ => oA F i
theorem dec_ok : ∀ o, o < 606 → (oEnc (dec o).1 (dec o).2.1 (dec o).2.2 = o ∧ ((dec o).1 < 7 ∨ ((dec o).1 = 10 ∧ isArr (dec o).2.1 = true) ∨ (dec o).1 = 12 ∨ (dec o).1 = 17 ∨ (dec o).1 = 18 ∨ (dec o).1 = 19 ∨ (dec o).1 = 23)) := by decide +kernel
theorem dec_art : ∀ i, i < 24 → (dec (oArt i) = (0, 0, i) ∧ oArt i < 606) := by decide +kernel
theorem dec_con : ∀ i, i < 6 → (dec (oCon i) = (1, 0, i) ∧ oCon i < 606) := by decide +kernel
theorem dec_hw : ∀ i, i < 121 → (dec (oHw i) = (2, 0, i) ∧ oHw i < 606) := by decide +kernel
theorem dec_ref : ∀ i, i < 96 → (dec (oRef i) = (3, 0, i) ∧ oRef i < 606) := by decide +kernel
theorem dec_vol : ∀ i, i < 4 → (dec (oVol i) = (4, 0, i) ∧ oVol i < 606) := by decide +kernel
theorem dec_ra : ∀ i, i < 24 → (dec (oRa i) = (12, 0, i) ∧ oRa i < 606) := by decide +kernel
/-- how many owners a family has -/
def nA (F : Nat) : Nat := cond (Nat.beq F 60 || Nat.beq F 61) 121 (cond (Nat.beq F 2 || Nat.beq F 3) 24 (cond (Nat.beq F 30 || Nat.beq F 31) 6 1))
theorem dec_arr : ∀ F, F < 206 → ∀ i, i < nA F → isArr F = true → (dec (oA F i) = (10, F, i) ∧ oA F i < 606) := by decide +kernel
/-- the cell that holds a place of the store -/
def oOf (F i : Nat) : Nat := cond (isArr F) (oA F i) (cond (Nat.ble F 11) (oArt i) (cond (Nat.ble F 35) (oCon i) (cond (Nat.ble F 63) (oHw i) (cond (Nat.ble F 91) (oRef i) (cond (Nat.ble F 121) (oVol i) (cond (Nat.ble F 161) 0 583))))))
def cellK (E : gE) (w : Nat → Int64) (σ : gSt) (kd F i : Nat) : va_E := match kd with
  | 0 => .inr (0, [.ref (eB E + oHw i), .ref (eB E + oRa i), .ref (eB E + oA 2 i), .ref (eB E + oA 3 i), .int (σ 4 i 0), .int (σ 5 i 0), .int (σ 6 i 0), .int (σ 7 i 0), .int (σ 8 i 0), .int (σ 9 i 0), .int (σ 10 i 0), .int (σ 11 i 0)])
  | 1 => .inr (1, [.ref (eB E + oA 30 i), .ref (eB E + oA 31 i), .int (σ 32 i 0), .int (σ 33 i 0), .int (σ 34 i 0), .int (σ 35 i 0)])
  | 2 => .inr (2, [.ref (eB E + oA 60 i), .ref (eB E + oA 61 i), .int (σ 62 i 0), .int (σ 63 i 0)])
  | 3 => .inr (3, [.ref (eB E + oHw (24 + i)), .ref (eF E (σ 91 i 0).toNatClampNeg)])
  | 4 => .inr (4, [.int (σ 120 i 0), .int (σ 121 i 0)])
  | 5 => .inr (5, [.ref (eB E + oHw 120), .ref (eB E + 4), .ref (eB E + 5), .ref (eB E + 6), .ref (eB E + oA 154 0), .ref (eB E + oA 155 0), .int (σ 156 0 0), .int (σ 157 0 0), .int (σ 158 0 0), .int (σ 159 0 0), .int (σ 160 0 0), .int (σ 161 0 0)])
  | 6 => .inr (6, [.int (σ 180 0 0), .ref (eB E + oA 181 0), .ref (eB E + oA 182 0), .int (σ 183 0 0), .ref (eB E + oA 184 0), .ref (eB E + oA 185 0), .ref (eB E + oA 186 0), .ref (eB E + oA 187 0), .ref (eB E + oA 188 0), .ref (eB E + oA 189 0), .ref (eB E + oA 190 0), .ref (eB E + oA 191 0), .ref (eB E + oA 192 0), .ref (eB E + oA 193 0), .ref (eB E + oA 194 0), .ref (eB E + oA 195 0), .ref (eB E + oA 196 0), .int (σ 197 0 0), .ref (eB E + oA 198 0), .ref (eB E + oA 199 0), .int (σ 200 0 0), .int (σ 201 0 0), .ref (eB E + oA 202 0), .ref (eB E + oA 203 0), .ref (eB E + oA 204 0), .ref (eB E + oA 205 0), .int (σ 206 0 0), .int (σ 207 0 0), .int (σ 208 0 0), .int (σ 209 0 0)])
  | 12 => .inl (eT E 5, 4, .inr (.inr (.inr (.inr (fun k => some (eB E + oRef (4 * i + k)))))))
  | 17 => .inl (eT E 3, 24, .inr (.inr (.inr (.inr (fun k => some (eB E + oArt k))))))
  | 18 => .inl (eT E 6, 4, .inr (.inr (.inr (.inr (fun k => some (eB E + oVol k))))))
  | 19 => .inl (eT E 4, 6, .inr (.inr (.inr (.inr (fun k => some (eB E + oCon k))))))
  | 23 => .inl (eT E 7, 1, .inr (.inl w))
  | _ => .inl (eT E (tA F), lA F, .inl (fun k => σ F i k))
def gC (E : gE) (w : Nat → Int64) (σ : gSt) (o : Nat) : va_E := cellK E w σ (dec o).1 (dec o).2.1 (dec o).2.2
def gW (E : gE) (w : Nat → Int64) (σ : gSt) : va_W := (List.range 606).map (fun o => (eB E + o, gC E w σ o))
theorem gW_at {E : gE} {w : Nat → Int64} {σ : gSt} {o : Nat} (h : o < 606) : (gW E w σ)[o]? = some (eB E + o, gC E w σ o) := by
  simp [gW, h]
theorem gW_inv {E : gE} {w : Nat → Int64} {σ : gSt} {o : Nat} {q : Nat × va_E} (h : (gW E w σ)[o]? = some q) : o < 606 ∧ q = (eB E + o, gC E w σ o) := by
  have h1 : o < 606 := by
    have := (List.getElem?_eq_some_iff.mp h).1
    simpa [gW] using this
  rw [gW_at h1] at h
  exact ⟨h1, (Option.some.inj h).symm⟩
theorem gD {E : gE} {w : Nat → Int64} {σ : gSt} : va_D (fun q => eB E ≤ q) (gW E w σ) := by
  refine ⟨fun i j p q hi hj hpq => ?_, fun k q hk => ?_⟩
  · obtain ⟨-, rfl⟩ := gW_inv hi
    obtain ⟨-, rfl⟩ := gW_inv hj
    have : eB E + i = eB E + j := hpq
    omega
  · obtain ⟨-, rfl⟩ := gW_inv hk
    exact Nat.le_add_right _ _
theorem gW_set {E : gE} {w : Nat → Int64} {σ σ' : gSt} {o : Nat} {v : va_E} (h1 : gC E w σ' o = v) (h2 : ∀ o', o' < 606 → o' ≠ o → gC E w σ' o' = gC E w σ o') : (gW E w σ).set o (eB E + o, v) = gW E w σ' := by
  apply List.ext_getElem?
  intro k
  rw [List.getElem?_set]
  by_cases hk : k < 606
  · rw [gW_at hk, gW_at hk]
    by_cases e : o = k
    · subst e
      simp [gW, hk, h1]
    · rw [if_neg e, h2 k hk (fun z => e z.symm)]
  · have e1 : (gW E w σ')[k]? = none := by simp [gW]; omega
    have e2 : (gW E w σ)[k]? = none := by simp [gW]; omega
    have e3 : ¬ k < (gW E w σ).length := by simpa [gW] using hk
    rw [e1, e2]
    by_cases e : o = k
    · subst e
      simp [e3]
    · simp [e]
theorem gR_ne {σ : gSt} {F i F' i' : Nat} {f : Nat → Int32} (h : ¬ (F' = F ∧ i' = i)) (k' : Nat) : gR σ F i f F' i' k' = σ F' i' k' := by
  simp only [gR, if_neg h]
theorem gC_ne {E : gE} {w : Nat → Int64} {σ : gSt} {F i : Nat} {f : Nat → Int32} {o' : Nat} (ho : o' < 606) (hn : o' ≠ oOf F i) : gC E w (gR σ F i f) o' = gC E w σ o' := by
  obtain ⟨h1, h2⟩ := dec_ok o' ho
  unfold gC
  generalize dec o' = d at h1 h2
  obtain ⟨kd, F', i'⟩ := d
  dsimp only at h1 h2 ⊢
  have key : ∀ G j, oOf G j = o' → ¬ (G = F ∧ j = i) := fun G j hG hq => by
    obtain ⟨rfl, rfl⟩ := hq
    exact hn hG.symm
  clear hn ho
  rcases h2 with h2 | ⟨rfl, h2⟩ | rfl | rfl | rfl | rfl | rfl
  · have h3 : kd = 0 ∨ kd = 1 ∨ kd = 2 ∨ kd = 3 ∨ kd = 4 ∨ kd = 5 ∨ kd = 6 := by omega
    rcases h3 with rfl | rfl | rfl | rfl | rfl | rfl | rfl
    · have e : oArt i' = o' := h1
      simp only [cellK, gR_ne (key 4 i' e), gR_ne (key 5 i' e), gR_ne (key 6 i' e), gR_ne (key 7 i' e), gR_ne (key 8 i' e), gR_ne (key 9 i' e), gR_ne (key 10 i' e), gR_ne (key 11 i' e)]
    · have e : oCon i' = o' := h1
      simp only [cellK, gR_ne (key 32 i' e), gR_ne (key 33 i' e), gR_ne (key 34 i' e), gR_ne (key 35 i' e)]
    · have e : oHw i' = o' := h1
      simp only [cellK, gR_ne (key 62 i' e), gR_ne (key 63 i' e)]
    · have e : oRef i' = o' := h1
      simp only [cellK, gR_ne (key 91 i' e)]
    · have e : oVol i' = o' := h1
      simp only [cellK, gR_ne (key 120 i' e), gR_ne (key 121 i' e)]
    · have e : 0 = o' := h1
      simp only [cellK, gR_ne (key 156 0 e), gR_ne (key 157 0 e), gR_ne (key 158 0 e), gR_ne (key 159 0 e), gR_ne (key 160 0 e), gR_ne (key 161 0 e)]
    · have e : 583 = o' := h1
      simp only [cellK, gR_ne (key 180 0 e), gR_ne (key 183 0 e), gR_ne (key 197 0 e), gR_ne (key 200 0 e), gR_ne (key 201 0 e), gR_ne (key 206 0 e), gR_ne (key 207 0 e), gR_ne (key 208 0 e), gR_ne (key 209 0 e)]
  · have e : oA F' i' = o' := h1
    have h3 := key F' i' (by rw [← e]; simp only [oOf, h2, cond_true])
    simp only [cellK, gR_ne h3]
  all_goals simp only [cellK]

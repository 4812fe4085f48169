/-! by program (wip/whole/gen_links.py): rooms, the cells of the kinds, a row a link of the pools -/
abbrev rm_X0_isBlind : Room := { frames := 0, cells := 0, slots := 0, locals := 0 }
abbrev rm_X0_isReady : Room := { frames := 1, cells := 0, slots := 0, locals := 20 }
abbrev rm_X0_isReadIn : Room := { frames := 0, cells := 0, slots := 0, locals := 0 }
abbrev rm_X0_state : Room := { frames := 0, cells := 0, slots := 0, locals := 0 }
abbrev rm_X0_putToPress : Room := { frames := 1, cells := 0, slots := 0, locals := 60 }
abbrev rm_X0_countReferences : Room := { frames := 0, cells := 0, slots := 0, locals := 0 }
abbrev rm_X1_addToWrite : Room := { frames := 0, cells := 0, slots := 0, locals := 0 }
abbrev rm_X1_removeFirst : Room := { frames := 1, cells := 0, slots := 0, locals := 60 }
abbrev rm_X1_monthsFor : Room := { frames := 1, cells := 0, slots := 0, locals := 24 }
abbrev rm_X3_add : Room := { frames := 1, cells := 0, slots := 0, locals := 20 }
abbrev rm_X3_clear : Room := { frames := 0, cells := 0, slots := 0, locals := 0 }
abbrev rm_X3_take : Room := { frames := 1, cells := 0, slots := 0, locals := 60 }
abbrev rm_X3_hasLetter : Room := { frames := 0, cells := 0, slots := 0, locals := 0 }
abbrev rm_X3_firstLetter : Room := { frames := 0, cells := 0, slots := 0, locals := 0 }
abbrev rm_X3_compareBy : Room := { frames := 0, cells := 0, slots := 0, locals := 0 }
abbrev rm_X6_sign : Room := { frames := 6, cells := 1, slots := 6, locals := 90 }
abbrev rm_X6_erase : Room := { frames := 1, cells := 0, slots := 0, locals := 20 }
abbrev rm_X6_rule : Room := { frames := 6, cells := 1, slots := 6, locals := 90 }
abbrev rm_X6_article : Room := { frames := 7, cells := 2, slots := 12, locals := 110 }
abbrev rm_X6_under : Room := { frames := 7, cells := 3, slots := 18, locals := 110 }
abbrev rm_X6_refer : Room := { frames := 7, cells := 2, slots := 12, locals := 111 }
abbrev rm_X6_use : Room := { frames := 7, cells := 3, slots := 18, locals := 111 }
abbrev rm_X6_change : Room := { frames := 7, cells := 1, slots := 6, locals := 110 }
abbrev rm_X6_forbid : Room := { frames := 7, cells := 2, slots := 12, locals := 111 }
abbrev rm_X6_volume : Room := { frames := 6, cells := 1, slots := 6, locals := 90 }
abbrev rm_X6_contributor : Room := { frames := 6, cells := 1, slots := 6, locals := 90 }
abbrev rm_X6_quarrel : Room := { frames := 7, cells := 3, slots := 18, locals := 111 }
abbrev rm_X6_give : Room := { frames := 7, cells := 3, slots := 18, locals := 117 }
abbrev rm_X6_die : Room := { frames := 7, cells := 2, slots := 12, locals := 111 }
abbrev rm_X6_pass : Room := { frames := 6, cells := 1, slots := 6, locals := 139 }
abbrev rm_X6_print : Room := { frames := 7, cells := 2, slots := 12, locals := 115 }
abbrev rm_X6_supplement : Room := { frames := 6, cells := 1, slots := 6, locals := 116 }
abbrev rm_X6_month : Room := { frames := 0, cells := 0, slots := 0, locals := 0 }
abbrev rm_X6_at : Room := { frames := 6, cells := 1, slots := 6, locals := 90 }
abbrev rm_X6_about : Room := { frames := 7, cells := 2, slots := 12, locals := 111 }
abbrev rm_X6_struck : Room := { frames := 1, cells := 0, slots := 0, locals := 23 }
abbrev rm_X6_errata : Room := { frames := 7, cells := 1, slots := 6, locals := 111 }
abbrev rm_X6_open : Room := { frames := 5, cells := 0, slots := 0, locals := 115 }
abbrev rm_X6_contradictions : Room := { frames := 2, cells := 0, slots := 0, locals := 47 }
abbrev rm_X6_readAnew : Room := { frames := 6, cells := 0, slots := 0, locals := 138 }
abbrev rm_X6_synopsis : Room := { frames := 7, cells := 1, slots := 6, locals := 110 }
abbrev rm_X6_requireArticle : Room := { frames := 6, cells := 1, slots := 6, locals := 90 }
abbrev rm_X6_requireVolume : Room := { frames := 6, cells := 1, slots := 6, locals := 90 }
abbrev rm_X6_requireContributor : Room := { frames := 6, cells := 1, slots := 6, locals := 90 }
abbrev rm_X6_requireSubject : Room := { frames := 6, cells := 1, slots := 6, locals := 90 }
abbrev rm_X6_requireFact : Room := { frames := 6, cells := 1, slots := 6, locals := 90 }
abbrev rm_X6_isLetter : Room := { frames := 0, cells := 0, slots := 0, locals := 0 }
abbrev rm_X6_isGap : Room := { frames := 0, cells := 0, slots := 0, locals := 0 }
abbrev rm_X6_areAlike : Room := { frames := 1, cells := 0, slots := 0, locals := 27 }
abbrev rm_X6_comesAhead : Room := { frames := 1, cells := 0, slots := 0, locals := 27 }
abbrev rm_X6_placeOf : Room := { frames := 2, cells := 0, slots := 0, locals := 50 }
abbrev rm_X6_volumeOf : Room := { frames := 1, cells := 0, slots := 0, locals := 20 }
abbrev rm_X6_isOfPrintedVolume : Room := { frames := 2, cells := 0, slots := 0, locals := 42 }
abbrev rm_X6_columnsOf : Room := { frames := 3, cells := 0, slots := 0, locals := 65 }
abbrev rm_X6_worthsIn : Room := { frames := 2, cells := 0, slots := 0, locals := 42 }
abbrev rm_X6_isToBeGiven : Room := { frames := 3, cells := 0, slots := 0, locals := 64 }
abbrev rm_X6_isAmongEnemies : Room := { frames := 3, cells := 0, slots := 0, locals := 72 }
abbrev rm_X6_refersTo : Room := { frames := 2, cells := 0, slots := 0, locals := 49 }
abbrev rm_X6_beginFirst : Room := { frames := 4, cells := 0, slots := 0, locals := 95 }
abbrev rm_X6_endsAnArticle : Room := { frames := 5, cells := 0, slots := 0, locals := 117 }
abbrev rm_X6_putToPressFrom : Room := { frames := 3, cells := 0, slots := 0, locals := 81 }
abbrev rm_X6_lookAtReferences : Room := { frames := 4, cells := 0, slots := 0, locals := 92 }
abbrev rm_X6_fateOf : Room := { frames := 3, cells := 0, slots := 0, locals := 71 }
abbrev rm_X6_isThere : Room := { frames := 2, cells := 0, slots := 0, locals := 49 }
abbrev rm_X6_isBroken : Room := { frames := 3, cells := 0, slots := 0, locals := 71 }
abbrev rm_X6_countBroken : Room := { frames := 4, cells := 0, slots := 0, locals := 92 }
abbrev rm_X6_tellFacts : Room := { frames := 1, cells := 0, slots := 0, locals := 21 }
abbrev rm_X6_addErratum : Room := { frames := 0, cells := 0, slots := 0, locals := 0 }
abbrev rm_X6_tellPromises : Room := { frames := 4, cells := 0, slots := 0, locals := 92 }
abbrev rm_X6_isContradicted : Room := { frames := 1, cells := 0, slots := 0, locals := 21 }
abbrev rm_X6_isWithin : Room := { frames := 0, cells := 0, slots := 0, locals := 0 }
abbrev rm_X7_thrown : Room := { frames := 0, cells := 0, slots := 0, locals := 0 }
abbrev rm_X7_goes : Room := { frames := 0, cells := 0, slots := 0, locals := 0 }
abbrev rm_X7_isIn : Room := { frames := 0, cells := 0, slots := 0, locals := 0 }
abbrev rm_X7_isArticle : Room := { frames := 1, cells := 0, slots := 0, locals := 22 }
abbrev rm_X7_isContributor : Room := { frames := 1, cells := 0, slots := 0, locals := 22 }
abbrev rm_X7_isSubject : Room := { frames := 1, cells := 0, slots := 0, locals := 22 }
abbrev rm_X7_isFact : Room := { frames := 1, cells := 0, slots := 0, locals := 22 }
abbrev rm_X7_next : Room := { frames := 0, cells := 0, slots := 0, locals := 0 }
abbrev rm_X7_order : Room := { frames := 1, cells := 0, slots := 0, locals := 23 }
abbrev rm_X7_firstLetter : Room := { frames := 0, cells := 0, slots := 0, locals := 0 }
abbrev rm_X7_volumeOf : Room := { frames := 1, cells := 0, slots := 0, locals := 22 }
abbrev rm_X7_takes : Room := { frames := 0, cells := 0, slots := 0, locals := 0 }
abbrev rm_X7_sign : Room := { frames := 1, cells := 0, slots := 0, locals := 21 }
abbrev rm_X7_erase : Room := { frames := 0, cells := 0, slots := 0, locals := 0 }
abbrev rm_X7_rule : Room := { frames := 1, cells := 0, slots := 0, locals := 21 }
abbrev rm_X7_article : Room := { frames := 2, cells := 0, slots := 0, locals := 42 }
abbrev rm_X7_under : Room := { frames := 2, cells := 0, slots := 0, locals := 42 }
abbrev rm_X7_reference : Room := { frames := 0, cells := 0, slots := 0, locals := 0 }
abbrev rm_X7_refer : Room := { frames := 2, cells := 0, slots := 0, locals := 43 }
abbrev rm_X7_use : Room := { frames := 2, cells := 0, slots := 0, locals := 43 }
abbrev rm_X7_change : Room := { frames := 2, cells := 0, slots := 0, locals := 42 }
abbrev rm_X7_forbid : Room := { frames := 2, cells := 0, slots := 0, locals := 43 }
abbrev rm_X7_volume : Room := { frames := 1, cells := 0, slots := 0, locals := 22 }
abbrev rm_X7_isAhead : Room := { frames := 2, cells := 0, slots := 0, locals := 48 }
abbrev rm_X7_columns : Room := { frames := 3, cells := 0, slots := 0, locals := 71 }
abbrev rm_X7_contributor : Room := { frames := 1, cells := 0, slots := 0, locals := 22 }
abbrev rm_X7_quarrel : Room := { frames := 2, cells := 0, slots := 0, locals := 43 }
abbrev rm_X7_refersTo : Room := { frames := 2, cells := 0, slots := 0, locals := 48 }
abbrev rm_X7_isBarred : Room := { frames := 3, cells := 0, slots := 0, locals := 72 }
abbrev rm_X7_canBeGiven : Room := { frames := 4, cells := 0, slots := 0, locals := 97 }
abbrev rm_X7_toWrite : Room := { frames := 0, cells := 0, slots := 0, locals := 0 }
abbrev rm_X7_first : Room := { frames := 0, cells := 0, slots := 0, locals := 0 }
abbrev rm_X7_begins : Room := { frames := 4, cells := 0, slots := 0, locals := 99 }
abbrev rm_X7_give : Room := { frames := 5, cells := 0, slots := 0, locals := 122 }
abbrev rm_X7_die : Room := { frames := 2, cells := 0, slots := 0, locals := 43 }
abbrev rm_X7_pass : Room := { frames := 5, cells := 0, slots := 0, locals := 122 }
abbrev rm_X7_isPrinted : Room := { frames := 2, cells := 0, slots := 0, locals := 48 }
abbrev rm_X7_isPromise : Room := { frames := 2, cells := 0, slots := 0, locals := 44 }
abbrev rm_X7_prints : Room := { frames := 3, cells := 0, slots := 0, locals := 71 }
abbrev rm_X7_print : Room := { frames := 4, cells := 0, slots := 0, locals := 98 }
abbrev rm_X7_isOpen : Room := { frames := 3, cells := 0, slots := 0, locals := 71 }
abbrev rm_X7_supplement : Room := { frames := 4, cells := 0, slots := 0, locals := 98 }
abbrev rm_X7_month : Room := { frames := 0, cells := 0, slots := 0, locals := 0 }
abbrev rm_X7_at : Room := { frames := 3, cells := 0, slots := 0, locals := 71 }
abbrev rm_X7_about : Room := { frames := 4, cells := 0, slots := 0, locals := 99 }
abbrev rm_X7_struck : Room := { frames := 0, cells := 0, slots := 0, locals := 0 }
abbrev rm_X7_errata : Room := { frames := 2, cells := 0, slots := 0, locals := 43 }
abbrev rm_X7_opens : Room := { frames := 4, cells := 0, slots := 0, locals := 94 }
abbrev rm_X7_open : Room := { frames := 5, cells := 0, slots := 0, locals := 118 }
abbrev rm_X7_contradicts : Room := { frames := 0, cells := 0, slots := 0, locals := 0 }
abbrev rm_X7_contradictions : Room := { frames := 1, cells := 0, slots := 0, locals := 28 }
abbrev rm_X7_readAnew : Room := { frames := 5, cells := 0, slots := 0, locals := 118 }
abbrev rm_X7_synopsis : Room := { frames := 2, cells := 0, slots := 0, locals := 42 }
theorem cell_Art {E : gE} {w : Nat → Int64} {σ : gSt} {i : Nat} (hi : i < 24) : gC E w σ (oArt i) = .inr (0, [.ref (eB E + oHw i), .ref (eB E + oRa i), .ref (eB E + oA 2 i), .ref (eB E + oA 3 i), .int (σ 4 i 0), .int (σ 5 i 0), .int (σ 6 i 0), .int (σ 7 i 0), .int (σ 8 i 0), .int (σ 9 i 0), .int (σ 10 i 0), .int (σ 11 i 0)]) := by
  rw [gC, (dec_art i hi).1]; rfl
theorem cell_Con {E : gE} {w : Nat → Int64} {σ : gSt} {i : Nat} (hi : i < 6) : gC E w σ (oCon i) = .inr (1, [.ref (eB E + oA 30 i), .ref (eB E + oA 31 i), .int (σ 32 i 0), .int (σ 33 i 0), .int (σ 34 i 0), .int (σ 35 i 0)]) := by
  rw [gC, (dec_con i hi).1]; rfl
theorem cell_Hw {E : gE} {w : Nat → Int64} {σ : gSt} {i : Nat} (hi : i < 121) : gC E w σ (oHw i) = .inr (2, [.ref (eB E + oA 60 i), .ref (eB E + oA 61 i), .int (σ 62 i 0), .int (σ 63 i 0)]) := by
  rw [gC, (dec_hw i hi).1]; rfl
theorem cell_Ref {E : gE} {w : Nat → Int64} {σ : gSt} {i : Nat} (hi : i < 96) : gC E w σ (oRef i) = .inr (3, [.ref (eB E + oHw (24 + i)), .ref (eF E ((σ 91 i 0)).toNatClampNeg)]) := by
  rw [gC, (dec_ref i hi).1]; rfl
theorem cell_Vol {E : gE} {w : Nat → Int64} {σ : gSt} {i : Nat} (hi : i < 4) : gC E w σ (oVol i) = .inr (4, [.int (σ 120 i 0), .int (σ 121 i 0)]) := by
  rw [gC, (dec_vol i hi).1]; rfl
theorem cell_M {E : gE} {w : Nat → Int64} {σ : gSt} : gC E w σ 0 = .inr (5, [.ref (eB E + oHw 120), .ref (eB E + 4), .ref (eB E + 5), .ref (eB E + 6), .ref (eB E + oA 154 0), .ref (eB E + oA 155 0), .int (σ 156 0 0), .int (σ 157 0 0), .int (σ 158 0 0), .int (σ 159 0 0), .int (σ 160 0 0), .int (σ 161 0 0)]) := rfl
theorem cell_X {E : gE} {w : Nat → Int64} {σ : gSt} : gC E w σ 583 = .inr (6, [.int (σ 180 0 0), .ref (eB E + oA 181 0), .ref (eB E + oA 182 0), .int (σ 183 0 0), .ref (eB E + oA 184 0), .ref (eB E + oA 185 0), .ref (eB E + oA 186 0), .ref (eB E + oA 187 0), .ref (eB E + oA 188 0), .ref (eB E + oA 189 0), .ref (eB E + oA 190 0), .ref (eB E + oA 191 0), .ref (eB E + oA 192 0), .ref (eB E + oA 193 0), .ref (eB E + oA 194 0), .ref (eB E + oA 195 0), .ref (eB E + oA 196 0), .int (σ 197 0 0), .ref (eB E + oA 198 0), .ref (eB E + oA 199 0), .int (σ 200 0 0), .int (σ 201 0 0), .ref (eB E + oA 202 0), .ref (eB E + oA 203 0), .ref (eB E + oA 204 0), .ref (eB E + oA 205 0), .int (σ 206 0 0), .int (σ 207 0 0), .int (σ 208 0 0), .int (σ 209 0 0)]) := rfl
theorem hwA {i : Nat} (h : i < 24) : i < 121 := by omega
theorem hwR {i : Nat} (h : i < 96) : 24 + i < 121 := by omega
theorem hwD : 120 < 121 := by decide
theorem refB {i : Nat} {x : Int32} (h : i < 24) (hx : inb x 4 = true) : 4 * i + x.toNatClampNeg < 96 := by
  have := inb_lt hx
  omega
theorem ok_60 {i : Nat} {x : Int32} (hi : i < 121) (h : inb x 8 = true) : okA 0 60 i x = true := by
  have h1 : Nat.blt i 121 = true := Nat.ble_eq_true_of_le hi
  show (true && true && true && Nat.blt i 121 && inb x _) = true
  rw [h1]
  exact h
theorem ok_61 {i : Nat} {x : Int32} (hi : i < 121) (h : inb x 8 = true) : okA 0 61 i x = true := by
  have h1 : Nat.blt i 121 = true := Nat.ble_eq_true_of_le hi
  show (true && true && true && Nat.blt i 121 && inb x _) = true
  rw [h1]
  exact h
theorem ok_2 {i : Nat} {x : Int32} (hi : i < 24) (h : inb x 8 = true) : okA 2 2 i x = true := by
  have h1 : Nat.blt i 24 = true := Nat.ble_eq_true_of_le hi
  show (true && true && true && Nat.blt i 24 && inb x _) = true
  rw [h1]
  exact h
theorem ok_3 {i : Nat} {x : Int32} (hi : i < 24) (h : inb x 8 = true) : okA 1 3 i x = true := by
  have h1 : Nat.blt i 24 = true := Nat.ble_eq_true_of_le hi
  show (true && true && true && Nat.blt i 24 && inb x _) = true
  rw [h1]
  exact h
theorem ok_30 {i : Nat} {x : Int32} (hi : i < 6) (h : inb x 24 = true) : okA 1 30 i x = true := by
  have h1 : Nat.blt i 6 = true := Nat.ble_eq_true_of_le hi
  show (true && true && true && Nat.blt i 6 && inb x _) = true
  rw [h1]
  exact h
theorem ok_31 {i : Nat} {x : Int32} (hi : i < 6) (h : inb x 6 = true) : okA 2 31 i x = true := by
  have h1 : Nat.blt i 6 = true := Nat.ble_eq_true_of_le hi
  show (true && true && true && Nat.blt i 6 && inb x _) = true
  rw [h1]
  exact h
theorem ok_154 {x : Int32} (h : inb x 10 = true) : okA 1 154 0 x = true := by
  show (true && true && true && true && inb x _) = true
  exact h
theorem ok_155 {x : Int32} (h : inb x 8 = true) : okA 1 155 0 x = true := by
  show (true && true && true && true && inb x _) = true
  exact h
theorem ok_181 {x : Int32} (h : inb x 1000 = true) : okA 1 181 0 x = true := by
  show (true && true && true && true && inb x _) = true
  exact h
theorem ok_182 {x : Int32} (h : inb x 125 = true) : okA 1 182 0 x = true := by
  show (true && true && true && true && inb x _) = true
  exact h
theorem ok_184 {x : Int32} (h : inb x 24 = true) : okA 1 184 0 x = true := by
  show (true && true && true && true && inb x _) = true
  exact h
theorem ok_185 {x : Int32} (h : inb x 24 = true) : okA 1 185 0 x = true := by
  show (true && true && true && true && inb x _) = true
  exact h
theorem ok_186 {x : Int32} (h : inb x 24 = true) : okA 1 186 0 x = true := by
  show (true && true && true && true && inb x _) = true
  exact h
theorem ok_187 {x : Int32} (h : inb x 24 = true) : okA 1 187 0 x = true := by
  show (true && true && true && true && inb x _) = true
  exact h
theorem ok_188 {x : Int32} (h : inb x 24 = true) : okA 1 188 0 x = true := by
  show (true && true && true && true && inb x _) = true
  exact h
theorem ok_189 {x : Int32} (h : inb x 24 = true) : okA 1 189 0 x = true := by
  show (true && true && true && true && inb x _) = true
  exact h
theorem ok_190 {x : Int32} (h : inb x 24 = true) : okA 2 190 0 x = true := by
  show (true && true && true && true && inb x _) = true
  exact h
theorem ok_191 {x : Int32} (h : inb x 24 = true) : okA 1 191 0 x = true := by
  show (true && true && true && true && inb x _) = true
  exact h
theorem ok_192 {x : Int32} (h : inb x 96 = true) : okA 1 192 0 x = true := by
  show (true && true && true && true && inb x _) = true
  exact h
theorem ok_193 {x : Int32} (h : inb x 192 = true) : okA 2 193 0 x = true := by
  show (true && true && true && true && inb x _) = true
  exact h
theorem ok_194 {x : Int32} (h : inb x 192 = true) : okA 1 194 0 x = true := by
  show (true && true && true && true && inb x _) = true
  exact h
theorem ok_195 {x : Int32} (h : inb x 10 = true) : okA 1 195 0 x = true := by
  show (true && true && true && true && inb x _) = true
  exact h
theorem ok_196 {x : Int32} (h : inb x 8 = true) : okA 1 196 0 x = true := by
  show (true && true && true && true && inb x _) = true
  exact h
theorem ok_198 {x : Int32} (h : inb x 4 = true) : okA 1 198 0 x = true := by
  show (true && true && true && true && inb x _) = true
  exact h
theorem ok_199 {x : Int32} (h : inb x 4 = true) : okA 1 199 0 x = true := by
  show (true && true && true && true && inb x _) = true
  exact h
theorem ok_202 {x : Int32} (h : inb x 6 = true) : okA 1 202 0 x = true := by
  show (true && true && true && true && inb x _) = true
  exact h
theorem ok_203 {x : Int32} (h : inb x 6 = true) : okA 2 203 0 x = true := by
  show (true && true && true && true && inb x _) = true
  exact h
theorem ok_204 {x : Int32} (h : inb x 36 = true) : okA 2 204 0 x = true := by
  show (true && true && true && true && inb x _) = true
  exact h
theorem ok_205 {x : Int32} (h : inb x 6 = true) : okA 1 205 0 x = true := by
  show (true && true && true && true && inb x _) = true
  exact h
theorem ic_m1 : Int32.ofInt (-1) = (-1 : Int32) := by decide
theorem ic_0 : Int32.ofInt (0) = (0 : Int32) := by decide
theorem ic_1 : Int32.ofInt (1) = (1 : Int32) := by decide
theorem ic_2 : Int32.ofInt (2) = (2 : Int32) := by decide
theorem ic_3 : Int32.ofInt (3) = (3 : Int32) := by decide
theorem ic_4 : Int32.ofInt (4) = (4 : Int32) := by decide
theorem ic_5 : Int32.ofInt (5) = (5 : Int32) := by decide
theorem bp_6 : (Int8.ofInt 6).toInt32 = (6 : Int32) := by decide
theorem bp_7 : (Int8.ofInt 7).toInt32 = (7 : Int32) := by decide
theorem bp_8 : (Int8.ofInt 8).toInt32 = (8 : Int32) := by decide
theorem bp_9 : (Int8.ofInt 9).toInt32 = (9 : Int32) := by decide
theorem bp_10 : (Int8.ofInt 10).toInt32 = (10 : Int32) := by decide
theorem bp_24 : (Int8.ofInt 24).toInt32 = (24 : Int32) := by decide
theorem bp_32 : (Int8.ofInt 32).toInt32 = (32 : Int32) := by decide
theorem bp_45 : (Int8.ofInt 45).toInt32 = (45 : Int32) := by decide
theorem bp_50 : (Int8.ofInt 50).toInt32 = (50 : Int32) := by decide
theorem bp_97 : (Int8.ofInt 97).toInt32 = (97 : Int32) := by decide
theorem bp_99 : (Int8.ofInt 99).toInt32 = (99 : Int32) := by decide
theorem bp_100 : (Int8.ofInt 100).toInt32 = (100 : Int32) := by decide
theorem bp_120 : (Int8.ofInt 120).toInt32 = (120 : Int32) := by decide
theorem bp_122 : (Int8.ofInt 122).toInt32 = (122 : Int32) := by decide
theorem sp_960 : (Int16.ofInt 960).toInt32 = (960 : Int32) := by decide
theorem ii_1 (x : Int32) : x + Int32.ofInt (1) = x + (1) := by
  rw [show Int32.ofInt (1) = (1 : Int32) by decide]
theorem fc_0 : (0 : Int32).toNatClampNeg = 0 := by decide
theorem fc_1 : (1 : Int32).toNatClampNeg = 1 := by decide
theorem fc_2 : (2 : Int32).toNatClampNeg = 2 := by decide
theorem fc_3 : (3 : Int32).toNatClampNeg = 3 := by decide
theorem fc_4 : (4 : Int32).toNatClampNeg = 4 := by decide
section GL
variable {p : Program} {l : Launch} {e : Env} {R : Room} {s : State} {m : MethodId} {args : Array Value} {below : List Frame} {meth : Method} {c : Code} {nL cells slots : Nat} {Q : State → Prop} {E : gE} {w : Nat → Int64} {σ : gSt} {pc q : Nat} {lv lv' : List (Nat × Value)} {st st' : List Value} {cc : ByteArray} {own : String} {ret : Option FieldType}
theorem gf_RX6_10 (hC : gCx p s m args meth c cc nL RX6 ret E) (d : decode cc pc = .ok (.getfield 10, 3)) (hq : pc + 3 = q) (k : G p l e R s m args below meth c nL cells slots Q E w σ q lv (.ref (eB E + oHw 120) :: st)) : G p l e R s m args below meth c nL cells slots Q E w σ pc lv (.ref (eB E + 0) :: st) :=
  G_get (T := TX6) (k := 0) hC d hq (by decide) cell_M rfl inW6 (by decide) (wall (by decide +kernel) rfl) rfl rfl k
theorem gf_RX6_18 (hC : gCx p s m args meth c cc nL RX6 ret E) (d : decode cc pc = .ok (.getfield 18, 3)) (hq : pc + 3 = q) (k : G p l e R s m args below meth c nL cells slots Q E w σ q lv (.ref (eB E + 4) :: st)) : G p l e R s m args below meth c nL cells slots Q E w σ pc lv (.ref (eB E + 0) :: st) :=
  G_get (T := TX6) (k := 1) hC d hq (by decide) cell_M rfl inW6 (by decide) (wall (by decide +kernel) rfl) rfl rfl k
theorem gf_RX6_24 (hC : gCx p s m args meth c cc nL RX6 ret E) (d : decode cc pc = .ok (.getfield 24, 3)) (hq : pc + 3 = q) (k : G p l e R s m args below meth c nL cells slots Q E w σ q lv (.ref (eB E + 5) :: st)) : G p l e R s m args below meth c nL cells slots Q E w σ pc lv (.ref (eB E + 0) :: st) :=
  G_get (T := TX6) (k := 2) hC d hq (by decide) cell_M rfl inW6 (by decide) (wall (by decide +kernel) rfl) rfl rfl k
theorem gf_RX6_30 (hC : gCx p s m args meth c cc nL RX6 ret E) (d : decode cc pc = .ok (.getfield 30, 3)) (hq : pc + 3 = q) (k : G p l e R s m args below meth c nL cells slots Q E w σ q lv (.ref (eB E + 6) :: st)) : G p l e R s m args below meth c nL cells slots Q E w σ pc lv (.ref (eB E + 0) :: st) :=
  G_get (T := TX6) (k := 3) hC d hq (by decide) cell_M rfl inW6 (by decide) (wall (by decide +kernel) rfl) rfl rfl k
theorem gf_RX6_34 (hC : gCx p s m args meth c cc nL RX6 ret E) (d : decode cc pc = .ok (.getfield 34, 3)) (hq : pc + 3 = q) (k : G p l e R s m args below meth c nL cells slots Q E w σ q lv (.ref (eB E + oA 154 0) :: st)) : G p l e R s m args below meth c nL cells slots Q E w σ pc lv (.ref (eB E + 0) :: st) :=
  G_get (T := TX6) (k := 4) hC d hq (by decide) cell_M rfl inW6 (by decide) (wall (by decide +kernel) rfl) rfl rfl k
theorem gf_RX6_38 (hC : gCx p s m args meth c cc nL RX6 ret E) (d : decode cc pc = .ok (.getfield 38, 3)) (hq : pc + 3 = q) (k : G p l e R s m args below meth c nL cells slots Q E w σ q lv (.ref (eB E + oA 155 0) :: st)) : G p l e R s m args below meth c nL cells slots Q E w σ pc lv (.ref (eB E + 0) :: st) :=
  G_get (T := TX6) (k := 5) hC d hq (by decide) cell_M rfl inW6 (by decide) (wall (by decide +kernel) rfl) rfl rfl k
theorem gf_RX6_58 {i : Nat} (hC : gCx p s m args meth c cc nL RX6 ret E) (d : decode cc pc = .ok (.getfield 58, 3)) (hq : pc + 3 = q) (hi : i < 121) (k : G p l e R s m args below meth c nL cells slots Q E w σ q lv (.int (σ 62 i 0) :: st)) : G p l e R s m args below meth c nL cells slots Q E w σ pc lv (.ref (eB E + oHw i) :: st) :=
  G_getN (host := RX6) (T := TX3) (k := 2) hC d hq (dec_hw i hi).2 (cell_Hw hi) rfl inW3 (by decide) (by decide +kernel) rfl rfl k
theorem gf_RX6_74 (hC : gCx p s m args meth c cc nL RX6 ret E) (d : decode cc pc = .ok (.getfield 74, 3)) (hq : pc + 3 = q) (k : G p l e R s m args below meth c nL cells slots Q E w σ q lv (.int (σ 158 0 0) :: st)) : G p l e R s m args below meth c nL cells slots Q E w σ pc lv (.ref (eB E + 0) :: st) :=
  G_get (T := TX6) (k := 8) hC d hq (by decide) cell_M rfl inW6 (by decide) (wall (by decide +kernel) rfl) rfl rfl k
theorem gf_RX6_79 (hC : gCx p s m args meth c cc nL RX6 ret E) (d : decode cc pc = .ok (.getfield 79, 3)) (hq : pc + 3 = q) (k : G p l e R s m args below meth c nL cells slots Q E w σ q lv (.int (σ 161 0 0) :: st)) : G p l e R s m args below meth c nL cells slots Q E w σ pc lv (.ref (eB E + 0) :: st) :=
  G_get (T := TX6) (k := 11) hC d hq (by decide) cell_M rfl inW6 (by decide) (wall (by decide +kernel) rfl) rfl rfl k
theorem gf_RX6_89 (hC : gCx p s m args meth c cc nL RX6 ret E) (d : decode cc pc = .ok (.getfield 89, 3)) (hq : pc + 3 = q) (k : G p l e R s m args below meth c nL cells slots Q E w σ q lv (.int (σ 156 0 0) :: st)) : G p l e R s m args below meth c nL cells slots Q E w σ pc lv (.ref (eB E + 0) :: st) :=
  G_get (T := TX6) (k := 6) hC d hq (by decide) cell_M rfl inW6 (by decide) (wall (by decide +kernel) rfl) rfl rfl k
theorem gf_RX6_98 {i : Nat} (hC : gCx p s m args meth c cc nL RX6 ret E) (d : decode cc pc = .ok (.getfield 98, 3)) (hq : pc + 3 = q) (hi : i < 24) (k : G p l e R s m args below meth c nL cells slots Q E w σ q lv (.int (σ 5 i 0) :: st)) : G p l e R s m args below meth c nL cells slots Q E w σ pc lv (.ref (eB E + oArt i) :: st) :=
  G_getN (host := RX6) (T := TX0) (k := 5) hC d hq (dec_art i hi).2 (cell_Art hi) rfl inW0 (by decide) (by decide +kernel) rfl rfl k
theorem gf_RX6_101 {i : Nat} (hC : gCx p s m args meth c cc nL RX6 ret E) (d : decode cc pc = .ok (.getfield 101, 3)) (hq : pc + 3 = q) (hi : i < 24) (k : G p l e R s m args below meth c nL cells slots Q E w σ q lv (.int (σ 6 i 0) :: st)) : G p l e R s m args below meth c nL cells slots Q E w σ pc lv (.ref (eB E + oArt i) :: st) :=
  G_getN (host := RX6) (T := TX0) (k := 6) hC d hq (dec_art i hi).2 (cell_Art hi) rfl inW0 (by decide) (by decide +kernel) rfl rfl k
theorem gf_RX6_104 {i : Nat} (hC : gCx p s m args meth c cc nL RX6 ret E) (d : decode cc pc = .ok (.getfield 104, 3)) (hq : pc + 3 = q) (hi : i < 24) (k : G p l e R s m args below meth c nL cells slots Q E w σ q lv (.ref (eB E + oHw i) :: st)) : G p l e R s m args below meth c nL cells slots Q E w σ pc lv (.ref (eB E + oArt i) :: st) :=
  G_getN (host := RX6) (T := TX0) (k := 0) hC d hq (dec_art i hi).2 (cell_Art hi) rfl inW0 (by decide) (by decide +kernel) rfl rfl k
theorem gf_RX6_116 {i : Nat} (hC : gCx p s m args meth c cc nL RX6 ret E) (d : decode cc pc = .ok (.getfield 116, 3)) (hq : pc + 3 = q) (hi : i < 24) (k : G p l e R s m args below meth c nL cells slots Q E w σ q lv (.int (σ 11 i 0) :: st)) : G p l e R s m args below meth c nL cells slots Q E w σ pc lv (.ref (eB E + oArt i) :: st) :=
  G_getN (host := RX6) (T := TX0) (k := 11) hC d hq (dec_art i hi).2 (cell_Art hi) rfl inW0 (by decide) (by decide +kernel) rfl rfl k
theorem gf_RX6_119 {i : Nat} (hC : gCx p s m args meth c cc nL RX6 ret E) (d : decode cc pc = .ok (.getfield 119, 3)) (hq : pc + 3 = q) (hi : i < 24) (k : G p l e R s m args below meth c nL cells slots Q E w σ q lv (.int (σ 4 i 0) :: st)) : G p l e R s m args below meth c nL cells slots Q E w σ pc lv (.ref (eB E + oArt i) :: st) :=
  G_getN (host := RX6) (T := TX0) (k := 4) hC d hq (dec_art i hi).2 (cell_Art hi) rfl inW0 (by decide) (by decide +kernel) rfl rfl k
theorem gf_RX6_124 {i : Nat} (hC : gCx p s m args meth c cc nL RX6 ret E) (d : decode cc pc = .ok (.getfield 124, 3)) (hq : pc + 3 = q) (hi : i < 24) (k : G p l e R s m args below meth c nL cells slots Q E w σ q lv (.ref (eB E + oRa i) :: st)) : G p l e R s m args below meth c nL cells slots Q E w σ pc lv (.ref (eB E + oArt i) :: st) :=
  G_getN (host := RX6) (T := TX0) (k := 1) hC d hq (dec_art i hi).2 (cell_Art hi) rfl inW0 (by decide) (by decide +kernel) rfl rfl k
theorem gf_RX6_128 {i : Nat} (hC : gCx p s m args meth c cc nL RX6 ret E) (d : decode cc pc = .ok (.getfield 128, 3)) (hq : pc + 3 = q) (hi : i < 96) (k : G p l e R s m args below meth c nL cells slots Q E w σ q lv (.ref (eB E + oHw (24 + i)) :: st)) : G p l e R s m args below meth c nL cells slots Q E w σ pc lv (.ref (eB E + oRef i) :: st) :=
  G_getN (host := RX6) (T := TX4) (k := 0) hC d hq (dec_ref i hi).2 (cell_Ref hi) rfl inW4 (by decide) (by decide +kernel) rfl rfl k
theorem gf_RX6_139 {i : Nat} (hC : gCx p s m args meth c cc nL RX6 ret E) (d : decode cc pc = .ok (.getfield 139, 3)) (hq : pc + 3 = q) (hi : i < 24) (k : G p l e R s m args below meth c nL cells slots Q E w σ q lv (.ref (eB E + oA 2 i) :: st)) : G p l e R s m args below meth c nL cells slots Q E w σ pc lv (.ref (eB E + oArt i) :: st) :=
  G_getN (host := RX6) (T := TX0) (k := 2) hC d hq (dec_art i hi).2 (cell_Art hi) rfl inW0 (by decide) (by decide +kernel) rfl rfl k
theorem gf_RX6_145 {i : Nat} (hC : gCx p s m args meth c cc nL RX6 ret E) (d : decode cc pc = .ok (.getfield 145, 3)) (hq : pc + 3 = q) (hi : i < 24) (k : G p l e R s m args below meth c nL cells slots Q E w σ q lv (.int (σ 10 i 0) :: st)) : G p l e R s m args below meth c nL cells slots Q E w σ pc lv (.ref (eB E + oArt i) :: st) :=
  G_getN (host := RX6) (T := TX0) (k := 10) hC d hq (dec_art i hi).2 (cell_Art hi) rfl inW0 (by decide) (by decide +kernel) rfl rfl k
theorem gf_RX6_150 (hC : gCx p s m args meth c cc nL RX6 ret E) (d : decode cc pc = .ok (.getfield 150, 3)) (hq : pc + 3 = q) (k : G p l e R s m args below meth c nL cells slots Q E w σ q lv (.int (σ 157 0 0) :: st)) : G p l e R s m args below meth c nL cells slots Q E w σ pc lv (.ref (eB E + 0) :: st) :=
  G_get (T := TX6) (k := 7) hC d hq (by decide) cell_M rfl inW6 (by decide) (wall (by decide +kernel) rfl) rfl rfl k
theorem gf_RX6_153 {i : Nat} (hC : gCx p s m args meth c cc nL RX6 ret E) (d : decode cc pc = .ok (.getfield 153, 3)) (hq : pc + 3 = q) (hi : i < 4) (k : G p l e R s m args below meth c nL cells slots Q E w σ q lv (.int (σ 120 i 0) :: st)) : G p l e R s m args below meth c nL cells slots Q E w σ pc lv (.ref (eB E + oVol i) :: st) :=
  G_getN (host := RX6) (T := TX5) (k := 0) hC d hq (dec_vol i hi).2 (cell_Vol hi) rfl inW5 (by decide) (by decide +kernel) rfl rfl k
theorem gf_RX6_161 {i : Nat} (hC : gCx p s m args meth c cc nL RX6 ret E) (d : decode cc pc = .ok (.getfield 161, 3)) (hq : pc + 3 = q) (hi : i < 4) (k : G p l e R s m args below meth c nL cells slots Q E w σ q lv (.int (σ 121 i 0) :: st)) : G p l e R s m args below meth c nL cells slots Q E w σ pc lv (.ref (eB E + oVol i) :: st) :=
  G_getN (host := RX6) (T := TX5) (k := 1) hC d hq (dec_vol i hi).2 (cell_Vol hi) rfl inW5 (by decide) (by decide +kernel) rfl rfl k
theorem gf_RX6_166 (hC : gCx p s m args meth c cc nL RX6 ret E) (d : decode cc pc = .ok (.getfield 166, 3)) (hq : pc + 3 = q) (k : G p l e R s m args below meth c nL cells slots Q E w σ q lv (.int (σ 159 0 0) :: st)) : G p l e R s m args below meth c nL cells slots Q E w σ pc lv (.ref (eB E + 0) :: st) :=
  G_get (T := TX6) (k := 9) hC d hq (by decide) cell_M rfl inW6 (by decide) (wall (by decide +kernel) rfl) rfl rfl k
theorem gf_RX6_179 {i : Nat} (hC : gCx p s m args meth c cc nL RX6 ret E) (d : decode cc pc = .ok (.getfield 179, 3)) (hq : pc + 3 = q) (hi : i < 6) (k : G p l e R s m args below meth c nL cells slots Q E w σ q lv (.ref (eB E + oA 31 i) :: st)) : G p l e R s m args below meth c nL cells slots Q E w σ pc lv (.ref (eB E + oCon i) :: st) :=
  G_getN (host := RX6) (T := TX1) (k := 1) hC d hq (dec_con i hi).2 (cell_Con hi) rfl inW1 (by decide) (by decide +kernel) rfl rfl k
theorem gf_RX6_186 {i : Nat} (hC : gCx p s m args meth c cc nL RX6 ret E) (d : decode cc pc = .ok (.getfield 186, 3)) (hq : pc + 3 = q) (hi : i < 6) (k : G p l e R s m args below meth c nL cells slots Q E w σ q lv (.int (σ 35 i 0) :: st)) : G p l e R s m args below meth c nL cells slots Q E w σ pc lv (.ref (eB E + oCon i) :: st) :=
  G_getN (host := RX6) (T := TX1) (k := 5) hC d hq (dec_con i hi).2 (cell_Con hi) rfl inW1 (by decide) (by decide +kernel) rfl rfl k
theorem gf_RX6_195 {i : Nat} (hC : gCx p s m args meth c cc nL RX6 ret E) (d : decode cc pc = .ok (.getfield 195, 3)) (hq : pc + 3 = q) (hi : i < 24) (k : G p l e R s m args below meth c nL cells slots Q E w σ q lv (.int (σ 7 i 0) :: st)) : G p l e R s m args below meth c nL cells slots Q E w σ pc lv (.ref (eB E + oArt i) :: st) :=
  G_getN (host := RX6) (T := TX0) (k := 7) hC d hq (dec_art i hi).2 (cell_Art hi) rfl inW0 (by decide) (by decide +kernel) rfl rfl k
theorem gf_RX6_201 {i : Nat} (hC : gCx p s m args meth c cc nL RX6 ret E) (d : decode cc pc = .ok (.getfield 201, 3)) (hq : pc + 3 = q) (hi : i < 6) (k : G p l e R s m args below meth c nL cells slots Q E w σ q lv (.int (σ 32 i 0) :: st)) : G p l e R s m args below meth c nL cells slots Q E w σ pc lv (.ref (eB E + oCon i) :: st) :=
  G_getN (host := RX6) (T := TX1) (k := 2) hC d hq (dec_con i hi).2 (cell_Con hi) rfl inW1 (by decide) (by decide +kernel) rfl rfl k
theorem gf_RX6_210 {i : Nat} (hC : gCx p s m args meth c cc nL RX6 ret E) (d : decode cc pc = .ok (.getfield 210, 3)) (hq : pc + 3 = q) (hi : i < 6) (k : G p l e R s m args below meth c nL cells slots Q E w σ q lv (.ref (eB E + oA 30 i) :: st)) : G p l e R s m args below meth c nL cells slots Q E w σ pc lv (.ref (eB E + oCon i) :: st) :=
  G_getN (host := RX6) (T := TX1) (k := 0) hC d hq (dec_con i hi).2 (cell_Con hi) rfl inW1 (by decide) (by decide +kernel) rfl rfl k
theorem gf_RX6_213 {i : Nat} (hC : gCx p s m args meth c cc nL RX6 ret E) (d : decode cc pc = .ok (.getfield 213, 3)) (hq : pc + 3 = q) (hi : i < 24) (k : G p l e R s m args below meth c nL cells slots Q E w σ q lv (.int (σ 8 i 0) :: st)) : G p l e R s m args below meth c nL cells slots Q E w σ pc lv (.ref (eB E + oArt i) :: st) :=
  G_getN (host := RX6) (T := TX0) (k := 8) hC d hq (dec_art i hi).2 (cell_Art hi) rfl inW0 (by decide) (by decide +kernel) rfl rfl k
theorem gf_RX6_218 (hC : gCx p s m args meth c cc nL RX6 ret E) (d : decode cc pc = .ok (.getfield 218, 3)) (hq : pc + 3 = q) (k : G p l e R s m args below meth c nL cells slots Q E w σ q lv (.int (σ 160 0 0) :: st)) : G p l e R s m args below meth c nL cells slots Q E w σ pc lv (.ref (eB E + 0) :: st) :=
  G_get (T := TX6) (k := 10) hC d hq (by decide) cell_M rfl inW6 (by decide) (wall (by decide +kernel) rfl) rfl rfl k
theorem gf_RX6_276 {i : Nat} (hC : gCx p s m args meth c cc nL RX6 ret E) (d : decode cc pc = .ok (.getfield 276, 3)) (hq : pc + 3 = q) (hi : i < 6) (k : G p l e R s m args below meth c nL cells slots Q E w σ q lv (.int (σ 34 i 0) :: st)) : G p l e R s m args below meth c nL cells slots Q E w σ pc lv (.ref (eB E + oCon i) :: st) :=
  G_getN (host := RX6) (T := TX1) (k := 4) hC d hq (dec_con i hi).2 (cell_Con hi) rfl inW1 (by decide) (by decide +kernel) rfl rfl k
theorem gf_RX6_354 {i : Nat} (hC : gCx p s m args meth c cc nL RX6 ret E) (d : decode cc pc = .ok (.getfield 354, 3)) (hq : pc + 3 = q) (hi : i < 96) (k : G p l e R s m args below meth c nL cells slots Q E w σ q lv (.ref (eF E ((σ 91 i 0)).toNatClampNeg) :: st)) : G p l e R s m args below meth c nL cells slots Q E w σ pc lv (.ref (eB E + oRef i) :: st) :=
  G_getN (host := RX6) (T := TX4) (k := 1) hC d hq (dec_ref i hi).2 (cell_Ref hi) rfl inW4 (by decide) (by decide +kernel) rfl rfl k
theorem gf_RX6_377 {i : Nat} (hC : gCx p s m args meth c cc nL RX6 ret E) (d : decode cc pc = .ok (.getfield 377, 3)) (hq : pc + 3 = q) (hi : i < 24) (k : G p l e R s m args below meth c nL cells slots Q E w σ q lv (.ref (eB E + oA 3 i) :: st)) : G p l e R s m args below meth c nL cells slots Q E w σ pc lv (.ref (eB E + oArt i) :: st) :=
  G_getN (host := RX6) (T := TX0) (k := 3) hC d hq (dec_art i hi).2 (cell_Art hi) rfl inW0 (by decide) (by decide +kernel) rfl rfl k
theorem gf_RX0_20 {i : Nat} (hC : gCx p s m args meth c cc nL RX0 ret E) (d : decode cc pc = .ok (.getfield 20, 3)) (hq : pc + 3 = q) (hi : i < 24) (k : G p l e R s m args below meth c nL cells slots Q E w σ q lv (.ref (eB E + oRa i) :: st)) : G p l e R s m args below meth c nL cells slots Q E w σ pc lv (.ref (eB E + oArt i) :: st) :=
  G_get (T := TX0) (k := 1) hC d hq (dec_art i hi).2 (cell_Art hi) rfl inW0 (by decide) (wall (by decide +kernel) rfl) rfl rfl k
theorem gf_RX0_28 {i : Nat} (hC : gCx p s m args meth c cc nL RX0 ret E) (d : decode cc pc = .ok (.getfield 28, 3)) (hq : pc + 3 = q) (hi : i < 24) (k : G p l e R s m args below meth c nL cells slots Q E w σ q lv (.ref (eB E + oA 3 i) :: st)) : G p l e R s m args below meth c nL cells slots Q E w σ pc lv (.ref (eB E + oArt i) :: st) :=
  G_get (T := TX0) (k := 3) hC d hq (dec_art i hi).2 (cell_Art hi) rfl inW0 (by decide) (wall (by decide +kernel) rfl) rfl rfl k
theorem gf_RX0_32 {i : Nat} (hC : gCx p s m args meth c cc nL RX0 ret E) (d : decode cc pc = .ok (.getfield 32, 3)) (hq : pc + 3 = q) (hi : i < 24) (k : G p l e R s m args below meth c nL cells slots Q E w σ q lv (.int (σ 7 i 0) :: st)) : G p l e R s m args below meth c nL cells slots Q E w σ pc lv (.ref (eB E + oArt i) :: st) :=
  G_get (T := TX0) (k := 7) hC d hq (dec_art i hi).2 (cell_Art hi) rfl inW0 (by decide) (wall (by decide +kernel) rfl) rfl rfl k
theorem gf_RX0_40 {i : Nat} (hC : gCx p s m args meth c cc nL RX0 ret E) (d : decode cc pc = .ok (.getfield 40, 3)) (hq : pc + 3 = q) (hi : i < 24) (k : G p l e R s m args below meth c nL cells slots Q E w σ q lv (.int (σ 6 i 0) :: st)) : G p l e R s m args below meth c nL cells slots Q E w σ pc lv (.ref (eB E + oArt i) :: st) :=
  G_get (T := TX0) (k := 6) hC d hq (dec_art i hi).2 (cell_Art hi) rfl inW0 (by decide) (wall (by decide +kernel) rfl) rfl rfl k
theorem gf_RX0_43 {i : Nat} (hC : gCx p s m args meth c cc nL RX0 ret E) (d : decode cc pc = .ok (.getfield 43, 3)) (hq : pc + 3 = q) (hi : i < 24) (k : G p l e R s m args below meth c nL cells slots Q E w σ q lv (.int (σ 11 i 0) :: st)) : G p l e R s m args below meth c nL cells slots Q E w σ pc lv (.ref (eB E + oArt i) :: st) :=
  G_get (T := TX0) (k := 11) hC d hq (dec_art i hi).2 (cell_Art hi) rfl inW0 (by decide) (wall (by decide +kernel) rfl) rfl rfl k
theorem gf_RX0_51 {i : Nat} (hC : gCx p s m args meth c cc nL RX0 ret E) (d : decode cc pc = .ok (.getfield 51, 3)) (hq : pc + 3 = q) (hi : i < 24) (k : G p l e R s m args below meth c nL cells slots Q E w σ q lv (.int (σ 9 i 0) :: st)) : G p l e R s m args below meth c nL cells slots Q E w σ pc lv (.ref (eB E + oArt i) :: st) :=
  G_get (T := TX0) (k := 9) hC d hq (dec_art i hi).2 (cell_Art hi) rfl inW0 (by decide) (wall (by decide +kernel) rfl) rfl rfl k
theorem gf_RX0_54 {i : Nat} (hC : gCx p s m args meth c cc nL RX0 ret E) (d : decode cc pc = .ok (.getfield 54, 3)) (hq : pc + 3 = q) (hi : i < 24) (k : G p l e R s m args below meth c nL cells slots Q E w σ q lv (.int (σ 10 i 0) :: st)) : G p l e R s m args below meth c nL cells slots Q E w σ pc lv (.ref (eB E + oArt i) :: st) :=
  G_get (T := TX0) (k := 10) hC d hq (dec_art i hi).2 (cell_Art hi) rfl inW0 (by decide) (wall (by decide +kernel) rfl) rfl rfl k
theorem gf_RX0_63 {i : Nat} (hC : gCx p s m args meth c cc nL RX0 ret E) (d : decode cc pc = .ok (.getfield 63, 3)) (hq : pc + 3 = q) (hi : i < 24) (k : G p l e R s m args below meth c nL cells slots Q E w σ q lv (.int (σ 4 i 0) :: st)) : G p l e R s m args below meth c nL cells slots Q E w σ pc lv (.ref (eB E + oArt i) :: st) :=
  G_get (T := TX0) (k := 4) hC d hq (dec_art i hi).2 (cell_Art hi) rfl inW0 (by decide) (wall (by decide +kernel) rfl) rfl rfl k
theorem gf_RX0_66 {i : Nat} (hC : gCx p s m args meth c cc nL RX0 ret E) (d : decode cc pc = .ok (.getfield 66, 3)) (hq : pc + 3 = q) (hi : i < 96) (k : G p l e R s m args below meth c nL cells slots Q E w σ q lv (.ref (eF E ((σ 91 i 0)).toNatClampNeg) :: st)) : G p l e R s m args below meth c nL cells slots Q E w σ pc lv (.ref (eB E + oRef i) :: st) :=
  G_getN (host := RX6) (T := TX4) (k := 1) hC d hq (dec_ref i hi).2 (cell_Ref hi) rfl inW4 (by decide) (by decide +kernel) rfl rfl k
theorem gf_RX1_9 {i : Nat} (hC : gCx p s m args meth c cc nL RX1 ret E) (d : decode cc pc = .ok (.getfield 9, 3)) (hq : pc + 3 = q) (hi : i < 6) (k : G p l e R s m args below meth c nL cells slots Q E w σ q lv (.ref (eB E + oA 30 i) :: st)) : G p l e R s m args below meth c nL cells slots Q E w σ pc lv (.ref (eB E + oCon i) :: st) :=
  G_get (T := TX1) (k := 0) hC d hq (dec_con i hi).2 (cell_Con hi) rfl inW1 (by decide) (wall (by decide +kernel) rfl) rfl rfl k
theorem gf_RX1_19 {i : Nat} (hC : gCx p s m args meth c cc nL RX1 ret E) (d : decode cc pc = .ok (.getfield 19, 3)) (hq : pc + 3 = q) (hi : i < 6) (k : G p l e R s m args below meth c nL cells slots Q E w σ q lv (.int (σ 33 i 0) :: st)) : G p l e R s m args below meth c nL cells slots Q E w σ pc lv (.ref (eB E + oCon i) :: st) :=
  G_get (T := TX1) (k := 3) hC d hq (dec_con i hi).2 (cell_Con hi) rfl inW1 (by decide) (wall (by decide +kernel) rfl) rfl rfl k
theorem gf_RX1_23 {i : Nat} (hC : gCx p s m args meth c cc nL RX1 ret E) (d : decode cc pc = .ok (.getfield 23, 3)) (hq : pc + 3 = q) (hi : i < 6) (k : G p l e R s m args below meth c nL cells slots Q E w σ q lv (.int (σ 32 i 0) :: st)) : G p l e R s m args below meth c nL cells slots Q E w σ pc lv (.ref (eB E + oCon i) :: st) :=
  G_get (T := TX1) (k := 2) hC d hq (dec_con i hi).2 (cell_Con hi) rfl inW1 (by decide) (wall (by decide +kernel) rfl) rfl rfl k
theorem gf_RX3_9 {i : Nat} (hC : gCx p s m args meth c cc nL RX3 ret E) (d : decode cc pc = .ok (.getfield 9, 3)) (hq : pc + 3 = q) (hi : i < 121) (k : G p l e R s m args below meth c nL cells slots Q E w σ q lv (.ref (eB E + oA 60 i) :: st)) : G p l e R s m args below meth c nL cells slots Q E w σ pc lv (.ref (eB E + oHw i) :: st) :=
  G_get (T := TX3) (k := 0) hC d hq (dec_hw i hi).2 (cell_Hw hi) rfl inW3 (by decide) (wall (by decide +kernel) rfl) rfl rfl k
theorem gf_RX3_15 {i : Nat} (hC : gCx p s m args meth c cc nL RX3 ret E) (d : decode cc pc = .ok (.getfield 15, 3)) (hq : pc + 3 = q) (hi : i < 121) (k : G p l e R s m args below meth c nL cells slots Q E w σ q lv (.ref (eB E + oA 61 i) :: st)) : G p l e R s m args below meth c nL cells slots Q E w σ pc lv (.ref (eB E + oHw i) :: st) :=
  G_get (T := TX3) (k := 1) hC d hq (dec_hw i hi).2 (cell_Hw hi) rfl inW3 (by decide) (wall (by decide +kernel) rfl) rfl rfl k
theorem gf_RX3_18 {i : Nat} (hC : gCx p s m args meth c cc nL RX3 ret E) (d : decode cc pc = .ok (.getfield 18, 3)) (hq : pc + 3 = q) (hi : i < 121) (k : G p l e R s m args below meth c nL cells slots Q E w σ q lv (.int (σ 62 i 0) :: st)) : G p l e R s m args below meth c nL cells slots Q E w σ pc lv (.ref (eB E + oHw i) :: st) :=
  G_get (T := TX3) (k := 2) hC d hq (dec_hw i hi).2 (cell_Hw hi) rfl inW3 (by decide) (wall (by decide +kernel) rfl) rfl rfl k
theorem gf_RX3_29 {i : Nat} (hC : gCx p s m args meth c cc nL RX3 ret E) (d : decode cc pc = .ok (.getfield 29, 3)) (hq : pc + 3 = q) (hi : i < 121) (k : G p l e R s m args below meth c nL cells slots Q E w σ q lv (.int (σ 63 i 0) :: st)) : G p l e R s m args below meth c nL cells slots Q E w σ pc lv (.ref (eB E + oHw i) :: st) :=
  G_get (T := TX3) (k := 3) hC d hq (dec_hw i hi).2 (cell_Hw hi) rfl inW3 (by decide) (wall (by decide +kernel) rfl) rfl rfl k
theorem gf_RX7_7 (hC : gCx p s m args meth c cc nL RX7 ret E) (d : decode cc pc = .ok (.getfield 7, 3)) (hq : pc + 3 = q) (k : G p l e R s m args below meth c nL cells slots Q E w σ q lv (.ref (eB E + oA 181 0) :: st)) : G p l e R s m args below meth c nL cells slots Q E w σ pc lv (.ref (eB E + 583) :: st) :=
  G_get (T := TX7) (k := 1) hC d hq (by decide) cell_X rfl inW7 (by decide) (wall (by decide +kernel) rfl) rfl rfl k
theorem gf_RX7_13 (hC : gCx p s m args meth c cc nL RX7 ret E) (d : decode cc pc = .ok (.getfield 13, 3)) (hq : pc + 3 = q) (k : G p l e R s m args below meth c nL cells slots Q E w σ q lv (.ref (eB E + oA 182 0) :: st)) : G p l e R s m args below meth c nL cells slots Q E w σ pc lv (.ref (eB E + 583) :: st) :=
  G_get (T := TX7) (k := 2) hC d hq (by decide) cell_X rfl inW7 (by decide) (wall (by decide +kernel) rfl) rfl rfl k
theorem gf_RX7_16 (hC : gCx p s m args meth c cc nL RX7 ret E) (d : decode cc pc = .ok (.getfield 16, 3)) (hq : pc + 3 = q) (k : G p l e R s m args below meth c nL cells slots Q E w σ q lv (.ref (eB E + oA 184 0) :: st)) : G p l e R s m args below meth c nL cells slots Q E w σ pc lv (.ref (eB E + 583) :: st) :=
  G_get (T := TX7) (k := 4) hC d hq (by decide) cell_X rfl inW7 (by decide) (wall (by decide +kernel) rfl) rfl rfl k
theorem gf_RX7_19 (hC : gCx p s m args meth c cc nL RX7 ret E) (d : decode cc pc = .ok (.getfield 19, 3)) (hq : pc + 3 = q) (k : G p l e R s m args below meth c nL cells slots Q E w σ q lv (.ref (eB E + oA 185 0) :: st)) : G p l e R s m args below meth c nL cells slots Q E w σ pc lv (.ref (eB E + 583) :: st) :=
  G_get (T := TX7) (k := 5) hC d hq (by decide) cell_X rfl inW7 (by decide) (wall (by decide +kernel) rfl) rfl rfl k
theorem gf_RX7_22 (hC : gCx p s m args meth c cc nL RX7 ret E) (d : decode cc pc = .ok (.getfield 22, 3)) (hq : pc + 3 = q) (k : G p l e R s m args below meth c nL cells slots Q E w σ q lv (.ref (eB E + oA 186 0) :: st)) : G p l e R s m args below meth c nL cells slots Q E w σ pc lv (.ref (eB E + 583) :: st) :=
  G_get (T := TX7) (k := 6) hC d hq (by decide) cell_X rfl inW7 (by decide) (wall (by decide +kernel) rfl) rfl rfl k
theorem gf_RX7_25 (hC : gCx p s m args meth c cc nL RX7 ret E) (d : decode cc pc = .ok (.getfield 25, 3)) (hq : pc + 3 = q) (k : G p l e R s m args below meth c nL cells slots Q E w σ q lv (.ref (eB E + oA 187 0) :: st)) : G p l e R s m args below meth c nL cells slots Q E w σ pc lv (.ref (eB E + 583) :: st) :=
  G_get (T := TX7) (k := 7) hC d hq (by decide) cell_X rfl inW7 (by decide) (wall (by decide +kernel) rfl) rfl rfl k
theorem gf_RX7_28 (hC : gCx p s m args meth c cc nL RX7 ret E) (d : decode cc pc = .ok (.getfield 28, 3)) (hq : pc + 3 = q) (k : G p l e R s m args below meth c nL cells slots Q E w σ q lv (.ref (eB E + oA 188 0) :: st)) : G p l e R s m args below meth c nL cells slots Q E w σ pc lv (.ref (eB E + 583) :: st) :=
  G_get (T := TX7) (k := 8) hC d hq (by decide) cell_X rfl inW7 (by decide) (wall (by decide +kernel) rfl) rfl rfl k
theorem gf_RX7_31 (hC : gCx p s m args meth c cc nL RX7 ret E) (d : decode cc pc = .ok (.getfield 31, 3)) (hq : pc + 3 = q) (k : G p l e R s m args below meth c nL cells slots Q E w σ q lv (.ref (eB E + oA 189 0) :: st)) : G p l e R s m args below meth c nL cells slots Q E w σ pc lv (.ref (eB E + 583) :: st) :=
  G_get (T := TX7) (k := 9) hC d hq (by decide) cell_X rfl inW7 (by decide) (wall (by decide +kernel) rfl) rfl rfl k
theorem gf_RX7_34 (hC : gCx p s m args meth c cc nL RX7 ret E) (d : decode cc pc = .ok (.getfield 34, 3)) (hq : pc + 3 = q) (k : G p l e R s m args below meth c nL cells slots Q E w σ q lv (.ref (eB E + oA 190 0) :: st)) : G p l e R s m args below meth c nL cells slots Q E w σ pc lv (.ref (eB E + 583) :: st) :=
  G_get (T := TX7) (k := 10) hC d hq (by decide) cell_X rfl inW7 (by decide) (wall (by decide +kernel) rfl) rfl rfl k
theorem gf_RX7_38 (hC : gCx p s m args meth c cc nL RX7 ret E) (d : decode cc pc = .ok (.getfield 38, 3)) (hq : pc + 3 = q) (k : G p l e R s m args below meth c nL cells slots Q E w σ q lv (.ref (eB E + oA 191 0) :: st)) : G p l e R s m args below meth c nL cells slots Q E w σ pc lv (.ref (eB E + 583) :: st) :=
  G_get (T := TX7) (k := 11) hC d hq (by decide) cell_X rfl inW7 (by decide) (wall (by decide +kernel) rfl) rfl rfl k
theorem gf_RX7_41 (hC : gCx p s m args meth c cc nL RX7 ret E) (d : decode cc pc = .ok (.getfield 41, 3)) (hq : pc + 3 = q) (k : G p l e R s m args below meth c nL cells slots Q E w σ q lv (.ref (eB E + oA 192 0) :: st)) : G p l e R s m args below meth c nL cells slots Q E w σ pc lv (.ref (eB E + 583) :: st) :=
  G_get (T := TX7) (k := 12) hC d hq (by decide) cell_X rfl inW7 (by decide) (wall (by decide +kernel) rfl) rfl rfl k
theorem gf_RX7_44 (hC : gCx p s m args meth c cc nL RX7 ret E) (d : decode cc pc = .ok (.getfield 44, 3)) (hq : pc + 3 = q) (k : G p l e R s m args below meth c nL cells slots Q E w σ q lv (.ref (eB E + oA 193 0) :: st)) : G p l e R s m args below meth c nL cells slots Q E w σ pc lv (.ref (eB E + 583) :: st) :=
  G_get (T := TX7) (k := 13) hC d hq (by decide) cell_X rfl inW7 (by decide) (wall (by decide +kernel) rfl) rfl rfl k
theorem gf_RX7_47 (hC : gCx p s m args meth c cc nL RX7 ret E) (d : decode cc pc = .ok (.getfield 47, 3)) (hq : pc + 3 = q) (k : G p l e R s m args below meth c nL cells slots Q E w σ q lv (.ref (eB E + oA 194 0) :: st)) : G p l e R s m args below meth c nL cells slots Q E w σ pc lv (.ref (eB E + 583) :: st) :=
  G_get (T := TX7) (k := 14) hC d hq (by decide) cell_X rfl inW7 (by decide) (wall (by decide +kernel) rfl) rfl rfl k
theorem gf_RX7_50 (hC : gCx p s m args meth c cc nL RX7 ret E) (d : decode cc pc = .ok (.getfield 50, 3)) (hq : pc + 3 = q) (k : G p l e R s m args below meth c nL cells slots Q E w σ q lv (.ref (eB E + oA 195 0) :: st)) : G p l e R s m args below meth c nL cells slots Q E w σ pc lv (.ref (eB E + 583) :: st) :=
  G_get (T := TX7) (k := 15) hC d hq (by decide) cell_X rfl inW7 (by decide) (wall (by decide +kernel) rfl) rfl rfl k
theorem gf_RX7_53 (hC : gCx p s m args meth c cc nL RX7 ret E) (d : decode cc pc = .ok (.getfield 53, 3)) (hq : pc + 3 = q) (k : G p l e R s m args below meth c nL cells slots Q E w σ q lv (.ref (eB E + oA 196 0) :: st)) : G p l e R s m args below meth c nL cells slots Q E w σ pc lv (.ref (eB E + 583) :: st) :=
  G_get (T := TX7) (k := 16) hC d hq (by decide) cell_X rfl inW7 (by decide) (wall (by decide +kernel) rfl) rfl rfl k
theorem gf_RX7_56 (hC : gCx p s m args meth c cc nL RX7 ret E) (d : decode cc pc = .ok (.getfield 56, 3)) (hq : pc + 3 = q) (k : G p l e R s m args below meth c nL cells slots Q E w σ q lv (.ref (eB E + oA 198 0) :: st)) : G p l e R s m args below meth c nL cells slots Q E w σ pc lv (.ref (eB E + 583) :: st) :=
  G_get (T := TX7) (k := 18) hC d hq (by decide) cell_X rfl inW7 (by decide) (wall (by decide +kernel) rfl) rfl rfl k
theorem gf_RX7_59 (hC : gCx p s m args meth c cc nL RX7 ret E) (d : decode cc pc = .ok (.getfield 59, 3)) (hq : pc + 3 = q) (k : G p l e R s m args below meth c nL cells slots Q E w σ q lv (.ref (eB E + oA 199 0) :: st)) : G p l e R s m args below meth c nL cells slots Q E w σ pc lv (.ref (eB E + 583) :: st) :=
  G_get (T := TX7) (k := 19) hC d hq (by decide) cell_X rfl inW7 (by decide) (wall (by decide +kernel) rfl) rfl rfl k
theorem gf_RX7_62 (hC : gCx p s m args meth c cc nL RX7 ret E) (d : decode cc pc = .ok (.getfield 62, 3)) (hq : pc + 3 = q) (k : G p l e R s m args below meth c nL cells slots Q E w σ q lv (.ref (eB E + oA 202 0) :: st)) : G p l e R s m args below meth c nL cells slots Q E w σ pc lv (.ref (eB E + 583) :: st) :=
  G_get (T := TX7) (k := 22) hC d hq (by decide) cell_X rfl inW7 (by decide) (wall (by decide +kernel) rfl) rfl rfl k
theorem gf_RX7_65 (hC : gCx p s m args meth c cc nL RX7 ret E) (d : decode cc pc = .ok (.getfield 65, 3)) (hq : pc + 3 = q) (k : G p l e R s m args below meth c nL cells slots Q E w σ q lv (.ref (eB E + oA 203 0) :: st)) : G p l e R s m args below meth c nL cells slots Q E w σ pc lv (.ref (eB E + 583) :: st) :=
  G_get (T := TX7) (k := 23) hC d hq (by decide) cell_X rfl inW7 (by decide) (wall (by decide +kernel) rfl) rfl rfl k
theorem gf_RX7_68 (hC : gCx p s m args meth c cc nL RX7 ret E) (d : decode cc pc = .ok (.getfield 68, 3)) (hq : pc + 3 = q) (k : G p l e R s m args below meth c nL cells slots Q E w σ q lv (.ref (eB E + oA 204 0) :: st)) : G p l e R s m args below meth c nL cells slots Q E w σ pc lv (.ref (eB E + 583) :: st) :=
  G_get (T := TX7) (k := 24) hC d hq (by decide) cell_X rfl inW7 (by decide) (wall (by decide +kernel) rfl) rfl rfl k
theorem gf_RX7_71 (hC : gCx p s m args meth c cc nL RX7 ret E) (d : decode cc pc = .ok (.getfield 71, 3)) (hq : pc + 3 = q) (k : G p l e R s m args below meth c nL cells slots Q E w σ q lv (.ref (eB E + oA 205 0) :: st)) : G p l e R s m args below meth c nL cells slots Q E w σ pc lv (.ref (eB E + 583) :: st) :=
  G_get (T := TX7) (k := 25) hC d hq (by decide) cell_X rfl inW7 (by decide) (wall (by decide +kernel) rfl) rfl rfl k
theorem gf_RX7_74 (hC : gCx p s m args meth c cc nL RX7 ret E) (d : decode cc pc = .ok (.getfield 74, 3)) (hq : pc + 3 = q) (k : G p l e R s m args below meth c nL cells slots Q E w σ q lv (.int (σ 209 0 0) :: st)) : G p l e R s m args below meth c nL cells slots Q E w σ pc lv (.ref (eB E + 583) :: st) :=
  G_get (T := TX7) (k := 29) hC d hq (by decide) cell_X rfl inW7 (by decide) (wall (by decide +kernel) rfl) rfl rfl k
theorem gf_RX7_78 (hC : gCx p s m args meth c cc nL RX7 ret E) (d : decode cc pc = .ok (.getfield 78, 3)) (hq : pc + 3 = q) (k : G p l e R s m args below meth c nL cells slots Q E w σ q lv (.int (σ 183 0 0) :: st)) : G p l e R s m args below meth c nL cells slots Q E w σ pc lv (.ref (eB E + 583) :: st) :=
  G_get (T := TX7) (k := 3) hC d hq (by decide) cell_X rfl inW7 (by decide) (wall (by decide +kernel) rfl) rfl rfl k
theorem gf_RX7_85 (hC : gCx p s m args meth c cc nL RX7 ret E) (d : decode cc pc = .ok (.getfield 85, 3)) (hq : pc + 3 = q) (k : G p l e R s m args below meth c nL cells slots Q E w σ q lv (.int (σ 201 0 0) :: st)) : G p l e R s m args below meth c nL cells slots Q E w σ pc lv (.ref (eB E + 583) :: st) :=
  G_get (T := TX7) (k := 21) hC d hq (by decide) cell_X rfl inW7 (by decide) (wall (by decide +kernel) rfl) rfl rfl k
theorem gf_RX7_88 (hC : gCx p s m args meth c cc nL RX7 ret E) (d : decode cc pc = .ok (.getfield 88, 3)) (hq : pc + 3 = q) (k : G p l e R s m args below meth c nL cells slots Q E w σ q lv (.int (σ 180 0 0) :: st)) : G p l e R s m args below meth c nL cells slots Q E w σ pc lv (.ref (eB E + 583) :: st) :=
  G_get (T := TX7) (k := 0) hC d hq (by decide) cell_X rfl inW7 (by decide) (wall (by decide +kernel) rfl) rfl rfl k
theorem gf_RX7_96 (hC : gCx p s m args meth c cc nL RX7 ret E) (d : decode cc pc = .ok (.getfield 96, 3)) (hq : pc + 3 = q) (k : G p l e R s m args below meth c nL cells slots Q E w σ q lv (.int (σ 197 0 0) :: st)) : G p l e R s m args below meth c nL cells slots Q E w σ pc lv (.ref (eB E + 583) :: st) :=
  G_get (T := TX7) (k := 17) hC d hq (by decide) cell_X rfl inW7 (by decide) (wall (by decide +kernel) rfl) rfl rfl k
theorem gf_RX7_107 (hC : gCx p s m args meth c cc nL RX7 ret E) (d : decode cc pc = .ok (.getfield 107, 3)) (hq : pc + 3 = q) (k : G p l e R s m args below meth c nL cells slots Q E w σ q lv (.int (σ 200 0 0) :: st)) : G p l e R s m args below meth c nL cells slots Q E w σ pc lv (.ref (eB E + 583) :: st) :=
  G_get (T := TX7) (k := 20) hC d hq (by decide) cell_X rfl inW7 (by decide) (wall (by decide +kernel) rfl) rfl rfl k
theorem gf_RX7_148 (hC : gCx p s m args meth c cc nL RX7 ret E) (d : decode cc pc = .ok (.getfield 148, 3)) (hq : pc + 3 = q) (k : G p l e R s m args below meth c nL cells slots Q E w σ q lv (.int (σ 207 0 0) :: st)) : G p l e R s m args below meth c nL cells slots Q E w σ pc lv (.ref (eB E + 583) :: st) :=
  G_get (T := TX7) (k := 27) hC d hq (by decide) cell_X rfl inW7 (by decide) (wall (by decide +kernel) rfl) rfl rfl k
theorem gf_RX7_157 (hC : gCx p s m args meth c cc nL RX7 ret E) (d : decode cc pc = .ok (.getfield 157, 3)) (hq : pc + 3 = q) (k : G p l e R s m args below meth c nL cells slots Q E w σ q lv (.int (σ 206 0 0) :: st)) : G p l e R s m args below meth c nL cells slots Q E w σ pc lv (.ref (eB E + 583) :: st) :=
  G_get (T := TX7) (k := 26) hC d hq (by decide) cell_X rfl inW7 (by decide) (wall (by decide +kernel) rfl) rfl rfl k
theorem gf_RX7_173 (hC : gCx p s m args meth c cc nL RX7 ret E) (d : decode cc pc = .ok (.getfield 173, 3)) (hq : pc + 3 = q) (k : G p l e R s m args below meth c nL cells slots Q E w σ q lv (.int (σ 208 0 0) :: st)) : G p l e R s m args below meth c nL cells slots Q E w σ pc lv (.ref (eB E + 583) :: st) :=
  G_get (T := TX7) (k := 28) hC d hq (by decide) cell_X rfl inW7 (by decide) (wall (by decide +kernel) rfl) rfl rfl k
theorem pf_RX6_74 {x : Int32} (hC : gCx p s m args meth c cc nL RX6 ret E) (d : decode cc pc = .ok (.putfield 74, 3)) (hq : pc + 3 = q) (k : G p l e R s m args below meth c nL cells slots Q E w (gU σ 158 0 0 x) q lv st) : G p l e R s m args below meth c nL cells slots Q E w σ pc lv (.int x :: .ref (eB E + 0) :: st) :=
  G_put (T := TX6) (k := 8) (F := 158) (i := 0) (ty := .int) hC d hq (by decide) cell_M rfl inW6 (by decide) (wall (by decide +kernel) rfl) rfl rfl (by rw [cell_M]; simp [gU]) tyX6 tyX6_ok nmX6 rfl (by decide +kernel) rfl rfl (Nat.le_of_ble_eq_true rfl) k
theorem pf_RX6_79 {x : Int32} (hC : gCx p s m args meth c cc nL RX6 ret E) (d : decode cc pc = .ok (.putfield 79, 3)) (hq : pc + 3 = q) (hb : b01 x = true) (k : G p l e R s m args below meth c nL cells slots Q E w (gU σ 161 0 0 x) q lv st) : G p l e R s m args below meth c nL cells slots Q E w σ pc lv (.int x :: .ref (eB E + 0) :: st) :=
  G_put (T := TX6) (k := 11) (F := 161) (i := 0) (ty := .boolean) hC d hq (by decide) cell_M rfl inW6 (by decide) (wall (by decide +kernel) rfl) rfl rfl (by rw [cell_M]; simp [gU]) tyX6 tyX6_ok nmX6 rfl (by decide +kernel) (b01_narrow hb) (b01_fits hb) (Nat.le_of_ble_eq_true rfl) k
theorem pf_RX6_89 {x : Int32} (hC : gCx p s m args meth c cc nL RX6 ret E) (d : decode cc pc = .ok (.putfield 89, 3)) (hq : pc + 3 = q) (k : G p l e R s m args below meth c nL cells slots Q E w (gU σ 156 0 0 x) q lv st) : G p l e R s m args below meth c nL cells slots Q E w σ pc lv (.int x :: .ref (eB E + 0) :: st) :=
  G_put (T := TX6) (k := 6) (F := 156) (i := 0) (ty := .int) hC d hq (by decide) cell_M rfl inW6 (by decide) (wall (by decide +kernel) rfl) rfl rfl (by rw [cell_M]; simp [gU]) tyX6 tyX6_ok nmX6 rfl (by decide +kernel) rfl rfl (Nat.le_of_ble_eq_true rfl) k
theorem pf_RX6_98 {i : Nat} {x : Int32} (hC : gCx p s m args meth c cc nL RX6 ret E) (d : decode cc pc = .ok (.putfield 98, 3)) (hq : pc + 3 = q) (hi : i < 24) (k : G p l e R s m args below meth c nL cells slots Q E w (gU σ 5 i 0 x) q lv st) : G p l e R s m args below meth c nL cells slots Q E w σ pc lv (.int x :: .ref (eB E + oArt i) :: st) :=
  G_putN (host := RX6) (T := TX0) (k := 5) (F := 5) (i := i) (ty := .int) hC d hq (dec_art i hi).2 (cell_Art hi) rfl inW0 (by decide) (by decide +kernel) rfl rfl (by rw [cell_Art hi]; simp [gU]) tyX0 tyX0_ok nmX0 rfl (by decide +kernel) rfl rfl (Nat.le_of_ble_eq_true rfl) k
theorem pf_RX6_101 {i : Nat} {x : Int32} (hC : gCx p s m args meth c cc nL RX6 ret E) (d : decode cc pc = .ok (.putfield 101, 3)) (hq : pc + 3 = q) (hi : i < 24) (k : G p l e R s m args below meth c nL cells slots Q E w (gU σ 6 i 0 x) q lv st) : G p l e R s m args below meth c nL cells slots Q E w σ pc lv (.int x :: .ref (eB E + oArt i) :: st) :=
  G_putN (host := RX6) (T := TX0) (k := 6) (F := 6) (i := i) (ty := .int) hC d hq (dec_art i hi).2 (cell_Art hi) rfl inW0 (by decide) (by decide +kernel) rfl rfl (by rw [cell_Art hi]; simp [gU]) tyX0 tyX0_ok nmX0 rfl (by decide +kernel) rfl rfl (Nat.le_of_ble_eq_true rfl) k
theorem pf_RX6_119 {i : Nat} {x : Int32} (hC : gCx p s m args meth c cc nL RX6 ret E) (d : decode cc pc = .ok (.putfield 119, 3)) (hq : pc + 3 = q) (hi : i < 24) (k : G p l e R s m args below meth c nL cells slots Q E w (gU σ 4 i 0 x) q lv st) : G p l e R s m args below meth c nL cells slots Q E w σ pc lv (.int x :: .ref (eB E + oArt i) :: st) :=
  G_putN (host := RX6) (T := TX0) (k := 4) (F := 4) (i := i) (ty := .int) hC d hq (dec_art i hi).2 (cell_Art hi) rfl inW0 (by decide) (by decide +kernel) rfl rfl (by rw [cell_Art hi]; simp [gU]) tyX0 tyX0_ok nmX0 rfl (by decide +kernel) rfl rfl (Nat.le_of_ble_eq_true rfl) k
theorem pf_RX6_145 {i : Nat} {x : Int32} (hC : gCx p s m args meth c cc nL RX6 ret E) (d : decode cc pc = .ok (.putfield 145, 3)) (hq : pc + 3 = q) (hi : i < 24) (hb : b01 x = true) (k : G p l e R s m args below meth c nL cells slots Q E w (gU σ 10 i 0 x) q lv st) : G p l e R s m args below meth c nL cells slots Q E w σ pc lv (.int x :: .ref (eB E + oArt i) :: st) :=
  G_putN (host := RX6) (T := TX0) (k := 10) (F := 10) (i := i) (ty := .boolean) hC d hq (dec_art i hi).2 (cell_Art hi) rfl inW0 (by decide) (by decide +kernel) rfl rfl (by rw [cell_Art hi]; simp [gU]) tyX0 tyX0_ok nmX0 rfl (by decide +kernel) (b01_narrow hb) (b01_fits hb) (Nat.le_of_ble_eq_true rfl) k
theorem pf_RX6_150 {x : Int32} (hC : gCx p s m args meth c cc nL RX6 ret E) (d : decode cc pc = .ok (.putfield 150, 3)) (hq : pc + 3 = q) (k : G p l e R s m args below meth c nL cells slots Q E w (gU σ 157 0 0 x) q lv st) : G p l e R s m args below meth c nL cells slots Q E w σ pc lv (.int x :: .ref (eB E + 0) :: st) :=
  G_put (T := TX6) (k := 7) (F := 157) (i := 0) (ty := .int) hC d hq (by decide) cell_M rfl inW6 (by decide) (wall (by decide +kernel) rfl) rfl rfl (by rw [cell_M]; simp [gU]) tyX6 tyX6_ok nmX6 rfl (by decide +kernel) rfl rfl (Nat.le_of_ble_eq_true rfl) k
theorem pf_RX6_153 {i : Nat} {x : Int32} (hC : gCx p s m args meth c cc nL RX6 ret E) (d : decode cc pc = .ok (.putfield 153, 3)) (hq : pc + 3 = q) (hi : i < 4) (hb : isC x = true) (k : G p l e R s m args below meth c nL cells slots Q E w (gU σ 120 i 0 x) q lv st) : G p l e R s m args below meth c nL cells slots Q E w σ pc lv (.int x :: .ref (eB E + oVol i) :: st) :=
  G_putN (host := RX6) (T := TX5) (k := 0) (F := 120) (i := i) (ty := .char) hC d hq (dec_vol i hi).2 (cell_Vol hi) rfl inW5 (by decide) (by decide +kernel) rfl rfl (by rw [cell_Vol hi]; simp [gU]) tyX5 tyX5_ok nmX5 rfl (by decide +kernel) (isC_narrow hb) (isC_fits hb) (Nat.le_of_ble_eq_true rfl) k
theorem pf_RX6_161 {i : Nat} {x : Int32} (hC : gCx p s m args meth c cc nL RX6 ret E) (d : decode cc pc = .ok (.putfield 161, 3)) (hq : pc + 3 = q) (hi : i < 4) (k : G p l e R s m args below meth c nL cells slots Q E w (gU σ 121 i 0 x) q lv st) : G p l e R s m args below meth c nL cells slots Q E w σ pc lv (.int x :: .ref (eB E + oVol i) :: st) :=
  G_putN (host := RX6) (T := TX5) (k := 1) (F := 121) (i := i) (ty := .int) hC d hq (dec_vol i hi).2 (cell_Vol hi) rfl inW5 (by decide) (by decide +kernel) rfl rfl (by rw [cell_Vol hi]; simp [gU]) tyX5 tyX5_ok nmX5 rfl (by decide +kernel) rfl rfl (Nat.le_of_ble_eq_true rfl) k
theorem pf_RX6_166 {x : Int32} (hC : gCx p s m args meth c cc nL RX6 ret E) (d : decode cc pc = .ok (.putfield 166, 3)) (hq : pc + 3 = q) (k : G p l e R s m args below meth c nL cells slots Q E w (gU σ 159 0 0 x) q lv st) : G p l e R s m args below meth c nL cells slots Q E w σ pc lv (.int x :: .ref (eB E + 0) :: st) :=
  G_put (T := TX6) (k := 9) (F := 159) (i := 0) (ty := .int) hC d hq (by decide) cell_M rfl inW6 (by decide) (wall (by decide +kernel) rfl) rfl rfl (by rw [cell_M]; simp [gU]) tyX6 tyX6_ok nmX6 rfl (by decide +kernel) rfl rfl (Nat.le_of_ble_eq_true rfl) k
theorem pf_RX6_171 {i : Nat} {x : Int32} (hC : gCx p s m args meth c cc nL RX6 ret E) (d : decode cc pc = .ok (.putfield 171, 3)) (hq : pc + 3 = q) (hi : i < 6) (k : G p l e R s m args below meth c nL cells slots Q E w (gU σ 33 i 0 x) q lv st) : G p l e R s m args below meth c nL cells slots Q E w σ pc lv (.int x :: .ref (eB E + oCon i) :: st) :=
  G_putN (host := RX6) (T := TX1) (k := 3) (F := 33) (i := i) (ty := .int) hC d hq (dec_con i hi).2 (cell_Con hi) rfl inW1 (by decide) (by decide +kernel) rfl rfl (by rw [cell_Con hi]; simp [gU]) tyX1 tyX1_ok nmX1 rfl (by decide +kernel) rfl rfl (Nat.le_of_ble_eq_true rfl) k
theorem pf_RX6_186 {i : Nat} {x : Int32} (hC : gCx p s m args meth c cc nL RX6 ret E) (d : decode cc pc = .ok (.putfield 186, 3)) (hq : pc + 3 = q) (hi : i < 6) (hb : b01 x = true) (k : G p l e R s m args below meth c nL cells slots Q E w (gU σ 35 i 0 x) q lv st) : G p l e R s m args below meth c nL cells slots Q E w σ pc lv (.int x :: .ref (eB E + oCon i) :: st) :=
  G_putN (host := RX6) (T := TX1) (k := 5) (F := 35) (i := i) (ty := .boolean) hC d hq (dec_con i hi).2 (cell_Con hi) rfl inW1 (by decide) (by decide +kernel) rfl rfl (by rw [cell_Con hi]; simp [gU]) tyX1 tyX1_ok nmX1 rfl (by decide +kernel) (b01_narrow hb) (b01_fits hb) (Nat.le_of_ble_eq_true rfl) k
theorem pf_RX6_195 {i : Nat} {x : Int32} (hC : gCx p s m args meth c cc nL RX6 ret E) (d : decode cc pc = .ok (.putfield 195, 3)) (hq : pc + 3 = q) (hi : i < 24) (k : G p l e R s m args below meth c nL cells slots Q E w (gU σ 7 i 0 x) q lv st) : G p l e R s m args below meth c nL cells slots Q E w σ pc lv (.int x :: .ref (eB E + oArt i) :: st) :=
  G_putN (host := RX6) (T := TX0) (k := 7) (F := 7) (i := i) (ty := .int) hC d hq (dec_art i hi).2 (cell_Art hi) rfl inW0 (by decide) (by decide +kernel) rfl rfl (by rw [cell_Art hi]; simp [gU]) tyX0 tyX0_ok nmX0 rfl (by decide +kernel) rfl rfl (Nat.le_of_ble_eq_true rfl) k
theorem pf_RX6_201 {i : Nat} {x : Int32} (hC : gCx p s m args meth c cc nL RX6 ret E) (d : decode cc pc = .ok (.putfield 201, 3)) (hq : pc + 3 = q) (hi : i < 6) (k : G p l e R s m args below meth c nL cells slots Q E w (gU σ 32 i 0 x) q lv st) : G p l e R s m args below meth c nL cells slots Q E w σ pc lv (.int x :: .ref (eB E + oCon i) :: st) :=
  G_putN (host := RX6) (T := TX1) (k := 2) (F := 32) (i := i) (ty := .int) hC d hq (dec_con i hi).2 (cell_Con hi) rfl inW1 (by decide) (by decide +kernel) rfl rfl (by rw [cell_Con hi]; simp [gU]) tyX1 tyX1_ok nmX1 rfl (by decide +kernel) rfl rfl (Nat.le_of_ble_eq_true rfl) k
theorem pf_RX6_213 {i : Nat} {x : Int32} (hC : gCx p s m args meth c cc nL RX6 ret E) (d : decode cc pc = .ok (.putfield 213, 3)) (hq : pc + 3 = q) (hi : i < 24) (k : G p l e R s m args below meth c nL cells slots Q E w (gU σ 8 i 0 x) q lv st) : G p l e R s m args below meth c nL cells slots Q E w σ pc lv (.int x :: .ref (eB E + oArt i) :: st) :=
  G_putN (host := RX6) (T := TX0) (k := 8) (F := 8) (i := i) (ty := .int) hC d hq (dec_art i hi).2 (cell_Art hi) rfl inW0 (by decide) (by decide +kernel) rfl rfl (by rw [cell_Art hi]; simp [gU]) tyX0 tyX0_ok nmX0 rfl (by decide +kernel) rfl rfl (Nat.le_of_ble_eq_true rfl) k
theorem pf_RX6_218 {x : Int32} (hC : gCx p s m args meth c cc nL RX6 ret E) (d : decode cc pc = .ok (.putfield 218, 3)) (hq : pc + 3 = q) (k : G p l e R s m args below meth c nL cells slots Q E w (gU σ 160 0 0 x) q lv st) : G p l e R s m args below meth c nL cells slots Q E w σ pc lv (.int x :: .ref (eB E + 0) :: st) :=
  G_put (T := TX6) (k := 10) (F := 160) (i := 0) (ty := .int) hC d hq (by decide) cell_M rfl inW6 (by decide) (wall (by decide +kernel) rfl) rfl rfl (by rw [cell_M]; simp [gU]) tyX6 tyX6_ok nmX6 rfl (by decide +kernel) rfl rfl (Nat.le_of_ble_eq_true rfl) k
theorem pf_RX6_276 {i : Nat} {x : Int32} (hC : gCx p s m args meth c cc nL RX6 ret E) (d : decode cc pc = .ok (.putfield 276, 3)) (hq : pc + 3 = q) (hi : i < 6) (k : G p l e R s m args below meth c nL cells slots Q E w (gU σ 34 i 0 x) q lv st) : G p l e R s m args below meth c nL cells slots Q E w σ pc lv (.int x :: .ref (eB E + oCon i) :: st) :=
  G_putN (host := RX6) (T := TX1) (k := 4) (F := 34) (i := i) (ty := .int) hC d hq (dec_con i hi).2 (cell_Con hi) rfl inW1 (by decide) (by decide +kernel) rfl rfl (by rw [cell_Con hi]; simp [gU]) tyX1 tyX1_ok nmX1 rfl (by decide +kernel) rfl rfl (Nat.le_of_ble_eq_true rfl) k
theorem pf_RX6_341 {i : Nat} {x : Int32} (hC : gCx p s m args meth c cc nL RX6 ret E) (d : decode cc pc = .ok (.putfield 341, 3)) (hq : pc + 3 = q) (hi : i < 24) (hb : b01 x = true) (k : G p l e R s m args below meth c nL cells slots Q E w (gU σ 9 i 0 x) q lv st) : G p l e R s m args below meth c nL cells slots Q E w σ pc lv (.int x :: .ref (eB E + oArt i) :: st) :=
  G_putN (host := RX6) (T := TX0) (k := 9) (F := 9) (i := i) (ty := .boolean) hC d hq (dec_art i hi).2 (cell_Art hi) rfl inW0 (by decide) (by decide +kernel) rfl rfl (by rw [cell_Art hi]; simp [gU]) tyX0 tyX0_ok nmX0 rfl (by decide +kernel) (b01_narrow hb) (b01_fits hb) (Nat.le_of_ble_eq_true rfl) k
theorem pf_RX6_354 {i : Nat} {x : Int32} (hC : gCx p s m args meth c cc nL RX6 ret E) (d : decode cc pc = .ok (.putfield 354, 3)) (hq : pc + 3 = q) (hi : i < 96) (kk : G p l e R s m args below meth c nL cells slots Q E w (gU σ 91 i 0 x) q lv st) : G p l e R s m args below meth c nL cells slots Q E w σ pc lv (.ref (eF E x.toNatClampNeg) :: .ref (eB E + oRef i) :: st) := by
  subst hq
  intro H locs ls hP hS hl
  refine va_putN (host := RX6) (C := RX4) (T := TX4) (N := 2) (ty := .object "CircleOfLeaves$Fate") hC.1 hC.2.1 hC.2.2.2.2.1 inW4 tyX4 tyX4_ok nmX4 hC.2.2.2.1 hC.2.2.2.2.2.1.1 hP gD hS (oRef i) (by rw [gW_at (dec_ref i hi).2, cell_Ref hi]) rfl 1 (by decide) (va_Nw.use rfl (hC.2.2.2.2.2.1.2.1 _ (by decide +kernel))) (fun _ h => h) rfl (by decide +kernel) rfl rfl (Nat.le_of_ble_eq_true rfl) d (fun H1 locs1 hP1 _ hS1 => ?_)
  rw [gW_set (σ' := gU σ 91 i 0 x) (by rw [cell_Ref hi]; simp [gU]) (fun o' h1 h2 => by rw [gU_R]; exact gC_ne h1 (by exact h2))] at hP1
  exact kk H1 locs1 ls hP1 hS1 hl
theorem pf_RX0_43 {i : Nat} {x : Int32} (hC : gCx p s m args meth c cc nL RX0 ret E) (d : decode cc pc = .ok (.putfield 43, 3)) (hq : pc + 3 = q) (hi : i < 24) (hb : b01 x = true) (k : G p l e R s m args below meth c nL cells slots Q E w (gU σ 11 i 0 x) q lv st) : G p l e R s m args below meth c nL cells slots Q E w σ pc lv (.int x :: .ref (eB E + oArt i) :: st) :=
  G_put (T := TX0) (k := 11) (F := 11) (i := i) (ty := .boolean) hC d hq (dec_art i hi).2 (cell_Art hi) rfl inW0 (by decide) (wall (by decide +kernel) rfl) rfl rfl (by rw [cell_Art hi]; simp [gU]) tyX0 tyX0_ok nmX0 rfl (by decide +kernel) (b01_narrow hb) (b01_fits hb) (Nat.le_of_ble_eq_true rfl) k
theorem pf_RX1_23 {i : Nat} {x : Int32} (hC : gCx p s m args meth c cc nL RX1 ret E) (d : decode cc pc = .ok (.putfield 23, 3)) (hq : pc + 3 = q) (hi : i < 6) (k : G p l e R s m args below meth c nL cells slots Q E w (gU σ 32 i 0 x) q lv st) : G p l e R s m args below meth c nL cells slots Q E w σ pc lv (.int x :: .ref (eB E + oCon i) :: st) :=
  G_put (T := TX1) (k := 2) (F := 32) (i := i) (ty := .int) hC d hq (dec_con i hi).2 (cell_Con hi) rfl inW1 (by decide) (wall (by decide +kernel) rfl) rfl rfl (by rw [cell_Con hi]; simp [gU]) tyX1 tyX1_ok nmX1 rfl (by decide +kernel) rfl rfl (Nat.le_of_ble_eq_true rfl) k
theorem pf_RX3_18 {i : Nat} {x : Int32} (hC : gCx p s m args meth c cc nL RX3 ret E) (d : decode cc pc = .ok (.putfield 18, 3)) (hq : pc + 3 = q) (hi : i < 121) (k : G p l e R s m args below meth c nL cells slots Q E w (gU σ 62 i 0 x) q lv st) : G p l e R s m args below meth c nL cells slots Q E w σ pc lv (.int x :: .ref (eB E + oHw i) :: st) :=
  G_put (T := TX3) (k := 2) (F := 62) (i := i) (ty := .int) hC d hq (dec_hw i hi).2 (cell_Hw hi) rfl inW3 (by decide) (wall (by decide +kernel) rfl) rfl rfl (by rw [cell_Hw hi]; simp [gU]) tyX3 tyX3_ok nmX3 rfl (by decide +kernel) rfl rfl (Nat.le_of_ble_eq_true rfl) k
theorem pf_RX3_29 {i : Nat} {x : Int32} (hC : gCx p s m args meth c cc nL RX3 ret E) (d : decode cc pc = .ok (.putfield 29, 3)) (hq : pc + 3 = q) (hi : i < 121) (k : G p l e R s m args below meth c nL cells slots Q E w (gU σ 63 i 0 x) q lv st) : G p l e R s m args below meth c nL cells slots Q E w σ pc lv (.int x :: .ref (eB E + oHw i) :: st) :=
  G_put (T := TX3) (k := 3) (F := 63) (i := i) (ty := .int) hC d hq (dec_hw i hi).2 (cell_Hw hi) rfl inW3 (by decide) (wall (by decide +kernel) rfl) rfl rfl (by rw [cell_Hw hi]; simp [gU]) tyX3 tyX3_ok nmX3 rfl (by decide +kernel) rfl rfl (Nat.le_of_ble_eq_true rfl) k
theorem pf_RX7_74 {x : Int32} (hC : gCx p s m args meth c cc nL RX7 ret E) (d : decode cc pc = .ok (.putfield 74, 3)) (hq : pc + 3 = q) (k : G p l e R s m args below meth c nL cells slots Q E w (gU σ 209 0 0 x) q lv st) : G p l e R s m args below meth c nL cells slots Q E w σ pc lv (.int x :: .ref (eB E + 583) :: st) :=
  G_put (T := TX7) (k := 29) (F := 209) (i := 0) (ty := .int) hC d hq (by decide) cell_X rfl inW7 (by decide) (wall (by decide +kernel) rfl) rfl rfl (by rw [cell_X]; simp [gU]) tyX7 tyX7_ok nmX7 rfl (by decide +kernel) rfl rfl (Nat.le_of_ble_eq_true rfl) k
theorem pf_RX7_78 {x : Int32} (hC : gCx p s m args meth c cc nL RX7 ret E) (d : decode cc pc = .ok (.putfield 78, 3)) (hq : pc + 3 = q) (k : G p l e R s m args below meth c nL cells slots Q E w (gU σ 183 0 0 x) q lv st) : G p l e R s m args below meth c nL cells slots Q E w σ pc lv (.int x :: .ref (eB E + 583) :: st) :=
  G_put (T := TX7) (k := 3) (F := 183) (i := 0) (ty := .int) hC d hq (by decide) cell_X rfl inW7 (by decide) (wall (by decide +kernel) rfl) rfl rfl (by rw [cell_X]; simp [gU]) tyX7 tyX7_ok nmX7 rfl (by decide +kernel) rfl rfl (Nat.le_of_ble_eq_true rfl) k
theorem pf_RX7_85 {x : Int32} (hC : gCx p s m args meth c cc nL RX7 ret E) (d : decode cc pc = .ok (.putfield 85, 3)) (hq : pc + 3 = q) (k : G p l e R s m args below meth c nL cells slots Q E w (gU σ 201 0 0 x) q lv st) : G p l e R s m args below meth c nL cells slots Q E w σ pc lv (.int x :: .ref (eB E + 583) :: st) :=
  G_put (T := TX7) (k := 21) (F := 201) (i := 0) (ty := .int) hC d hq (by decide) cell_X rfl inW7 (by decide) (wall (by decide +kernel) rfl) rfl rfl (by rw [cell_X]; simp [gU]) tyX7 tyX7_ok nmX7 rfl (by decide +kernel) rfl rfl (Nat.le_of_ble_eq_true rfl) k
theorem pf_RX7_88 {x : Int32} (hC : gCx p s m args meth c cc nL RX7 ret E) (d : decode cc pc = .ok (.putfield 88, 3)) (hq : pc + 3 = q) (hb : b01 x = true) (k : G p l e R s m args below meth c nL cells slots Q E w (gU σ 180 0 0 x) q lv st) : G p l e R s m args below meth c nL cells slots Q E w σ pc lv (.int x :: .ref (eB E + 583) :: st) :=
  G_put (T := TX7) (k := 0) (F := 180) (i := 0) (ty := .boolean) hC d hq (by decide) cell_X rfl inW7 (by decide) (wall (by decide +kernel) rfl) rfl rfl (by rw [cell_X]; simp [gU]) tyX7 tyX7_ok nmX7 rfl (by decide +kernel) (b01_narrow hb) (b01_fits hb) (Nat.le_of_ble_eq_true rfl) k
theorem pf_RX7_96 {x : Int32} (hC : gCx p s m args meth c cc nL RX7 ret E) (d : decode cc pc = .ok (.putfield 96, 3)) (hq : pc + 3 = q) (k : G p l e R s m args below meth c nL cells slots Q E w (gU σ 197 0 0 x) q lv st) : G p l e R s m args below meth c nL cells slots Q E w σ pc lv (.int x :: .ref (eB E + 583) :: st) :=
  G_put (T := TX7) (k := 17) (F := 197) (i := 0) (ty := .int) hC d hq (by decide) cell_X rfl inW7 (by decide) (wall (by decide +kernel) rfl) rfl rfl (by rw [cell_X]; simp [gU]) tyX7 tyX7_ok nmX7 rfl (by decide +kernel) rfl rfl (Nat.le_of_ble_eq_true rfl) k
theorem pf_RX7_107 {x : Int32} (hC : gCx p s m args meth c cc nL RX7 ret E) (d : decode cc pc = .ok (.putfield 107, 3)) (hq : pc + 3 = q) (k : G p l e R s m args below meth c nL cells slots Q E w (gU σ 200 0 0 x) q lv st) : G p l e R s m args below meth c nL cells slots Q E w σ pc lv (.int x :: .ref (eB E + 583) :: st) :=
  G_put (T := TX7) (k := 20) (F := 200) (i := 0) (ty := .int) hC d hq (by decide) cell_X rfl inW7 (by decide) (wall (by decide +kernel) rfl) rfl rfl (by rw [cell_X]; simp [gU]) tyX7 tyX7_ok nmX7 rfl (by decide +kernel) rfl rfl (Nat.le_of_ble_eq_true rfl) k
theorem pf_RX7_148 {x : Int32} (hC : gCx p s m args meth c cc nL RX7 ret E) (d : decode cc pc = .ok (.putfield 148, 3)) (hq : pc + 3 = q) (k : G p l e R s m args below meth c nL cells slots Q E w (gU σ 207 0 0 x) q lv st) : G p l e R s m args below meth c nL cells slots Q E w σ pc lv (.int x :: .ref (eB E + 583) :: st) :=
  G_put (T := TX7) (k := 27) (F := 207) (i := 0) (ty := .int) hC d hq (by decide) cell_X rfl inW7 (by decide) (wall (by decide +kernel) rfl) rfl rfl (by rw [cell_X]; simp [gU]) tyX7 tyX7_ok nmX7 rfl (by decide +kernel) rfl rfl (Nat.le_of_ble_eq_true rfl) k
theorem pf_RX7_157 {x : Int32} (hC : gCx p s m args meth c cc nL RX7 ret E) (d : decode cc pc = .ok (.putfield 157, 3)) (hq : pc + 3 = q) (k : G p l e R s m args below meth c nL cells slots Q E w (gU σ 206 0 0 x) q lv st) : G p l e R s m args below meth c nL cells slots Q E w σ pc lv (.int x :: .ref (eB E + 583) :: st) :=
  G_put (T := TX7) (k := 26) (F := 206) (i := 0) (ty := .int) hC d hq (by decide) cell_X rfl inW7 (by decide) (wall (by decide +kernel) rfl) rfl rfl (by rw [cell_X]; simp [gU]) tyX7 tyX7_ok nmX7 rfl (by decide +kernel) rfl rfl (Nat.le_of_ble_eq_true rfl) k
theorem pf_RX7_173 {x : Int32} (hC : gCx p s m args meth c cc nL RX7 ret E) (d : decode cc pc = .ok (.putfield 173, 3)) (hq : pc + 3 = q) (k : G p l e R s m args below meth c nL cells slots Q E w (gU σ 208 0 0 x) q lv st) : G p l e R s m args below meth c nL cells slots Q E w σ pc lv (.int x :: .ref (eB E + 583) :: st) :=
  G_put (T := TX7) (k := 28) (F := 208) (i := 0) (ty := .int) hC d hq (by decide) cell_X rfl inW7 (by decide) (wall (by decide +kernel) rfl) rfl rfl (by rw [cell_X]; simp [gU]) tyX7 tyX7_ok nmX7 rfl (by decide +kernel) rfl rfl (Nat.le_of_ble_eq_true rfl) k
theorem gs_RX6_266 (hC : gCx p s m args meth c cc nL RX6 ret E) (d : decode cc pc = .ok (.getstatic 266, 3)) (hq : pc + 3 = q) (k : G p l e R s m args below meth c nL cells slots Q E w σ q lv (.ref (eF E (3 : Int32).toNatClampNeg) :: st)) : G p l e R s m args below meth c nL cells slots Q E w σ pc lv st :=
  G_fate (n := 3) (nm := "STRUCK") hC d hq rfl (wall (by decide +kernel) rfl) (by rw [fc_3] at k; exact k)
theorem gs_RX6_357 (hC : gCx p s m args meth c cc nL RX6 ret E) (d : decode cc pc = .ok (.getstatic 357, 3)) (hq : pc + 3 = q) (k : G p l e R s m args below meth c nL cells slots Q E w σ q lv (.ref (eF E (0 : Int32).toNatClampNeg) :: st)) : G p l e R s m args below meth c nL cells slots Q E w σ pc lv st :=
  G_fate (n := 0) (nm := "UNSEEN") hC d hq rfl (wall (by decide +kernel) rfl) (by rw [fc_0] at k; exact k)
theorem gs_RX6_367 (hC : gCx p s m args meth c cc nL RX6 ret E) (d : decode cc pc = .ok (.getstatic 367, 3)) (hq : pc + 3 = q) (k : G p l e R s m args below meth c nL cells slots Q E w σ q lv (.ref (eF E (1 : Int32).toNatClampNeg) :: st)) : G p l e R s m args below meth c nL cells slots Q E w σ pc lv st :=
  G_fate (n := 1) (nm := "STANDING") hC d hq rfl (wall (by decide +kernel) rfl) (by rw [fc_1] at k; exact k)
theorem gs_RX6_370 (hC : gCx p s m args meth c cc nL RX6 ret E) (d : decode cc pc = .ok (.getstatic 370, 3)) (hq : pc + 3 = q) (k : G p l e R s m args below meth c nL cells slots Q E w σ q lv (.ref (eF E (2 : Int32).toNatClampNeg) :: st)) : G p l e R s m args below meth c nL cells slots Q E w σ pc lv st :=
  G_fate (n := 2) (nm := "PROMISED") hC d hq rfl (wall (by decide +kernel) rfl) (by rw [fc_2] at k; exact k)
theorem gs_RX6_383 (hC : gCx p s m args meth c cc nL RX6 ret E) (d : decode cc pc = .ok (.getstatic 383, 3)) (hq : pc + 3 = q) (k : G p l e R s m args below meth c nL cells slots Q E w σ q lv (.ref (eF E (4 : Int32).toNatClampNeg) :: st)) : G p l e R s m args below meth c nL cells slots Q E w σ pc lv st :=
  G_fate (n := 4) (nm := "TOLD") hC d hq rfl (wall (by decide +kernel) rfl) (by rw [fc_4] at k; exact k)
end GL

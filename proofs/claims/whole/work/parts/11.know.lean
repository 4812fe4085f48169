/-! what every method of the claim needs of a launch: words of the tables, nest words, texts, statics -/
def WALL : List Cond := lw_tbl.filter goodWord
theorem wall {w : Cond} (h : w ∈ lw_tbl) (g : goodWord w = true) : w ∈ WALL := List.mem_filter.mpr ⟨h, g⟩
def NWL : List Cond := [.fieldLinkNest "CircleOfLeaves" 58 "CircleOfLeaves$Headword" "signCount" "I" "CircleOfLeaves", .fieldLinkNest "CircleOfLeaves" 128 "CircleOfLeaves$Reference" "headword" "LCircleOfLeaves$Headword;" "CircleOfLeaves", .fieldLinkNest "CircleOfLeaves$Article" 66 "CircleOfLeaves$Reference" "fate" "LCircleOfLeaves$Fate;" "CircleOfLeaves", .fieldLinkNest "CircleOfLeaves" 354 "CircleOfLeaves$Reference" "fate" "LCircleOfLeaves$Fate;" "CircleOfLeaves", .fieldLinkNest "CircleOfLeaves" 104 "CircleOfLeaves$Article" "headword" "LCircleOfLeaves$Headword;" "CircleOfLeaves", .fieldLinkNest "CircleOfLeaves" 124 "CircleOfLeaves$Article" "references" "[LCircleOfLeaves$Reference;" "CircleOfLeaves", .fieldLinkNest "CircleOfLeaves" 139 "CircleOfLeaves$Article" "usesFact" "[Z" "CircleOfLeaves", .fieldLinkNest "CircleOfLeaves" 377 "CircleOfLeaves$Article" "toldValues" "[I" "CircleOfLeaves", .fieldLinkNest "CircleOfLeaves" 119 "CircleOfLeaves$Article" "referenceCount" "I" "CircleOfLeaves", .fieldLinkNest "CircleOfLeaves" 98 "CircleOfLeaves$Article" "subject" "I" "CircleOfLeaves", .fieldLinkNest "CircleOfLeaves" 101 "CircleOfLeaves$Article" "worth" "I" "CircleOfLeaves", .fieldLinkNest "CircleOfLeaves" 195 "CircleOfLeaves$Article" "contributor" "I" "CircleOfLeaves", .fieldLinkNest "CircleOfLeaves" 213 "CircleOfLeaves$Article" "endMonth" "I" "CircleOfLeaves", .fieldLinkNest "CircleOfLeaves" 341 "CircleOfLeaves$Article" "hasText" "Z" "CircleOfLeaves", .fieldLinkNest "CircleOfLeaves" 145 "CircleOfLeaves$Article" "isForbidden" "Z" "CircleOfLeaves", .fieldLinkNest "CircleOfLeaves" 116 "CircleOfLeaves$Article" "isPrinted" "Z" "CircleOfLeaves", .fieldLinkNest "CircleOfLeaves" 153 "CircleOfLeaves$Volume" "lastLetter" "C" "CircleOfLeaves", .fieldLinkNest "CircleOfLeaves" 161 "CircleOfLeaves$Volume" "budget" "I" "CircleOfLeaves", .fieldLinkNest "CircleOfLeaves" 210 "CircleOfLeaves$Contributor" "toWrite" "[I" "CircleOfLeaves", .fieldLinkNest "CircleOfLeaves" 179 "CircleOfLeaves$Contributor" "hasQuarrelledWith" "[Z" "CircleOfLeaves", .fieldLinkNest "CircleOfLeaves" 201 "CircleOfLeaves$Contributor" "toWriteCount" "I" "CircleOfLeaves", .fieldLinkNest "CircleOfLeaves" 171 "CircleOfLeaves$Contributor" "pace" "I" "CircleOfLeaves", .fieldLinkNest "CircleOfLeaves" 276 "CircleOfLeaves$Contributor" "errataOwned" "I" "CircleOfLeaves", .fieldLinkNest "CircleOfLeaves" 186 "CircleOfLeaves$Contributor" "isDead" "Z" "CircleOfLeaves", .methodLinkNest "CircleOfLeaves" 9 ⟨"CircleOfLeaves$Headword", "<init>", "()V"⟩ "CircleOfLeaves", .methodLinkNest "CircleOfLeaves" 41 ⟨"CircleOfLeaves$Article", "<init>", "()V"⟩ "CircleOfLeaves", .methodLinkNest "CircleOfLeaves$Article" 11 ⟨"CircleOfLeaves$Headword", "<init>", "()V"⟩ "CircleOfLeaves", .methodLinkNest "CircleOfLeaves$Article" 39 ⟨"CircleOfLeaves$Reference", "<init>", "()V"⟩ "CircleOfLeaves", .methodLinkNest "CircleOfLeaves$Reference" 9 ⟨"CircleOfLeaves$Headword", "<init>", "()V"⟩ "CircleOfLeaves", .methodLinkNest "CircleOfLeaves" 42 ⟨"CircleOfLeaves$Volume", "<init>", "()V"⟩ "CircleOfLeaves", .methodLinkNest "CircleOfLeaves" 43 ⟨"CircleOfLeaves$Contributor", "<init>", "()V"⟩ "CircleOfLeaves", .methodLinkNest "CircleOfLeaves" 71 ⟨"CircleOfLeaves$Headword", "clear", "()V"⟩ "CircleOfLeaves", .methodLinkNest "CircleOfLeaves" 272 ⟨"CircleOfLeaves$Article", "countReferences", "(LCircleOfLeaves$Fate;)I"⟩ "CircleOfLeaves", .methodLinkNest "CircleOfLeaves" 279 ⟨"CircleOfLeaves$Article", "isReadIn", "(Z)Z"⟩ "CircleOfLeaves", .methodLinkNest "CircleOfLeaves" 319 ⟨"CircleOfLeaves$Headword", "firstLetter", "()C"⟩ "CircleOfLeaves", .methodLinkNest "CircleOfLeaves" 312 ⟨"CircleOfLeaves$Headword", "compareBy", "(ZLCircleOfLeaves$Headword;)I"⟩ "CircleOfLeaves", .methodLinkNest "CircleOfLeaves" 67 ⟨"CircleOfLeaves$Headword", "add", "(C)V"⟩ "CircleOfLeaves", .methodLinkNest "CircleOfLeaves$Headword" 22 ⟨"CircleOfLeaves", "isGap", "(C)Z"⟩ "CircleOfLeaves", .methodLinkNest "CircleOfLeaves$Headword" 26 ⟨"CircleOfLeaves", "isLetter", "(C)Z"⟩ "CircleOfLeaves", .methodLinkNest "CircleOfLeaves" 92 ⟨"CircleOfLeaves$Headword", "hasLetter", "()Z"⟩ "CircleOfLeaves", .methodLinkNest "CircleOfLeaves" 107 ⟨"CircleOfLeaves$Headword", "take", "(LCircleOfLeaves$Headword;)V"⟩ "CircleOfLeaves", .methodLinkNest "CircleOfLeaves" 134 ⟨"CircleOfLeaves$Article", "isBlind", "()Z"⟩ "CircleOfLeaves", .methodLinkNest "CircleOfLeaves" 198 ⟨"CircleOfLeaves$Contributor", "addToWrite", "(I)V"⟩ "CircleOfLeaves", .methodLinkNest "CircleOfLeaves" 338 ⟨"CircleOfLeaves$Contributor", "monthsFor", "(I)I"⟩ "CircleOfLeaves", .methodLinkNest "CircleOfLeaves" 344 ⟨"CircleOfLeaves$Contributor", "removeFirst", "()V"⟩ "CircleOfLeaves", .methodLinkNest "CircleOfLeaves" 347 ⟨"CircleOfLeaves$Article", "isReady", "()Z"⟩ "CircleOfLeaves", .methodLinkNest "CircleOfLeaves" 350 ⟨"CircleOfLeaves$Article", "putToPress", "([I)V"⟩ "CircleOfLeaves", .methodLinkNest "CircleOfLeaves" 256 ⟨"CircleOfLeaves$Article", "state", "()I"⟩ "CircleOfLeaves"]
def gTxt : List (Nat × String) := [(53, "no letter, blank or hyphen"), (64, "the draft is full"), (77, "a volume is printed"), (87, "worth out of range"), (96, "no more articles, or no letter in the draft"), (111, "not below the subject"), (122, "printed, full, or no letter in the draft"), (137, "printed, or blind"), (143, "printed"), (148, "no letter, or columns out of range"), (157, "not behind the volume ahead"), (159, "no more volumes"), (164, "pace out of range"), (169, "no more contributors"), (177, "nobody quarrels alone"), (193, "it cannot be given to that one"), (208, "dead"), (216, "months out of range"), (228, "printed, or one ahead is not"), (237, "no volume is printed"), (248, "no such place"), (254, "no such question"), (302, "no such article"), (304, "no such volume"), (306, "no such contributor"), (308, "no such subject"), (310, "no such fact")]
def gUp : List String := ["java/lang/RuntimeException", "java/lang/Exception"]
def gIAE : String := "java/lang/IllegalArgumentException"
def gISE : String := "java/lang/IllegalStateException"
def gIOE : String := "java/lang/IndexOutOfBoundsException"
def XWL : List Cond := (vx_atS RX6 55 gIAE gUp ++ vx_atS RX6 66 gISE gUp ++ vx_atS RX6 250 gIOE gUp).filter (fun w => !goodWord w)
def nestW : Cond → Bool
  | .fieldLinkNest _ _ _ _ _ _ => true
  | .methodLinkNest _ _ _ _ => true
  | _ => false
theorem NWL_ok : ∀ w ∈ NWL, nestW w = true := by decide +kernel
theorem NWL_tb : ∀ w ∈ NWL, w ∈ lw_tbl := by decide +kernel
theorem XWL_ok : ∀ w ∈ XWL, (w.onTables && w.keepsFace) = true := by decide +kernel
theorem nestW_ot {w : Cond} (h : nestW w = true) : w.onTables = true := by
  cases w <;> first | rfl | (exact absurd h (by decide)) | (simp [nestW] at h)
theorem nestW_warm {w : Cond} (h : nestW w = true) {s U : State} (hW : s.WarmedH U.vm) (hZ : va_Nw w s) : va_Nw w U := by
  cases w <;> first | exact va_Nw.warmF hW hZ | exact va_Nw.warmM hW hZ | (simp [nestW] at h)
theorem faceW_warm {w : Cond} (h : (w.onTables && w.keepsFace) = true) {s U : State} (hW : s.WarmedH U.vm) (hZ : va_Nw w s) : va_Nw w U := by
  simp only [Bool.and_eq_true] at h
  have h1 : w.before #[] (s.setVm U.vm) = true := Cond.before_shiftedFace (State.Shifted.of_warmed hW) _ h.2 hZ
  exact va_tabs h.1 (rfl : (s.setVm U.vm).vm = U.vm) h1
def gTys (E : gE) : List (ClassId × FieldType) := [(eT E 0, .char), (eT E 1, .int), (eT E 2, .boolean), (eT E 3, .object RX0), (eT E 4, .object RX1), (eT E 5, .object RX4), (eT E 6, .object RX5), (eT E 7, .long)]
def gFates : List String := ["UNSEEN", "STANDING", "PROMISED", "STRUCK", "TOLD"]
def gFd : String := "LCircleOfLeaves$Fate;"
/-- the knowledge: classes, nest words, texts, statics (all below the claim's own cells) -/
def gK (E : gE) (U : State) : Prop := va_K (eD E) vwCl (gTys E) U ∧ (∀ w ∈ NWL, va_Nw w U) ∧ (∀ w ∈ XWL, va_Nw w U) ∧ (∀ q ∈ gTxt, vk_R RX6 q.1 q.2 (eS E q.1) U) ∧
  vx_Zq Bundle.tN "UNASSIGNED_STACK" Bundle.steD (fun q => eB E ≤ q) U U.heap ∧ vx_Zq Bundle.tN "SUPPRESSED_SENTINEL" Bundle.listD (fun q => eB E ≤ q) U U.heap ∧
  (∀ (k : Nat) (n : String), gFates[k]? = some n → va_Z RX2 n gFd (.ref (eF E k)) (fun q => eB E ≤ q) U U.heap) ∧ (∀ i j, i < 5 → j < 5 → eF E i = eF E j → i = j) ∧ eB E ≤ U.heap.size
theorem gK.warm {E : gE} {s U : State} {H : Heap} {locs : List Loc} (h : gK E s) (hW : s.WarmedH U.vm) (hU : U.heap = H) (hS : va_S (fun q => eB E ≤ q) s.heap H locs) : gK E U := by
  obtain ⟨h1, h2, h3, h4, h5, h6, h7, h8, h9⟩ := h
  have hk : ∀ a : Nat, a < s.heap.size → ¬ eB E ≤ a → U.heap[a]? = s.heap[a]? := fun a ha hn => by rw [hU]; exact hS.2.1 a ha hn
  refine ⟨va_K.moved hW.alike h1, fun w hw => nestW_warm (NWL_ok w hw) hW (h2 w hw), fun w hw => faceW_warm (XWL_ok w hw) hW (h3 w hw), fun q hq => vk_R.warm hW (h4 q hq), ?_, ?_, fun k n hn => ?_, h8, ?_⟩
  · exact (vx_Zq.moved hW.alike h5).kept hk
  · exact (vx_Zq.moved hW.alike h6).kept hk
  · exact (va_Z.moved hW.alike (h7 k n hn)).kept hk
  · rw [hU]; exact Nat.le_trans h9 hS.1
theorem gK.same {E : gE} {s U : State} (h : gK E s) (hv : U.vm = s.vm) (hU : U.heap = s.heap) : gK E U := by
  have hA : s.vm.Alike U.vm := by rw [hv]; exact Vm.Alike.refl _
  obtain ⟨h1, h2, h3, h4, h5, h6, h7, h8, h9⟩ := h
  have hk : ∀ a : Nat, a < s.heap.size → ¬ eB E ≤ a → U.heap[a]? = s.heap[a]? := fun a ha hn => by rw [hU]
  refine ⟨va_K.moved hA h1, fun w hw => va_Nw.same (nestW_ot (NWL_ok w hw)) hv.symm (h2 w hw), fun w hw => va_Nw.same (by have := XWL_ok w hw; simp only [Bool.and_eq_true] at this; exact this.1) hv.symm (h3 w hw), fun q hq => vk_R.same hv (h4 q hq), ?_, ?_, fun k n hn => ?_, h8, ?_⟩
  · exact (vx_Zq.moved hA h5).kept hk
  · exact (vx_Zq.moved hA h6).kept hk
  · exact (va_Z.moved hA (h7 k n hn)).kept hk
  · rw [hU]; exact h9
theorem inW0 : ∀ w ∈ u_ws RX0 TX0 12, w ∈ WALL := by decide +kernel
theorem inW1 : ∀ w ∈ u_ws RX1 TX1 6, w ∈ WALL := by decide +kernel
theorem inW3 : ∀ w ∈ u_ws RX3 TX3 4, w ∈ WALL := by decide +kernel
theorem inW4 : ∀ w ∈ u_ws RX4 TX4 2, w ∈ WALL := by decide +kernel
theorem inW5 : ∀ w ∈ u_ws RX5 TX5 2, w ∈ WALL := by decide +kernel
theorem inW6 : ∀ w ∈ u_ws RX6 TX6 12, w ∈ WALL := by decide +kernel
theorem inW7 : ∀ w ∈ u_ws RX7 TX7 30, w ∈ WALL := by decide +kernel

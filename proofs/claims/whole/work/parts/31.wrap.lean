/-! by program (wip/whole/gen_law.py): the law's calls, its wrappers -/
section GL3
variable {p : Program} {l : Launch} {e : Env} {R : Room} {s : State} {m : MethodId} {args : Array Value} {below : List Frame} {meth : Method} {c : Code} {nL cells slots : Nat} {Q : State → Prop} {E : gE} {w : Nat → Int64} {σ : gSt} {pc q : Nat} {lv lv' : List (Nat × Value)} {st st' : List Value} {cc : ByteArray} {own : String} {ret : Option FieldType}
theorem gCastW1 : Cond.castable gIAE gIAE ∈ WALL ∨ Cond.castable gIAE gIAE ∈ XWL := by decide +kernel
theorem gCast1 (hC : gCx p s m args meth c cc nL own ret E) : (Cond.castable (gExN 1) gIAE).before args s = true := by
  rcases gCastW1 with h | h
  · exact hC.2.2.2.2.1 _ h
  · have h5 := XWL_ok _ h
    simp only [Bool.and_eq_true] at h5
    exact va_Nw.use h5.1 (hC.2.2.2.2.2.1.2.2.1 _ h)
theorem gCastW2 : Cond.castable gISE gISE ∈ WALL ∨ Cond.castable gISE gISE ∈ XWL := by decide +kernel
theorem gCast2 (hC : gCx p s m args meth c cc nL own ret E) : (Cond.castable (gExN 2) gISE).before args s = true := by
  rcases gCastW2 with h | h
  · exact hC.2.2.2.2.1 _ h
  · have h5 := XWL_ok _ h
    simp only [Bool.and_eq_true] at h5
    exact va_Nw.use h5.1 (hC.2.2.2.2.2.1.2.2.1 _ h)
theorem gCastW3 : Cond.castable gIOE gIOE ∈ WALL ∨ Cond.castable gIOE gIOE ∈ XWL := by decide +kernel
theorem gCast3 (hC : gCx p s m args meth c cc nL own ret E) : (Cond.castable (gExN 3) gIOE).before args s = true := by
  rcases gCastW3 with h | h
  · exact hC.2.2.2.2.1 _ h
  · have h5 := XWL_ok _ h
    simp only [Bool.and_eq_true] at h5
    exact va_Nw.use h5.1 (hC.2.2.2.2.2.1.2.2.1 _ h)
theorem ii3 (x : Int32) : x + Int32.ofInt (3) = x + (3) := by
  rw [show Int32.ofInt (3) = (3 : Int32) by decide]
theorem cl_RL_92 {x1 : Int32} {v : Int32} {σ1 : gSt} (hC : gCx p s m args meth c cc nL RL ret E) (d : decode cc pc = .ok (.invokevirtual 92, 3)) (hq : pc + 3 = q) (hM : gM l yX7_sign cX7_sign 3 (some .int) rm_X7_sign 1 E w σ [.ref (eB E + 583), .int x1] (v, σ1)) (hR : rm_X7_sign.frames + 1 ≤ R.frames ∧ 8 + (3 + 11) + rm_X7_sign.locals ≤ R.locals) (hsum : (st.map fun v => v.category).sum ≤ 8) (hcap : cells ≤ R.cells ∧ slots ≤ R.slots) (kk : G p l e R s m args below meth c nL cells slots Q E w σ1 q lv (.int v :: st)) : G p l e R s m args below meth c nL cells slots Q E w σ pc lv (.int x1 :: .ref (eB E + 583) :: st) :=
  G_callV (As := [.int x1]) hC d hq hM (by decide) cell_X rfl rfl (gw_X7_sign _ _) (wall (by decide +kernel) rfl) rfl ⟨rfl, rfl⟩ hR hsum hcap rfl kk
theorem cl_RL_93  {v : Int32} {σ1 : gSt} (hC : gCx p s m args meth c cc nL RL ret E) (d : decode cc pc = .ok (.invokevirtual 93, 3)) (hq : pc + 3 = q) (hM : gM l yX7_thrown cX7_thrown 1 (some .int) rm_X7_thrown 1 E w σ [.ref (eB E + 583)] (v, σ1)) (hR : rm_X7_thrown.frames + 1 ≤ R.frames ∧ 8 + (1 + 11) + rm_X7_thrown.locals ≤ R.locals) (hsum : (st.map fun v => v.category).sum ≤ 8) (hcap : cells ≤ R.cells ∧ slots ≤ R.slots) (kk : G p l e R s m args below meth c nL cells slots Q E w σ1 q lv (.int v :: st)) : G p l e R s m args below meth c nL cells slots Q E w σ pc lv (.ref (eB E + 583) :: st) :=
  G_callV (As := []) hC d hq hM (by decide) cell_X rfl rfl (gw_X7_thrown _ _) (wall (by decide +kernel) rfl) rfl ⟨rfl, rfl⟩ hR hsum hcap rfl kk
theorem cl_RL_96  {v : Int32} {σ1 : gSt} (hC : gCx p s m args meth c cc nL RL ret E) (d : decode cc pc = .ok (.invokevirtual 96, 3)) (hq : pc + 3 = q) (hM : gM l yX6_erase cX6_erase 2 (some .int) rm_X6_erase 1 E w σ [.ref (eB E + 0)] (v, σ1)) (hR : rm_X6_erase.frames + 1 ≤ R.frames ∧ 8 + (2 + 11) + rm_X6_erase.locals ≤ R.locals) (hsum : (st.map fun v => v.category).sum ≤ 8) (hcap : cells ≤ R.cells ∧ slots ≤ R.slots) (kk : G p l e R s m args below meth c nL cells slots Q E w σ1 q lv (.int v :: st)) : G p l e R s m args below meth c nL cells slots Q E w σ pc lv (.ref (eB E + 0) :: st) :=
  G_callV (As := []) hC d hq hM (by decide) cell_M rfl rfl (gw_X6_erase _ _) (wall (by decide +kernel) rfl) rfl ⟨rfl, rfl⟩ hR hsum hcap rfl kk
theorem cl_RL_99  {v : Int32} {σ1 : gSt} (hC : gCx p s m args meth c cc nL RL ret E) (d : decode cc pc = .ok (.invokevirtual 99, 3)) (hq : pc + 3 = q) (hM : gM l yX7_erase cX7_erase 2 (some .int) rm_X7_erase 1 E w σ [.ref (eB E + 583)] (v, σ1)) (hR : rm_X7_erase.frames + 1 ≤ R.frames ∧ 8 + (2 + 11) + rm_X7_erase.locals ≤ R.locals) (hsum : (st.map fun v => v.category).sum ≤ 8) (hcap : cells ≤ R.cells ∧ slots ≤ R.slots) (kk : G p l e R s m args below meth c nL cells slots Q E w σ1 q lv (.int v :: st)) : G p l e R s m args below meth c nL cells slots Q E w σ pc lv (.ref (eB E + 583) :: st) :=
  G_callV (As := []) hC d hq hM (by decide) cell_X rfl rfl (gw_X7_erase _ _) (wall (by decide +kernel) rfl) rfl ⟨rfl, rfl⟩ hR hsum hcap rfl kk
theorem cl_RL_103 {x1 : Int32} {v : Int32} {σ1 : gSt} (hC : gCx p s m args meth c cc nL RL ret E) (d : decode cc pc = .ok (.invokevirtual 103, 3)) (hq : pc + 3 = q) (hM : gM l yX7_rule cX7_rule 3 (some .boolean) rm_X7_rule 1 E w σ [.ref (eB E + 583), .int x1] (v, σ1)) (hR : rm_X7_rule.frames + 1 ≤ R.frames ∧ 8 + (3 + 11) + rm_X7_rule.locals ≤ R.locals) (hsum : (st.map fun v => v.category).sum ≤ 8) (hcap : cells ≤ R.cells ∧ slots ≤ R.slots) (kk : G p l e R s m args below meth c nL cells slots Q E w σ1 q lv (.int v :: st)) : G p l e R s m args below meth c nL cells slots Q E w σ pc lv (.int x1 :: .ref (eB E + 583) :: st) :=
  G_callV (As := [.int x1]) hC d hq hM (by decide) cell_X rfl rfl (gw_X7_rule _ _) (wall (by decide +kernel) rfl) rfl ⟨rfl, rfl⟩ hR hsum hcap rfl kk
theorem cl_RL_107 {x1 : Int32} {x2 : Int32} {v : Int32} {σ1 : gSt} (hC : gCx p s m args meth c cc nL RL ret E) (d : decode cc pc = .ok (.invokevirtual 107, 3)) (hq : pc + 3 = q) (hM : gM l yX7_article cX7_article 4 (some .int) rm_X7_article 1 E w σ [.ref (eB E + 583), .int x1, .int x2] (v, σ1)) (hR : rm_X7_article.frames + 1 ≤ R.frames ∧ 8 + (4 + 11) + rm_X7_article.locals ≤ R.locals) (hsum : (st.map fun v => v.category).sum ≤ 8) (hcap : cells ≤ R.cells ∧ slots ≤ R.slots) (kk : G p l e R s m args below meth c nL cells slots Q E w σ1 q lv (.int v :: st)) : G p l e R s m args below meth c nL cells slots Q E w σ pc lv (.int x2 :: .int x1 :: .ref (eB E + 583) :: st) :=
  G_callV (As := [.int x1, .int x2]) hC d hq hM (by decide) cell_X rfl rfl (gw_X7_article _ _) (wall (by decide +kernel) rfl) rfl ⟨rfl, rfl⟩ hR hsum hcap rfl kk
theorem cl_RL_110 {x1 : Int32} {x2 : Int32} {v : Int32} {σ1 : gSt} (hC : gCx p s m args meth c cc nL RL ret E) (d : decode cc pc = .ok (.invokevirtual 110, 3)) (hq : pc + 3 = q) (hM : gM l yX7_under cX7_under 4 (some .int) rm_X7_under 1 E w σ [.ref (eB E + 583), .int x1, .int x2] (v, σ1)) (hR : rm_X7_under.frames + 1 ≤ R.frames ∧ 8 + (4 + 11) + rm_X7_under.locals ≤ R.locals) (hsum : (st.map fun v => v.category).sum ≤ 8) (hcap : cells ≤ R.cells ∧ slots ≤ R.slots) (kk : G p l e R s m args below meth c nL cells slots Q E w σ1 q lv (.int v :: st)) : G p l e R s m args below meth c nL cells slots Q E w σ pc lv (.int x2 :: .int x1 :: .ref (eB E + 583) :: st) :=
  G_callV (As := [.int x1, .int x2]) hC d hq hM (by decide) cell_X rfl rfl (gw_X7_under _ _) (wall (by decide +kernel) rfl) rfl ⟨rfl, rfl⟩ hR hsum hcap rfl kk
theorem cl_RL_114 {x1 : Int32} {v : Int32} {σ1 : gSt} (hC : gCx p s m args meth c cc nL RL ret E) (d : decode cc pc = .ok (.invokevirtual 114, 3)) (hq : pc + 3 = q) (hM : gM l yX7_refer cX7_refer 3 (some .int) rm_X7_refer 1 E w σ [.ref (eB E + 583), .int x1] (v, σ1)) (hR : rm_X7_refer.frames + 1 ≤ R.frames ∧ 8 + (3 + 11) + rm_X7_refer.locals ≤ R.locals) (hsum : (st.map fun v => v.category).sum ≤ 8) (hcap : cells ≤ R.cells ∧ slots ≤ R.slots) (kk : G p l e R s m args below meth c nL cells slots Q E w σ1 q lv (.int v :: st)) : G p l e R s m args below meth c nL cells slots Q E w σ pc lv (.int x1 :: .ref (eB E + 583) :: st) :=
  G_callV (As := [.int x1]) hC d hq hM (by decide) cell_X rfl rfl (gw_X7_refer _ _) (wall (by decide +kernel) rfl) rfl ⟨rfl, rfl⟩ hR hsum hcap rfl kk
theorem cl_RL_117 {x1 : Int32} {x2 : Int32} {v : Int32} {σ1 : gSt} (hC : gCx p s m args meth c cc nL RL ret E) (d : decode cc pc = .ok (.invokevirtual 117, 3)) (hq : pc + 3 = q) (hM : gM l yX7_use cX7_use 5 (some .boolean) rm_X7_use 1 E w σ [.ref (eB E + 583), .int x1, .int x2] (v, σ1)) (hR : rm_X7_use.frames + 1 ≤ R.frames ∧ 8 + (5 + 11) + rm_X7_use.locals ≤ R.locals) (hsum : (st.map fun v => v.category).sum ≤ 8) (hcap : cells ≤ R.cells ∧ slots ≤ R.slots) (kk : G p l e R s m args below meth c nL cells slots Q E w σ1 q lv (.int v :: st)) : G p l e R s m args below meth c nL cells slots Q E w σ pc lv (.int x2 :: .int x1 :: .ref (eB E + 583) :: st) :=
  G_callV (As := [.int x1, .int x2]) hC d hq hM (by decide) cell_X rfl rfl (gw_X7_use _ _) (wall (by decide +kernel) rfl) rfl ⟨rfl, rfl⟩ hR hsum hcap rfl kk
theorem cl_RL_120 {x1 : Int32} {x2 : Int32} {v : Int32} {σ1 : gSt} (hC : gCx p s m args meth c cc nL RL ret E) (d : decode cc pc = .ok (.invokevirtual 120, 3)) (hq : pc + 3 = q) (hM : gM l yX7_change cX7_change 4 (some .int) rm_X7_change 1 E w σ [.ref (eB E + 583), .int x1, .int x2] (v, σ1)) (hR : rm_X7_change.frames + 1 ≤ R.frames ∧ 8 + (4 + 11) + rm_X7_change.locals ≤ R.locals) (hsum : (st.map fun v => v.category).sum ≤ 8) (hcap : cells ≤ R.cells ∧ slots ≤ R.slots) (kk : G p l e R s m args below meth c nL cells slots Q E w σ1 q lv (.int v :: st)) : G p l e R s m args below meth c nL cells slots Q E w σ pc lv (.int x2 :: .int x1 :: .ref (eB E + 583) :: st) :=
  G_callV (As := [.int x1, .int x2]) hC d hq hM (by decide) cell_X rfl rfl (gw_X7_change _ _) (wall (by decide +kernel) rfl) rfl ⟨rfl, rfl⟩ hR hsum hcap rfl kk
theorem cl_RL_124 {x1 : Int32} {x2 : Int32} {v : Int32} {σ1 : gSt} (hC : gCx p s m args meth c cc nL RL ret E) (d : decode cc pc = .ok (.invokevirtual 124, 3)) (hq : pc + 3 = q) (hM : gM l yX7_forbid cX7_forbid 4 (some .boolean) rm_X7_forbid 1 E w σ [.ref (eB E + 583), .int x1, .int x2] (v, σ1)) (hR : rm_X7_forbid.frames + 1 ≤ R.frames ∧ 8 + (4 + 11) + rm_X7_forbid.locals ≤ R.locals) (hsum : (st.map fun v => v.category).sum ≤ 8) (hcap : cells ≤ R.cells ∧ slots ≤ R.slots) (kk : G p l e R s m args below meth c nL cells slots Q E w σ1 q lv (.int v :: st)) : G p l e R s m args below meth c nL cells slots Q E w σ pc lv (.int x2 :: .int x1 :: .ref (eB E + 583) :: st) :=
  G_callV (As := [.int x1, .int x2]) hC d hq hM (by decide) cell_X rfl rfl (gw_X7_forbid _ _) (wall (by decide +kernel) rfl) rfl ⟨rfl, rfl⟩ hR hsum hcap rfl kk
theorem cl_RL_128 {x1 : Int32} {x2 : Int32} {v : Int32} {σ1 : gSt} (hC : gCx p s m args meth c cc nL RL ret E) (d : decode cc pc = .ok (.invokevirtual 128, 3)) (hq : pc + 3 = q) (hM : gM l yX7_volume cX7_volume 4 (some .int) rm_X7_volume 1 E w σ [.ref (eB E + 583), .int x1, .int x2] (v, σ1)) (hR : rm_X7_volume.frames + 1 ≤ R.frames ∧ 8 + (4 + 11) + rm_X7_volume.locals ≤ R.locals) (hsum : (st.map fun v => v.category).sum ≤ 8) (hcap : cells ≤ R.cells ∧ slots ≤ R.slots) (kk : G p l e R s m args below meth c nL cells slots Q E w σ1 q lv (.int v :: st)) : G p l e R s m args below meth c nL cells slots Q E w σ pc lv (.int x2 :: .int x1 :: .ref (eB E + 583) :: st) :=
  G_callV (As := [.int x1, .int x2]) hC d hq hM (by decide) cell_X rfl rfl (gw_X7_volume _ _) (wall (by decide +kernel) rfl) rfl ⟨rfl, rfl⟩ hR hsum hcap rfl kk
theorem cl_RL_131 {x1 : Int32} {v : Int32} {σ1 : gSt} (hC : gCx p s m args meth c cc nL RL ret E) (d : decode cc pc = .ok (.invokevirtual 131, 3)) (hq : pc + 3 = q) (hM : gM l yX7_contributor cX7_contributor 2 (some .int) rm_X7_contributor 1 E w σ [.ref (eB E + 583), .int x1] (v, σ1)) (hR : rm_X7_contributor.frames + 1 ≤ R.frames ∧ 8 + (2 + 11) + rm_X7_contributor.locals ≤ R.locals) (hsum : (st.map fun v => v.category).sum ≤ 8) (hcap : cells ≤ R.cells ∧ slots ≤ R.slots) (kk : G p l e R s m args below meth c nL cells slots Q E w σ1 q lv (.int v :: st)) : G p l e R s m args below meth c nL cells slots Q E w σ pc lv (.int x1 :: .ref (eB E + 583) :: st) :=
  G_callV (As := [.int x1]) hC d hq hM (by decide) cell_X rfl rfl (gw_X7_contributor _ _) (wall (by decide +kernel) rfl) rfl ⟨rfl, rfl⟩ hR hsum hcap rfl kk
theorem cl_RL_134 {x1 : Int32} {x2 : Int32} {v : Int32} {σ1 : gSt} (hC : gCx p s m args meth c cc nL RL ret E) (d : decode cc pc = .ok (.invokevirtual 134, 3)) (hq : pc + 3 = q) (hM : gM l yX7_quarrel cX7_quarrel 5 (some .boolean) rm_X7_quarrel 1 E w σ [.ref (eB E + 583), .int x1, .int x2] (v, σ1)) (hR : rm_X7_quarrel.frames + 1 ≤ R.frames ∧ 8 + (5 + 11) + rm_X7_quarrel.locals ≤ R.locals) (hsum : (st.map fun v => v.category).sum ≤ 8) (hcap : cells ≤ R.cells ∧ slots ≤ R.slots) (kk : G p l e R s m args below meth c nL cells slots Q E w σ1 q lv (.int v :: st)) : G p l e R s m args below meth c nL cells slots Q E w σ pc lv (.int x2 :: .int x1 :: .ref (eB E + 583) :: st) :=
  G_callV (As := [.int x1, .int x2]) hC d hq hM (by decide) cell_X rfl rfl (gw_X7_quarrel _ _) (wall (by decide +kernel) rfl) rfl ⟨rfl, rfl⟩ hR hsum hcap rfl kk
theorem cl_RL_137 {x1 : Int32} {x2 : Int32} {v : Int32} {σ1 : gSt} (hC : gCx p s m args meth c cc nL RL ret E) (d : decode cc pc = .ok (.invokevirtual 137, 3)) (hq : pc + 3 = q) (hM : gM l yX7_give cX7_give 5 (some .int) rm_X7_give 1 E w σ [.ref (eB E + 583), .int x1, .int x2] (v, σ1)) (hR : rm_X7_give.frames + 1 ≤ R.frames ∧ 8 + (5 + 11) + rm_X7_give.locals ≤ R.locals) (hsum : (st.map fun v => v.category).sum ≤ 8) (hcap : cells ≤ R.cells ∧ slots ≤ R.slots) (kk : G p l e R s m args below meth c nL cells slots Q E w σ1 q lv (.int v :: st)) : G p l e R s m args below meth c nL cells slots Q E w σ pc lv (.int x2 :: .int x1 :: .ref (eB E + 583) :: st) :=
  G_callV (As := [.int x1, .int x2]) hC d hq hM (by decide) cell_X rfl rfl (gw_X7_give _ _) (wall (by decide +kernel) rfl) rfl ⟨rfl, rfl⟩ hR hsum hcap rfl kk
theorem cl_RL_140 {x1 : Int32} {v : Int32} {σ1 : gSt} (hC : gCx p s m args meth c cc nL RL ret E) (d : decode cc pc = .ok (.invokevirtual 140, 3)) (hq : pc + 3 = q) (hM : gM l yX7_die cX7_die 5 (some .int) rm_X7_die 1 E w σ [.ref (eB E + 583), .int x1] (v, σ1)) (hR : rm_X7_die.frames + 1 ≤ R.frames ∧ 8 + (5 + 11) + rm_X7_die.locals ≤ R.locals) (hsum : (st.map fun v => v.category).sum ≤ 8) (hcap : cells ≤ R.cells ∧ slots ≤ R.slots) (kk : G p l e R s m args below meth c nL cells slots Q E w σ1 q lv (.int v :: st)) : G p l e R s m args below meth c nL cells slots Q E w σ pc lv (.int x1 :: .ref (eB E + 583) :: st) :=
  G_callV (As := [.int x1]) hC d hq hM (by decide) cell_X rfl rfl (gw_X7_die _ _) (wall (by decide +kernel) rfl) rfl ⟨rfl, rfl⟩ hR hsum hcap rfl kk
theorem cl_RL_143 {x1 : Int32} {v : Int32} {σ1 : gSt} (hC : gCx p s m args meth c cc nL RL ret E) (d : decode cc pc = .ok (.invokevirtual 143, 3)) (hq : pc + 3 = q) (hM : gM l yX7_pass cX7_pass 7 (some .int) rm_X7_pass 1 E w σ [.ref (eB E + 583), .int x1] (v, σ1)) (hR : rm_X7_pass.frames + 1 ≤ R.frames ∧ 8 + (7 + 11) + rm_X7_pass.locals ≤ R.locals) (hsum : (st.map fun v => v.category).sum ≤ 8) (hcap : cells ≤ R.cells ∧ slots ≤ R.slots) (kk : G p l e R s m args below meth c nL cells slots Q E w σ1 q lv (.int v :: st)) : G p l e R s m args below meth c nL cells slots Q E w σ pc lv (.int x1 :: .ref (eB E + 583) :: st) :=
  G_callV (As := [.int x1]) hC d hq hM (by decide) cell_X rfl rfl (gw_X7_pass _ _) (wall (by decide +kernel) rfl) rfl ⟨rfl, rfl⟩ hR hsum hcap rfl kk
theorem cl_RL_146 {x1 : Int32} {v : Int32} {σ1 : gSt} (hC : gCx p s m args meth c cc nL RL ret E) (d : decode cc pc = .ok (.invokevirtual 146, 3)) (hq : pc + 3 = q) (hM : gM l yX7_print cX7_print 2 (some .int) rm_X7_print 1 E w σ [.ref (eB E + 583), .int x1] (v, σ1)) (hR : rm_X7_print.frames + 1 ≤ R.frames ∧ 8 + (2 + 11) + rm_X7_print.locals ≤ R.locals) (hsum : (st.map fun v => v.category).sum ≤ 8) (hcap : cells ≤ R.cells ∧ slots ≤ R.slots) (kk : G p l e R s m args below meth c nL cells slots Q E w σ1 q lv (.int v :: st)) : G p l e R s m args below meth c nL cells slots Q E w σ pc lv (.int x1 :: .ref (eB E + 583) :: st) :=
  G_callV (As := [.int x1]) hC d hq hM (by decide) cell_X rfl rfl (gw_X7_print _ _) (wall (by decide +kernel) rfl) rfl ⟨rfl, rfl⟩ hR hsum hcap rfl kk
theorem cl_RL_150  {v : Int32} {σ1 : gSt} (hC : gCx p s m args meth c cc nL RL ret E) (d : decode cc pc = .ok (.invokevirtual 150, 3)) (hq : pc + 3 = q) (hM : gM l yX7_supplement cX7_supplement 5 (some .int) rm_X7_supplement 1 E w σ [.ref (eB E + 583)] (v, σ1)) (hR : rm_X7_supplement.frames + 1 ≤ R.frames ∧ 8 + (5 + 11) + rm_X7_supplement.locals ≤ R.locals) (hsum : (st.map fun v => v.category).sum ≤ 8) (hcap : cells ≤ R.cells ∧ slots ≤ R.slots) (kk : G p l e R s m args below meth c nL cells slots Q E w σ1 q lv (.int v :: st)) : G p l e R s m args below meth c nL cells slots Q E w σ pc lv (.ref (eB E + 583) :: st) :=
  G_callV (As := []) hC d hq hM (by decide) cell_X rfl rfl (gw_X7_supplement _ _) (wall (by decide +kernel) rfl) rfl ⟨rfl, rfl⟩ hR hsum hcap rfl kk
theorem cl_RL_151  {v : Int32} {σ1 : gSt} (hC : gCx p s m args meth c cc nL RL ret E) (d : decode cc pc = .ok (.invokevirtual 151, 3)) (hq : pc + 3 = q) (hM : gM l yX6_month cX6_month 1 (some .int) rm_X6_month 1 E w σ [.ref (eB E + 0)] (v, σ1)) (hR : rm_X6_month.frames + 1 ≤ R.frames ∧ 8 + (1 + 11) + rm_X6_month.locals ≤ R.locals) (hsum : (st.map fun v => v.category).sum ≤ 8) (hcap : cells ≤ R.cells ∧ slots ≤ R.slots) (kk : G p l e R s m args below meth c nL cells slots Q E w σ1 q lv (.int v :: st)) : G p l e R s m args below meth c nL cells slots Q E w σ pc lv (.ref (eB E + 0) :: st) :=
  G_callV (As := []) hC d hq hM (by decide) cell_M rfl rfl (gw_X6_month _ _) (wall (by decide +kernel) rfl) rfl ⟨rfl, rfl⟩ hR hsum hcap rfl kk
theorem cl_RL_154  {v : Int32} {σ1 : gSt} (hC : gCx p s m args meth c cc nL RL ret E) (d : decode cc pc = .ok (.invokevirtual 154, 3)) (hq : pc + 3 = q) (hM : gM l yX7_month cX7_month 1 (some .int) rm_X7_month 1 E w σ [.ref (eB E + 583)] (v, σ1)) (hR : rm_X7_month.frames + 1 ≤ R.frames ∧ 8 + (1 + 11) + rm_X7_month.locals ≤ R.locals) (hsum : (st.map fun v => v.category).sum ≤ 8) (hcap : cells ≤ R.cells ∧ slots ≤ R.slots) (kk : G p l e R s m args below meth c nL cells slots Q E w σ1 q lv (.int v :: st)) : G p l e R s m args below meth c nL cells slots Q E w σ pc lv (.ref (eB E + 583) :: st) :=
  G_callV (As := []) hC d hq hM (by decide) cell_X rfl rfl (gw_X7_month _ _) (wall (by decide +kernel) rfl) rfl ⟨rfl, rfl⟩ hR hsum hcap rfl kk
theorem cl_RL_157 {x1 : Int32} {v : Int32} {σ1 : gSt} (hC : gCx p s m args meth c cc nL RL ret E) (d : decode cc pc = .ok (.invokevirtual 157, 3)) (hq : pc + 3 = q) (hM : gM l yX7_at cX7_at 5 (some .int) rm_X7_at 1 E w σ [.ref (eB E + 583), .int x1] (v, σ1)) (hR : rm_X7_at.frames + 1 ≤ R.frames ∧ 8 + (5 + 11) + rm_X7_at.locals ≤ R.locals) (hsum : (st.map fun v => v.category).sum ≤ 8) (hcap : cells ≤ R.cells ∧ slots ≤ R.slots) (kk : G p l e R s m args below meth c nL cells slots Q E w σ1 q lv (.int v :: st)) : G p l e R s m args below meth c nL cells slots Q E w σ pc lv (.int x1 :: .ref (eB E + 583) :: st) :=
  G_callV (As := [.int x1]) hC d hq hM (by decide) cell_X rfl rfl (gw_X7_at _ _) (wall (by decide +kernel) rfl) rfl ⟨rfl, rfl⟩ hR hsum hcap rfl kk
theorem cl_RL_160 {x1 : Int32} {x2 : Int32} {v : Int32} {σ1 : gSt} (hC : gCx p s m args meth c cc nL RL ret E) (d : decode cc pc = .ok (.invokevirtual 160, 3)) (hq : pc + 3 = q) (hM : gM l yX7_about cX7_about 3 (some .int) rm_X7_about 1 E w σ [.ref (eB E + 583), .int x1, .int x2] (v, σ1)) (hR : rm_X7_about.frames + 1 ≤ R.frames ∧ 8 + (3 + 11) + rm_X7_about.locals ≤ R.locals) (hsum : (st.map fun v => v.category).sum ≤ 8) (hcap : cells ≤ R.cells ∧ slots ≤ R.slots) (kk : G p l e R s m args below meth c nL cells slots Q E w σ1 q lv (.int v :: st)) : G p l e R s m args below meth c nL cells slots Q E w σ pc lv (.int x2 :: .int x1 :: .ref (eB E + 583) :: st) :=
  G_callV (As := [.int x1, .int x2]) hC d hq hM (by decide) cell_X rfl rfl (gw_X7_about _ _) (wall (by decide +kernel) rfl) rfl ⟨rfl, rfl⟩ hR hsum hcap rfl kk
theorem cl_RL_161  {v : Int32} {σ1 : gSt} (hC : gCx p s m args meth c cc nL RL ret E) (d : decode cc pc = .ok (.invokevirtual 161, 3)) (hq : pc + 3 = q) (hM : gM l yX6_struck cX6_struck 3 (some .int) rm_X6_struck 1 E w σ [.ref (eB E + 0)] (v, σ1)) (hR : rm_X6_struck.frames + 1 ≤ R.frames ∧ 8 + (3 + 11) + rm_X6_struck.locals ≤ R.locals) (hsum : (st.map fun v => v.category).sum ≤ 8) (hcap : cells ≤ R.cells ∧ slots ≤ R.slots) (kk : G p l e R s m args below meth c nL cells slots Q E w σ1 q lv (.int v :: st)) : G p l e R s m args below meth c nL cells slots Q E w σ pc lv (.ref (eB E + 0) :: st) :=
  G_callV (As := []) hC d hq hM (by decide) cell_M rfl rfl (gw_X6_struck _ _) (wall (by decide +kernel) rfl) rfl ⟨rfl, rfl⟩ hR hsum hcap rfl kk
theorem cl_RL_164  {v : Int32} {σ1 : gSt} (hC : gCx p s m args meth c cc nL RL ret E) (d : decode cc pc = .ok (.invokevirtual 164, 3)) (hq : pc + 3 = q) (hM : gM l yX7_struck cX7_struck 1 (some .int) rm_X7_struck 1 E w σ [.ref (eB E + 583)] (v, σ1)) (hR : rm_X7_struck.frames + 1 ≤ R.frames ∧ 8 + (1 + 11) + rm_X7_struck.locals ≤ R.locals) (hsum : (st.map fun v => v.category).sum ≤ 8) (hcap : cells ≤ R.cells ∧ slots ≤ R.slots) (kk : G p l e R s m args below meth c nL cells slots Q E w σ1 q lv (.int v :: st)) : G p l e R s m args below meth c nL cells slots Q E w σ pc lv (.ref (eB E + 583) :: st) :=
  G_callV (As := []) hC d hq hM (by decide) cell_X rfl rfl (gw_X7_struck _ _) (wall (by decide +kernel) rfl) rfl ⟨rfl, rfl⟩ hR hsum hcap rfl kk
theorem cl_RL_167 {x1 : Int32} {v : Int32} {σ1 : gSt} (hC : gCx p s m args meth c cc nL RL ret E) (d : decode cc pc = .ok (.invokevirtual 167, 3)) (hq : pc + 3 = q) (hM : gM l yX7_errata cX7_errata 2 (some .int) rm_X7_errata 1 E w σ [.ref (eB E + 583), .int x1] (v, σ1)) (hR : rm_X7_errata.frames + 1 ≤ R.frames ∧ 8 + (2 + 11) + rm_X7_errata.locals ≤ R.locals) (hsum : (st.map fun v => v.category).sum ≤ 8) (hcap : cells ≤ R.cells ∧ slots ≤ R.slots) (kk : G p l e R s m args below meth c nL cells slots Q E w σ1 q lv (.int v :: st)) : G p l e R s m args below meth c nL cells slots Q E w σ pc lv (.int x1 :: .ref (eB E + 583) :: st) :=
  G_callV (As := [.int x1]) hC d hq hM (by decide) cell_X rfl rfl (gw_X7_errata _ _) (wall (by decide +kernel) rfl) rfl ⟨rfl, rfl⟩ hR hsum hcap rfl kk
theorem cl_RL_168 {x1 : Int32} {v : Int32} {σ1 : gSt} (hC : gCx p s m args meth c cc nL RL ret E) (d : decode cc pc = .ok (.invokevirtual 168, 3)) (hq : pc + 3 = q) (hM : gM l yX6_open cX6_open 4 (some .int) rm_X6_open 1 E w σ [.ref (eB E + 0), .int x1] (v, σ1)) (hR : rm_X6_open.frames + 1 ≤ R.frames ∧ 8 + (4 + 11) + rm_X6_open.locals ≤ R.locals) (hsum : (st.map fun v => v.category).sum ≤ 8) (hcap : cells ≤ R.cells ∧ slots ≤ R.slots) (kk : G p l e R s m args below meth c nL cells slots Q E w σ1 q lv (.int v :: st)) : G p l e R s m args below meth c nL cells slots Q E w σ pc lv (.int x1 :: .ref (eB E + 0) :: st) :=
  G_callV (As := [.int x1]) hC d hq hM (by decide) cell_M rfl rfl (gw_X6_open _ _) (wall (by decide +kernel) rfl) rfl ⟨rfl, rfl⟩ hR hsum hcap rfl kk
theorem cl_RL_172 {x1 : Int32} {v : Int32} {σ1 : gSt} (hC : gCx p s m args meth c cc nL RL ret E) (d : decode cc pc = .ok (.invokevirtual 172, 3)) (hq : pc + 3 = q) (hM : gM l yX7_open cX7_open 2 (some .int) rm_X7_open 1 E w σ [.ref (eB E + 583), .int x1] (v, σ1)) (hR : rm_X7_open.frames + 1 ≤ R.frames ∧ 8 + (2 + 11) + rm_X7_open.locals ≤ R.locals) (hsum : (st.map fun v => v.category).sum ≤ 8) (hcap : cells ≤ R.cells ∧ slots ≤ R.slots) (kk : G p l e R s m args below meth c nL cells slots Q E w σ1 q lv (.int v :: st)) : G p l e R s m args below meth c nL cells slots Q E w σ pc lv (.int x1 :: .ref (eB E + 583) :: st) :=
  G_callV (As := [.int x1]) hC d hq hM (by decide) cell_X rfl rfl (gw_X7_open _ _) (wall (by decide +kernel) rfl) rfl ⟨rfl, rfl⟩ hR hsum hcap rfl kk
theorem cl_RL_173 {x1 : Int32} {v : Int32} {σ1 : gSt} (hC : gCx p s m args meth c cc nL RL ret E) (d : decode cc pc = .ok (.invokevirtual 173, 3)) (hq : pc + 3 = q) (hM : gM l yX6_contradictions cX6_contradictions 4 (some .int) rm_X6_contradictions 1 E w σ [.ref (eB E + 0), .int x1] (v, σ1)) (hR : rm_X6_contradictions.frames + 1 ≤ R.frames ∧ 8 + (4 + 11) + rm_X6_contradictions.locals ≤ R.locals) (hsum : (st.map fun v => v.category).sum ≤ 8) (hcap : cells ≤ R.cells ∧ slots ≤ R.slots) (kk : G p l e R s m args below meth c nL cells slots Q E w σ1 q lv (.int v :: st)) : G p l e R s m args below meth c nL cells slots Q E w σ pc lv (.int x1 :: .ref (eB E + 0) :: st) :=
  G_callV (As := [.int x1]) hC d hq hM (by decide) cell_M rfl rfl (gw_X6_contradictions _ _) (wall (by decide +kernel) rfl) rfl ⟨rfl, rfl⟩ hR hsum hcap rfl kk
theorem cl_RL_176 {x1 : Int32} {v : Int32} {σ1 : gSt} (hC : gCx p s m args meth c cc nL RL ret E) (d : decode cc pc = .ok (.invokevirtual 176, 3)) (hq : pc + 3 = q) (hM : gM l yX7_contradictions cX7_contradictions 2 (some .int) rm_X7_contradictions 1 E w σ [.ref (eB E + 583), .int x1] (v, σ1)) (hR : rm_X7_contradictions.frames + 1 ≤ R.frames ∧ 8 + (2 + 11) + rm_X7_contradictions.locals ≤ R.locals) (hsum : (st.map fun v => v.category).sum ≤ 8) (hcap : cells ≤ R.cells ∧ slots ≤ R.slots) (kk : G p l e R s m args below meth c nL cells slots Q E w σ1 q lv (.int v :: st)) : G p l e R s m args below meth c nL cells slots Q E w σ pc lv (.int x1 :: .ref (eB E + 583) :: st) :=
  G_callV (As := [.int x1]) hC d hq hM (by decide) cell_X rfl rfl (gw_X7_contradictions _ _) (wall (by decide +kernel) rfl) rfl ⟨rfl, rfl⟩ hR hsum hcap rfl kk
theorem cl_RL_177 {x1 : Int32} {v : Int32} {σ1 : gSt} (hC : gCx p s m args meth c cc nL RL ret E) (d : decode cc pc = .ok (.invokevirtual 177, 3)) (hq : pc + 3 = q) (hM : gM l yX6_readAnew cX6_readAnew 2 (some .int) rm_X6_readAnew 1 E w σ [.ref (eB E + 0), .int x1] (v, σ1)) (hR : rm_X6_readAnew.frames + 1 ≤ R.frames ∧ 8 + (2 + 11) + rm_X6_readAnew.locals ≤ R.locals) (hsum : (st.map fun v => v.category).sum ≤ 8) (hcap : cells ≤ R.cells ∧ slots ≤ R.slots) (kk : G p l e R s m args below meth c nL cells slots Q E w σ1 q lv (.int v :: st)) : G p l e R s m args below meth c nL cells slots Q E w σ pc lv (.int x1 :: .ref (eB E + 0) :: st) :=
  G_callV (As := [.int x1]) hC d hq hM (by decide) cell_M rfl rfl (gw_X6_readAnew _ _) (wall (by decide +kernel) rfl) rfl ⟨rfl, rfl⟩ hR hsum hcap rfl kk
theorem cl_RL_180 {x1 : Int32} {v : Int32} {σ1 : gSt} (hC : gCx p s m args meth c cc nL RL ret E) (d : decode cc pc = .ok (.invokevirtual 180, 3)) (hq : pc + 3 = q) (hM : gM l yX7_readAnew cX7_readAnew 2 (some .int) rm_X7_readAnew 1 E w σ [.ref (eB E + 583), .int x1] (v, σ1)) (hR : rm_X7_readAnew.frames + 1 ≤ R.frames ∧ 8 + (2 + 11) + rm_X7_readAnew.locals ≤ R.locals) (hsum : (st.map fun v => v.category).sum ≤ 8) (hcap : cells ≤ R.cells ∧ slots ≤ R.slots) (kk : G p l e R s m args below meth c nL cells slots Q E w σ1 q lv (.int v :: st)) : G p l e R s m args below meth c nL cells slots Q E w σ pc lv (.int x1 :: .ref (eB E + 583) :: st) :=
  G_callV (As := [.int x1]) hC d hq hM (by decide) cell_X rfl rfl (gw_X7_readAnew _ _) (wall (by decide +kernel) rfl) rfl ⟨rfl, rfl⟩ hR hsum hcap rfl kk
theorem cl_RL_183 {x1 : Int32} {v : Int32} {σ1 : gSt} (hC : gCx p s m args meth c cc nL RL ret E) (d : decode cc pc = .ok (.invokevirtual 183, 3)) (hq : pc + 3 = q) (hM : gM l yX7_synopsis cX7_synopsis 5 (some .int) rm_X7_synopsis 1 E w σ [.ref (eB E + 583), .int x1] (v, σ1)) (hR : rm_X7_synopsis.frames + 1 ≤ R.frames ∧ 8 + (5 + 11) + rm_X7_synopsis.locals ≤ R.locals) (hsum : (st.map fun v => v.category).sum ≤ 8) (hcap : cells ≤ R.cells ∧ slots ≤ R.slots) (kk : G p l e R s m args below meth c nL cells slots Q E w σ1 q lv (.int v :: st)) : G p l e R s m args below meth c nL cells slots Q E w σ pc lv (.int x1 :: .ref (eB E + 583) :: st) :=
  G_callV (As := [.int x1]) hC d hq hM (by decide) cell_X rfl rfl (gw_X7_synopsis _ _) (wall (by decide +kernel) rfl) rfl ⟨rfl, rfl⟩ hR hsum hcap rfl kk
end GL3
abbrev rm_L_sign : Room := { frames := 7, cells := 1, slots := 6, locals := 111 }
def hh_L_sign : List (Nat × Nat × Nat × Nat) := [(0, 9, 12, 13), (0, 9, 15, 15)]
def f_L_sign (fu : Nat) (w : Nat → Int64) (σ : gSt) (x1 : Int32) : Option (Int32 × (Nat → Int64) × gSt) :=
  bC (f_X6_sign fu σ x1) (fun v σ1 => some ((0 : Int32), (vp_updL w 0 ((v).toInt64)), σ1)) (fun c σ1 => if c = 1 then (some ((1 : Int32), w, σ1)) else (if c = 2 then (some ((2 : Int32), w, σ1)) else (none)))
set_option maxRecDepth 100000 in
theorem t_L_sign {p : Program} {l : Launch} {e : Env} {s : State} {m : MethodId} {args : Array Value} {below : List Frame} {meth : Method} {c : Code} {E : gE} {w : Nat → Int64} {fu : Nat} {r : Int32 × (Nat → Int64) × gSt} (hC : gCx p s m args meth c cL_sign 4 RL (some .int) E) (hN : gN s) (htab : c.exceptionTable.toList = tableOf hh_L_sign) (hflag : l.stackTraces = false) {σ : gSt} {x1 : Int32} (hf : f_L_sign fu w σ x1 = some r) : G p l e rm_L_sign s m args below meth c 4 0 0 (MQ below (gQL E r) args s rm_L_sign.cells rm_L_sign.slots (fun q => eB E ≤ q)) E w σ 0 [(0, .ref (eB E + 0)), (1, .int x1), (2, .ref (eB E + 605))] [] := by
  unfold f_L_sign at hf
  refine G_aload_n (q := 1) hC dL_sign_0 rfl rfl ?_
  refine G_iconst (q := 2) hC dL_sign_1 rfl ic_0 ?_
  refine G_aload_n (q := 3) hC dL_sign_2 rfl rfl ?_
  refine G_iload_n (q := 4) hC dL_sign_3 rfl rfl ?_
  obtain ⟨z, hm, hf, hx⟩ := bC_ok hf
  refine G_callC (q := 7) (As := [.int x1]) (st := [.int (0 : Int32), .ref (eB E + 605)]) (st' := [.int z.2.1, .int (0 : Int32), .ref (eB E + 605)]) hC dL_sign_4 rfl (m_X6_sign hflag hm) (by decide) cell_M rfl rfl (gw_X6_sign _ _) (wall (by decide +kernel) rfl) rfl ⟨Nat.le_of_ble_eq_true rfl, Nat.le_of_ble_eq_true rfl⟩ (Nat.le_of_ble_eq_true rfl) ⟨Nat.le_of_ble_eq_true rfl, Nat.le_of_ble_eq_true rfl⟩ rfl (fun z0 => ?_) (fun z0 => ?_)
  · have hf := hf z0
    obtain ⟨v, ev⟩ : ∃ y, y = z.2.1 := ⟨_, rfl⟩
    obtain ⟨σ1, eσ⟩ : ∃ y, y = z.2.2 := ⟨_, rfl⟩
    rw [← eσ] at hf ⊢
    rw [← ev] at hf ⊢
    refine G_i2l (q := 8) hC dL_sign_7 rfl ?_
    refine G_last (q := 9) hC dL_sign_8 rfl ?_
    refine G_goto (tgt := 18) hC dL_sign_9 (by decide) ?_
    refine G_iconst (q := 19) hC dL_sign_18 rfl ic_0 ?_
    exact G_iretL hC hf rfl (Nat.le_of_ble_eq_true rfl) (Nat.le_of_ble_eq_true rfl) dL_sign_19
  · have hf := hx z0
    clear hx
    by_cases e0 : z.1 = 1
    · have hf := (if_pos e0).symm.trans hf
      refine ⟨[], [⟨0, 9, 15, 15⟩], ⟨0, 9, 12, 13⟩, gIAE, by rw [htab]; rfl, (fun _ h9 => nomatch h9), rfl, by decide, wall (by decide +kernel) rfl, by rw [e0]; exact gCast1 hC, fun q9 => ?_⟩
      obtain ⟨σ1, eσ⟩ : ∃ y, y = z.2.2 := ⟨_, rfl⟩
      rw [← eσ] at hf ⊢
      refine G_astore_n (q := 13) (lv' := [(3, .ref q9), (0, .ref (eB E + 0)), (1, .int x1), (2, .ref (eB E + 605))]) hC dL_sign_12 rfl (by decide) rfl ?_
      refine G_iconst (q := 14) hC dL_sign_13 rfl ic_1 ?_
      exact G_iretL hC hf rfl (Nat.le_of_ble_eq_true rfl) (Nat.le_of_ble_eq_true rfl) dL_sign_14
    have hf := (if_neg e0).symm.trans hf
    by_cases e1 : z.1 = 2
    · have hf := (if_pos e1).symm.trans hf
      refine ⟨[⟨0, 9, 12, 13⟩], [], ⟨0, 9, 15, 15⟩, gISE, by rw [htab]; rfl, (fun z9 h9 => by
        simp only [List.mem_cons, List.not_mem_nil, or_false] at h9
        subst h9
        exact ⟨by decide, gIAE, wall (by decide +kernel) rfl, by rw [e1]; exact hN (gISE, gIAE) (by decide +kernel)⟩), rfl, by decide, wall (by decide +kernel) rfl, by rw [e1]; exact gCast2 hC, fun q9 => ?_⟩
      obtain ⟨σ1, eσ⟩ : ∃ y, y = z.2.2 := ⟨_, rfl⟩
      rw [← eσ] at hf ⊢
      refine G_astore_n (q := 16) (lv' := [(3, .ref q9), (0, .ref (eB E + 0)), (1, .int x1), (2, .ref (eB E + 605))]) hC dL_sign_15 rfl (by decide) rfl ?_
      refine G_iconst (q := 17) hC dL_sign_16 rfl ic_2 ?_
      exact G_iretL hC hf rfl (Nat.le_of_ble_eq_true rfl) (Nat.le_of_ble_eq_true rfl) dL_sign_17
    have hf := (if_neg e1).symm.trans hf
    cases hf

theorem m_L_sign {l : Launch} {fu : Nat} {E : gE} {w : Nat → Int64} {σ : gSt} {x1 : Int32} {r : Int32 × (Nat → Int64) × gSt} (hflag : l.stackTraces = false) (hf : f_L_sign fu w σ x1 = some r) : gML l yL_sign cL_sign 4 hh_L_sign rm_L_sign E w σ [.ref (eB E + 0), .int x1, .ref (eB E + 605)] r :=
  gML_of (by decide +kernel) (Nat.le_of_ble_eq_true rfl) (fun p e s m args below meth c hC hN htab => t_L_sign hC hN htab hflag hf)
abbrev rm_L_rule : Room := { frames := 7, cells := 1, slots := 6, locals := 112 }
def hh_L_rule : List (Nat × Nat × Nat × Nat) := [(0, 16, 19, 15)]
def f_L_rule (fu : Nat) (w : Nat → Int64) (σ : gSt) (x1 : Int32) : Option (Int32 × (Nat → Int64) × gSt) :=
  bC (f_X6_rule fu σ x1) (fun v σ1 => if v = 0 then (some ((0 : Int32), (vp_updL w 0 (0 : Int64)), σ1)) else (some ((0 : Int32), (vp_updL w 0 (1 : Int64)), σ1))) (fun c σ1 => if c = 2 then (some ((1 : Int32), w, σ1)) else (none))
set_option maxRecDepth 100000 in
theorem t_L_rule {p : Program} {l : Launch} {e : Env} {s : State} {m : MethodId} {args : Array Value} {below : List Frame} {meth : Method} {c : Code} {E : gE} {w : Nat → Int64} {fu : Nat} {r : Int32 × (Nat → Int64) × gSt} (hC : gCx p s m args meth c cL_rule 4 RL (some .int) E) (hN : gN s) (htab : c.exceptionTable.toList = tableOf hh_L_rule) (hflag : l.stackTraces = false) {σ : gSt} {x1 : Int32} (hf : f_L_rule fu w σ x1 = some r) : G p l e rm_L_rule s m args below meth c 4 0 0 (MQ below (gQL E r) args s rm_L_rule.cells rm_L_rule.slots (fun q => eB E ≤ q)) E w σ 0 [(0, .ref (eB E + 0)), (1, .int x1), (2, .ref (eB E + 605))] [] := by
  unfold f_L_rule at hf
  refine G_aload_n (q := 1) hC dL_rule_0 rfl rfl ?_
  refine G_iconst (q := 2) hC dL_rule_1 rfl ic_0 ?_
  refine G_aload_n (q := 3) hC dL_rule_2 rfl rfl ?_
  refine G_iload_n (q := 4) hC dL_rule_3 rfl rfl ?_
  obtain ⟨z, hm, hf, hx⟩ := bC_ok hf
  refine G_callC (q := 7) (As := [.int x1]) (st := [.int (0 : Int32), .ref (eB E + 605)]) (st' := [.int z.2.1, .int (0 : Int32), .ref (eB E + 605)]) hC dL_rule_4 rfl (m_X6_rule hflag hm) (by decide) cell_M rfl rfl (gw_X6_rule _ _) (wall (by decide +kernel) rfl) rfl ⟨Nat.le_of_ble_eq_true rfl, Nat.le_of_ble_eq_true rfl⟩ (Nat.le_of_ble_eq_true rfl) ⟨Nat.le_of_ble_eq_true rfl, Nat.le_of_ble_eq_true rfl⟩ rfl (fun z0 => ?_) (fun z0 => ?_)
  · have hf := hf z0
    obtain ⟨v, ev⟩ : ∃ y, y = z.2.1 := ⟨_, rfl⟩
    obtain ⟨σ1, eσ⟩ : ∃ y, y = z.2.2 := ⟨_, rfl⟩
    rw [← eσ] at hf ⊢
    rw [← ev] at hf ⊢
    refine G_if_eq (tgt := 14) (q := 10) hC dL_rule_7 (by decide) rfl (fun c1 => ?_) (fun c1 => ?_)
    · have hf := (if_pos c1).symm.trans hf
      refine G_lconst (v := 0) (q := 15) hC dL_rule_14 rfl (by decide) ?_
      refine G_last (q := 16) hC dL_rule_15 rfl ?_
      refine G_goto (tgt := 22) hC dL_rule_16 (by decide) ?_
      refine G_iconst (q := 23) hC dL_rule_22 rfl ic_0 ?_
      exact G_iretL hC hf rfl (Nat.le_of_ble_eq_true rfl) (Nat.le_of_ble_eq_true rfl) dL_rule_23
    · have hf := (if_neg c1).symm.trans hf
      refine G_lconst (v := 1) (q := 11) hC dL_rule_10 rfl (by decide) ?_
      refine G_goto (tgt := 15) hC dL_rule_11 (by decide) ?_
      refine G_last (q := 16) hC dL_rule_15 rfl ?_
      refine G_goto (tgt := 22) hC dL_rule_16 (by decide) ?_
      refine G_iconst (q := 23) hC dL_rule_22 rfl ic_0 ?_
      exact G_iretL hC hf rfl (Nat.le_of_ble_eq_true rfl) (Nat.le_of_ble_eq_true rfl) dL_rule_23
  · have hf := hx z0
    clear hx
    by_cases e0 : z.1 = 2
    · have hf := (if_pos e0).symm.trans hf
      refine ⟨[], [], ⟨0, 16, 19, 15⟩, gISE, by rw [htab]; rfl, (fun _ h9 => nomatch h9), rfl, by decide, wall (by decide +kernel) rfl, by rw [e0]; exact gCast2 hC, fun q9 => ?_⟩
      obtain ⟨σ1, eσ⟩ : ∃ y, y = z.2.2 := ⟨_, rfl⟩
      rw [← eσ] at hf ⊢
      refine G_astore_n (q := 20) (lv' := [(3, .ref q9), (0, .ref (eB E + 0)), (1, .int x1), (2, .ref (eB E + 605))]) hC dL_rule_19 rfl (by decide) rfl ?_
      refine G_iconst (q := 21) hC dL_rule_20 rfl ic_1 ?_
      exact G_iretL hC hf rfl (Nat.le_of_ble_eq_true rfl) (Nat.le_of_ble_eq_true rfl) dL_rule_21
    have hf := (if_neg e0).symm.trans hf
    cases hf

theorem m_L_rule {l : Launch} {fu : Nat} {E : gE} {w : Nat → Int64} {σ : gSt} {x1 : Int32} {r : Int32 × (Nat → Int64) × gSt} (hflag : l.stackTraces = false) (hf : f_L_rule fu w σ x1 = some r) : gML l yL_rule cL_rule 4 hh_L_rule rm_L_rule E w σ [.ref (eB E + 0), .int x1, .ref (eB E + 605)] r :=
  gML_of (by decide +kernel) (Nat.le_of_ble_eq_true rfl) (fun p e s m args below meth c hC hN htab => t_L_rule hC hN htab hflag hf)
abbrev rm_L_article : Room := { frames := 8, cells := 2, slots := 12, locals := 133 }
def hh_L_article : List (Nat × Nat × Nat × Nat) := [(0, 10, 13, 25), (0, 10, 17, 13), (0, 10, 21, 15)]
def f_L_article (fu : Nat) (w : Nat → Int64) (σ : gSt) (x1 : Int32) (x2 : Int32) : Option (Int32 × (Nat → Int64) × gSt) :=
  bC (f_X6_article fu σ x1 x2) (fun v σ1 => some ((0 : Int32), (vp_updL w 0 ((v).toInt64)), σ1)) (fun c σ1 => if c = 3 then (some ((1 : Int32), w, σ1)) else (if c = 1 then (some ((2 : Int32), w, σ1)) else (if c = 2 then (some ((3 : Int32), w, σ1)) else (none))))
set_option maxRecDepth 100000 in
theorem t_L_article {p : Program} {l : Launch} {e : Env} {s : State} {m : MethodId} {args : Array Value} {below : List Frame} {meth : Method} {c : Code} {E : gE} {w : Nat → Int64} {fu : Nat} {r : Int32 × (Nat → Int64) × gSt} (hC : gCx p s m args meth c cL_article 5 RL (some .int) E) (hN : gN s) (htab : c.exceptionTable.toList = tableOf hh_L_article) (hflag : l.stackTraces = false) {σ : gSt} {x1 : Int32} {x2 : Int32} (hf : f_L_article fu w σ x1 x2 = some r) : G p l e rm_L_article s m args below meth c 5 0 0 (MQ below (gQL E r) args s rm_L_article.cells rm_L_article.slots (fun q => eB E ≤ q)) E w σ 0 [(0, .ref (eB E + 0)), (1, .int x1), (2, .int x2), (3, .ref (eB E + 605))] [] := by
  unfold f_L_article at hf
  refine G_aload_n (q := 1) hC dL_article_0 rfl rfl ?_
  refine G_iconst (q := 2) hC dL_article_1 rfl ic_0 ?_
  refine G_aload_n (q := 3) hC dL_article_2 rfl rfl ?_
  refine G_iload_n (q := 4) hC dL_article_3 rfl rfl ?_
  refine G_iload_n (q := 5) hC dL_article_4 rfl rfl ?_
  obtain ⟨z, hm, hf, hx⟩ := bC_ok hf
  refine G_callC (q := 8) (As := [.int x1, .int x2]) (st := [.int (0 : Int32), .ref (eB E + 605)]) (st' := [.int z.2.1, .int (0 : Int32), .ref (eB E + 605)]) hC dL_article_5 rfl (m_X6_article hflag hm) (by decide) cell_M rfl rfl (gw_X6_article _ _) (wall (by decide +kernel) rfl) rfl ⟨Nat.le_of_ble_eq_true rfl, Nat.le_of_ble_eq_true rfl⟩ (Nat.le_of_ble_eq_true rfl) ⟨Nat.le_of_ble_eq_true rfl, Nat.le_of_ble_eq_true rfl⟩ rfl (fun z0 => ?_) (fun z0 => ?_)
  · have hf := hf z0
    obtain ⟨v, ev⟩ : ∃ y, y = z.2.1 := ⟨_, rfl⟩
    obtain ⟨σ1, eσ⟩ : ∃ y, y = z.2.2 := ⟨_, rfl⟩
    rw [← eσ] at hf ⊢
    rw [← ev] at hf ⊢
    refine G_i2l (q := 9) hC dL_article_8 rfl ?_
    refine G_last (q := 10) hC dL_article_9 rfl ?_
    refine G_goto (tgt := 25) hC dL_article_10 (by decide) ?_
    refine G_iconst (q := 26) hC dL_article_25 rfl ic_0 ?_
    exact G_iretL hC hf rfl (Nat.le_of_ble_eq_true rfl) (Nat.le_of_ble_eq_true rfl) dL_article_26
  · have hf := hx z0
    clear hx
    by_cases e0 : z.1 = 3
    · have hf := (if_pos e0).symm.trans hf
      refine ⟨[], [⟨0, 10, 17, 13⟩, ⟨0, 10, 21, 15⟩], ⟨0, 10, 13, 25⟩, gIOE, by rw [htab]; rfl, (fun _ h9 => nomatch h9), rfl, by decide, wall (by decide +kernel) rfl, by rw [e0]; exact gCast3 hC, fun q9 => ?_⟩
      obtain ⟨σ1, eσ⟩ : ∃ y, y = z.2.2 := ⟨_, rfl⟩
      rw [← eσ] at hf ⊢
      refine G_astore (q := 15) (lv' := [(4, .ref q9), (0, .ref (eB E + 0)), (1, .int x1), (2, .int x2), (3, .ref (eB E + 605))]) hC dL_article_13 rfl (by decide) rfl ?_
      refine G_iconst (q := 16) hC dL_article_15 rfl ic_1 ?_
      exact G_iretL hC hf rfl (Nat.le_of_ble_eq_true rfl) (Nat.le_of_ble_eq_true rfl) dL_article_16
    have hf := (if_neg e0).symm.trans hf
    by_cases e1 : z.1 = 1
    · have hf := (if_pos e1).symm.trans hf
      refine ⟨[⟨0, 10, 13, 25⟩], [⟨0, 10, 21, 15⟩], ⟨0, 10, 17, 13⟩, gIAE, by rw [htab]; rfl, (fun z9 h9 => by
        simp only [List.mem_cons, List.not_mem_nil, or_false] at h9
        subst h9
        exact ⟨by decide, gIOE, wall (by decide +kernel) rfl, by rw [e1]; exact hN (gIAE, gIOE) (by decide +kernel)⟩), rfl, by decide, wall (by decide +kernel) rfl, by rw [e1]; exact gCast1 hC, fun q9 => ?_⟩
      obtain ⟨σ1, eσ⟩ : ∃ y, y = z.2.2 := ⟨_, rfl⟩
      rw [← eσ] at hf ⊢
      refine G_astore (q := 19) (lv' := [(4, .ref q9), (0, .ref (eB E + 0)), (1, .int x1), (2, .int x2), (3, .ref (eB E + 605))]) hC dL_article_17 rfl (by decide) rfl ?_
      refine G_iconst (q := 20) hC dL_article_19 rfl ic_2 ?_
      exact G_iretL hC hf rfl (Nat.le_of_ble_eq_true rfl) (Nat.le_of_ble_eq_true rfl) dL_article_20
    have hf := (if_neg e1).symm.trans hf
    by_cases e2 : z.1 = 2
    · have hf := (if_pos e2).symm.trans hf
      refine ⟨[⟨0, 10, 13, 25⟩, ⟨0, 10, 17, 13⟩], [], ⟨0, 10, 21, 15⟩, gISE, by rw [htab]; rfl, (fun z9 h9 => by
        simp only [List.mem_cons, List.not_mem_nil, or_false] at h9
        rcases h9 with rfl | rfl
        · exact ⟨by decide, gIOE, wall (by decide +kernel) rfl, by rw [e2]; exact hN (gISE, gIOE) (by decide +kernel)⟩
        · exact ⟨by decide, gIAE, wall (by decide +kernel) rfl, by rw [e2]; exact hN (gISE, gIAE) (by decide +kernel)⟩), rfl, by decide, wall (by decide +kernel) rfl, by rw [e2]; exact gCast2 hC, fun q9 => ?_⟩
      obtain ⟨σ1, eσ⟩ : ∃ y, y = z.2.2 := ⟨_, rfl⟩
      rw [← eσ] at hf ⊢
      refine G_astore (q := 23) (lv' := [(4, .ref q9), (0, .ref (eB E + 0)), (1, .int x1), (2, .int x2), (3, .ref (eB E + 605))]) hC dL_article_21 rfl (by decide) rfl ?_
      refine G_iconst (q := 24) hC dL_article_23 rfl ic_3 ?_
      exact G_iretL hC hf rfl (Nat.le_of_ble_eq_true rfl) (Nat.le_of_ble_eq_true rfl) dL_article_24
    have hf := (if_neg e2).symm.trans hf
    cases hf

theorem m_L_article {l : Launch} {fu : Nat} {E : gE} {w : Nat → Int64} {σ : gSt} {x1 : Int32} {x2 : Int32} {r : Int32 × (Nat → Int64) × gSt} (hflag : l.stackTraces = false) (hf : f_L_article fu w σ x1 x2 = some r) : gML l yL_article cL_article 5 hh_L_article rm_L_article E w σ [.ref (eB E + 0), .int x1, .int x2, .ref (eB E + 605)] r :=
  gML_of (by decide +kernel) (Nat.le_of_ble_eq_true rfl) (fun p e s m args below meth c hC hN htab => t_L_article hC hN htab hflag hf)
abbrev rm_L_under : Room := { frames := 8, cells := 3, slots := 18, locals := 133 }
def hh_L_under : List (Nat × Nat × Nat × Nat) := [(0, 10, 13, 25), (0, 10, 17, 13)]
def f_L_under (fu : Nat) (w : Nat → Int64) (σ : gSt) (x1 : Int32) (x2 : Int32) : Option (Int32 × (Nat → Int64) × gSt) :=
  bC (f_X6_under fu σ x1 x2) (fun v σ1 => some ((0 : Int32), (vp_updL w 0 ((v).toInt64)), σ1)) (fun c σ1 => if c = 3 then (some ((1 : Int32), w, σ1)) else (if c = 1 then (some ((2 : Int32), w, σ1)) else (none)))
set_option maxRecDepth 100000 in
theorem t_L_under {p : Program} {l : Launch} {e : Env} {s : State} {m : MethodId} {args : Array Value} {below : List Frame} {meth : Method} {c : Code} {E : gE} {w : Nat → Int64} {fu : Nat} {r : Int32 × (Nat → Int64) × gSt} (hC : gCx p s m args meth c cL_under 5 RL (some .int) E) (hN : gN s) (htab : c.exceptionTable.toList = tableOf hh_L_under) (hflag : l.stackTraces = false) {σ : gSt} {x1 : Int32} {x2 : Int32} (hf : f_L_under fu w σ x1 x2 = some r) : G p l e rm_L_under s m args below meth c 5 0 0 (MQ below (gQL E r) args s rm_L_under.cells rm_L_under.slots (fun q => eB E ≤ q)) E w σ 0 [(0, .ref (eB E + 0)), (1, .int x1), (2, .int x2), (3, .ref (eB E + 605))] [] := by
  unfold f_L_under at hf
  refine G_aload_n (q := 1) hC dL_under_0 rfl rfl ?_
  refine G_iconst (q := 2) hC dL_under_1 rfl ic_0 ?_
  refine G_aload_n (q := 3) hC dL_under_2 rfl rfl ?_
  refine G_iload_n (q := 4) hC dL_under_3 rfl rfl ?_
  refine G_iload_n (q := 5) hC dL_under_4 rfl rfl ?_
  obtain ⟨z, hm, hf, hx⟩ := bC_ok hf
  refine G_callC (q := 8) (As := [.int x1, .int x2]) (st := [.int (0 : Int32), .ref (eB E + 605)]) (st' := [.int z.2.1, .int (0 : Int32), .ref (eB E + 605)]) hC dL_under_5 rfl (m_X6_under hflag hm) (by decide) cell_M rfl rfl (gw_X6_under _ _) (wall (by decide +kernel) rfl) rfl ⟨Nat.le_of_ble_eq_true rfl, Nat.le_of_ble_eq_true rfl⟩ (Nat.le_of_ble_eq_true rfl) ⟨Nat.le_of_ble_eq_true rfl, Nat.le_of_ble_eq_true rfl⟩ rfl (fun z0 => ?_) (fun z0 => ?_)
  · have hf := hf z0
    obtain ⟨v, ev⟩ : ∃ y, y = z.2.1 := ⟨_, rfl⟩
    obtain ⟨σ1, eσ⟩ : ∃ y, y = z.2.2 := ⟨_, rfl⟩
    rw [← eσ] at hf ⊢
    rw [← ev] at hf ⊢
    refine G_i2l (q := 9) hC dL_under_8 rfl ?_
    refine G_last (q := 10) hC dL_under_9 rfl ?_
    refine G_goto (tgt := 21) hC dL_under_10 (by decide) ?_
    refine G_iconst (q := 22) hC dL_under_21 rfl ic_0 ?_
    exact G_iretL hC hf rfl (Nat.le_of_ble_eq_true rfl) (Nat.le_of_ble_eq_true rfl) dL_under_22
  · have hf := hx z0
    clear hx
    by_cases e0 : z.1 = 3
    · have hf := (if_pos e0).symm.trans hf
      refine ⟨[], [⟨0, 10, 17, 13⟩], ⟨0, 10, 13, 25⟩, gIOE, by rw [htab]; rfl, (fun _ h9 => nomatch h9), rfl, by decide, wall (by decide +kernel) rfl, by rw [e0]; exact gCast3 hC, fun q9 => ?_⟩
      obtain ⟨σ1, eσ⟩ : ∃ y, y = z.2.2 := ⟨_, rfl⟩
      rw [← eσ] at hf ⊢
      refine G_astore (q := 15) (lv' := [(4, .ref q9), (0, .ref (eB E + 0)), (1, .int x1), (2, .int x2), (3, .ref (eB E + 605))]) hC dL_under_13 rfl (by decide) rfl ?_
      refine G_iconst (q := 16) hC dL_under_15 rfl ic_1 ?_
      exact G_iretL hC hf rfl (Nat.le_of_ble_eq_true rfl) (Nat.le_of_ble_eq_true rfl) dL_under_16
    have hf := (if_neg e0).symm.trans hf
    by_cases e1 : z.1 = 1
    · have hf := (if_pos e1).symm.trans hf
      refine ⟨[⟨0, 10, 13, 25⟩], [], ⟨0, 10, 17, 13⟩, gIAE, by rw [htab]; rfl, (fun z9 h9 => by
        simp only [List.mem_cons, List.not_mem_nil, or_false] at h9
        subst h9
        exact ⟨by decide, gIOE, wall (by decide +kernel) rfl, by rw [e1]; exact hN (gIAE, gIOE) (by decide +kernel)⟩), rfl, by decide, wall (by decide +kernel) rfl, by rw [e1]; exact gCast1 hC, fun q9 => ?_⟩
      obtain ⟨σ1, eσ⟩ : ∃ y, y = z.2.2 := ⟨_, rfl⟩
      rw [← eσ] at hf ⊢
      refine G_astore (q := 19) (lv' := [(4, .ref q9), (0, .ref (eB E + 0)), (1, .int x1), (2, .int x2), (3, .ref (eB E + 605))]) hC dL_under_17 rfl (by decide) rfl ?_
      refine G_iconst (q := 20) hC dL_under_19 rfl ic_2 ?_
      exact G_iretL hC hf rfl (Nat.le_of_ble_eq_true rfl) (Nat.le_of_ble_eq_true rfl) dL_under_20
    have hf := (if_neg e1).symm.trans hf
    cases hf

theorem m_L_under {l : Launch} {fu : Nat} {E : gE} {w : Nat → Int64} {σ : gSt} {x1 : Int32} {x2 : Int32} {r : Int32 × (Nat → Int64) × gSt} (hflag : l.stackTraces = false) (hf : f_L_under fu w σ x1 x2 = some r) : gML l yL_under cL_under 5 hh_L_under rm_L_under E w σ [.ref (eB E + 0), .int x1, .int x2, .ref (eB E + 605)] r :=
  gML_of (by decide +kernel) (Nat.le_of_ble_eq_true rfl) (fun p e s m args below meth c hC hN htab => t_L_under hC hN htab hflag hf)
abbrev rm_L_refer : Room := { frames := 8, cells := 2, slots := 12, locals := 133 }
def hh_L_refer : List (Nat × Nat × Nat × Nat) := [(0, 9, 12, 25), (0, 9, 15, 15)]
def f_L_refer (fu : Nat) (w : Nat → Int64) (σ : gSt) (x1 : Int32) : Option (Int32 × (Nat → Int64) × gSt) :=
  bC (f_X6_refer fu σ x1) (fun v σ1 => some ((0 : Int32), (vp_updL w 0 ((v).toInt64)), σ1)) (fun c σ1 => if c = 3 then (some ((1 : Int32), w, σ1)) else (if c = 2 then (some ((2 : Int32), w, σ1)) else (none)))
set_option maxRecDepth 100000 in
theorem t_L_refer {p : Program} {l : Launch} {e : Env} {s : State} {m : MethodId} {args : Array Value} {below : List Frame} {meth : Method} {c : Code} {E : gE} {w : Nat → Int64} {fu : Nat} {r : Int32 × (Nat → Int64) × gSt} (hC : gCx p s m args meth c cL_refer 4 RL (some .int) E) (hN : gN s) (htab : c.exceptionTable.toList = tableOf hh_L_refer) (hflag : l.stackTraces = false) {σ : gSt} {x1 : Int32} (hf : f_L_refer fu w σ x1 = some r) : G p l e rm_L_refer s m args below meth c 4 0 0 (MQ below (gQL E r) args s rm_L_refer.cells rm_L_refer.slots (fun q => eB E ≤ q)) E w σ 0 [(0, .ref (eB E + 0)), (1, .int x1), (2, .ref (eB E + 605))] [] := by
  unfold f_L_refer at hf
  refine G_aload_n (q := 1) hC dL_refer_0 rfl rfl ?_
  refine G_iconst (q := 2) hC dL_refer_1 rfl ic_0 ?_
  refine G_aload_n (q := 3) hC dL_refer_2 rfl rfl ?_
  refine G_iload_n (q := 4) hC dL_refer_3 rfl rfl ?_
  obtain ⟨z, hm, hf, hx⟩ := bC_ok hf
  refine G_callC (q := 7) (As := [.int x1]) (st := [.int (0 : Int32), .ref (eB E + 605)]) (st' := [.int z.2.1, .int (0 : Int32), .ref (eB E + 605)]) hC dL_refer_4 rfl (m_X6_refer hflag hm) (by decide) cell_M rfl rfl (gw_X6_refer _ _) (wall (by decide +kernel) rfl) rfl ⟨Nat.le_of_ble_eq_true rfl, Nat.le_of_ble_eq_true rfl⟩ (Nat.le_of_ble_eq_true rfl) ⟨Nat.le_of_ble_eq_true rfl, Nat.le_of_ble_eq_true rfl⟩ rfl (fun z0 => ?_) (fun z0 => ?_)
  · have hf := hf z0
    obtain ⟨v, ev⟩ : ∃ y, y = z.2.1 := ⟨_, rfl⟩
    obtain ⟨σ1, eσ⟩ : ∃ y, y = z.2.2 := ⟨_, rfl⟩
    rw [← eσ] at hf ⊢
    rw [← ev] at hf ⊢
    refine G_i2l (q := 8) hC dL_refer_7 rfl ?_
    refine G_last (q := 9) hC dL_refer_8 rfl ?_
    refine G_goto (tgt := 18) hC dL_refer_9 (by decide) ?_
    refine G_iconst (q := 19) hC dL_refer_18 rfl ic_0 ?_
    exact G_iretL hC hf rfl (Nat.le_of_ble_eq_true rfl) (Nat.le_of_ble_eq_true rfl) dL_refer_19
  · have hf := hx z0
    clear hx
    by_cases e0 : z.1 = 3
    · have hf := (if_pos e0).symm.trans hf
      refine ⟨[], [⟨0, 9, 15, 15⟩], ⟨0, 9, 12, 25⟩, gIOE, by rw [htab]; rfl, (fun _ h9 => nomatch h9), rfl, by decide, wall (by decide +kernel) rfl, by rw [e0]; exact gCast3 hC, fun q9 => ?_⟩
      obtain ⟨σ1, eσ⟩ : ∃ y, y = z.2.2 := ⟨_, rfl⟩
      rw [← eσ] at hf ⊢
      refine G_astore_n (q := 13) (lv' := [(3, .ref q9), (0, .ref (eB E + 0)), (1, .int x1), (2, .ref (eB E + 605))]) hC dL_refer_12 rfl (by decide) rfl ?_
      refine G_iconst (q := 14) hC dL_refer_13 rfl ic_1 ?_
      exact G_iretL hC hf rfl (Nat.le_of_ble_eq_true rfl) (Nat.le_of_ble_eq_true rfl) dL_refer_14
    have hf := (if_neg e0).symm.trans hf
    by_cases e1 : z.1 = 2
    · have hf := (if_pos e1).symm.trans hf
      refine ⟨[⟨0, 9, 12, 25⟩], [], ⟨0, 9, 15, 15⟩, gISE, by rw [htab]; rfl, (fun z9 h9 => by
        simp only [List.mem_cons, List.not_mem_nil, or_false] at h9
        subst h9
        exact ⟨by decide, gIOE, wall (by decide +kernel) rfl, by rw [e1]; exact hN (gISE, gIOE) (by decide +kernel)⟩), rfl, by decide, wall (by decide +kernel) rfl, by rw [e1]; exact gCast2 hC, fun q9 => ?_⟩
      obtain ⟨σ1, eσ⟩ : ∃ y, y = z.2.2 := ⟨_, rfl⟩
      rw [← eσ] at hf ⊢
      refine G_astore_n (q := 16) (lv' := [(3, .ref q9), (0, .ref (eB E + 0)), (1, .int x1), (2, .ref (eB E + 605))]) hC dL_refer_15 rfl (by decide) rfl ?_
      refine G_iconst (q := 17) hC dL_refer_16 rfl ic_2 ?_
      exact G_iretL hC hf rfl (Nat.le_of_ble_eq_true rfl) (Nat.le_of_ble_eq_true rfl) dL_refer_17
    have hf := (if_neg e1).symm.trans hf
    cases hf

theorem m_L_refer {l : Launch} {fu : Nat} {E : gE} {w : Nat → Int64} {σ : gSt} {x1 : Int32} {r : Int32 × (Nat → Int64) × gSt} (hflag : l.stackTraces = false) (hf : f_L_refer fu w σ x1 = some r) : gML l yL_refer cL_refer 4 hh_L_refer rm_L_refer E w σ [.ref (eB E + 0), .int x1, .ref (eB E + 605)] r :=
  gML_of (by decide +kernel) (Nat.le_of_ble_eq_true rfl) (fun p e s m args below meth c hC hN htab => t_L_refer hC hN htab hflag hf)
abbrev rm_L_use : Room := { frames := 8, cells := 3, slots := 18, locals := 135 }
def hh_L_use : List (Nat × Nat × Nat × Nat) := [(0, 17, 20, 25), (0, 17, 24, 15)]
def f_L_use (fu : Nat) (w : Nat → Int64) (σ : gSt) (x1 : Int32) (x2 : Int32) : Option (Int32 × (Nat → Int64) × gSt) :=
  bC (f_X6_use fu σ x1 x2) (fun v σ1 => if v = 0 then (some ((0 : Int32), (vp_updL w 0 (0 : Int64)), σ1)) else (some ((0 : Int32), (vp_updL w 0 (1 : Int64)), σ1))) (fun c σ1 => if c = 3 then (some ((1 : Int32), w, σ1)) else (if c = 2 then (some ((2 : Int32), w, σ1)) else (none)))
set_option maxRecDepth 100000 in
theorem t_L_use {p : Program} {l : Launch} {e : Env} {s : State} {m : MethodId} {args : Array Value} {below : List Frame} {meth : Method} {c : Code} {E : gE} {w : Nat → Int64} {fu : Nat} {r : Int32 × (Nat → Int64) × gSt} (hC : gCx p s m args meth c cL_use 5 RL (some .int) E) (hN : gN s) (htab : c.exceptionTable.toList = tableOf hh_L_use) (hflag : l.stackTraces = false) {σ : gSt} {x1 : Int32} {x2 : Int32} (hf : f_L_use fu w σ x1 x2 = some r) : G p l e rm_L_use s m args below meth c 5 0 0 (MQ below (gQL E r) args s rm_L_use.cells rm_L_use.slots (fun q => eB E ≤ q)) E w σ 0 [(0, .ref (eB E + 0)), (1, .int x1), (2, .int x2), (3, .ref (eB E + 605))] [] := by
  unfold f_L_use at hf
  refine G_aload_n (q := 1) hC dL_use_0 rfl rfl ?_
  refine G_iconst (q := 2) hC dL_use_1 rfl ic_0 ?_
  refine G_aload_n (q := 3) hC dL_use_2 rfl rfl ?_
  refine G_iload_n (q := 4) hC dL_use_3 rfl rfl ?_
  refine G_iload_n (q := 5) hC dL_use_4 rfl rfl ?_
  obtain ⟨z, hm, hf, hx⟩ := bC_ok hf
  refine G_callC (q := 8) (As := [.int x1, .int x2]) (st := [.int (0 : Int32), .ref (eB E + 605)]) (st' := [.int z.2.1, .int (0 : Int32), .ref (eB E + 605)]) hC dL_use_5 rfl (m_X6_use hflag hm) (by decide) cell_M rfl rfl (gw_X6_use _ _) (wall (by decide +kernel) rfl) rfl ⟨Nat.le_of_ble_eq_true rfl, Nat.le_of_ble_eq_true rfl⟩ (Nat.le_of_ble_eq_true rfl) ⟨Nat.le_of_ble_eq_true rfl, Nat.le_of_ble_eq_true rfl⟩ rfl (fun z0 => ?_) (fun z0 => ?_)
  · have hf := hf z0
    obtain ⟨v, ev⟩ : ∃ y, y = z.2.1 := ⟨_, rfl⟩
    obtain ⟨σ1, eσ⟩ : ∃ y, y = z.2.2 := ⟨_, rfl⟩
    rw [← eσ] at hf ⊢
    rw [← ev] at hf ⊢
    refine G_if_eq (tgt := 15) (q := 11) hC dL_use_8 (by decide) rfl (fun c1 => ?_) (fun c1 => ?_)
    · have hf := (if_pos c1).symm.trans hf
      refine G_lconst (v := 0) (q := 16) hC dL_use_15 rfl (by decide) ?_
      refine G_last (q := 17) hC dL_use_16 rfl ?_
      refine G_goto (tgt := 28) hC dL_use_17 (by decide) ?_
      refine G_iconst (q := 29) hC dL_use_28 rfl ic_0 ?_
      exact G_iretL hC hf rfl (Nat.le_of_ble_eq_true rfl) (Nat.le_of_ble_eq_true rfl) dL_use_29
    · have hf := (if_neg c1).symm.trans hf
      refine G_lconst (v := 1) (q := 12) hC dL_use_11 rfl (by decide) ?_
      refine G_goto (tgt := 16) hC dL_use_12 (by decide) ?_
      refine G_last (q := 17) hC dL_use_16 rfl ?_
      refine G_goto (tgt := 28) hC dL_use_17 (by decide) ?_
      refine G_iconst (q := 29) hC dL_use_28 rfl ic_0 ?_
      exact G_iretL hC hf rfl (Nat.le_of_ble_eq_true rfl) (Nat.le_of_ble_eq_true rfl) dL_use_29
  · have hf := hx z0
    clear hx
    by_cases e0 : z.1 = 3
    · have hf := (if_pos e0).symm.trans hf
      refine ⟨[], [⟨0, 17, 24, 15⟩], ⟨0, 17, 20, 25⟩, gIOE, by rw [htab]; rfl, (fun _ h9 => nomatch h9), rfl, by decide, wall (by decide +kernel) rfl, by rw [e0]; exact gCast3 hC, fun q9 => ?_⟩
      obtain ⟨σ1, eσ⟩ : ∃ y, y = z.2.2 := ⟨_, rfl⟩
      rw [← eσ] at hf ⊢
      refine G_astore (q := 22) (lv' := [(4, .ref q9), (0, .ref (eB E + 0)), (1, .int x1), (2, .int x2), (3, .ref (eB E + 605))]) hC dL_use_20 rfl (by decide) rfl ?_
      refine G_iconst (q := 23) hC dL_use_22 rfl ic_1 ?_
      exact G_iretL hC hf rfl (Nat.le_of_ble_eq_true rfl) (Nat.le_of_ble_eq_true rfl) dL_use_23
    have hf := (if_neg e0).symm.trans hf
    by_cases e1 : z.1 = 2
    · have hf := (if_pos e1).symm.trans hf
      refine ⟨[⟨0, 17, 20, 25⟩], [], ⟨0, 17, 24, 15⟩, gISE, by rw [htab]; rfl, (fun z9 h9 => by
        simp only [List.mem_cons, List.not_mem_nil, or_false] at h9
        subst h9
        exact ⟨by decide, gIOE, wall (by decide +kernel) rfl, by rw [e1]; exact hN (gISE, gIOE) (by decide +kernel)⟩), rfl, by decide, wall (by decide +kernel) rfl, by rw [e1]; exact gCast2 hC, fun q9 => ?_⟩
      obtain ⟨σ1, eσ⟩ : ∃ y, y = z.2.2 := ⟨_, rfl⟩
      rw [← eσ] at hf ⊢
      refine G_astore (q := 26) (lv' := [(4, .ref q9), (0, .ref (eB E + 0)), (1, .int x1), (2, .int x2), (3, .ref (eB E + 605))]) hC dL_use_24 rfl (by decide) rfl ?_
      refine G_iconst (q := 27) hC dL_use_26 rfl ic_2 ?_
      exact G_iretL hC hf rfl (Nat.le_of_ble_eq_true rfl) (Nat.le_of_ble_eq_true rfl) dL_use_27
    have hf := (if_neg e1).symm.trans hf
    cases hf

theorem m_L_use {l : Launch} {fu : Nat} {E : gE} {w : Nat → Int64} {σ : gSt} {x1 : Int32} {x2 : Int32} {r : Int32 × (Nat → Int64) × gSt} (hflag : l.stackTraces = false) (hf : f_L_use fu w σ x1 x2 = some r) : gML l yL_use cL_use 5 hh_L_use rm_L_use E w σ [.ref (eB E + 0), .int x1, .int x2, .ref (eB E + 605)] r :=
  gML_of (by decide +kernel) (Nat.le_of_ble_eq_true rfl) (fun p e s m args below meth c hC hN htab => t_L_use hC hN htab hflag hf)
abbrev rm_L_change : Room := { frames := 8, cells := 1, slots := 6, locals := 133 }
def hh_L_change : List (Nat × Nat × Nat × Nat) := [(0, 10, 13, 25)]
def f_L_change (fu : Nat) (w : Nat → Int64) (σ : gSt) (x1 : Int32) (x2 : Int32) : Option (Int32 × (Nat → Int64) × gSt) :=
  bC (f_X6_change fu σ x1 x2) (fun v σ1 => some ((0 : Int32), (vp_updL w 0 ((v).toInt64)), σ1)) (fun c σ1 => if c = 3 then (some ((1 : Int32), w, σ1)) else (none))
set_option maxRecDepth 100000 in
theorem t_L_change {p : Program} {l : Launch} {e : Env} {s : State} {m : MethodId} {args : Array Value} {below : List Frame} {meth : Method} {c : Code} {E : gE} {w : Nat → Int64} {fu : Nat} {r : Int32 × (Nat → Int64) × gSt} (hC : gCx p s m args meth c cL_change 5 RL (some .int) E) (hN : gN s) (htab : c.exceptionTable.toList = tableOf hh_L_change) (hflag : l.stackTraces = false) {σ : gSt} {x1 : Int32} {x2 : Int32} (hf : f_L_change fu w σ x1 x2 = some r) : G p l e rm_L_change s m args below meth c 5 0 0 (MQ below (gQL E r) args s rm_L_change.cells rm_L_change.slots (fun q => eB E ≤ q)) E w σ 0 [(0, .ref (eB E + 0)), (1, .int x1), (2, .int x2), (3, .ref (eB E + 605))] [] := by
  unfold f_L_change at hf
  refine G_aload_n (q := 1) hC dL_change_0 rfl rfl ?_
  refine G_iconst (q := 2) hC dL_change_1 rfl ic_0 ?_
  refine G_aload_n (q := 3) hC dL_change_2 rfl rfl ?_
  refine G_iload_n (q := 4) hC dL_change_3 rfl rfl ?_
  refine G_iload_n (q := 5) hC dL_change_4 rfl rfl ?_
  obtain ⟨z, hm, hf, hx⟩ := bC_ok hf
  refine G_callC (q := 8) (As := [.int x1, .int x2]) (st := [.int (0 : Int32), .ref (eB E + 605)]) (st' := [.int z.2.1, .int (0 : Int32), .ref (eB E + 605)]) hC dL_change_5 rfl (m_X6_change hflag hm) (by decide) cell_M rfl rfl (gw_X6_change _ _) (wall (by decide +kernel) rfl) rfl ⟨Nat.le_of_ble_eq_true rfl, Nat.le_of_ble_eq_true rfl⟩ (Nat.le_of_ble_eq_true rfl) ⟨Nat.le_of_ble_eq_true rfl, Nat.le_of_ble_eq_true rfl⟩ rfl (fun z0 => ?_) (fun z0 => ?_)
  · have hf := hf z0
    obtain ⟨v, ev⟩ : ∃ y, y = z.2.1 := ⟨_, rfl⟩
    obtain ⟨σ1, eσ⟩ : ∃ y, y = z.2.2 := ⟨_, rfl⟩
    rw [← eσ] at hf ⊢
    rw [← ev] at hf ⊢
    refine G_i2l (q := 9) hC dL_change_8 rfl ?_
    refine G_last (q := 10) hC dL_change_9 rfl ?_
    refine G_goto (tgt := 17) hC dL_change_10 (by decide) ?_
    refine G_iconst (q := 18) hC dL_change_17 rfl ic_0 ?_
    exact G_iretL hC hf rfl (Nat.le_of_ble_eq_true rfl) (Nat.le_of_ble_eq_true rfl) dL_change_18
  · have hf := hx z0
    clear hx
    by_cases e0 : z.1 = 3
    · have hf := (if_pos e0).symm.trans hf
      refine ⟨[], [], ⟨0, 10, 13, 25⟩, gIOE, by rw [htab]; rfl, (fun _ h9 => nomatch h9), rfl, by decide, wall (by decide +kernel) rfl, by rw [e0]; exact gCast3 hC, fun q9 => ?_⟩
      obtain ⟨σ1, eσ⟩ : ∃ y, y = z.2.2 := ⟨_, rfl⟩
      rw [← eσ] at hf ⊢
      refine G_astore (q := 15) (lv' := [(4, .ref q9), (0, .ref (eB E + 0)), (1, .int x1), (2, .int x2), (3, .ref (eB E + 605))]) hC dL_change_13 rfl (by decide) rfl ?_
      refine G_iconst (q := 16) hC dL_change_15 rfl ic_1 ?_
      exact G_iretL hC hf rfl (Nat.le_of_ble_eq_true rfl) (Nat.le_of_ble_eq_true rfl) dL_change_16
    have hf := (if_neg e0).symm.trans hf
    cases hf

theorem m_L_change {l : Launch} {fu : Nat} {E : gE} {w : Nat → Int64} {σ : gSt} {x1 : Int32} {x2 : Int32} {r : Int32 × (Nat → Int64) × gSt} (hflag : l.stackTraces = false) (hf : f_L_change fu w σ x1 x2 = some r) : gML l yL_change cL_change 5 hh_L_change rm_L_change E w σ [.ref (eB E + 0), .int x1, .int x2, .ref (eB E + 605)] r :=
  gML_of (by decide +kernel) (Nat.le_of_ble_eq_true rfl) (fun p e s m args below meth c hC hN htab => t_L_change hC hN htab hflag hf)
abbrev rm_L_forbid : Room := { frames := 8, cells := 2, slots := 12, locals := 134 }
def hh_L_forbid : List (Nat × Nat × Nat × Nat) := [(0, 17, 20, 25), (0, 17, 24, 15)]
def f_L_forbid (fu : Nat) (w : Nat → Int64) (σ : gSt) (x1 : Int32) (x2 : Int32) : Option (Int32 × (Nat → Int64) × gSt) :=
  bC (f_X6_forbid fu σ x1 x2) (fun v σ1 => if v = 0 then (some ((0 : Int32), (vp_updL w 0 (0 : Int64)), σ1)) else (some ((0 : Int32), (vp_updL w 0 (1 : Int64)), σ1))) (fun c σ1 => if c = 3 then (some ((1 : Int32), w, σ1)) else (if c = 2 then (some ((2 : Int32), w, σ1)) else (none)))
set_option maxRecDepth 100000 in
theorem t_L_forbid {p : Program} {l : Launch} {e : Env} {s : State} {m : MethodId} {args : Array Value} {below : List Frame} {meth : Method} {c : Code} {E : gE} {w : Nat → Int64} {fu : Nat} {r : Int32 × (Nat → Int64) × gSt} (hC : gCx p s m args meth c cL_forbid 5 RL (some .int) E) (hN : gN s) (htab : c.exceptionTable.toList = tableOf hh_L_forbid) (hflag : l.stackTraces = false) {σ : gSt} {x1 : Int32} {x2 : Int32} (hf : f_L_forbid fu w σ x1 x2 = some r) : G p l e rm_L_forbid s m args below meth c 5 0 0 (MQ below (gQL E r) args s rm_L_forbid.cells rm_L_forbid.slots (fun q => eB E ≤ q)) E w σ 0 [(0, .ref (eB E + 0)), (1, .int x1), (2, .int x2), (3, .ref (eB E + 605))] [] := by
  unfold f_L_forbid at hf
  refine G_aload_n (q := 1) hC dL_forbid_0 rfl rfl ?_
  refine G_iconst (q := 2) hC dL_forbid_1 rfl ic_0 ?_
  refine G_aload_n (q := 3) hC dL_forbid_2 rfl rfl ?_
  refine G_iload_n (q := 4) hC dL_forbid_3 rfl rfl ?_
  refine G_iload_n (q := 5) hC dL_forbid_4 rfl rfl ?_
  obtain ⟨z, hm, hf, hx⟩ := bC_ok hf
  refine G_callC (q := 8) (As := [.int x1, .int x2]) (st := [.int (0 : Int32), .ref (eB E + 605)]) (st' := [.int z.2.1, .int (0 : Int32), .ref (eB E + 605)]) hC dL_forbid_5 rfl (m_X6_forbid hflag hm) (by decide) cell_M rfl rfl (gw_X6_forbid _ _) (wall (by decide +kernel) rfl) rfl ⟨Nat.le_of_ble_eq_true rfl, Nat.le_of_ble_eq_true rfl⟩ (Nat.le_of_ble_eq_true rfl) ⟨Nat.le_of_ble_eq_true rfl, Nat.le_of_ble_eq_true rfl⟩ rfl (fun z0 => ?_) (fun z0 => ?_)
  · have hf := hf z0
    obtain ⟨v, ev⟩ : ∃ y, y = z.2.1 := ⟨_, rfl⟩
    obtain ⟨σ1, eσ⟩ : ∃ y, y = z.2.2 := ⟨_, rfl⟩
    rw [← eσ] at hf ⊢
    rw [← ev] at hf ⊢
    refine G_if_eq (tgt := 15) (q := 11) hC dL_forbid_8 (by decide) rfl (fun c1 => ?_) (fun c1 => ?_)
    · have hf := (if_pos c1).symm.trans hf
      refine G_lconst (v := 0) (q := 16) hC dL_forbid_15 rfl (by decide) ?_
      refine G_last (q := 17) hC dL_forbid_16 rfl ?_
      refine G_goto (tgt := 28) hC dL_forbid_17 (by decide) ?_
      refine G_iconst (q := 29) hC dL_forbid_28 rfl ic_0 ?_
      exact G_iretL hC hf rfl (Nat.le_of_ble_eq_true rfl) (Nat.le_of_ble_eq_true rfl) dL_forbid_29
    · have hf := (if_neg c1).symm.trans hf
      refine G_lconst (v := 1) (q := 12) hC dL_forbid_11 rfl (by decide) ?_
      refine G_goto (tgt := 16) hC dL_forbid_12 (by decide) ?_
      refine G_last (q := 17) hC dL_forbid_16 rfl ?_
      refine G_goto (tgt := 28) hC dL_forbid_17 (by decide) ?_
      refine G_iconst (q := 29) hC dL_forbid_28 rfl ic_0 ?_
      exact G_iretL hC hf rfl (Nat.le_of_ble_eq_true rfl) (Nat.le_of_ble_eq_true rfl) dL_forbid_29
  · have hf := hx z0
    clear hx
    by_cases e0 : z.1 = 3
    · have hf := (if_pos e0).symm.trans hf
      refine ⟨[], [⟨0, 17, 24, 15⟩], ⟨0, 17, 20, 25⟩, gIOE, by rw [htab]; rfl, (fun _ h9 => nomatch h9), rfl, by decide, wall (by decide +kernel) rfl, by rw [e0]; exact gCast3 hC, fun q9 => ?_⟩
      obtain ⟨σ1, eσ⟩ : ∃ y, y = z.2.2 := ⟨_, rfl⟩
      rw [← eσ] at hf ⊢
      refine G_astore (q := 22) (lv' := [(4, .ref q9), (0, .ref (eB E + 0)), (1, .int x1), (2, .int x2), (3, .ref (eB E + 605))]) hC dL_forbid_20 rfl (by decide) rfl ?_
      refine G_iconst (q := 23) hC dL_forbid_22 rfl ic_1 ?_
      exact G_iretL hC hf rfl (Nat.le_of_ble_eq_true rfl) (Nat.le_of_ble_eq_true rfl) dL_forbid_23
    have hf := (if_neg e0).symm.trans hf
    by_cases e1 : z.1 = 2
    · have hf := (if_pos e1).symm.trans hf
      refine ⟨[⟨0, 17, 20, 25⟩], [], ⟨0, 17, 24, 15⟩, gISE, by rw [htab]; rfl, (fun z9 h9 => by
        simp only [List.mem_cons, List.not_mem_nil, or_false] at h9
        subst h9
        exact ⟨by decide, gIOE, wall (by decide +kernel) rfl, by rw [e1]; exact hN (gISE, gIOE) (by decide +kernel)⟩), rfl, by decide, wall (by decide +kernel) rfl, by rw [e1]; exact gCast2 hC, fun q9 => ?_⟩
      obtain ⟨σ1, eσ⟩ : ∃ y, y = z.2.2 := ⟨_, rfl⟩
      rw [← eσ] at hf ⊢
      refine G_astore (q := 26) (lv' := [(4, .ref q9), (0, .ref (eB E + 0)), (1, .int x1), (2, .int x2), (3, .ref (eB E + 605))]) hC dL_forbid_24 rfl (by decide) rfl ?_
      refine G_iconst (q := 27) hC dL_forbid_26 rfl ic_2 ?_
      exact G_iretL hC hf rfl (Nat.le_of_ble_eq_true rfl) (Nat.le_of_ble_eq_true rfl) dL_forbid_27
    have hf := (if_neg e1).symm.trans hf
    cases hf

theorem m_L_forbid {l : Launch} {fu : Nat} {E : gE} {w : Nat → Int64} {σ : gSt} {x1 : Int32} {x2 : Int32} {r : Int32 × (Nat → Int64) × gSt} (hflag : l.stackTraces = false) (hf : f_L_forbid fu w σ x1 x2 = some r) : gML l yL_forbid cL_forbid 5 hh_L_forbid rm_L_forbid E w σ [.ref (eB E + 0), .int x1, .int x2, .ref (eB E + 605)] r :=
  gML_of (by decide +kernel) (Nat.le_of_ble_eq_true rfl) (fun p e s m args below meth c hC hN htab => t_L_forbid hC hN htab hflag hf)
abbrev rm_L_volume : Room := { frames := 7, cells := 1, slots := 6, locals := 112 }
def hh_L_volume : List (Nat × Nat × Nat × Nat) := [(0, 10, 13, 13), (0, 10, 17, 15)]
def f_L_volume (fu : Nat) (w : Nat → Int64) (σ : gSt) (x1 : Int32) (x2 : Int32) : Option (Int32 × (Nat → Int64) × gSt) :=
  bC (f_X6_volume fu σ x1 x2) (fun v σ1 => some ((0 : Int32), (vp_updL w 0 ((v).toInt64)), σ1)) (fun c σ1 => if c = 1 then (some ((1 : Int32), w, σ1)) else (if c = 2 then (some ((2 : Int32), w, σ1)) else (none)))
set_option maxRecDepth 100000 in
theorem t_L_volume {p : Program} {l : Launch} {e : Env} {s : State} {m : MethodId} {args : Array Value} {below : List Frame} {meth : Method} {c : Code} {E : gE} {w : Nat → Int64} {fu : Nat} {r : Int32 × (Nat → Int64) × gSt} (hC : gCx p s m args meth c cL_volume 5 RL (some .int) E) (hN : gN s) (htab : c.exceptionTable.toList = tableOf hh_L_volume) (hflag : l.stackTraces = false) {σ : gSt} {x1 : Int32} {x2 : Int32} (hf : f_L_volume fu w σ x1 x2 = some r) : G p l e rm_L_volume s m args below meth c 5 0 0 (MQ below (gQL E r) args s rm_L_volume.cells rm_L_volume.slots (fun q => eB E ≤ q)) E w σ 0 [(0, .ref (eB E + 0)), (1, .int x1), (2, .int x2), (3, .ref (eB E + 605))] [] := by
  unfold f_L_volume at hf
  refine G_aload_n (q := 1) hC dL_volume_0 rfl rfl ?_
  refine G_iconst (q := 2) hC dL_volume_1 rfl ic_0 ?_
  refine G_aload_n (q := 3) hC dL_volume_2 rfl rfl ?_
  refine G_iload_n (q := 4) hC dL_volume_3 rfl rfl ?_
  refine G_iload_n (q := 5) hC dL_volume_4 rfl rfl ?_
  obtain ⟨z, hm, hf, hx⟩ := bC_ok hf
  refine G_callC (q := 8) (As := [.int x1, .int x2]) (st := [.int (0 : Int32), .ref (eB E + 605)]) (st' := [.int z.2.1, .int (0 : Int32), .ref (eB E + 605)]) hC dL_volume_5 rfl (m_X6_volume hflag hm) (by decide) cell_M rfl rfl (gw_X6_volume _ _) (wall (by decide +kernel) rfl) rfl ⟨Nat.le_of_ble_eq_true rfl, Nat.le_of_ble_eq_true rfl⟩ (Nat.le_of_ble_eq_true rfl) ⟨Nat.le_of_ble_eq_true rfl, Nat.le_of_ble_eq_true rfl⟩ rfl (fun z0 => ?_) (fun z0 => ?_)
  · have hf := hf z0
    obtain ⟨v, ev⟩ : ∃ y, y = z.2.1 := ⟨_, rfl⟩
    obtain ⟨σ1, eσ⟩ : ∃ y, y = z.2.2 := ⟨_, rfl⟩
    rw [← eσ] at hf ⊢
    rw [← ev] at hf ⊢
    refine G_i2l (q := 9) hC dL_volume_8 rfl ?_
    refine G_last (q := 10) hC dL_volume_9 rfl ?_
    refine G_goto (tgt := 21) hC dL_volume_10 (by decide) ?_
    refine G_iconst (q := 22) hC dL_volume_21 rfl ic_0 ?_
    exact G_iretL hC hf rfl (Nat.le_of_ble_eq_true rfl) (Nat.le_of_ble_eq_true rfl) dL_volume_22
  · have hf := hx z0
    clear hx
    by_cases e0 : z.1 = 1
    · have hf := (if_pos e0).symm.trans hf
      refine ⟨[], [⟨0, 10, 17, 15⟩], ⟨0, 10, 13, 13⟩, gIAE, by rw [htab]; rfl, (fun _ h9 => nomatch h9), rfl, by decide, wall (by decide +kernel) rfl, by rw [e0]; exact gCast1 hC, fun q9 => ?_⟩
      obtain ⟨σ1, eσ⟩ : ∃ y, y = z.2.2 := ⟨_, rfl⟩
      rw [← eσ] at hf ⊢
      refine G_astore (q := 15) (lv' := [(4, .ref q9), (0, .ref (eB E + 0)), (1, .int x1), (2, .int x2), (3, .ref (eB E + 605))]) hC dL_volume_13 rfl (by decide) rfl ?_
      refine G_iconst (q := 16) hC dL_volume_15 rfl ic_1 ?_
      exact G_iretL hC hf rfl (Nat.le_of_ble_eq_true rfl) (Nat.le_of_ble_eq_true rfl) dL_volume_16
    have hf := (if_neg e0).symm.trans hf
    by_cases e1 : z.1 = 2
    · have hf := (if_pos e1).symm.trans hf
      refine ⟨[⟨0, 10, 13, 13⟩], [], ⟨0, 10, 17, 15⟩, gISE, by rw [htab]; rfl, (fun z9 h9 => by
        simp only [List.mem_cons, List.not_mem_nil, or_false] at h9
        subst h9
        exact ⟨by decide, gIAE, wall (by decide +kernel) rfl, by rw [e1]; exact hN (gISE, gIAE) (by decide +kernel)⟩), rfl, by decide, wall (by decide +kernel) rfl, by rw [e1]; exact gCast2 hC, fun q9 => ?_⟩
      obtain ⟨σ1, eσ⟩ : ∃ y, y = z.2.2 := ⟨_, rfl⟩
      rw [← eσ] at hf ⊢
      refine G_astore (q := 19) (lv' := [(4, .ref q9), (0, .ref (eB E + 0)), (1, .int x1), (2, .int x2), (3, .ref (eB E + 605))]) hC dL_volume_17 rfl (by decide) rfl ?_
      refine G_iconst (q := 20) hC dL_volume_19 rfl ic_2 ?_
      exact G_iretL hC hf rfl (Nat.le_of_ble_eq_true rfl) (Nat.le_of_ble_eq_true rfl) dL_volume_20
    have hf := (if_neg e1).symm.trans hf
    cases hf

theorem m_L_volume {l : Launch} {fu : Nat} {E : gE} {w : Nat → Int64} {σ : gSt} {x1 : Int32} {x2 : Int32} {r : Int32 × (Nat → Int64) × gSt} (hflag : l.stackTraces = false) (hf : f_L_volume fu w σ x1 x2 = some r) : gML l yL_volume cL_volume 5 hh_L_volume rm_L_volume E w σ [.ref (eB E + 0), .int x1, .int x2, .ref (eB E + 605)] r :=
  gML_of (by decide +kernel) (Nat.le_of_ble_eq_true rfl) (fun p e s m args below meth c hC hN htab => t_L_volume hC hN htab hflag hf)
abbrev rm_L_contributor : Room := { frames := 7, cells := 1, slots := 6, locals := 111 }
def hh_L_contributor : List (Nat × Nat × Nat × Nat) := [(0, 9, 12, 13), (0, 9, 15, 15)]
def f_L_contributor (fu : Nat) (w : Nat → Int64) (σ : gSt) (x1 : Int32) : Option (Int32 × (Nat → Int64) × gSt) :=
  bC (f_X6_contributor fu σ x1) (fun v σ1 => some ((0 : Int32), (vp_updL w 0 ((v).toInt64)), σ1)) (fun c σ1 => if c = 1 then (some ((1 : Int32), w, σ1)) else (if c = 2 then (some ((2 : Int32), w, σ1)) else (none)))
set_option maxRecDepth 100000 in
theorem t_L_contributor {p : Program} {l : Launch} {e : Env} {s : State} {m : MethodId} {args : Array Value} {below : List Frame} {meth : Method} {c : Code} {E : gE} {w : Nat → Int64} {fu : Nat} {r : Int32 × (Nat → Int64) × gSt} (hC : gCx p s m args meth c cL_contributor 4 RL (some .int) E) (hN : gN s) (htab : c.exceptionTable.toList = tableOf hh_L_contributor) (hflag : l.stackTraces = false) {σ : gSt} {x1 : Int32} (hf : f_L_contributor fu w σ x1 = some r) : G p l e rm_L_contributor s m args below meth c 4 0 0 (MQ below (gQL E r) args s rm_L_contributor.cells rm_L_contributor.slots (fun q => eB E ≤ q)) E w σ 0 [(0, .ref (eB E + 0)), (1, .int x1), (2, .ref (eB E + 605))] [] := by
  unfold f_L_contributor at hf
  refine G_aload_n (q := 1) hC dL_contributor_0 rfl rfl ?_
  refine G_iconst (q := 2) hC dL_contributor_1 rfl ic_0 ?_
  refine G_aload_n (q := 3) hC dL_contributor_2 rfl rfl ?_
  refine G_iload_n (q := 4) hC dL_contributor_3 rfl rfl ?_
  obtain ⟨z, hm, hf, hx⟩ := bC_ok hf
  refine G_callC (q := 7) (As := [.int x1]) (st := [.int (0 : Int32), .ref (eB E + 605)]) (st' := [.int z.2.1, .int (0 : Int32), .ref (eB E + 605)]) hC dL_contributor_4 rfl (m_X6_contributor hflag hm) (by decide) cell_M rfl rfl (gw_X6_contributor _ _) (wall (by decide +kernel) rfl) rfl ⟨Nat.le_of_ble_eq_true rfl, Nat.le_of_ble_eq_true rfl⟩ (Nat.le_of_ble_eq_true rfl) ⟨Nat.le_of_ble_eq_true rfl, Nat.le_of_ble_eq_true rfl⟩ rfl (fun z0 => ?_) (fun z0 => ?_)
  · have hf := hf z0
    obtain ⟨v, ev⟩ : ∃ y, y = z.2.1 := ⟨_, rfl⟩
    obtain ⟨σ1, eσ⟩ : ∃ y, y = z.2.2 := ⟨_, rfl⟩
    rw [← eσ] at hf ⊢
    rw [← ev] at hf ⊢
    refine G_i2l (q := 8) hC dL_contributor_7 rfl ?_
    refine G_last (q := 9) hC dL_contributor_8 rfl ?_
    refine G_goto (tgt := 18) hC dL_contributor_9 (by decide) ?_
    refine G_iconst (q := 19) hC dL_contributor_18 rfl ic_0 ?_
    exact G_iretL hC hf rfl (Nat.le_of_ble_eq_true rfl) (Nat.le_of_ble_eq_true rfl) dL_contributor_19
  · have hf := hx z0
    clear hx
    by_cases e0 : z.1 = 1
    · have hf := (if_pos e0).symm.trans hf
      refine ⟨[], [⟨0, 9, 15, 15⟩], ⟨0, 9, 12, 13⟩, gIAE, by rw [htab]; rfl, (fun _ h9 => nomatch h9), rfl, by decide, wall (by decide +kernel) rfl, by rw [e0]; exact gCast1 hC, fun q9 => ?_⟩
      obtain ⟨σ1, eσ⟩ : ∃ y, y = z.2.2 := ⟨_, rfl⟩
      rw [← eσ] at hf ⊢
      refine G_astore_n (q := 13) (lv' := [(3, .ref q9), (0, .ref (eB E + 0)), (1, .int x1), (2, .ref (eB E + 605))]) hC dL_contributor_12 rfl (by decide) rfl ?_
      refine G_iconst (q := 14) hC dL_contributor_13 rfl ic_1 ?_
      exact G_iretL hC hf rfl (Nat.le_of_ble_eq_true rfl) (Nat.le_of_ble_eq_true rfl) dL_contributor_14
    have hf := (if_neg e0).symm.trans hf
    by_cases e1 : z.1 = 2
    · have hf := (if_pos e1).symm.trans hf
      refine ⟨[⟨0, 9, 12, 13⟩], [], ⟨0, 9, 15, 15⟩, gISE, by rw [htab]; rfl, (fun z9 h9 => by
        simp only [List.mem_cons, List.not_mem_nil, or_false] at h9
        subst h9
        exact ⟨by decide, gIAE, wall (by decide +kernel) rfl, by rw [e1]; exact hN (gISE, gIAE) (by decide +kernel)⟩), rfl, by decide, wall (by decide +kernel) rfl, by rw [e1]; exact gCast2 hC, fun q9 => ?_⟩
      obtain ⟨σ1, eσ⟩ : ∃ y, y = z.2.2 := ⟨_, rfl⟩
      rw [← eσ] at hf ⊢
      refine G_astore_n (q := 16) (lv' := [(3, .ref q9), (0, .ref (eB E + 0)), (1, .int x1), (2, .ref (eB E + 605))]) hC dL_contributor_15 rfl (by decide) rfl ?_
      refine G_iconst (q := 17) hC dL_contributor_16 rfl ic_2 ?_
      exact G_iretL hC hf rfl (Nat.le_of_ble_eq_true rfl) (Nat.le_of_ble_eq_true rfl) dL_contributor_17
    have hf := (if_neg e1).symm.trans hf
    cases hf

theorem m_L_contributor {l : Launch} {fu : Nat} {E : gE} {w : Nat → Int64} {σ : gSt} {x1 : Int32} {r : Int32 × (Nat → Int64) × gSt} (hflag : l.stackTraces = false) (hf : f_L_contributor fu w σ x1 = some r) : gML l yL_contributor cL_contributor 4 hh_L_contributor rm_L_contributor E w σ [.ref (eB E + 0), .int x1, .ref (eB E + 605)] r :=
  gML_of (by decide +kernel) (Nat.le_of_ble_eq_true rfl) (fun p e s m args below meth c hC hN htab => t_L_contributor hC hN htab hflag hf)
abbrev rm_L_quarrel : Room := { frames := 8, cells := 3, slots := 18, locals := 134 }
def hh_L_quarrel : List (Nat × Nat × Nat × Nat) := [(0, 17, 20, 25), (0, 17, 24, 13)]
def f_L_quarrel (fu : Nat) (w : Nat → Int64) (σ : gSt) (x1 : Int32) (x2 : Int32) : Option (Int32 × (Nat → Int64) × gSt) :=
  bC (f_X6_quarrel fu σ x1 x2) (fun v σ1 => if v = 0 then (some ((0 : Int32), (vp_updL w 0 (0 : Int64)), σ1)) else (some ((0 : Int32), (vp_updL w 0 (1 : Int64)), σ1))) (fun c σ1 => if c = 3 then (some ((1 : Int32), w, σ1)) else (if c = 1 then (some ((2 : Int32), w, σ1)) else (none)))
set_option maxRecDepth 100000 in
theorem t_L_quarrel {p : Program} {l : Launch} {e : Env} {s : State} {m : MethodId} {args : Array Value} {below : List Frame} {meth : Method} {c : Code} {E : gE} {w : Nat → Int64} {fu : Nat} {r : Int32 × (Nat → Int64) × gSt} (hC : gCx p s m args meth c cL_quarrel 5 RL (some .int) E) (hN : gN s) (htab : c.exceptionTable.toList = tableOf hh_L_quarrel) (hflag : l.stackTraces = false) {σ : gSt} {x1 : Int32} {x2 : Int32} (hf : f_L_quarrel fu w σ x1 x2 = some r) : G p l e rm_L_quarrel s m args below meth c 5 0 0 (MQ below (gQL E r) args s rm_L_quarrel.cells rm_L_quarrel.slots (fun q => eB E ≤ q)) E w σ 0 [(0, .ref (eB E + 0)), (1, .int x1), (2, .int x2), (3, .ref (eB E + 605))] [] := by
  unfold f_L_quarrel at hf
  refine G_aload_n (q := 1) hC dL_quarrel_0 rfl rfl ?_
  refine G_iconst (q := 2) hC dL_quarrel_1 rfl ic_0 ?_
  refine G_aload_n (q := 3) hC dL_quarrel_2 rfl rfl ?_
  refine G_iload_n (q := 4) hC dL_quarrel_3 rfl rfl ?_
  refine G_iload_n (q := 5) hC dL_quarrel_4 rfl rfl ?_
  obtain ⟨z, hm, hf, hx⟩ := bC_ok hf
  refine G_callC (q := 8) (As := [.int x1, .int x2]) (st := [.int (0 : Int32), .ref (eB E + 605)]) (st' := [.int z.2.1, .int (0 : Int32), .ref (eB E + 605)]) hC dL_quarrel_5 rfl (m_X6_quarrel hflag hm) (by decide) cell_M rfl rfl (gw_X6_quarrel _ _) (wall (by decide +kernel) rfl) rfl ⟨Nat.le_of_ble_eq_true rfl, Nat.le_of_ble_eq_true rfl⟩ (Nat.le_of_ble_eq_true rfl) ⟨Nat.le_of_ble_eq_true rfl, Nat.le_of_ble_eq_true rfl⟩ rfl (fun z0 => ?_) (fun z0 => ?_)
  · have hf := hf z0
    obtain ⟨v, ev⟩ : ∃ y, y = z.2.1 := ⟨_, rfl⟩
    obtain ⟨σ1, eσ⟩ : ∃ y, y = z.2.2 := ⟨_, rfl⟩
    rw [← eσ] at hf ⊢
    rw [← ev] at hf ⊢
    refine G_if_eq (tgt := 15) (q := 11) hC dL_quarrel_8 (by decide) rfl (fun c1 => ?_) (fun c1 => ?_)
    · have hf := (if_pos c1).symm.trans hf
      refine G_lconst (v := 0) (q := 16) hC dL_quarrel_15 rfl (by decide) ?_
      refine G_last (q := 17) hC dL_quarrel_16 rfl ?_
      refine G_goto (tgt := 28) hC dL_quarrel_17 (by decide) ?_
      refine G_iconst (q := 29) hC dL_quarrel_28 rfl ic_0 ?_
      exact G_iretL hC hf rfl (Nat.le_of_ble_eq_true rfl) (Nat.le_of_ble_eq_true rfl) dL_quarrel_29
    · have hf := (if_neg c1).symm.trans hf
      refine G_lconst (v := 1) (q := 12) hC dL_quarrel_11 rfl (by decide) ?_
      refine G_goto (tgt := 16) hC dL_quarrel_12 (by decide) ?_
      refine G_last (q := 17) hC dL_quarrel_16 rfl ?_
      refine G_goto (tgt := 28) hC dL_quarrel_17 (by decide) ?_
      refine G_iconst (q := 29) hC dL_quarrel_28 rfl ic_0 ?_
      exact G_iretL hC hf rfl (Nat.le_of_ble_eq_true rfl) (Nat.le_of_ble_eq_true rfl) dL_quarrel_29
  · have hf := hx z0
    clear hx
    by_cases e0 : z.1 = 3
    · have hf := (if_pos e0).symm.trans hf
      refine ⟨[], [⟨0, 17, 24, 13⟩], ⟨0, 17, 20, 25⟩, gIOE, by rw [htab]; rfl, (fun _ h9 => nomatch h9), rfl, by decide, wall (by decide +kernel) rfl, by rw [e0]; exact gCast3 hC, fun q9 => ?_⟩
      obtain ⟨σ1, eσ⟩ : ∃ y, y = z.2.2 := ⟨_, rfl⟩
      rw [← eσ] at hf ⊢
      refine G_astore (q := 22) (lv' := [(4, .ref q9), (0, .ref (eB E + 0)), (1, .int x1), (2, .int x2), (3, .ref (eB E + 605))]) hC dL_quarrel_20 rfl (by decide) rfl ?_
      refine G_iconst (q := 23) hC dL_quarrel_22 rfl ic_1 ?_
      exact G_iretL hC hf rfl (Nat.le_of_ble_eq_true rfl) (Nat.le_of_ble_eq_true rfl) dL_quarrel_23
    have hf := (if_neg e0).symm.trans hf
    by_cases e1 : z.1 = 1
    · have hf := (if_pos e1).symm.trans hf
      refine ⟨[⟨0, 17, 20, 25⟩], [], ⟨0, 17, 24, 13⟩, gIAE, by rw [htab]; rfl, (fun z9 h9 => by
        simp only [List.mem_cons, List.not_mem_nil, or_false] at h9
        subst h9
        exact ⟨by decide, gIOE, wall (by decide +kernel) rfl, by rw [e1]; exact hN (gIAE, gIOE) (by decide +kernel)⟩), rfl, by decide, wall (by decide +kernel) rfl, by rw [e1]; exact gCast1 hC, fun q9 => ?_⟩
      obtain ⟨σ1, eσ⟩ : ∃ y, y = z.2.2 := ⟨_, rfl⟩
      rw [← eσ] at hf ⊢
      refine G_astore (q := 26) (lv' := [(4, .ref q9), (0, .ref (eB E + 0)), (1, .int x1), (2, .int x2), (3, .ref (eB E + 605))]) hC dL_quarrel_24 rfl (by decide) rfl ?_
      refine G_iconst (q := 27) hC dL_quarrel_26 rfl ic_2 ?_
      exact G_iretL hC hf rfl (Nat.le_of_ble_eq_true rfl) (Nat.le_of_ble_eq_true rfl) dL_quarrel_27
    have hf := (if_neg e1).symm.trans hf
    cases hf

theorem m_L_quarrel {l : Launch} {fu : Nat} {E : gE} {w : Nat → Int64} {σ : gSt} {x1 : Int32} {x2 : Int32} {r : Int32 × (Nat → Int64) × gSt} (hflag : l.stackTraces = false) (hf : f_L_quarrel fu w σ x1 x2 = some r) : gML l yL_quarrel cL_quarrel 5 hh_L_quarrel rm_L_quarrel E w σ [.ref (eB E + 0), .int x1, .int x2, .ref (eB E + 605)] r :=
  gML_of (by decide +kernel) (Nat.le_of_ble_eq_true rfl) (fun p e s m args below meth c hC hN htab => t_L_quarrel hC hN htab hflag hf)
abbrev rm_L_give : Room := { frames := 8, cells := 3, slots := 18, locals := 141 }
def hh_L_give : List (Nat × Nat × Nat × Nat) := [(0, 10, 13, 25), (0, 10, 17, 15)]
def f_L_give (fu : Nat) (w : Nat → Int64) (σ : gSt) (x1 : Int32) (x2 : Int32) : Option (Int32 × (Nat → Int64) × gSt) :=
  bC (f_X6_give fu σ x1 x2) (fun v σ1 => some ((0 : Int32), (vp_updL w 0 ((v).toInt64)), σ1)) (fun c σ1 => if c = 3 then (some ((1 : Int32), w, σ1)) else (if c = 2 then (some ((2 : Int32), w, σ1)) else (none)))
set_option maxRecDepth 100000 in
theorem t_L_give {p : Program} {l : Launch} {e : Env} {s : State} {m : MethodId} {args : Array Value} {below : List Frame} {meth : Method} {c : Code} {E : gE} {w : Nat → Int64} {fu : Nat} {r : Int32 × (Nat → Int64) × gSt} (hC : gCx p s m args meth c cL_give 5 RL (some .int) E) (hN : gN s) (htab : c.exceptionTable.toList = tableOf hh_L_give) (hflag : l.stackTraces = false) {σ : gSt} {x1 : Int32} {x2 : Int32} (hf : f_L_give fu w σ x1 x2 = some r) : G p l e rm_L_give s m args below meth c 5 0 0 (MQ below (gQL E r) args s rm_L_give.cells rm_L_give.slots (fun q => eB E ≤ q)) E w σ 0 [(0, .ref (eB E + 0)), (1, .int x1), (2, .int x2), (3, .ref (eB E + 605))] [] := by
  unfold f_L_give at hf
  refine G_aload_n (q := 1) hC dL_give_0 rfl rfl ?_
  refine G_iconst (q := 2) hC dL_give_1 rfl ic_0 ?_
  refine G_aload_n (q := 3) hC dL_give_2 rfl rfl ?_
  refine G_iload_n (q := 4) hC dL_give_3 rfl rfl ?_
  refine G_iload_n (q := 5) hC dL_give_4 rfl rfl ?_
  obtain ⟨z, hm, hf, hx⟩ := bC_ok hf
  refine G_callC (q := 8) (As := [.int x1, .int x2]) (st := [.int (0 : Int32), .ref (eB E + 605)]) (st' := [.int z.2.1, .int (0 : Int32), .ref (eB E + 605)]) hC dL_give_5 rfl (m_X6_give hflag hm) (by decide) cell_M rfl rfl (gw_X6_give _ _) (wall (by decide +kernel) rfl) rfl ⟨Nat.le_of_ble_eq_true rfl, Nat.le_of_ble_eq_true rfl⟩ (Nat.le_of_ble_eq_true rfl) ⟨Nat.le_of_ble_eq_true rfl, Nat.le_of_ble_eq_true rfl⟩ rfl (fun z0 => ?_) (fun z0 => ?_)
  · have hf := hf z0
    obtain ⟨v, ev⟩ : ∃ y, y = z.2.1 := ⟨_, rfl⟩
    obtain ⟨σ1, eσ⟩ : ∃ y, y = z.2.2 := ⟨_, rfl⟩
    rw [← eσ] at hf ⊢
    rw [← ev] at hf ⊢
    refine G_i2l (q := 9) hC dL_give_8 rfl ?_
    refine G_last (q := 10) hC dL_give_9 rfl ?_
    refine G_goto (tgt := 21) hC dL_give_10 (by decide) ?_
    refine G_iconst (q := 22) hC dL_give_21 rfl ic_0 ?_
    exact G_iretL hC hf rfl (Nat.le_of_ble_eq_true rfl) (Nat.le_of_ble_eq_true rfl) dL_give_22
  · have hf := hx z0
    clear hx
    by_cases e0 : z.1 = 3
    · have hf := (if_pos e0).symm.trans hf
      refine ⟨[], [⟨0, 10, 17, 15⟩], ⟨0, 10, 13, 25⟩, gIOE, by rw [htab]; rfl, (fun _ h9 => nomatch h9), rfl, by decide, wall (by decide +kernel) rfl, by rw [e0]; exact gCast3 hC, fun q9 => ?_⟩
      obtain ⟨σ1, eσ⟩ : ∃ y, y = z.2.2 := ⟨_, rfl⟩
      rw [← eσ] at hf ⊢
      refine G_astore (q := 15) (lv' := [(4, .ref q9), (0, .ref (eB E + 0)), (1, .int x1), (2, .int x2), (3, .ref (eB E + 605))]) hC dL_give_13 rfl (by decide) rfl ?_
      refine G_iconst (q := 16) hC dL_give_15 rfl ic_1 ?_
      exact G_iretL hC hf rfl (Nat.le_of_ble_eq_true rfl) (Nat.le_of_ble_eq_true rfl) dL_give_16
    have hf := (if_neg e0).symm.trans hf
    by_cases e1 : z.1 = 2
    · have hf := (if_pos e1).symm.trans hf
      refine ⟨[⟨0, 10, 13, 25⟩], [], ⟨0, 10, 17, 15⟩, gISE, by rw [htab]; rfl, (fun z9 h9 => by
        simp only [List.mem_cons, List.not_mem_nil, or_false] at h9
        subst h9
        exact ⟨by decide, gIOE, wall (by decide +kernel) rfl, by rw [e1]; exact hN (gISE, gIOE) (by decide +kernel)⟩), rfl, by decide, wall (by decide +kernel) rfl, by rw [e1]; exact gCast2 hC, fun q9 => ?_⟩
      obtain ⟨σ1, eσ⟩ : ∃ y, y = z.2.2 := ⟨_, rfl⟩
      rw [← eσ] at hf ⊢
      refine G_astore (q := 19) (lv' := [(4, .ref q9), (0, .ref (eB E + 0)), (1, .int x1), (2, .int x2), (3, .ref (eB E + 605))]) hC dL_give_17 rfl (by decide) rfl ?_
      refine G_iconst (q := 20) hC dL_give_19 rfl ic_2 ?_
      exact G_iretL hC hf rfl (Nat.le_of_ble_eq_true rfl) (Nat.le_of_ble_eq_true rfl) dL_give_20
    have hf := (if_neg e1).symm.trans hf
    cases hf

theorem m_L_give {l : Launch} {fu : Nat} {E : gE} {w : Nat → Int64} {σ : gSt} {x1 : Int32} {x2 : Int32} {r : Int32 × (Nat → Int64) × gSt} (hflag : l.stackTraces = false) (hf : f_L_give fu w σ x1 x2 = some r) : gML l yL_give cL_give 5 hh_L_give rm_L_give E w σ [.ref (eB E + 0), .int x1, .int x2, .ref (eB E + 605)] r :=
  gML_of (by decide +kernel) (Nat.le_of_ble_eq_true rfl) (fun p e s m args below meth c hC hN htab => t_L_give hC hN htab hflag hf)
abbrev rm_L_die : Room := { frames := 8, cells := 2, slots := 12, locals := 136 }
def hh_L_die : List (Nat × Nat × Nat × Nat) := [(0, 9, 12, 25), (0, 9, 15, 15)]
def f_L_die (fu : Nat) (w : Nat → Int64) (σ : gSt) (x1 : Int32) : Option (Int32 × (Nat → Int64) × gSt) :=
  bC (f_X6_die fu σ x1) (fun v σ1 => some ((0 : Int32), (vp_updL w 0 ((v).toInt64)), σ1)) (fun c σ1 => if c = 3 then (some ((1 : Int32), w, σ1)) else (if c = 2 then (some ((2 : Int32), w, σ1)) else (none)))
set_option maxRecDepth 100000 in
theorem t_L_die {p : Program} {l : Launch} {e : Env} {s : State} {m : MethodId} {args : Array Value} {below : List Frame} {meth : Method} {c : Code} {E : gE} {w : Nat → Int64} {fu : Nat} {r : Int32 × (Nat → Int64) × gSt} (hC : gCx p s m args meth c cL_die 4 RL (some .int) E) (hN : gN s) (htab : c.exceptionTable.toList = tableOf hh_L_die) (hflag : l.stackTraces = false) {σ : gSt} {x1 : Int32} (hf : f_L_die fu w σ x1 = some r) : G p l e rm_L_die s m args below meth c 4 0 0 (MQ below (gQL E r) args s rm_L_die.cells rm_L_die.slots (fun q => eB E ≤ q)) E w σ 0 [(0, .ref (eB E + 0)), (1, .int x1), (2, .ref (eB E + 605))] [] := by
  unfold f_L_die at hf
  refine G_aload_n (q := 1) hC dL_die_0 rfl rfl ?_
  refine G_iconst (q := 2) hC dL_die_1 rfl ic_0 ?_
  refine G_aload_n (q := 3) hC dL_die_2 rfl rfl ?_
  refine G_iload_n (q := 4) hC dL_die_3 rfl rfl ?_
  obtain ⟨z, hm, hf, hx⟩ := bC_ok hf
  refine G_callC (q := 7) (As := [.int x1]) (st := [.int (0 : Int32), .ref (eB E + 605)]) (st' := [.int z.2.1, .int (0 : Int32), .ref (eB E + 605)]) hC dL_die_4 rfl (m_X6_die hflag hm) (by decide) cell_M rfl rfl (gw_X6_die _ _) (wall (by decide +kernel) rfl) rfl ⟨Nat.le_of_ble_eq_true rfl, Nat.le_of_ble_eq_true rfl⟩ (Nat.le_of_ble_eq_true rfl) ⟨Nat.le_of_ble_eq_true rfl, Nat.le_of_ble_eq_true rfl⟩ rfl (fun z0 => ?_) (fun z0 => ?_)
  · have hf := hf z0
    obtain ⟨v, ev⟩ : ∃ y, y = z.2.1 := ⟨_, rfl⟩
    obtain ⟨σ1, eσ⟩ : ∃ y, y = z.2.2 := ⟨_, rfl⟩
    rw [← eσ] at hf ⊢
    rw [← ev] at hf ⊢
    refine G_i2l (q := 8) hC dL_die_7 rfl ?_
    refine G_last (q := 9) hC dL_die_8 rfl ?_
    refine G_goto (tgt := 18) hC dL_die_9 (by decide) ?_
    refine G_iconst (q := 19) hC dL_die_18 rfl ic_0 ?_
    exact G_iretL hC hf rfl (Nat.le_of_ble_eq_true rfl) (Nat.le_of_ble_eq_true rfl) dL_die_19
  · have hf := hx z0
    clear hx
    by_cases e0 : z.1 = 3
    · have hf := (if_pos e0).symm.trans hf
      refine ⟨[], [⟨0, 9, 15, 15⟩], ⟨0, 9, 12, 25⟩, gIOE, by rw [htab]; rfl, (fun _ h9 => nomatch h9), rfl, by decide, wall (by decide +kernel) rfl, by rw [e0]; exact gCast3 hC, fun q9 => ?_⟩
      obtain ⟨σ1, eσ⟩ : ∃ y, y = z.2.2 := ⟨_, rfl⟩
      rw [← eσ] at hf ⊢
      refine G_astore_n (q := 13) (lv' := [(3, .ref q9), (0, .ref (eB E + 0)), (1, .int x1), (2, .ref (eB E + 605))]) hC dL_die_12 rfl (by decide) rfl ?_
      refine G_iconst (q := 14) hC dL_die_13 rfl ic_1 ?_
      exact G_iretL hC hf rfl (Nat.le_of_ble_eq_true rfl) (Nat.le_of_ble_eq_true rfl) dL_die_14
    have hf := (if_neg e0).symm.trans hf
    by_cases e1 : z.1 = 2
    · have hf := (if_pos e1).symm.trans hf
      refine ⟨[⟨0, 9, 12, 25⟩], [], ⟨0, 9, 15, 15⟩, gISE, by rw [htab]; rfl, (fun z9 h9 => by
        simp only [List.mem_cons, List.not_mem_nil, or_false] at h9
        subst h9
        exact ⟨by decide, gIOE, wall (by decide +kernel) rfl, by rw [e1]; exact hN (gISE, gIOE) (by decide +kernel)⟩), rfl, by decide, wall (by decide +kernel) rfl, by rw [e1]; exact gCast2 hC, fun q9 => ?_⟩
      obtain ⟨σ1, eσ⟩ : ∃ y, y = z.2.2 := ⟨_, rfl⟩
      rw [← eσ] at hf ⊢
      refine G_astore_n (q := 16) (lv' := [(3, .ref q9), (0, .ref (eB E + 0)), (1, .int x1), (2, .ref (eB E + 605))]) hC dL_die_15 rfl (by decide) rfl ?_
      refine G_iconst (q := 17) hC dL_die_16 rfl ic_2 ?_
      exact G_iretL hC hf rfl (Nat.le_of_ble_eq_true rfl) (Nat.le_of_ble_eq_true rfl) dL_die_17
    have hf := (if_neg e1).symm.trans hf
    cases hf

theorem m_L_die {l : Launch} {fu : Nat} {E : gE} {w : Nat → Int64} {σ : gSt} {x1 : Int32} {r : Int32 × (Nat → Int64) × gSt} (hflag : l.stackTraces = false) (hf : f_L_die fu w σ x1 = some r) : gML l yL_die cL_die 4 hh_L_die rm_L_die E w σ [.ref (eB E + 0), .int x1, .ref (eB E + 605)] r :=
  gML_of (by decide +kernel) (Nat.le_of_ble_eq_true rfl) (fun p e s m args below meth c hC hN htab => t_L_die hC hN htab hflag hf)
abbrev rm_L_pass : Room := { frames := 7, cells := 1, slots := 6, locals := 163 }
def hh_L_pass : List (Nat × Nat × Nat × Nat) := [(0, 9, 12, 13)]
def f_L_pass (fu : Nat) (w : Nat → Int64) (σ : gSt) (x1 : Int32) : Option (Int32 × (Nat → Int64) × gSt) :=
  bC (f_X6_pass fu σ x1) (fun v σ1 => some ((0 : Int32), (vp_updL w 0 ((v).toInt64)), σ1)) (fun c σ1 => if c = 1 then (some ((1 : Int32), w, σ1)) else (none))
set_option maxRecDepth 100000 in
theorem t_L_pass {p : Program} {l : Launch} {e : Env} {s : State} {m : MethodId} {args : Array Value} {below : List Frame} {meth : Method} {c : Code} {E : gE} {w : Nat → Int64} {fu : Nat} {r : Int32 × (Nat → Int64) × gSt} (hC : gCx p s m args meth c cL_pass 4 RL (some .int) E) (hN : gN s) (htab : c.exceptionTable.toList = tableOf hh_L_pass) (hflag : l.stackTraces = false) {σ : gSt} {x1 : Int32} (hf : f_L_pass fu w σ x1 = some r) : G p l e rm_L_pass s m args below meth c 4 0 0 (MQ below (gQL E r) args s rm_L_pass.cells rm_L_pass.slots (fun q => eB E ≤ q)) E w σ 0 [(0, .ref (eB E + 0)), (1, .int x1), (2, .ref (eB E + 605))] [] := by
  unfold f_L_pass at hf
  refine G_aload_n (q := 1) hC dL_pass_0 rfl rfl ?_
  refine G_iconst (q := 2) hC dL_pass_1 rfl ic_0 ?_
  refine G_aload_n (q := 3) hC dL_pass_2 rfl rfl ?_
  refine G_iload_n (q := 4) hC dL_pass_3 rfl rfl ?_
  obtain ⟨z, hm, hf, hx⟩ := bC_ok hf
  refine G_callC (q := 7) (As := [.int x1]) (st := [.int (0 : Int32), .ref (eB E + 605)]) (st' := [.int z.2.1, .int (0 : Int32), .ref (eB E + 605)]) hC dL_pass_4 rfl (m_X6_pass hflag hm) (by decide) cell_M rfl rfl (gw_X6_pass _ _) (wall (by decide +kernel) rfl) rfl ⟨Nat.le_of_ble_eq_true rfl, Nat.le_of_ble_eq_true rfl⟩ (Nat.le_of_ble_eq_true rfl) ⟨Nat.le_of_ble_eq_true rfl, Nat.le_of_ble_eq_true rfl⟩ rfl (fun z0 => ?_) (fun z0 => ?_)
  · have hf := hf z0
    obtain ⟨v, ev⟩ : ∃ y, y = z.2.1 := ⟨_, rfl⟩
    obtain ⟨σ1, eσ⟩ : ∃ y, y = z.2.2 := ⟨_, rfl⟩
    rw [← eσ] at hf ⊢
    rw [← ev] at hf ⊢
    refine G_i2l (q := 8) hC dL_pass_7 rfl ?_
    refine G_last (q := 9) hC dL_pass_8 rfl ?_
    refine G_goto (tgt := 15) hC dL_pass_9 (by decide) ?_
    refine G_iconst (q := 16) hC dL_pass_15 rfl ic_0 ?_
    exact G_iretL hC hf rfl (Nat.le_of_ble_eq_true rfl) (Nat.le_of_ble_eq_true rfl) dL_pass_16
  · have hf := hx z0
    clear hx
    by_cases e0 : z.1 = 1
    · have hf := (if_pos e0).symm.trans hf
      refine ⟨[], [], ⟨0, 9, 12, 13⟩, gIAE, by rw [htab]; rfl, (fun _ h9 => nomatch h9), rfl, by decide, wall (by decide +kernel) rfl, by rw [e0]; exact gCast1 hC, fun q9 => ?_⟩
      obtain ⟨σ1, eσ⟩ : ∃ y, y = z.2.2 := ⟨_, rfl⟩
      rw [← eσ] at hf ⊢
      refine G_astore_n (q := 13) (lv' := [(3, .ref q9), (0, .ref (eB E + 0)), (1, .int x1), (2, .ref (eB E + 605))]) hC dL_pass_12 rfl (by decide) rfl ?_
      refine G_iconst (q := 14) hC dL_pass_13 rfl ic_1 ?_
      exact G_iretL hC hf rfl (Nat.le_of_ble_eq_true rfl) (Nat.le_of_ble_eq_true rfl) dL_pass_14
    have hf := (if_neg e0).symm.trans hf
    cases hf

theorem m_L_pass {l : Launch} {fu : Nat} {E : gE} {w : Nat → Int64} {σ : gSt} {x1 : Int32} {r : Int32 × (Nat → Int64) × gSt} (hflag : l.stackTraces = false) (hf : f_L_pass fu w σ x1 = some r) : gML l yL_pass cL_pass 4 hh_L_pass rm_L_pass E w σ [.ref (eB E + 0), .int x1, .ref (eB E + 605)] r :=
  gML_of (by decide +kernel) (Nat.le_of_ble_eq_true rfl) (fun p e s m args below meth c hC hN htab => t_L_pass hC hN htab hflag hf)
abbrev rm_L_print : Room := { frames := 8, cells := 2, slots := 12, locals := 137 }
def hh_L_print : List (Nat × Nat × Nat × Nat) := [(0, 9, 12, 25), (0, 9, 15, 15)]
def f_L_print (fu : Nat) (w : Nat → Int64) (σ : gSt) (x1 : Int32) : Option (Int32 × (Nat → Int64) × gSt) :=
  bC (f_X6_print fu σ x1) (fun v σ1 => some ((0 : Int32), (vp_updL w 0 ((v).toInt64)), σ1)) (fun c σ1 => if c = 3 then (some ((1 : Int32), w, σ1)) else (if c = 2 then (some ((2 : Int32), w, σ1)) else (none)))
set_option maxRecDepth 100000 in
theorem t_L_print {p : Program} {l : Launch} {e : Env} {s : State} {m : MethodId} {args : Array Value} {below : List Frame} {meth : Method} {c : Code} {E : gE} {w : Nat → Int64} {fu : Nat} {r : Int32 × (Nat → Int64) × gSt} (hC : gCx p s m args meth c cL_print 4 RL (some .int) E) (hN : gN s) (htab : c.exceptionTable.toList = tableOf hh_L_print) (hflag : l.stackTraces = false) {σ : gSt} {x1 : Int32} (hf : f_L_print fu w σ x1 = some r) : G p l e rm_L_print s m args below meth c 4 0 0 (MQ below (gQL E r) args s rm_L_print.cells rm_L_print.slots (fun q => eB E ≤ q)) E w σ 0 [(0, .ref (eB E + 0)), (1, .int x1), (2, .ref (eB E + 605))] [] := by
  unfold f_L_print at hf
  refine G_aload_n (q := 1) hC dL_print_0 rfl rfl ?_
  refine G_iconst (q := 2) hC dL_print_1 rfl ic_0 ?_
  refine G_aload_n (q := 3) hC dL_print_2 rfl rfl ?_
  refine G_iload_n (q := 4) hC dL_print_3 rfl rfl ?_
  obtain ⟨z, hm, hf, hx⟩ := bC_ok hf
  refine G_callC (q := 7) (As := [.int x1]) (st := [.int (0 : Int32), .ref (eB E + 605)]) (st' := [.int z.2.1, .int (0 : Int32), .ref (eB E + 605)]) hC dL_print_4 rfl (m_X6_print hflag hm) (by decide) cell_M rfl rfl (gw_X6_print _ _) (wall (by decide +kernel) rfl) rfl ⟨Nat.le_of_ble_eq_true rfl, Nat.le_of_ble_eq_true rfl⟩ (Nat.le_of_ble_eq_true rfl) ⟨Nat.le_of_ble_eq_true rfl, Nat.le_of_ble_eq_true rfl⟩ rfl (fun z0 => ?_) (fun z0 => ?_)
  · have hf := hf z0
    obtain ⟨v, ev⟩ : ∃ y, y = z.2.1 := ⟨_, rfl⟩
    obtain ⟨σ1, eσ⟩ : ∃ y, y = z.2.2 := ⟨_, rfl⟩
    rw [← eσ] at hf ⊢
    rw [← ev] at hf ⊢
    refine G_i2l (q := 8) hC dL_print_7 rfl ?_
    refine G_last (q := 9) hC dL_print_8 rfl ?_
    refine G_goto (tgt := 18) hC dL_print_9 (by decide) ?_
    refine G_iconst (q := 19) hC dL_print_18 rfl ic_0 ?_
    exact G_iretL hC hf rfl (Nat.le_of_ble_eq_true rfl) (Nat.le_of_ble_eq_true rfl) dL_print_19
  · have hf := hx z0
    clear hx
    by_cases e0 : z.1 = 3
    · have hf := (if_pos e0).symm.trans hf
      refine ⟨[], [⟨0, 9, 15, 15⟩], ⟨0, 9, 12, 25⟩, gIOE, by rw [htab]; rfl, (fun _ h9 => nomatch h9), rfl, by decide, wall (by decide +kernel) rfl, by rw [e0]; exact gCast3 hC, fun q9 => ?_⟩
      obtain ⟨σ1, eσ⟩ : ∃ y, y = z.2.2 := ⟨_, rfl⟩
      rw [← eσ] at hf ⊢
      refine G_astore_n (q := 13) (lv' := [(3, .ref q9), (0, .ref (eB E + 0)), (1, .int x1), (2, .ref (eB E + 605))]) hC dL_print_12 rfl (by decide) rfl ?_
      refine G_iconst (q := 14) hC dL_print_13 rfl ic_1 ?_
      exact G_iretL hC hf rfl (Nat.le_of_ble_eq_true rfl) (Nat.le_of_ble_eq_true rfl) dL_print_14
    have hf := (if_neg e0).symm.trans hf
    by_cases e1 : z.1 = 2
    · have hf := (if_pos e1).symm.trans hf
      refine ⟨[⟨0, 9, 12, 25⟩], [], ⟨0, 9, 15, 15⟩, gISE, by rw [htab]; rfl, (fun z9 h9 => by
        simp only [List.mem_cons, List.not_mem_nil, or_false] at h9
        subst h9
        exact ⟨by decide, gIOE, wall (by decide +kernel) rfl, by rw [e1]; exact hN (gISE, gIOE) (by decide +kernel)⟩), rfl, by decide, wall (by decide +kernel) rfl, by rw [e1]; exact gCast2 hC, fun q9 => ?_⟩
      obtain ⟨σ1, eσ⟩ : ∃ y, y = z.2.2 := ⟨_, rfl⟩
      rw [← eσ] at hf ⊢
      refine G_astore_n (q := 16) (lv' := [(3, .ref q9), (0, .ref (eB E + 0)), (1, .int x1), (2, .ref (eB E + 605))]) hC dL_print_15 rfl (by decide) rfl ?_
      refine G_iconst (q := 17) hC dL_print_16 rfl ic_2 ?_
      exact G_iretL hC hf rfl (Nat.le_of_ble_eq_true rfl) (Nat.le_of_ble_eq_true rfl) dL_print_17
    have hf := (if_neg e1).symm.trans hf
    cases hf

theorem m_L_print {l : Launch} {fu : Nat} {E : gE} {w : Nat → Int64} {σ : gSt} {x1 : Int32} {r : Int32 × (Nat → Int64) × gSt} (hflag : l.stackTraces = false) (hf : f_L_print fu w σ x1 = some r) : gML l yL_print cL_print 4 hh_L_print rm_L_print E w σ [.ref (eB E + 0), .int x1, .ref (eB E + 605)] r :=
  gML_of (by decide +kernel) (Nat.le_of_ble_eq_true rfl) (fun p e s m args below meth c hC hN htab => t_L_print hC hN htab hflag hf)
abbrev rm_L_supplement : Room := { frames := 7, cells := 1, slots := 6, locals := 137 }
def hh_L_supplement : List (Nat × Nat × Nat × Nat) := [(0, 8, 11, 15)]
def f_L_supplement (fu : Nat) (w : Nat → Int64) (σ : gSt)  : Option (Int32 × (Nat → Int64) × gSt) :=
  bC (f_X6_supplement fu σ ) (fun v σ1 => some ((0 : Int32), (vp_updL w 0 ((v).toInt64)), σ1)) (fun c σ1 => if c = 2 then (some ((1 : Int32), w, σ1)) else (none))
set_option maxRecDepth 100000 in
theorem t_L_supplement {p : Program} {l : Launch} {e : Env} {s : State} {m : MethodId} {args : Array Value} {below : List Frame} {meth : Method} {c : Code} {E : gE} {w : Nat → Int64} {fu : Nat} {r : Int32 × (Nat → Int64) × gSt} (hC : gCx p s m args meth c cL_supplement 3 RL (some .int) E) (hN : gN s) (htab : c.exceptionTable.toList = tableOf hh_L_supplement) (hflag : l.stackTraces = false) {σ : gSt}  (hf : f_L_supplement fu w σ  = some r) : G p l e rm_L_supplement s m args below meth c 3 0 0 (MQ below (gQL E r) args s rm_L_supplement.cells rm_L_supplement.slots (fun q => eB E ≤ q)) E w σ 0 [(0, .ref (eB E + 0)), (1, .ref (eB E + 605))] [] := by
  unfold f_L_supplement at hf
  refine G_aload_n (q := 1) hC dL_supplement_0 rfl rfl ?_
  refine G_iconst (q := 2) hC dL_supplement_1 rfl ic_0 ?_
  refine G_aload_n (q := 3) hC dL_supplement_2 rfl rfl ?_
  obtain ⟨z, hm, hf, hx⟩ := bC_ok hf
  refine G_callC (q := 6) (As := []) (st := [.int (0 : Int32), .ref (eB E + 605)]) (st' := [.int z.2.1, .int (0 : Int32), .ref (eB E + 605)]) hC dL_supplement_3 rfl (m_X6_supplement hflag hm) (by decide) cell_M rfl rfl (gw_X6_supplement _ _) (wall (by decide +kernel) rfl) rfl ⟨Nat.le_of_ble_eq_true rfl, Nat.le_of_ble_eq_true rfl⟩ (Nat.le_of_ble_eq_true rfl) ⟨Nat.le_of_ble_eq_true rfl, Nat.le_of_ble_eq_true rfl⟩ rfl (fun z0 => ?_) (fun z0 => ?_)
  · have hf := hf z0
    obtain ⟨v, ev⟩ : ∃ y, y = z.2.1 := ⟨_, rfl⟩
    obtain ⟨σ1, eσ⟩ : ∃ y, y = z.2.2 := ⟨_, rfl⟩
    rw [← eσ] at hf ⊢
    rw [← ev] at hf ⊢
    refine G_i2l (q := 7) hC dL_supplement_6 rfl ?_
    refine G_last (q := 8) hC dL_supplement_7 rfl ?_
    refine G_goto (tgt := 14) hC dL_supplement_8 (by decide) ?_
    refine G_iconst (q := 15) hC dL_supplement_14 rfl ic_0 ?_
    exact G_iretL hC hf rfl (Nat.le_of_ble_eq_true rfl) (Nat.le_of_ble_eq_true rfl) dL_supplement_15
  · have hf := hx z0
    clear hx
    by_cases e0 : z.1 = 2
    · have hf := (if_pos e0).symm.trans hf
      refine ⟨[], [], ⟨0, 8, 11, 15⟩, gISE, by rw [htab]; rfl, (fun _ h9 => nomatch h9), rfl, by decide, wall (by decide +kernel) rfl, by rw [e0]; exact gCast2 hC, fun q9 => ?_⟩
      obtain ⟨σ1, eσ⟩ : ∃ y, y = z.2.2 := ⟨_, rfl⟩
      rw [← eσ] at hf ⊢
      refine G_astore_n (q := 12) (lv' := [(2, .ref q9), (0, .ref (eB E + 0)), (1, .ref (eB E + 605))]) hC dL_supplement_11 rfl (by decide) rfl ?_
      refine G_iconst (q := 13) hC dL_supplement_12 rfl ic_1 ?_
      exact G_iretL hC hf rfl (Nat.le_of_ble_eq_true rfl) (Nat.le_of_ble_eq_true rfl) dL_supplement_13
    have hf := (if_neg e0).symm.trans hf
    cases hf

theorem m_L_supplement {l : Launch} {fu : Nat} {E : gE} {w : Nat → Int64} {σ : gSt}  {r : Int32 × (Nat → Int64) × gSt} (hflag : l.stackTraces = false) (hf : f_L_supplement fu w σ  = some r) : gML l yL_supplement cL_supplement 3 hh_L_supplement rm_L_supplement E w σ [.ref (eB E + 0), .ref (eB E + 605)] r :=
  gML_of (by decide +kernel) (Nat.le_of_ble_eq_true rfl) (fun p e s m args below meth c hC hN htab => t_L_supplement hC hN htab hflag hf)
abbrev rm_L_at : Room := { frames := 7, cells := 1, slots := 6, locals := 112 }
def hh_L_at : List (Nat × Nat × Nat × Nat) := [(0, 9, 12, 25)]
def f_L_at (fu : Nat) (w : Nat → Int64) (σ : gSt) (x1 : Int32) : Option (Int32 × (Nat → Int64) × gSt) :=
  bC (f_X6_at fu σ x1) (fun v σ1 => some ((0 : Int32), (vp_updL w 0 ((v).toInt64)), σ1)) (fun c σ1 => if c = 3 then (some ((1 : Int32), w, σ1)) else (none))
set_option maxRecDepth 100000 in
theorem t_L_at {p : Program} {l : Launch} {e : Env} {s : State} {m : MethodId} {args : Array Value} {below : List Frame} {meth : Method} {c : Code} {E : gE} {w : Nat → Int64} {fu : Nat} {r : Int32 × (Nat → Int64) × gSt} (hC : gCx p s m args meth c cL_at 4 RL (some .int) E) (hN : gN s) (htab : c.exceptionTable.toList = tableOf hh_L_at) (hflag : l.stackTraces = false) {σ : gSt} {x1 : Int32} (hf : f_L_at fu w σ x1 = some r) : G p l e rm_L_at s m args below meth c 4 0 0 (MQ below (gQL E r) args s rm_L_at.cells rm_L_at.slots (fun q => eB E ≤ q)) E w σ 0 [(0, .ref (eB E + 0)), (1, .int x1), (2, .ref (eB E + 605))] [] := by
  unfold f_L_at at hf
  refine G_aload_n (q := 1) hC dL_at_0 rfl rfl ?_
  refine G_iconst (q := 2) hC dL_at_1 rfl ic_0 ?_
  refine G_aload_n (q := 3) hC dL_at_2 rfl rfl ?_
  refine G_iload_n (q := 4) hC dL_at_3 rfl rfl ?_
  obtain ⟨z, hm, hf, hx⟩ := bC_ok hf
  refine G_callC (q := 7) (As := [.int x1]) (st := [.int (0 : Int32), .ref (eB E + 605)]) (st' := [.int z.2.1, .int (0 : Int32), .ref (eB E + 605)]) hC dL_at_4 rfl (m_X6_at hflag hm) (by decide) cell_M rfl rfl (gw_X6_at _ _) (wall (by decide +kernel) rfl) rfl ⟨Nat.le_of_ble_eq_true rfl, Nat.le_of_ble_eq_true rfl⟩ (Nat.le_of_ble_eq_true rfl) ⟨Nat.le_of_ble_eq_true rfl, Nat.le_of_ble_eq_true rfl⟩ rfl (fun z0 => ?_) (fun z0 => ?_)
  · have hf := hf z0
    obtain ⟨v, ev⟩ : ∃ y, y = z.2.1 := ⟨_, rfl⟩
    obtain ⟨σ1, eσ⟩ : ∃ y, y = z.2.2 := ⟨_, rfl⟩
    rw [← eσ] at hf ⊢
    rw [← ev] at hf ⊢
    refine G_i2l (q := 8) hC dL_at_7 rfl ?_
    refine G_last (q := 9) hC dL_at_8 rfl ?_
    refine G_goto (tgt := 15) hC dL_at_9 (by decide) ?_
    refine G_iconst (q := 16) hC dL_at_15 rfl ic_0 ?_
    exact G_iretL hC hf rfl (Nat.le_of_ble_eq_true rfl) (Nat.le_of_ble_eq_true rfl) dL_at_16
  · have hf := hx z0
    clear hx
    by_cases e0 : z.1 = 3
    · have hf := (if_pos e0).symm.trans hf
      refine ⟨[], [], ⟨0, 9, 12, 25⟩, gIOE, by rw [htab]; rfl, (fun _ h9 => nomatch h9), rfl, by decide, wall (by decide +kernel) rfl, by rw [e0]; exact gCast3 hC, fun q9 => ?_⟩
      obtain ⟨σ1, eσ⟩ : ∃ y, y = z.2.2 := ⟨_, rfl⟩
      rw [← eσ] at hf ⊢
      refine G_astore_n (q := 13) (lv' := [(3, .ref q9), (0, .ref (eB E + 0)), (1, .int x1), (2, .ref (eB E + 605))]) hC dL_at_12 rfl (by decide) rfl ?_
      refine G_iconst (q := 14) hC dL_at_13 rfl ic_1 ?_
      exact G_iretL hC hf rfl (Nat.le_of_ble_eq_true rfl) (Nat.le_of_ble_eq_true rfl) dL_at_14
    have hf := (if_neg e0).symm.trans hf
    cases hf

theorem m_L_at {l : Launch} {fu : Nat} {E : gE} {w : Nat → Int64} {σ : gSt} {x1 : Int32} {r : Int32 × (Nat → Int64) × gSt} (hflag : l.stackTraces = false) (hf : f_L_at fu w σ x1 = some r) : gML l yL_at cL_at 4 hh_L_at rm_L_at E w σ [.ref (eB E + 0), .int x1, .ref (eB E + 605)] r :=
  gML_of (by decide +kernel) (Nat.le_of_ble_eq_true rfl) (fun p e s m args below meth c hC hN htab => t_L_at hC hN htab hflag hf)
abbrev rm_L_about : Room := { frames := 8, cells := 2, slots := 12, locals := 134 }
def hh_L_about : List (Nat × Nat × Nat × Nat) := [(0, 10, 13, 25), (0, 10, 17, 13)]
def f_L_about (fu : Nat) (w : Nat → Int64) (σ : gSt) (x1 : Int32) (x2 : Int32) : Option (Int32 × (Nat → Int64) × gSt) :=
  bC (f_X6_about fu σ x1 x2) (fun v σ1 => some ((0 : Int32), (vp_updL w 0 ((v).toInt64)), σ1)) (fun c σ1 => if c = 3 then (some ((1 : Int32), w, σ1)) else (if c = 1 then (some ((2 : Int32), w, σ1)) else (none)))
set_option maxRecDepth 100000 in
theorem t_L_about {p : Program} {l : Launch} {e : Env} {s : State} {m : MethodId} {args : Array Value} {below : List Frame} {meth : Method} {c : Code} {E : gE} {w : Nat → Int64} {fu : Nat} {r : Int32 × (Nat → Int64) × gSt} (hC : gCx p s m args meth c cL_about 5 RL (some .int) E) (hN : gN s) (htab : c.exceptionTable.toList = tableOf hh_L_about) (hflag : l.stackTraces = false) {σ : gSt} {x1 : Int32} {x2 : Int32} (hf : f_L_about fu w σ x1 x2 = some r) : G p l e rm_L_about s m args below meth c 5 0 0 (MQ below (gQL E r) args s rm_L_about.cells rm_L_about.slots (fun q => eB E ≤ q)) E w σ 0 [(0, .ref (eB E + 0)), (1, .int x1), (2, .int x2), (3, .ref (eB E + 605))] [] := by
  unfold f_L_about at hf
  refine G_aload_n (q := 1) hC dL_about_0 rfl rfl ?_
  refine G_iconst (q := 2) hC dL_about_1 rfl ic_0 ?_
  refine G_aload_n (q := 3) hC dL_about_2 rfl rfl ?_
  refine G_iload_n (q := 4) hC dL_about_3 rfl rfl ?_
  refine G_iload_n (q := 5) hC dL_about_4 rfl rfl ?_
  obtain ⟨z, hm, hf, hx⟩ := bC_ok hf
  refine G_callC (q := 8) (As := [.int x1, .int x2]) (st := [.int (0 : Int32), .ref (eB E + 605)]) (st' := [.int z.2.1, .int (0 : Int32), .ref (eB E + 605)]) hC dL_about_5 rfl (m_X6_about hflag hm) (by decide) cell_M rfl rfl (gw_X6_about _ _) (wall (by decide +kernel) rfl) rfl ⟨Nat.le_of_ble_eq_true rfl, Nat.le_of_ble_eq_true rfl⟩ (Nat.le_of_ble_eq_true rfl) ⟨Nat.le_of_ble_eq_true rfl, Nat.le_of_ble_eq_true rfl⟩ rfl (fun z0 => ?_) (fun z0 => ?_)
  · have hf := hf z0
    obtain ⟨v, ev⟩ : ∃ y, y = z.2.1 := ⟨_, rfl⟩
    obtain ⟨σ1, eσ⟩ : ∃ y, y = z.2.2 := ⟨_, rfl⟩
    rw [← eσ] at hf ⊢
    rw [← ev] at hf ⊢
    refine G_i2l (q := 9) hC dL_about_8 rfl ?_
    refine G_last (q := 10) hC dL_about_9 rfl ?_
    refine G_goto (tgt := 21) hC dL_about_10 (by decide) ?_
    refine G_iconst (q := 22) hC dL_about_21 rfl ic_0 ?_
    exact G_iretL hC hf rfl (Nat.le_of_ble_eq_true rfl) (Nat.le_of_ble_eq_true rfl) dL_about_22
  · have hf := hx z0
    clear hx
    by_cases e0 : z.1 = 3
    · have hf := (if_pos e0).symm.trans hf
      refine ⟨[], [⟨0, 10, 17, 13⟩], ⟨0, 10, 13, 25⟩, gIOE, by rw [htab]; rfl, (fun _ h9 => nomatch h9), rfl, by decide, wall (by decide +kernel) rfl, by rw [e0]; exact gCast3 hC, fun q9 => ?_⟩
      obtain ⟨σ1, eσ⟩ : ∃ y, y = z.2.2 := ⟨_, rfl⟩
      rw [← eσ] at hf ⊢
      refine G_astore (q := 15) (lv' := [(4, .ref q9), (0, .ref (eB E + 0)), (1, .int x1), (2, .int x2), (3, .ref (eB E + 605))]) hC dL_about_13 rfl (by decide) rfl ?_
      refine G_iconst (q := 16) hC dL_about_15 rfl ic_1 ?_
      exact G_iretL hC hf rfl (Nat.le_of_ble_eq_true rfl) (Nat.le_of_ble_eq_true rfl) dL_about_16
    have hf := (if_neg e0).symm.trans hf
    by_cases e1 : z.1 = 1
    · have hf := (if_pos e1).symm.trans hf
      refine ⟨[⟨0, 10, 13, 25⟩], [], ⟨0, 10, 17, 13⟩, gIAE, by rw [htab]; rfl, (fun z9 h9 => by
        simp only [List.mem_cons, List.not_mem_nil, or_false] at h9
        subst h9
        exact ⟨by decide, gIOE, wall (by decide +kernel) rfl, by rw [e1]; exact hN (gIAE, gIOE) (by decide +kernel)⟩), rfl, by decide, wall (by decide +kernel) rfl, by rw [e1]; exact gCast1 hC, fun q9 => ?_⟩
      obtain ⟨σ1, eσ⟩ : ∃ y, y = z.2.2 := ⟨_, rfl⟩
      rw [← eσ] at hf ⊢
      refine G_astore (q := 19) (lv' := [(4, .ref q9), (0, .ref (eB E + 0)), (1, .int x1), (2, .int x2), (3, .ref (eB E + 605))]) hC dL_about_17 rfl (by decide) rfl ?_
      refine G_iconst (q := 20) hC dL_about_19 rfl ic_2 ?_
      exact G_iretL hC hf rfl (Nat.le_of_ble_eq_true rfl) (Nat.le_of_ble_eq_true rfl) dL_about_20
    have hf := (if_neg e1).symm.trans hf
    cases hf

theorem m_L_about {l : Launch} {fu : Nat} {E : gE} {w : Nat → Int64} {σ : gSt} {x1 : Int32} {x2 : Int32} {r : Int32 × (Nat → Int64) × gSt} (hflag : l.stackTraces = false) (hf : f_L_about fu w σ x1 x2 = some r) : gML l yL_about cL_about 5 hh_L_about rm_L_about E w σ [.ref (eB E + 0), .int x1, .int x2, .ref (eB E + 605)] r :=
  gML_of (by decide +kernel) (Nat.le_of_ble_eq_true rfl) (fun p e s m args below meth c hC hN htab => t_L_about hC hN htab hflag hf)
abbrev rm_L_errata : Room := { frames := 8, cells := 1, slots := 6, locals := 132 }
def hh_L_errata : List (Nat × Nat × Nat × Nat) := [(0, 9, 12, 25)]
def f_L_errata (fu : Nat) (w : Nat → Int64) (σ : gSt) (x1 : Int32) : Option (Int32 × (Nat → Int64) × gSt) :=
  bC (f_X6_errata fu σ x1) (fun v σ1 => some ((0 : Int32), (vp_updL w 0 ((v).toInt64)), σ1)) (fun c σ1 => if c = 3 then (some ((1 : Int32), w, σ1)) else (none))
set_option maxRecDepth 100000 in
theorem t_L_errata {p : Program} {l : Launch} {e : Env} {s : State} {m : MethodId} {args : Array Value} {below : List Frame} {meth : Method} {c : Code} {E : gE} {w : Nat → Int64} {fu : Nat} {r : Int32 × (Nat → Int64) × gSt} (hC : gCx p s m args meth c cL_errata 4 RL (some .int) E) (hN : gN s) (htab : c.exceptionTable.toList = tableOf hh_L_errata) (hflag : l.stackTraces = false) {σ : gSt} {x1 : Int32} (hf : f_L_errata fu w σ x1 = some r) : G p l e rm_L_errata s m args below meth c 4 0 0 (MQ below (gQL E r) args s rm_L_errata.cells rm_L_errata.slots (fun q => eB E ≤ q)) E w σ 0 [(0, .ref (eB E + 0)), (1, .int x1), (2, .ref (eB E + 605))] [] := by
  unfold f_L_errata at hf
  refine G_aload_n (q := 1) hC dL_errata_0 rfl rfl ?_
  refine G_iconst (q := 2) hC dL_errata_1 rfl ic_0 ?_
  refine G_aload_n (q := 3) hC dL_errata_2 rfl rfl ?_
  refine G_iload_n (q := 4) hC dL_errata_3 rfl rfl ?_
  obtain ⟨z, hm, hf, hx⟩ := bC_ok hf
  refine G_callC (q := 7) (As := [.int x1]) (st := [.int (0 : Int32), .ref (eB E + 605)]) (st' := [.int z.2.1, .int (0 : Int32), .ref (eB E + 605)]) hC dL_errata_4 rfl (m_X6_errata hflag hm) (by decide) cell_M rfl rfl (gw_X6_errata _ _) (wall (by decide +kernel) rfl) rfl ⟨Nat.le_of_ble_eq_true rfl, Nat.le_of_ble_eq_true rfl⟩ (Nat.le_of_ble_eq_true rfl) ⟨Nat.le_of_ble_eq_true rfl, Nat.le_of_ble_eq_true rfl⟩ rfl (fun z0 => ?_) (fun z0 => ?_)
  · have hf := hf z0
    obtain ⟨v, ev⟩ : ∃ y, y = z.2.1 := ⟨_, rfl⟩
    obtain ⟨σ1, eσ⟩ : ∃ y, y = z.2.2 := ⟨_, rfl⟩
    rw [← eσ] at hf ⊢
    rw [← ev] at hf ⊢
    refine G_i2l (q := 8) hC dL_errata_7 rfl ?_
    refine G_last (q := 9) hC dL_errata_8 rfl ?_
    refine G_goto (tgt := 15) hC dL_errata_9 (by decide) ?_
    refine G_iconst (q := 16) hC dL_errata_15 rfl ic_0 ?_
    exact G_iretL hC hf rfl (Nat.le_of_ble_eq_true rfl) (Nat.le_of_ble_eq_true rfl) dL_errata_16
  · have hf := hx z0
    clear hx
    by_cases e0 : z.1 = 3
    · have hf := (if_pos e0).symm.trans hf
      refine ⟨[], [], ⟨0, 9, 12, 25⟩, gIOE, by rw [htab]; rfl, (fun _ h9 => nomatch h9), rfl, by decide, wall (by decide +kernel) rfl, by rw [e0]; exact gCast3 hC, fun q9 => ?_⟩
      obtain ⟨σ1, eσ⟩ : ∃ y, y = z.2.2 := ⟨_, rfl⟩
      rw [← eσ] at hf ⊢
      refine G_astore_n (q := 13) (lv' := [(3, .ref q9), (0, .ref (eB E + 0)), (1, .int x1), (2, .ref (eB E + 605))]) hC dL_errata_12 rfl (by decide) rfl ?_
      refine G_iconst (q := 14) hC dL_errata_13 rfl ic_1 ?_
      exact G_iretL hC hf rfl (Nat.le_of_ble_eq_true rfl) (Nat.le_of_ble_eq_true rfl) dL_errata_14
    have hf := (if_neg e0).symm.trans hf
    cases hf

theorem m_L_errata {l : Launch} {fu : Nat} {E : gE} {w : Nat → Int64} {σ : gSt} {x1 : Int32} {r : Int32 × (Nat → Int64) × gSt} (hflag : l.stackTraces = false) (hf : f_L_errata fu w σ x1 = some r) : gML l yL_errata cL_errata 4 hh_L_errata rm_L_errata E w σ [.ref (eB E + 0), .int x1, .ref (eB E + 605)] r :=
  gML_of (by decide +kernel) (Nat.le_of_ble_eq_true rfl) (fun p e s m args below meth c hC hN htab => t_L_errata hC hN htab hflag hf)
abbrev rm_L_synopsis : Room := { frames := 8, cells := 1, slots := 6, locals := 133 }
def hh_L_synopsis : List (Nat × Nat × Nat × Nat) := [(0, 9, 12, 25)]
def f_L_synopsis (fu : Nat) (w : Nat → Int64) (σ : gSt) (x1 : Int32) : Option (Int32 × (Nat → Int64) × gSt) :=
  bC (f_X6_synopsis fu σ x1) (fun v σ1 => some ((0 : Int32), (vp_updL w 0 ((v).toInt64)), σ1)) (fun c σ1 => if c = 3 then (some ((1 : Int32), w, σ1)) else (none))
set_option maxRecDepth 100000 in
theorem t_L_synopsis {p : Program} {l : Launch} {e : Env} {s : State} {m : MethodId} {args : Array Value} {below : List Frame} {meth : Method} {c : Code} {E : gE} {w : Nat → Int64} {fu : Nat} {r : Int32 × (Nat → Int64) × gSt} (hC : gCx p s m args meth c cL_synopsis 4 RL (some .int) E) (hN : gN s) (htab : c.exceptionTable.toList = tableOf hh_L_synopsis) (hflag : l.stackTraces = false) {σ : gSt} {x1 : Int32} (hf : f_L_synopsis fu w σ x1 = some r) : G p l e rm_L_synopsis s m args below meth c 4 0 0 (MQ below (gQL E r) args s rm_L_synopsis.cells rm_L_synopsis.slots (fun q => eB E ≤ q)) E w σ 0 [(0, .ref (eB E + 0)), (1, .int x1), (2, .ref (eB E + 605))] [] := by
  unfold f_L_synopsis at hf
  refine G_aload_n (q := 1) hC dL_synopsis_0 rfl rfl ?_
  refine G_iconst (q := 2) hC dL_synopsis_1 rfl ic_0 ?_
  refine G_aload_n (q := 3) hC dL_synopsis_2 rfl rfl ?_
  refine G_iload_n (q := 4) hC dL_synopsis_3 rfl rfl ?_
  obtain ⟨z, hm, hf, hx⟩ := bC_ok hf
  refine G_callC (q := 7) (As := [.int x1]) (st := [.int (0 : Int32), .ref (eB E + 605)]) (st' := [.int z.2.1, .int (0 : Int32), .ref (eB E + 605)]) hC dL_synopsis_4 rfl (m_X6_synopsis hflag hm) (by decide) cell_M rfl rfl (gw_X6_synopsis _ _) (wall (by decide +kernel) rfl) rfl ⟨Nat.le_of_ble_eq_true rfl, Nat.le_of_ble_eq_true rfl⟩ (Nat.le_of_ble_eq_true rfl) ⟨Nat.le_of_ble_eq_true rfl, Nat.le_of_ble_eq_true rfl⟩ rfl (fun z0 => ?_) (fun z0 => ?_)
  · have hf := hf z0
    obtain ⟨v, ev⟩ : ∃ y, y = z.2.1 := ⟨_, rfl⟩
    obtain ⟨σ1, eσ⟩ : ∃ y, y = z.2.2 := ⟨_, rfl⟩
    rw [← eσ] at hf ⊢
    rw [← ev] at hf ⊢
    refine G_i2l (q := 8) hC dL_synopsis_7 rfl ?_
    refine G_last (q := 9) hC dL_synopsis_8 rfl ?_
    refine G_goto (tgt := 15) hC dL_synopsis_9 (by decide) ?_
    refine G_iconst (q := 16) hC dL_synopsis_15 rfl ic_0 ?_
    exact G_iretL hC hf rfl (Nat.le_of_ble_eq_true rfl) (Nat.le_of_ble_eq_true rfl) dL_synopsis_16
  · have hf := hx z0
    clear hx
    by_cases e0 : z.1 = 3
    · have hf := (if_pos e0).symm.trans hf
      refine ⟨[], [], ⟨0, 9, 12, 25⟩, gIOE, by rw [htab]; rfl, (fun _ h9 => nomatch h9), rfl, by decide, wall (by decide +kernel) rfl, by rw [e0]; exact gCast3 hC, fun q9 => ?_⟩
      obtain ⟨σ1, eσ⟩ : ∃ y, y = z.2.2 := ⟨_, rfl⟩
      rw [← eσ] at hf ⊢
      refine G_astore_n (q := 13) (lv' := [(3, .ref q9), (0, .ref (eB E + 0)), (1, .int x1), (2, .ref (eB E + 605))]) hC dL_synopsis_12 rfl (by decide) rfl ?_
      refine G_iconst (q := 14) hC dL_synopsis_13 rfl ic_1 ?_
      exact G_iretL hC hf rfl (Nat.le_of_ble_eq_true rfl) (Nat.le_of_ble_eq_true rfl) dL_synopsis_14
    have hf := (if_neg e0).symm.trans hf
    cases hf

theorem m_L_synopsis {l : Launch} {fu : Nat} {E : gE} {w : Nat → Int64} {σ : gSt} {x1 : Int32} {r : Int32 × (Nat → Int64) × gSt} (hflag : l.stackTraces = false) (hf : f_L_synopsis fu w σ x1 = some r) : gML l yL_synopsis cL_synopsis 4 hh_L_synopsis rm_L_synopsis E w σ [.ref (eB E + 0), .int x1, .ref (eB E + 605)] r :=
  gML_of (by decide +kernel) (Nat.le_of_ble_eq_true rfl) (fun p e s m args below meth c hC hN htab => t_L_synopsis hC hN htab hflag hf)

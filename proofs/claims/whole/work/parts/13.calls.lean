/-! contracts over the store; entries, ends, calls, throws -/
def gRet (k : Nat) (E : gE) (v : Int32) : Option Value := match k with
  | 0 => none
  | 1 => some (.int v)
  | _ => some (.ref (eF E v.toNatClampNeg))
def gA (E : gE) : Nat → Prop := fun q => eB E ≤ q
def gP (E : gE) (w : Nat → Int64) (σ : gSt) (As : List Value) : Array Value → State → Prop := va_Pc As (fun U => va_P (eD E) vwCl (gW E w σ) U.heap ∧ gK E U)
def gQ (E : gE) (w : Nat → Int64) (k : Nat) (r : Int32 × gSt) : Array Value → State → Outcome → State → Prop := fun _ st o t => o = .returned (gRet k E r.1) ∧ va_P (eD E) vwCl (gW E w r.2) t.heap ∧ va_F (fun q => eB E ≤ q) st t
/-- a method that returns -/
def gM (l : Launch) (y : MethodName) (cc : ByteArray) (nL : Nat) (ret : Option FieldType) (rm : Room) (k : Nat) (E : gE) (w : Nat → Int64) (σ : gSt) (As : List Value) (r : Int32 × gSt) : Prop :=
  Met l y (Cond.code y cc nL ret :: WALL) rm (gP E w σ As) (gQ E w k r) 0 0 (fun q => eB E ≤ q)
theorem gP_blind {E : gE} {w : Nat → Int64} {σ : gSt} {As : List Value} : FrameBlind (gP E w σ As) := by
  intro a U g mk h
  obtain ⟨h1, h2, h3⟩ := h
  exact ⟨h1, h2, gK.same (U := U.calling g mk a) h3 rfl rfl⟩
theorem wall_good {y : MethodName} {cc : ByteArray} {nL : Nat} {ret : Option FieldType} (h : Cond.code y cc nL ret ∈ WALL) : GoodIn WALL (Cond.code y cc nL ret :: WALL) := by
  have k : ∀ w ∈ WALL, w ∈ WALL ∧ ((w.onTables && w.keeps) = true ∨ ∃ ty, w = .arrayClass ty) := fun w hw => ⟨hw, good_of_word (List.mem_filter.mp hw).2⟩
  intro w hw
  rcases List.mem_cons.mp hw with rfl | hw
  · exact k _ h
  · exact k _ hw
/-- exceptions: 1 illegal argument, 2 illegal state, 3 out of bounds -/
def gExN : Nat → String
  | 1 => gIAE
  | 2 => gISE
  | _ => gIOE
def gQX (E : gE) (w : Nat → Int64) (k : Nat) (r : Nat × Int32 × gSt) : Array Value → State → Outcome → State → Prop := fun _ st o t => r.1 = 0 ∧ o = .returned (gRet k E r.2.1) ∧ va_P (eD E) vwCl (gW E w r.2.2) t.heap ∧ va_F (fun q => eB E ≤ q) st t
def gXC (E : gE) (w : Nat → Int64) (r : Nat × Int32 × gSt) : String → State → State → Prop := fun En st t => ¬ r.1 = 0 ∧ En = gExN r.1 ∧ va_P (eD E) vwCl (gW E w r.2.2) t.heap ∧ va_F (fun q => eB E ≤ q) st t
/-- a method that returns or throws -/
def gMX (l : Launch) (y : MethodName) (cc : ByteArray) (nL : Nat) (ret : Option FieldType) (rm : Room) (k : Nat) (E : gE) (w : Nat → Int64) (σ : gSt) (As : List Value) (r : Nat × Int32 × gSt) : Prop :=
  vx_Met l y (Cond.code y cc nL ret :: WALL) rm (gP E w σ As) (gQX E w k r) (gXC E w r) rm.cells rm.slots (fun q => eB E ≤ q)
def bx (m : Option (Nat × Int32 × gSt)) (k : Int32 → gSt → Option (Nat × Int32 × gSt)) : Option (Nat × Int32 × gSt) := match m with
  | none => none
  | some r => if r.1 = 0 then k r.2.1 r.2.2 else some r
theorem bx_ok {m : Option (Nat × Int32 × gSt)} {k : Int32 → gSt → Option (Nat × Int32 × gSt)} {r : Nat × Int32 × gSt} (h : bx m k = some r) : ∃ z, m = some z ∧ (z.1 = 0 → k z.2.1 z.2.2 = some r) ∧ (¬ z.1 = 0 → z = r) := by
  cases m with
  | none => cases h
  | some z =>
    refine ⟨z, rfl, fun h0 => ?_, fun h0 => ?_⟩
    · have h1 : (if z.1 = 0 then k z.2.1 z.2.2 else some z) = some r := h
      rwa [if_pos h0] at h1
    · have h1 : (if z.1 = 0 then k z.2.1 z.2.2 else some z) = some r := h
      rw [if_neg h0] at h1
      exact Option.some.inj h1
section GK
variable {p : Program} {l : Launch} {e : Env} {R : Room} {s : State} {m : MethodId} {args : Array Value} {below : List Frame} {meth : Method} {c : Code} {nL cells slots : Nat} {Q : State → Prop} {E : gE} {w : Nat → Int64} {σ : gSt} {pc q : Nat} {lv lv' : List (Nat × Value)} {st st' : List Value} {cc : ByteArray} {own : String} {ret : Option FieldType}
theorem gM_of {y : MethodName} {rm : Room} {k : Nat} {As : List Value} {r : Int32 × gSt} (hy : plainName y.cls = true) (hlen : (lg_sl As).length ≤ nL)
    (body : ∀ (p : Program) (e : Env) (s : State) (m : MethodId) (args : Array Value) (below : List Frame) (meth : Method) (c : Code), gCx p s m args meth c cc nL y.cls ret E →
      G p l e rm s m args below meth c nL 0 0 (MQ below (gQ E w k r) args s 0 0 (fun q => eB E ≤ q)) E w σ 0 (lv_args 0 As) []) : gM l y cc nL ret rm k E w σ As r := by
  refine Met.ofW (cc := cc) (maxL := nL) (ret := ret) hy rfl ?_
  intro p e s m args below meth c s₁ B hml hv
  obtain ⟨rfl, hP, hK⟩ := hv
  have hts := atoms_spec (ws := Cond.code y cc nL ret :: WALL) B.pre
  have hC : gCx p s m As.toArray meth c cc nL y.cls ret E := ⟨B.exec, B.bytes, hml, findClass_of_methodNamed B.named, fun w hw => hts w (List.mem_cons_of_mem _ hw), hK, B.returns, B.notSynchronized⟩
  have h := body p e s m _ below meth c hC s.heap [] _ hP va_S.rf (lv_entry As hlen)
  rw [lg_entry_eq]
  exact h
theorem G_iret (hC : gCx p s m args meth c cc nL own ret E) {v : Int32} {ty : FieldType} {r : Int32 × gSt} (hr : some (v, σ) = some r) (ht : ret = some ty) (hn : narrow ty (.int v) = .int v) (d : decode cc pc = .ok (.ireturn, 1)) :
    G p l e R s m args below meth c nL cells slots (MQ below (gQ E w 1 r) args s cells slots (fun q => eB E ≤ q)) E w σ pc lv [.int v] := by
  intro H locs ls hP hS hl
  cases hr
  exact W.zret hC.1 hC.2.1 (hC.2.2.2.2.2.2.1.trans ht) hn (fun t ht hW => ⟨rfl, by rw [ht]; exact hP, hS.F ht⟩) hS.2.2 d hC.2.2.2.2.2.2.2
theorem G_vret (hC : gCx p s m args meth c cc nL own ret E) {v : Int32} {r : Int32 × gSt} (hr : some (v, σ) = some r) (ht : ret = none) (d : decode cc pc = .ok (.return_, 1)) :
    G p l e R s m args below meth c nL cells slots (MQ below (gQ E w 0 r) args s cells slots (fun q => eB E ≤ q)) E w σ pc lv [] := by
  intro H locs ls hP hS hl
  cases hr
  exact W.vret hC.1 hC.2.1 (hC.2.2.2.2.2.2.1.trans ht) (fun t ht hW => ⟨rfl, by rw [ht]; exact hP, hS.F ht⟩) hS.2.2 d hC.2.2.2.2.2.2.2
theorem G_aret (hC : gCx p s m args meth c cc nL own ret E) {v : Int32} {n : Nat} {nm : String} {r : Int32 × gSt} (hr : some (v, σ) = some r) (hv : v.toNatClampNeg = n) (ht : ret = some (.object nm)) (d : decode cc pc = .ok (.areturn, 1)) :
    G p l e R s m args below meth c nL cells slots (MQ below (gQ E w 2 r) args s cells slots (fun q => eB E ≤ q)) E w σ pc lv [.ref (eF E n)] := by
  intro H locs ls hP hS hl
  cases hr
  subst hv
  exact W.aret hC.1 hC.2.1 (hC.2.2.2.2.2.2.1.trans ht) (Or.inl ⟨_, rfl⟩) (Or.inr ⟨_, rfl⟩) (fun t ht hW => ⟨rfl, by rw [ht]; exact hP, hS.F ht⟩) hS.2.2 d hC.2.2.2.2.2.2.2
theorem G_run {H : Heap} {locs : List Loc} {ls : Array Slot} {a : Array Value} {k : Nat} {v : Int32} {σ1 : gSt} {st0 : List Value} (hr : va_Run p l e R s m args below meth c H locs cells slots 0 0 (F0 m pc ls st0) st (gQ E w k (v, σ1) a) (fun q => eB E ≤ q))
    (hS : va_S (fun q => eB E ≤ q) s.heap H locs) (hl : lv_has ls nL lv) (hst : (gRet k E v).toList ++ st = st') (kk : G p l e R s m args below meth c nL cells slots Q E w σ1 (pc + 3) lv st') : W p l e R s m args below meth c H locs cells slots Q (F0 m pc ls st0) := by
  subst hst
  intro T hT X
  obtain ⟨v', st₀, t, T', L, h0, X', hL, e1, e2, ⟨hv, hP1, hz, hk⟩, stp⟩ := hr T hT X
  cases hv
  rw [h0] at hz hk
  obtain ⟨t2, a1, b1⟩ := kk T'.heap (locs ++ L) ls (by rw [e1]; exact hP1)
    ⟨Nat.le_trans hS.1 (by rw [e1]; exact hz), fun q h1 h2 => by rw [e1, hk q (Nat.lt_of_lt_of_le h1 hS.1) h2]; exact hS.2.1 q h1 h2, fun q hq => by
      rcases List.mem_append.mp hq with h | h
      · exact hS.2.2 q h
      · exact hL q h⟩ hl T' rfl X'
  exact ⟨t2, stp t2 a1, b1⟩
/-- what a call's words are -/
def gcV (own : String) (idx : Nat) (C : String) (y : MethodName) (cc : ByteArray) (nL : Nat) (ret : Option FieldType) (n : Nat) : Prop :=
  Cond.code y cc nL ret ∈ WALL ∧ Cond.instanceMethod y ∈ WALL ∧ Cond.selects C y y ∈ WALL ∧ Cond.initialized y.cls ∈ WALL ∧ (y.cls ≠ "java/lang/invoke/MethodHandle" ∧ y.cls ≠ "java/lang/invoke/VarHandle" ∧ (parseMethodDescriptor y.desc).map (fun d => d.parameters.length) = some n)
def gcS (y : MethodName) (cc : ByteArray) (nL : Nat) (ret : Option FieldType) (n : Nat) : Prop :=
  Cond.code y cc nL ret ∈ WALL ∧ Cond.static y ∈ WALL ∧ Cond.initialized y.cls ∈ WALL ∧ (y.cls ≠ "java/lang/invoke/MethodHandle" ∧ y.cls ≠ "java/lang/invoke/VarHandle" ∧ (parseMethodDescriptor y.desc).map (fun d => d.parameters.length) = some n)
theorem gFix (hC : gCx p s m args meth c cc nL own ret E) : CallFix p m c cc nL s args WALL own := ⟨hC.1, hC.2.1, hC.2.2.1, hC.2.2.2.1, hC.2.2.2.2.1⟩
theorem gPre {H : Heap} {locs : List Loc} {a : Array Value} {As : List Value} (hK : gK E s) (hP : va_P (eD E) vwCl (gW E w σ) H) (hS : va_S (fun q => eB E ≤ q) s.heap H locs) (ha : a = As.toArray) : ∀ U : State, U.heap = H → s.WarmedH U.vm → gP E w σ As a U :=
  fun U hU hW => ⟨ha, by rw [hU]; exact hP, hK.warm hW hU hS⟩
theorem G_callV {y : MethodName} {cc' : ByteArray} {nL' : Nat} {ret' : Option FieldType} {rm' : Room} {k : Nat} {As : List Value} {o idx n ci N : Nat} {C : String} {T : u_T} {fs : List Value} {σ1 : gSt} {v : Int32} (hC : gCx p s m args meth c cc nL own ret E) (d : decode cc pc = .ok (.invokevirtual idx, 3)) (hq : pc + 3 = q) (hM : gM l y cc' nL' ret' rm' k E w σ (.ref (eB E + o) :: As) (v, σ1)) (ho : o < 606) (hc : gC E w σ o = .inr (ci, fs)) (hcl : vwCl[ci]? = some (C, T, N)) (hyC : y.cls = C) (hw : gcV own idx C y cc' nL' ret' n) (hlink : Cond.methodLink own idx y ∈ WALL) (hn : As.length = n) (hr0 : rm'.cells = 0 ∧ rm'.slots = 0) (hR : rm'.frames + 1 ≤ R.frames ∧ 8 + (nL' + 11) + rm'.locals ≤ R.locals) (hsum : (st.map fun v => v.category).sum ≤ 8) (hcap : cells ≤ R.cells ∧ slots ≤ R.slots) (hst : (gRet k E v).toList ++ st = st') (kk : G p l e R s m args below meth c nL cells slots Q E w σ1 q lv st'): G p l e R s m args below meth c nL cells slots Q E w σ pc lv (As.reverse ++ .ref (eB E + o) :: st) := by
  subst hq
  intro H locs ls hP hS hl
  have hts := hC.2.2.2.2.1
  have cw : CallW R s args own C idx y cc' nL' ret' (Cond.code y cc' nL' ret' :: WALL) rm' 0 0 n := ⟨callB_of n hts (wall_good hw.1) rfl hr0.1 hr0.2 (hts _ hw.2.2.2.1) (hts _ hlink) hw.2.2.2.2 hR, hts _ hw.2.1, hts _ hw.2.2.1⟩
  exact G_run (va_runV (gFix hC) hM cw ⟨gP_blind, va_recv hC.2.2.2.2.2.1.1 hP hcl (by rw [gW_at ho, hc]), gPre hC.2.2.2.2.2.1 hP hS rfl⟩ rfl hn hl.1 rfl (lv_room hsum) d hcap) hS hl hst kk
theorem G_callVN {y : MethodName} {cc' : ByteArray} {nL' : Nat} {ret' : Option FieldType} {rm' : Room} {k : Nat} {As : List Value} {o idx n ci N : Nat} {C host : String} {T : u_T} {fs : List Value} {σ1 : gSt} {v : Int32} (hC : gCx p s m args meth c cc nL own ret E) (d : decode cc pc = .ok (.invokevirtual idx, 3)) (hq : pc + 3 = q) (hM : gM l y cc' nL' ret' rm' k E w σ (.ref (eB E + o) :: As) (v, σ1)) (ho : o < 606) (hc : gC E w σ o = .inr (ci, fs)) (hcl : vwCl[ci]? = some (C, T, N)) (hyC : y.cls = C) (hw : gcV own idx C y cc' nL' ret' n) (hlink : Cond.methodLinkNest own idx y host ∈ NWL) (hn : As.length = n) (hr0 : rm'.cells = 0 ∧ rm'.slots = 0) (hR : rm'.frames + 1 ≤ R.frames ∧ 8 + (nL' + 11) + rm'.locals ≤ R.locals) (hsum : (st.map fun v => v.category).sum ≤ 8) (hcap : cells ≤ R.cells ∧ slots ≤ R.slots) (hst : (gRet k E v).toList ++ st = st') (kk : G p l e R s m args below meth c nL cells slots Q E w σ1 q lv st'): G p l e R s m args below meth c nL cells slots Q E w σ pc lv (As.reverse ++ .ref (eB E + o) :: st) := by
  subst hq
  intro H locs ls hP hS hl
  have hts := hC.2.2.2.2.1
  have cw := va_cnB (R := R) (s := s) (args := args) (own := own) (index := idx) (host := host) n hts (wall_good hw.1) rfl hr0.1 hr0.2 (hC.2.2.2.2.2.1.2.1 _ hlink) (hts _ hw.2.2.2.1) hw.2.2.2.2 hR
  exact G_run (va_runVN (gFix hC) hM ⟨cw, hts _ hw.2.1, hts _ hw.2.2.1⟩ ⟨gP_blind, va_recv hC.2.2.2.2.2.1.1 hP hcl (by rw [gW_at ho, hc]), gPre hC.2.2.2.2.2.1 hP hS rfl⟩ rfl hn hl.1 rfl (lv_room hsum) d hcap) hS hl hst kk
theorem G_callS {y : MethodName} {cc' : ByteArray} {nL' : Nat} {ret' : Option FieldType} {rm' : Room} {k : Nat} {As : List Value} {idx n : Nat} {σ1 : gSt} {v : Int32} (hC : gCx p s m args meth c cc nL own ret E) (d : decode cc pc = .ok (.invokestatic idx, 3)) (hq : pc + 3 = q) (hM : gM l y cc' nL' ret' rm' k E w σ As (v, σ1)) (hw : gcS y cc' nL' ret' n) (hlink : Cond.methodLink own idx y ∈ WALL) (hn : As.length = n) (hr0 : rm'.cells = 0 ∧ rm'.slots = 0) (hR : rm'.frames + 1 ≤ R.frames ∧ 8 + (nL' + 11) + rm'.locals ≤ R.locals) (hsum : (st.map fun v => v.category).sum ≤ 8) (hcap : cells ≤ R.cells ∧ slots ≤ R.slots) (hst : (gRet k E v).toList ++ st = st') (kk : G p l e R s m args below meth c nL cells slots Q E w σ1 q lv st'): G p l e R s m args below meth c nL cells slots Q E w σ pc lv (As.reverse ++ st) := by
  subst hq
  intro H locs ls hP hS hl
  have hts := hC.2.2.2.2.1
  have cw : CallB R s args own idx y cc' nL' ret' (Cond.code y cc' nL' ret' :: WALL) rm' 0 0 n ∧ (Cond.static y).before args s = true := ⟨callB_of n hts (wall_good hw.1) rfl hr0.1 hr0.2 (hts _ hw.2.2.1) (hts _ hlink) hw.2.2.2 hR, hts _ hw.2.1⟩
  exact G_run (va_runS (gFix hC) hM cw ⟨gP_blind, gPre hC.2.2.2.2.2.1 hP hS rfl⟩ rfl hn hl.1 rfl (lv_room hsum) d hcap) hS hl hst kk
theorem G_callSN {y : MethodName} {cc' : ByteArray} {nL' : Nat} {ret' : Option FieldType} {rm' : Room} {k : Nat} {As : List Value} {idx n : Nat} {host : String} {σ1 : gSt} {v : Int32} (hC : gCx p s m args meth c cc nL own ret E) (d : decode cc pc = .ok (.invokestatic idx, 3)) (hq : pc + 3 = q) (hM : gM l y cc' nL' ret' rm' k E w σ As (v, σ1)) (hw : gcS y cc' nL' ret' n) (hlink : Cond.methodLinkNest own idx y host ∈ NWL) (hn : As.length = n) (hr0 : rm'.cells = 0 ∧ rm'.slots = 0) (hR : rm'.frames + 1 ≤ R.frames ∧ 8 + (nL' + 11) + rm'.locals ≤ R.locals) (hsum : (st.map fun v => v.category).sum ≤ 8) (hcap : cells ≤ R.cells ∧ slots ≤ R.slots) (hst : (gRet k E v).toList ++ st = st') (kk : G p l e R s m args below meth c nL cells slots Q E w σ1 q lv st'): G p l e R s m args below meth c nL cells slots Q E w σ pc lv (As.reverse ++ st) := by
  subst hq
  intro H locs ls hP hS hl
  have hts := hC.2.2.2.2.1
  have cw := va_cnB (R := R) (s := s) (args := args) (own := own) (index := idx) (host := host) n hts (wall_good hw.1) rfl hr0.1 hr0.2 (hC.2.2.2.2.2.1.2.1 _ hlink) (hts _ hw.2.2.1) hw.2.2.2 hR
  exact G_run (va_runSN (gFix hC) hM ⟨cw, hts _ hw.2.1, trivial⟩ ⟨gP_blind, gPre hC.2.2.2.2.2.1 hP hS rfl⟩ rfl hn hl.1 rfl (lv_room hsum) d hcap) hS hl hst kk
theorem gMX_of {y : MethodName} {rm : Room} {k : Nat} {As : List Value} {r : Nat × Int32 × gSt} (hy : plainName y.cls = true) (hlen : (lg_sl As).length ≤ nL)
    (body : ∀ (p : Program) (e : Env) (s : State) (m : MethodId) (args : Array Value) (below : List Frame) (meth : Method) (c : Code), gCx p s m args meth c cc nL y.cls ret E → (∀ x ∈ c.exceptionTable.toList, False) →
      G p l e rm s m args below meth c nL 0 0 (vx_MQ below (gQX E w k r) (gXC E w r) args s rm.cells rm.slots (fun q => eB E ≤ q)) E w σ 0 (lv_args 0 As) []) : gMX l y cc nL ret rm k E w σ As r := by
  refine vx_ofW (cc := cc) (maxL := nL) (ret := ret) hy rfl ?_
  intro p e s m args below meth c s₁ B hml ht hv
  obtain ⟨rfl, hP, hK⟩ := hv
  have hts := atoms_spec (ws := Cond.code y cc nL ret :: WALL) B.pre
  have hC : gCx p s m As.toArray meth c cc nL y.cls ret E := ⟨B.exec, B.bytes, hml, findClass_of_methodNamed B.named, fun w hw => hts w (List.mem_cons_of_mem _ hw), hK, B.returns, B.notSynchronized⟩
  have h := body p e s m _ below meth c hC ht s.heap [] _ hP va_S.rf (lv_entry As hlen)
  rw [lg_entry_eq]
  exact h
theorem G_widen {k n : Nat} (h1 : cells ≤ k) (h2 : slots ≤ n) (kk : G p l e R s m args below meth c nL k n Q E w σ pc lv st) : G p l e R s m args below meth c nL cells slots Q E w σ pc lv st :=
  fun H locs ls hP hS hl => W.widen h1 h2 (kk H locs ls hP hS hl)
theorem G_iretX (hC : gCx p s m args meth c cc nL own ret E) {v : Int32} {mc ms : Nat} {ty : FieldType} {r : Nat × Int32 × gSt} (hr : some (0, v, σ) = some r) (ht : ret = some ty) (hn : narrow ty (.int v) = .int v) (hc : cells ≤ mc) (hs : slots ≤ ms) (d : decode cc pc = .ok (.ireturn, 1)) :
    G p l e R s m args below meth c nL cells slots (vx_MQ below (gQX E w 1 r) (gXC E w r) args s mc ms (fun q => eB E ≤ q)) E w σ pc lv [.int v] := by
  intro H locs ls hP hS hl
  cases hr
  exact W.widen hc hs (vx_ret (W.zret hC.1 hC.2.1 (hC.2.2.2.2.2.2.1.trans ht) hn (fun t ht hW => ⟨rfl, rfl, by rw [ht]; exact hP, hS.F ht⟩) hS.2.2 d hC.2.2.2.2.2.2.2))
theorem G_vretX (hC : gCx p s m args meth c cc nL own ret E) {v : Int32} {mc ms : Nat} {r : Nat × Int32 × gSt} (hr : some (0, v, σ) = some r) (ht : ret = none) (hc : cells ≤ mc) (hs : slots ≤ ms) (d : decode cc pc = .ok (.return_, 1)) :
    G p l e R s m args below meth c nL cells slots (vx_MQ below (gQX E w 0 r) (gXC E w r) args s mc ms (fun q => eB E ≤ q)) E w σ pc lv [] := by
  intro H locs ls hP hS hl
  cases hr
  exact W.widen hc hs (vx_ret (W.vret hC.1 hC.2.1 (hC.2.2.2.2.2.2.1.trans ht) (fun t ht hW => ⟨rfl, rfl, by rw [ht]; exact hP, hS.F ht⟩) hS.2.2 d hC.2.2.2.2.2.2.2))
theorem G_runX {H : Heap} {locs : List Loc} {ls : Array Slot} {a : Array Value} {k mc ms : Nat} {z : Nat × Int32 × gSt} {st0 : List Value} (hr : vx_Run p l e R s m args below meth c H locs cells slots mc ms (F0 m pc ls st0) st (gQX E w k z a) (gXC E w z) (fun q => eB E ≤ q))
    (hS : va_S (fun q => eB E ≤ q) s.heap H locs) (hl : lv_has ls nL lv) (hst : z.1 = 0 → (gRet k E z.2.1).toList ++ st = st') (kk : z.1 = 0 → G p l e R s m args below meth c nL (cells + mc) (slots + ms) Q E w z.2.2 (pc + 3) lv st')
    (kx : ¬ z.1 = 0 → ∀ (H1 : Heap) (locs1 : List Loc) (q9 : Addr) (ce : Cell), va_P (eD E) vwCl (gW E w z.2.2) H1 → va_S (fun q => eB E ≤ q) s.heap H1 locs1 → H1[q9]? = some ce → ce.vm = .none → s.vm.findClass (gExN z.1) = some ce.cls → vx_W p l e R s m args below meth c H1 locs1 (cells + mc) (slots + ms) Q (F0 m pc ls st) q9) : W p l e R s m args below meth c H locs cells slots Q (F0 m pc ls st0) := by
  intro T hT X
  have keep : ∀ (st₀ t T' : State) (L : List Loc), st₀.heap = H → T'.heap = t.heap → (∀ q ∈ L, eB E ≤ q.base) → va_F (fun q => eB E ≤ q) st₀ t → va_S (fun q => eB E ≤ q) s.heap T'.heap (locs ++ L) := fun st₀ t T' L h0 e1 hL hF => (vx_keep (free := fun q => eB E ≤ q) h0 e1 hS (fun _ _ h => h) (fun _ h => h) hL hF).2.2
  rcases hr T hT X with ⟨v', st₀, t, T', L, h0, X', hL, e1, e2, ⟨hz, hv, hP1, hF⟩, stp⟩ | ⟨q9, st₀, t, T', L, En, ce, h0, X', hL, e1, e2, ⟨hz, rfl, hP1, hF⟩, hce, hcv, hcl, stp⟩
  · cases hv
    obtain ⟨t2, a1, b1⟩ := kk hz T'.heap (locs ++ L) ls (by rw [e1]; exact hP1) (keep st₀ t T' L h0 e1 hL hF) hl T' rfl X'
    have hst := hst hz
    subst hst
    exact ⟨t2, stp t2 a1, b1⟩
  · obtain ⟨t2, a1, b1⟩ := kx hz T'.heap (locs ++ L) q9 ce (by rw [e1]; exact hP1) (keep st₀ t T' L h0 e1 hL hF) (by rw [e1]; exact hce) hcv hcl T' rfl X'
    exact ⟨t2, stp.trans a1, b1⟩
/-- a call that may throw, of a method that doesn't catch -/
theorem G_callVX {y : MethodName} {cc' : ByteArray} {nL' : Nat} {ret' : Option FieldType} {rm' : Room} {k k0 : Nat} {As : List Value} {o idx n ci N MC MS : Nat} {C : String} {T : u_T} {fs : List Value} {z r : Nat × Int32 × gSt} (hC : gCx p s m args meth c cc nL own ret E) (d : decode cc pc = .ok (.invokevirtual idx, 3)) (hq : pc + 3 = q) (hX : ∀ x ∈ c.exceptionTable.toList, False) (hM : gMX l y cc' nL' ret' rm' k E w σ (.ref (eB E + o) :: As) z) (ho : o < 606) (hc : gC E w σ o = .inr (ci, fs)) (hcl : vwCl[ci]? = some (C, T, N)) (hyC : y.cls = C) (hw : gcV own idx C y cc' nL' ret' n) (hlink : Cond.methodLink own idx y ∈ WALL) (hn : As.length = n) (hR : rm'.frames + 1 ≤ R.frames ∧ 8 + (nL' + 11) + rm'.locals ≤ R.locals) (hsum : (st.map fun v => v.category).sum ≤ 8) (hcap : cells + rm'.cells ≤ R.cells ∧ slots + rm'.slots ≤ R.slots) (hM2 : cells + rm'.cells ≤ MC ∧ slots + rm'.slots ≤ MS) (hst : (gRet k E z.2.1).toList ++ st = st') (hz : ¬ z.1 = 0 → z = r) (kk : z.1 = 0 → G p l e R s m args below meth c nL (cells + rm'.cells) (slots + rm'.slots) (vx_MQ below (gQX E w k0 r) (gXC E w r) args s MC MS (fun q => eB E ≤ q)) E w z.2.2 q lv st'): G p l e R s m args below meth c nL cells slots (vx_MQ below (gQX E w k0 r) (gXC E w r) args s MC MS (fun q => eB E ≤ q)) E w σ pc lv (As.reverse ++ .ref (eB E + o) :: st) := by
  subst hq
  intro H locs ls hP hS hl
  have hts := hC.2.2.2.2.1
  have cw : CallW R s args own C idx y cc' nL' ret' (Cond.code y cc' nL' ret' :: WALL) rm' rm'.cells rm'.slots n := ⟨callB_of n hts (wall_good hw.1) rfl rfl rfl (hts _ hw.2.2.2.1) (hts _ hlink) hw.2.2.2.2 hR, hts _ hw.2.1, hts _ hw.2.2.1⟩
  refine G_runX (vx_runV (gFix hC) hM cw ⟨gP_blind, va_recv hC.2.2.2.2.2.1.1 hP hcl (by rw [gW_at ho, hc]), gPre hC.2.2.2.2.2.1 hP hS rfl⟩ rfl hn hl.1 rfl (lv_room hsum) d hcap) hS hl (fun _ => hst) kk (fun h0 H1 locs1 q9 ce hP1 hS1 hce hcv hcl => ?_)
  have e := hz h0
  subst e
  exact vx_out (fun x hx => (hX x hx).elim) hC.2.2.2.2.2.2.2 hce hcv hcl (fun t ht _ => ⟨h0, rfl, by rw [ht]; exact hP1, hS1.F ht⟩) hS1.2.2 hM2.1 hM2.2
theorem G_callSX {y : MethodName} {cc' : ByteArray} {nL' : Nat} {ret' : Option FieldType} {rm' : Room} {k k0 : Nat} {As : List Value} {idx n MC MS : Nat} {z r : Nat × Int32 × gSt} (hC : gCx p s m args meth c cc nL own ret E) (d : decode cc pc = .ok (.invokestatic idx, 3)) (hq : pc + 3 = q) (hX : ∀ x ∈ c.exceptionTable.toList, False) (hM : gMX l y cc' nL' ret' rm' k E w σ As z) (hw : gcS y cc' nL' ret' n) (hlink : Cond.methodLink own idx y ∈ WALL) (hn : As.length = n) (hR : rm'.frames + 1 ≤ R.frames ∧ 8 + (nL' + 11) + rm'.locals ≤ R.locals) (hsum : (st.map fun v => v.category).sum ≤ 8) (hcap : cells + rm'.cells ≤ R.cells ∧ slots + rm'.slots ≤ R.slots) (hM2 : cells + rm'.cells ≤ MC ∧ slots + rm'.slots ≤ MS) (hst : (gRet k E z.2.1).toList ++ st = st') (hz : ¬ z.1 = 0 → z = r) (kk : z.1 = 0 → G p l e R s m args below meth c nL (cells + rm'.cells) (slots + rm'.slots) (vx_MQ below (gQX E w k0 r) (gXC E w r) args s MC MS (fun q => eB E ≤ q)) E w z.2.2 q lv st'): G p l e R s m args below meth c nL cells slots (vx_MQ below (gQX E w k0 r) (gXC E w r) args s MC MS (fun q => eB E ≤ q)) E w σ pc lv (As.reverse ++ st) := by
  subst hq
  intro H locs ls hP hS hl
  have hts := hC.2.2.2.2.1
  have cw : CallB R s args own idx y cc' nL' ret' (Cond.code y cc' nL' ret' :: WALL) rm' rm'.cells rm'.slots n ∧ (Cond.static y).before args s = true := ⟨callB_of n hts (wall_good hw.1) rfl rfl rfl (hts _ hw.2.2.1) (hts _ hlink) hw.2.2.2 hR, hts _ hw.2.1⟩
  refine G_runX (vx_runS (gFix hC) hM cw ⟨gP_blind, gPre hC.2.2.2.2.2.1 hP hS rfl⟩ rfl hn hl.1 rfl (lv_room hsum) d hcap) hS hl (fun _ => hst) kk (fun h0 H1 locs1 q9 ce hP1 hS1 hce hcv hcl => ?_)
  have e := hz h0
  subst e
  exact vx_out (fun x hx => (hX x hx).elim) hC.2.2.2.2.2.2.2 hce hcv hcl (fun t ht _ => ⟨h0, rfl, by rw [ht]; exact hP1, hS1.F ht⟩) hS1.2.2 hM2.1 hM2.2
/-- throw new E("text"), in RX6 -/
theorem G_throw (hC : gCx p s m args meth c cc nL RX6 ret E) (hX : ∀ x ∈ c.exceptionTable.toList, False) (hflag : l.stackTraces = false) {ik is ic k0 n MC MS : Nat} {text : String} {r : Nat × Int32 × gSt}
    (hr : some (n, 0, σ) = some r) (hn : ¬ n = 0) (hfit : Bundle.fit (gExN n) = true) (hlink : Cond.classLink RX6 ik (gExN n) ∈ WALL) (hini : Cond.initialized (gExN n) ∈ WALL) (htx : (is, text) ∈ gTxt)
    (hat : ∀ w ∈ vx_atS RX6 ic (gExN n) gUp, w ∈ WALL ∨ w ∈ XWL) (hot : ∀ w ∈ vx_atS RX6 ic (gExN n) gUp, vx_ot w = true)
    (d0 : decode cc pc = .ok (.new ik, 3)) (d3 : decode cc (pc + 3) = .ok (.dup, 1)) (d4 : decode cc (pc + 4) = .ok (.ldc is, 2)) (d6 : decode cc (pc + 6) = .ok (.invokespecial ic, 3)) (d9 : decode cc (pc + 9) = .ok (.athrow, 1))
    (hf : 5 < R.frames) (hloc : (st.map fun v => v.category).sum + 82 ≤ R.locals) (hcap : cells + 1 ≤ R.cells ∧ slots + 6 ≤ R.slots) (hM2 : cells + 1 ≤ MC ∧ slots + 6 ≤ MS) :
    G p l e R s m args below meth c nL cells slots (vx_MQ below (gQX E w k0 r) (gXC E w r) args s MC MS (fun q => eB E ≤ q)) E w σ pc lv st := by
  intro H locs ls hP hS hl
  cases hr
  have hts := hC.2.2.2.2.1
  have hK := hC.2.2.2.2.2.1
  have hg : ∀ w ∈ Cond.classLink RX6 ik (gExN n) :: Cond.initialized (gExN n) :: vx_atS RX6 ic (gExN n) gUp, vx_ot w = true := by
    intro w hw
    rcases List.mem_cons.mp hw with rfl | hw
    · rfl
    · rcases List.mem_cons.mp hw with rfl | hw
      · rfl
      · exact hot w hw
  refine vx_throwS hC.1 hC.2.1 hflag hC.2.2.2.1 hfit (by decide) (hts _ hlink) (hts _ hini) (hK.2.2.2.1 _ htx) (fun w hw => ?_) hg hK.2.2.2.2.1 hK.2.2.2.2.2.1 hS (hl.1.trans hC.2.2.1.symm) d0 d3 d4 d6 d9 (fun x hx => (hX x hx).elim) (by exact hf) (by exact hloc) hcap.1 hcap.2 hC.2.2.2.2.2.2.2 (fun t hA h1 h2 => ⟨hn, rfl, hP.kept (fun k q hk => h2 q.1 ((hP k q hk).lt)), Nat.le_trans hS.1 h1, fun q h3 h4 => ?_⟩) hS.2.2 hM2.1 hM2.2
  · rcases hat w hw with h | h
    · exact hts _ h
    · have h5 := XWL_ok w h
      simp only [Bool.and_eq_true] at h5
      exact va_Nw.use h5.1 (hK.2.2.1 w h)
  · rw [h2 q (Nat.lt_of_lt_of_le h3 hS.1)]
    exact hS.2.1 q h3 h4
/-- Math.max -/
theorem G_max {idx : Nat} {x y v : Int32} (hC : gCx p s m args meth c cc nL own ret E) (d : decode cc pc = .ok (.invokestatic idx, 3)) (hq : pc + 3 = q) (hlink : Cond.methodLink own idx Lib.Math.max.name ∈ WALL) (hstat : Cond.static Lib.Math.max.name ∈ WALL) (hini : Cond.initialized "java/lang/Math" ∈ WALL) (hcode : Cond.code Lib.Math.max.name Lib.Math.max.code 2 (some .int) ∈ WALL) (hf : 1 ≤ R.frames) (hloc : (st.map fun v => v.category).sum + 13 ≤ R.locals) (hcap : cells ≤ R.cells ∧ slots ≤ R.slots) (hv : (if x < y then y else x) = v) (kk : G p l e R s m args below meth c nL cells slots Q E w σ q lv (.int v :: st)): G p l e R s m args below meth c nL cells slots Q E w σ pc lv (.int y :: .int x :: st) := by
  subst hq
  subst hv
  intro H locs ls hP hS hl
  have hts := hC.2.2.2.2.1
  exact va_mmax hC.1 hC.2.1 (hC.2.2.1.trans hl.1.symm) hC.2.2.2.1 (hts _ hlink) (hts _ hstat) (hts _ hini) (hts _ hcode) hf hloc hcap.1 hcap.2 d (kk H locs ls hP hS hl)
/-- System.arraycopy of an int-like array -/
def okCp (t F i F' i' : Nat) (sp dp n : Int32) (f : Nat → Int32) : Bool := isArr F && Nat.blt F 206 && Nat.beq (tA F) t && Nat.blt i (nA F) && isArr F' && Nat.blt F' 206 && Nat.beq (tA F') t && Nat.blt i' (nA F') && decide (0 ≤ sp) && decide (0 ≤ dp) && decide (0 ≤ n) && Nat.ble (sp.toNatClampNeg + n.toNatClampNeg) (lA F) && Nat.ble (dp.toNatClampNeg + n.toNatClampNeg) (lA F') && (Nat.beq t 1 || (List.range n.toNatClampNeg).all (fun k => isC (f (sp.toNatClampNeg + k))))
theorem G_copy {F i F' i' idx t : Nat} {sp dp n : Int32} (hC : gCx p s m args meth c cc nL own ret E) (ht : t = 0 ∨ t = 1) (d : decode cc pc = .ok (.invokestatic idx, 3)) (hq : pc + 3 = q) (h : okCp t F i F' i' sp dp n (fun k => σ F i k) = true) (hlink : Cond.methodLink own idx arraycopyName ∈ WALL) (hnat : Cond.native arraycopyName ∈ WALL) (hstat : Cond.static arraycopyName ∈ WALL) (hini : Cond.initialized "java/lang/System" ∈ WALL) (hf : 1 ≤ R.frames) (hloc : (st.map fun v => v.category).sum + (nativeFrameWords "java/lang/System" "arraycopy" 5 + 11) ≤ R.locals) (kk : G p l e R s m args below meth c nL cells slots Q E w (gR σ F' i' (va_cpy (fun k => σ F i k) (fun k => σ F' i' k) sp.toNatClampNeg dp.toNatClampNeg n.toNatClampNeg)) q lv st): G p l e R s m args below meth c nL cells slots Q E w σ pc lv (.int n :: .int dp :: .ref (eB E + oA F' i') :: .int sp :: .ref (eB E + oA F i) :: st) := by
  subst hq
  intro H locs ls hP hS hl
  have hts := hC.2.2.2.2.1
  simp only [okCp, Bool.and_eq_true, decide_eq_true_eq] at h
  obtain ⟨⟨⟨⟨⟨⟨⟨⟨⟨⟨⟨⟨⟨a1, a2⟩, a3⟩, a4⟩, b1⟩, b2⟩, b3⟩, b4⟩, c1⟩, c2⟩, c3⟩, c4⟩, c5⟩, c6⟩ := h
  obtain ⟨e1, e2⟩ := dec_arr F (Nat.le_of_ble_eq_true a2) i (Nat.le_of_ble_eq_true a4) a1
  obtain ⟨f1, f2⟩ := dec_arr F' (Nat.le_of_ble_eq_true b2) i' (Nat.le_of_ble_eq_true b4) b1
  have ht1 := Nat.eq_of_beq_eq_true a3
  have ht2 := Nat.eq_of_beq_eq_true b3
  have hty : (gTys E)[t]? = some (eT E t, if t = 0 then .char else .int) := by rcases ht with rfl | rfl <;> rfl
  refine va_copyi (f := fun k => σ F i k) (g := fun k => σ F' i' k) (c0 := eT E t) (c1 := eT E t) (ty := if t = 0 then .char else .int) hC.1 hC.2.1 (hC.2.2.1.trans hl.1.symm) hC.2.2.2.1 (hts _ hlink) (hts _ hnat) (hts _ hstat) (hts _ hini) hC.2.2.2.2.2.1.1 hP gD hS (oA F i) (oA F' i') t t (by rw [gW_at e2, gC, e1]; simp only [cellK, ht1]) (by rw [gW_at f2, gC, f1]; simp only [cellK, ht2]) hty hty (by rcases ht with rfl | rfl <;> rfl)
    (Int32.not_lt.mpr c1) (Int32.not_lt.mpr c2) (Int32.not_lt.mpr c3) (Nat.le_of_ble_eq_true c4) (Nat.le_of_ble_eq_true c5) (fun k hk => ?_) hf hloc d (fun H1 locs1 hP1 _ hS1 => ?_)
  · rcases ht with rfl | rfl
    · simp only [Bool.or_eq_true, List.all_eq_true, List.mem_range] at c6
      rcases c6 with c6 | c6
      · cases c6
      · exact isC_fits (c6 k hk)
    · rfl
  · rw [gW_set (σ' := gR σ F' i' (va_cpy (fun k => σ F i k) (fun k => σ F' i' k) sp.toNatClampNeg dp.toNatClampNeg n.toNatClampNeg)) (by rw [gC, f1]; simp only [cellK, ht2]; simp only [gR, and_self, if_true]) (fun o' h1 h2 => gC_ne h1 (by simp only [oOf, b1, cond_true]; exact h2))] at hP1
    exact kk H1 locs1 ls hP1 hS1 hl
end GK

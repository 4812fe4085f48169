/-! rows for the law and its wrappers: longs, the out array, the script, catches -/
def ncL : List (String × String) := [(gIAE, gISE), (gIAE, gIOE), (gISE, gIAE), (gISE, gIOE), (gIOE, gIAE), (gIOE, gISE)]
def gN (U : State) : Prop := ∀ q ∈ ncL, va_Nc q.1 q.2 U
theorem gN.moved {s U : State} (hvm : s.vm.Alike U.vm) (h : gN s) : gN U := fun q hq => va_Nc.moved hvm (h q hq)
def gPL (E : gE) (w : Nat → Int64) (σ : gSt) (As : List Value) : Array Value → State → Prop := va_Pc As (fun U => va_P (eD E) vwCl (gW E w σ) U.heap ∧ gK E U ∧ gN U)
def gQL (E : gE) (r : Int32 × (Nat → Int64) × gSt) : Array Value → State → Outcome → State → Prop := fun _ st o t => o = .returned (some (.int r.1)) ∧ va_P (eD E) vwCl (gW E r.2.1 r.2.2) t.heap ∧ va_F (fun q => eB E ≤ q) st t
/-- a wrapper of the law -/
def gML (l : Launch) (y : MethodName) (cc : ByteArray) (nL : Nat) (hh : List (Nat × Nat × Nat × Nat)) (rm : Room) (E : gE) (w : Nat → Int64) (σ : gSt) (As : List Value) (r : Int32 × (Nat → Int64) × gSt) : Prop :=
  Met l y (Cond.codeWith y cc nL (some .int) hh :: WALL) rm (gPL E w σ As) (gQL E r) rm.cells rm.slots (fun q => eB E ≤ q)
theorem gPL_blind {E : gE} {w : Nat → Int64} {σ : gSt} {As : List Value} : FrameBlind (gPL E w σ As) := by
  intro a U g mk h
  obtain ⟨h1, h2, h3, h4⟩ := h
  exact ⟨h1, h2, gK.same (U := U.calling g mk a) h3 rfl rfl, gN.moved (U := U.calling g mk a) (Vm.Alike.refl U.vm) h4⟩
def bL (m : Option (Int32 × (Nat → Int64) × gSt)) (k : Int32 → (Nat → Int64) → gSt → Option Int32) : Option Int32 := match m with
  | none => none
  | some r => k r.1 r.2.1 r.2.2
theorem bL_ok {m : Option (Int32 × (Nat → Int64) × gSt)} {k : Int32 → (Nat → Int64) → gSt → Option Int32} {r : Int32} (h : bL m k = some r) : ∃ (v : Int32) (w : Nat → Int64) (σ : gSt), m = some (v, w, σ) ∧ k v w σ = some r := by
  cases m with
  | none => cases h
  | some q => exact ⟨q.1, q.2.1, q.2.2, rfl, h⟩
/-- a call that is caught: what is done at the return, at a throw -/
def bC {α : Type} (m : Option (Nat × Int32 × gSt)) (k : Int32 → gSt → Option α) (x : Nat → gSt → Option α) : Option α := match m with
  | none => none
  | some r => if r.1 = 0 then k r.2.1 r.2.2 else x r.1 r.2.2
theorem bC_ok {α : Type} {m : Option (Nat × Int32 × gSt)} {k : Int32 → gSt → Option α} {x : Nat → gSt → Option α} {r : α} (h : bC m k x = some r) : ∃ z, m = some z ∧ (z.1 = 0 → k z.2.1 z.2.2 = some r) ∧ (¬ z.1 = 0 → x z.1 z.2.2 = some r) := by
  cases m with
  | none => cases h
  | some z =>
    refine ⟨z, rfl, fun h0 => ?_, fun h0 => ?_⟩
    · have h1 : (if z.1 = 0 then k z.2.1 z.2.2 else x z.1 z.2.2) = some r := h
      rwa [if_pos h0] at h1
    · have h1 : (if z.1 = 0 then k z.2.1 z.2.2 else x z.1 z.2.2) = some r := h
      rwa [if_neg h0] at h1
section GLW
variable {p : Program} {l : Launch} {e : Env} {R : Room} {s : State} {m : MethodId} {args : Array Value} {below : List Frame} {meth : Method} {c : Code} {nL cells slots : Nat} {Q : State → Prop} {E : gE} {w : Nat → Int64} {σ : gSt} {pc q : Nat} {lv lv' : List (Nat × Value)} {st st' : List Value} {cc : ByteArray} {own : String} {ret : Option FieldType}
theorem gML_of {y : MethodName} {rm : Room} {hh : List (Nat × Nat × Nat × Nat)} {As : List Value} {r : Int32 × (Nat → Int64) × gSt} (hy : plainName y.cls = true) (hlen : (lg_sl As).length ≤ nL)
    (body : ∀ (p : Program) (e : Env) (s : State) (m : MethodId) (args : Array Value) (below : List Frame) (meth : Method) (c : Code), gCx p s m args meth c cc nL y.cls (some .int) E → gN s → c.exceptionTable.toList = tableOf hh →
      G p l e rm s m args below meth c nL 0 0 (MQ below (gQL E r) args s rm.cells rm.slots (fun q => eB E ≤ q)) E w σ 0 (lv_args 0 As) []) : gML l y cc nL hh rm E w σ As r := by
  refine va_MetW (cc := cc) (maxL := nL) (ret := some .int) hy rfl ?_
  intro p e s m args below meth c s₁ B hml hv
  obtain ⟨rfl, hP, hK, hN⟩ := hv
  have hts := atoms_spec (ws := Cond.codeWith y cc nL (some .int) hh :: WALL) B.pre
  have hC : gCx p s m As.toArray meth c cc nL y.cls (some .int) E := ⟨B.exec, B.bytes, hml, findClass_of_methodNamed B.named, fun w hw => hts w (List.mem_cons_of_mem _ hw), hK, B.returns, B.notSynchronized⟩
  have h := body p e s m _ below meth c hC hN (vx_table (x := y) B (hts _ List.mem_cons_self)) s.heap [] _ hP va_S.rf (lv_entry As hlen)
  rw [lg_entry_eq]
  exact h
theorem G_iretL (hC : gCx p s m args meth c cc nL own ret E) {v : Int32} {mc ms : Nat} {r : Int32 × (Nat → Int64) × gSt} (hr : some (v, w, σ) = some r) (ht : ret = some .int) (hc : cells ≤ mc) (hs : slots ≤ ms) (d : decode cc pc = .ok (.ireturn, 1)) :
    G p l e R s m args below meth c nL cells slots (MQ below (gQL E r) args s mc ms (fun q => eB E ≤ q)) E w σ pc lv [.int v] := by
  intro H locs ls hP hS hl
  cases hr
  exact W.widen hc hs (W.zret hC.1 hC.2.1 (hC.2.2.2.2.2.2.1.trans ht) rfl (fun t ht hW => ⟨rfl, by rw [ht]; exact hP, hS.F ht⟩) hS.2.2 d hC.2.2.2.2.2.2.2)
theorem G_i2l {x : Int32} (hC : gCx p s m args meth c cc nL own ret E) (d : decode cc pc = .ok (.i2l, 1)) (hq : pc + 1 = q) (k : G p l e R s m args below meth c nL cells slots Q E w σ q lv (.long x.toInt64 :: st)) : G p l e R s m args below meth c nL cells slots Q E w σ pc lv (.int x :: st) := by
  subst hq
  intro H locs ls hP hS hl
  exact lv_i2l hC.1 hC.2.1 d rfl (k H locs ls hP hS hl)
theorem G_lconst {n : Fin 2} {v : Int64} (hC : gCx p s m args meth c cc nL own ret E) (d : decode cc pc = .ok (.lconst n, 1)) (hq : pc + 1 = q) (hv : Int64.ofNat (n : Nat) = v) (k : G p l e R s m args below meth c nL cells slots Q E w σ q lv (.long v :: st)) : G p l e R s m args below meth c nL cells slots Q E w σ pc lv st := by
  subst hq
  intro H locs ls hP hS hl
  exact lv_lconst hC.1 hC.2.1 d hv (k H locs ls hP hS hl)
theorem G_lcmp {x y : Int64} (hC : gCx p s m args meth c cc nL own ret E) (d : decode cc pc = .ok (.lcmp, 1)) (hq : pc + 1 = q) (k : G p l e R s m args below meth c nL cells slots Q E w σ q lv (.int (lg_cmp x y) :: st)) : G p l e R s m args below meth c nL cells slots Q E w σ pc lv (.long y :: .long x :: st) := by
  subst hq
  intro H locs ls hP hS hl
  exact W.lcmp hC.1 hC.2.1 d (k H locs ls hP hS hl)
theorem gOut : (gW E w σ)[605]? = some (eB E + 605, .inl (eT E 7, 1, .inr (.inl w))) := by rw [gW_at (by decide)]; rfl
theorem in0 : vp_in (0 : Int32) 1 := by
  intro h
  rcases h with h | h
  · exact absurd h (by decide)
  · exact absurd h (by decide)
theorem G_lald (hC : gCx p s m args meth c cc nL own ret E) (d : decode cc pc = .ok (.laload, 1)) (hq : pc + 1 = q) (k : G p l e R s m args below meth c nL cells slots Q E w σ q lv (.long (w 0) :: st)) : G p l e R s m args below meth c nL cells slots Q E w σ pc lv (.int 0 :: .ref (eB E + 605) :: st) := by
  subst hq
  intro H locs ls hP hS hl
  exact va_lald hC.1 hC.2.1 hC.2.2.2.2.2.1.1 hP 605 7 gOut rfl in0 d (k H locs ls hP hS hl)
theorem gC_w {w' : Nat → Int64} {o' : Nat} (ho : o' < 606) (hn : o' ≠ 605) : gC E w' σ o' = gC E w σ o' := by
  obtain ⟨h1, h2⟩ := dec_ok o' ho
  unfold gC
  generalize dec o' = d at h1 h2
  obtain ⟨kd, F', i'⟩ := d
  dsimp only at h1 h2 ⊢
  rcases h2 with h2 | ⟨rfl, h2⟩ | rfl | rfl | rfl | rfl | rfl
  · have h3 : kd = 0 ∨ kd = 1 ∨ kd = 2 ∨ kd = 3 ∨ kd = 4 ∨ kd = 5 ∨ kd = 6 := by omega
    rcases h3 with rfl | rfl | rfl | rfl | rfl | rfl | rfl <;> simp only [cellK]
  all_goals first | (exact absurd h1.symm hn) | simp only [cellK]
def gWo (v : Int64) : Nat → Int64 := fun _ => v
theorem G_last {x : Int64} (hC : gCx p s m args meth c cc nL own ret E) (d : decode cc pc = .ok (.lastore, 1)) (hq : pc + 1 = q) (k : G p l e R s m args below meth c nL cells slots Q E (vp_updL w 0 x) σ q lv st) : G p l e R s m args below meth c nL cells slots Q E w σ pc lv (.long x :: .int 0 :: .ref (eB E + 605) :: st) := by
  subst hq
  intro H locs ls hP hS hl
  refine va_last hC.1 hC.2.1 hC.2.2.2.2.2.1.1 hP gD hS 605 7 gOut rfl in0 d (fun H1 locs1 hP1 _ hS1 => ?_)
  have e : (gW E w σ).set 605 (eB E + 605, .inl (eT E 7, 1, .inr (.inl (vp_updL w 0 x)))) = gW E (vp_updL w 0 x) σ := by
    apply List.ext_getElem?
    intro k
    rw [List.getElem?_set]
    by_cases hk : k < 606
    · rw [gW_at hk, gW_at hk]
      by_cases e : 605 = k
      · subst e
        simp [gW]
        rfl
      · rw [if_neg e, gC_w hk (fun z => e z.symm)]
    · have e1 : (gW E (vp_updL w 0 x) σ)[k]? = none := by simp [gW]; omega
      have e2 : (gW E w σ)[k]? = none := by simp [gW]; omega
      rw [e1, e2, if_neg (by omega)]
  rw [show (0 : Int32).toNatClampNeg = 0 from rfl, e] at hP1
  exact k H1 locs1 ls hP1 hS1 hl
/-- the script -/
def gS (s : State) (E : gE) (b L : Nat) (xs : Nat → Int32) : Prop := va_X b L xs s s.heap ∧ b < s.heap.size ∧ ¬ eB E ≤ b
theorem G_sld {b L : Nat} {xs : Nat → Int32} {i : Int32} (hC : gCx p s m args meth c cc nL own ret E) (d : decode cc pc = .ok (.iaload, 1)) (hq : pc + 1 = q) (hB : gS s E b L xs) (hi : inb i L = true) (k : G p l e R s m args below meth c nL cells slots Q E w σ q lv (.int (xs i.toNatClampNeg) :: st)) : G p l e R s m args below meth c nL cells slots Q E w σ pc lv (.int i :: .ref b :: st) := by
  subst hq
  intro H locs ls hP hS hl
  exact va_sld hC.1 hC.2.1 hB.1 hB.2.1 hB.2.2 hS (inb_in hi) d (k H locs ls hP hS hl)
theorem G_slen {b L : Nat} {xs : Nat → Int32} (hC : gCx p s m args meth c cc nL own ret E) (d : decode cc pc = .ok (.arraylength, 1)) (hq : pc + 1 = q) (hB : gS s E b L xs) (k : G p l e R s m args below meth c nL cells slots Q E w σ q lv (.int (Int32.ofNat L) :: st)) : G p l e R s m args below meth c nL cells slots Q E w σ pc lv (.ref b :: st) := by
  subst hq
  intro H locs ls hP hS hl
  exact va_slen hC.1 hC.2.1 hB.1 hB.2.1 hB.2.2 hS d (k H locs ls hP hS hl)
theorem G_tabIn {dflt hi off : Int} {offs : Array Int} {len tgt : Nat} {x : Int32} (hC : gCx p s m args meth c cc nL own ret E) (d : decode cc pc = .ok (.tableswitch dflt 0 hi offs, len)) (h1 : ¬ x.toInt < 0) (h2 : ¬ hi < x.toInt) (ho : offs[(x.toInt - 0).toNat]? = some off) (ht : (pc : Int) + off = (tgt : Int)) (k : G p l e R s m args below meth c nL cells slots Q E w σ tgt lv st) : G p l e R s m args below meth c nL cells slots Q E w σ pc lv (.int x :: st) := by
  intro H locs ls hP hS hl
  exact lv_tableIn hC.1 hC.2.1 d h1 h2 ho ht (k H locs ls hP hS hl)
theorem G_tabOut {dflt hi : Int} {offs : Array Int} {len tgt : Nat} {x : Int32} (hC : gCx p s m args meth c cc nL own ret E) (d : decode cc pc = .ok (.tableswitch dflt 0 hi offs, len)) (h2 : x.toInt < 0 ∨ hi < x.toInt) (ht : (pc : Int) + dflt = (tgt : Int)) (k : G p l e R s m args below meth c nL cells slots Q E w σ tgt lv st) : G p l e R s m args below meth c nL cells slots Q E w σ pc lv (.int x :: st) := by
  intro H locs ls hP hS hl
  exact lv_tableOut hC.1 hC.2.1 d h2 ht (k H locs ls hP hS hl)
/-- a caught call of a method of the class -/
theorem G_callC (hC : gCx p s m args meth c cc nL own ret E) {y : MethodName} {cc' : ByteArray} {nL' : Nat} {ret' : Option FieldType} {rm' : Room} {k : Nat} {As : List Value} {o idx n ci N : Nat} {C : String} {T : u_T} {fs : List Value} {z : Nat × Int32 × gSt}
    (d : decode cc pc = .ok (.invokevirtual idx, 3)) (hq : pc + 3 = q) (hM : gMX l y cc' nL' ret' rm' k E w σ (.ref (eB E + o) :: As) z) (ho : o < 606) (hc : gC E w σ o = .inr (ci, fs)) (hcl : vwCl[ci]? = some (C, T, N)) (hyC : y.cls = C) (hw : gcV own idx C y cc' nL' ret' n) (hlink : Cond.methodLink own idx y ∈ WALL) (hn : As.length = n)
    (hR : rm'.frames + 1 ≤ R.frames ∧ 8 + (nL' + 11) + rm'.locals ≤ R.locals) (hsum : (st.map fun v => v.category).sum ≤ 8) (hcap : cells + rm'.cells ≤ R.cells ∧ slots + rm'.slots ≤ R.slots) (hst : (gRet k E z.2.1).toList ++ st = st')
    (kk : z.1 = 0 → G p l e R s m args below meth c nL (cells + rm'.cells) (slots + rm'.slots) Q E w z.2.2 q lv st')
    (kx : ¬ z.1 = 0 → ∃ (pre suf : List ExceptionTableEntry) (x : ExceptionTableEntry) (nm : String), c.exceptionTable.toList = pre ++ x :: suf ∧ (∀ z9 ∈ pre, z9.catchType ≠ 0 ∧ ∃ nm9 : String, Cond.classLink own z9.catchType nm9 ∈ WALL ∧ va_Nc (gExN z.1) nm9 s) ∧ covers x pc = true ∧ x.catchType ≠ 0 ∧ Cond.classLink own x.catchType nm ∈ WALL ∧ (Cond.castable (gExN z.1) nm).before args s = true ∧
      ∀ q9 : Nat, G p l e R s m args below meth c nL (cells + rm'.cells) (slots + rm'.slots) Q E w z.2.2 x.handlerPc lv [.ref q9]) : G p l e R s m args below meth c nL cells slots Q E w σ pc lv (As.reverse ++ .ref (eB E + o) :: st) := by
  subst hq
  intro H locs ls hP hS hl
  have hts := hC.2.2.2.2.1
  have cw : CallW R s args own C idx y cc' nL' ret' (Cond.code y cc' nL' ret' :: WALL) rm' rm'.cells rm'.slots n := ⟨callB_of n hts (wall_good hw.1) rfl rfl rfl (hts _ hw.2.2.2.1) (hts _ hlink) hw.2.2.2.2 hR, hts _ hw.2.1, hts _ hw.2.2.1⟩
  refine G_runX (vx_runV (gFix hC) hM cw ⟨gP_blind, va_recv hC.2.2.2.2.2.1.1 hP hcl (by rw [gW_at ho, hc]), gPre hC.2.2.2.2.2.1 hP hS rfl⟩ rfl hn hl.1 rfl (lv_room hsum) d hcap) hS hl (fun _ => hst) kk (fun h0 H1 locs1 q9 ce hP1 hS1 hce hcv hcl => ?_)
  obtain ⟨pre, suf, x, nm, e1, e2, e3, e4, e5, e6, e7⟩ := kx h0
  exact vx_catch hC.2.2.2.1 pre x suf e1 (fun z9 hz => by
    obtain ⟨f1, nm9, f2, f3⟩ := e2 z9 hz
    exact Or.inr ⟨f1, nm9, hts _ f2, f3⟩) e3 e4 (hts _ e5) e6 hce hcv hcl (e7 q9 H1 locs1 ls hP1 hS1 hl)
/-- the law's call of a wrapper -/
theorem G_callL (hC : gCx p s m args meth c cc nL own ret E) (hN : gN s) {y : MethodName} {cc' : ByteArray} {nL' : Nat} {hh : List (Nat × Nat × Nat × Nat)} {rm' : Room} {As : List Value} {idx n : Nat} {w1 : Nat → Int64} {σ1 : gSt} {v : Int32}
    (d : decode cc pc = .ok (.invokestatic idx, 3)) (hq : pc + 3 = q) (hM : gML l y cc' nL' hh rm' E w σ As (v, w1, σ1)) (hcode : Cond.codeWith y cc' nL' (some .int) hh ∈ WALL) (hlink : Cond.methodLink own idx y ∈ WALL) (hstat : Cond.static y ∈ WALL) (hini : Cond.initialized y.cls ∈ WALL) (hn : As.length = n)
    (hd : y.cls ≠ "java/lang/invoke/MethodHandle" ∧ y.cls ≠ "java/lang/invoke/VarHandle" ∧ (parseMethodDescriptor y.desc).map (fun d => d.parameters.length) = some n)
    (hR : rm'.frames + 1 ≤ R.frames ∧ 8 + (nL' + 11) + rm'.locals ≤ R.locals) (hsum : (st.map fun v => v.category).sum ≤ 8) (hcap : cells + rm'.cells ≤ R.cells ∧ slots + rm'.slots ≤ R.slots)
    (kk : G p l e R s m args below meth c nL (cells + rm'.cells) (slots + rm'.slots) Q E w1 σ1 q lv (.int v :: st)) : G p l e R s m args below meth c nL cells slots Q E w σ pc lv (As.reverse ++ st) := by
  subst hq
  intro H locs ls hP hS hl
  have hts := hC.2.2.2.2.1
  have hgood : ∀ w ∈ Cond.codeWith y cc' nL' (some .int) hh :: WALL, w ∈ WALL := fun w hw => (List.mem_cons.mp hw).elim (fun e => by rw [e]; exact hcode) id
  have hpay : ∀ w ∈ Cond.codeWith y cc' nL' (some .int) hh :: WALL, ∀ (a' : Array Value) (U : State), s.WarmedH U.vm → w.before a' U = true := pay_in hts (fun w hw => ⟨hgood w hw, good_of_word (List.mem_filter.mp (hgood w hw)).2⟩)
  have cw : vx_CSW R s args own idx y cc' nL' (some .int) hh (Cond.codeWith y cc' nL' (some .int) hh :: WALL) rm' rm'.cells rm'.slots n := ⟨⟨rfl, rfl, hR.1, hR.2, hpay, List.mem_cons_self⟩, hts _ hcode, hts _ hini, ⟨hd.1, hd.2.1⟩, fun sig h => by
    have h2 := hd.2.2
    rw [h] at h2
    exact (Option.some.inj h2).symm, hts _ hlink, hts _ hstat⟩
  have hr : va_Run p l e R s m args below meth c H locs cells slots rm'.cells rm'.slots (F0 m pc ls (As.reverse ++ st)) st (gQL E (v, w1, σ1) As.toArray) (fun q => eB E ≤ q) := vx_runSW (gFix hC) hM cw ⟨gPL_blind, fun U hU hW => ⟨rfl, by rw [hU]; exact hP, hC.2.2.2.2.2.1.warm hW hU hS, gN.moved hW.alike hN⟩⟩ (g := F0 m pc ls (As.reverse ++ st)) rfl hn hl.1 rfl (lv_room hsum) d hcap
  intro T hT X
  obtain ⟨v', st₀, t, T', L, h0, X', hL, e1, e2, ⟨hv, hP1, hz, hk⟩, stp⟩ := hr T hT X
  cases hv
  rw [h0] at hz hk
  obtain ⟨t2, a1, b1⟩ := kk T'.heap (locs ++ L) ls (by rw [e1]; exact hP1)
    ⟨Nat.le_trans hS.1 (by rw [e1]; exact hz), fun q h1 h2 => by rw [e1, hk q (Nat.lt_of_lt_of_le h1 hS.1) h2]; exact hS.2.1 q h1 h2, fun q hq => by
      rcases List.mem_append.mp hq with h | h
      · exact hS.2.2 q h
      · exact hL q h⟩ hl T' rfl X'
  exact ⟨t2, stp t2 a1, b1⟩
/-- the law's own end -/
theorem G_lret {b : Nat} (hC : gCx p s m #[Value.ref b] meth c cL_law nL own ret E) (hr : meth.sig.returnType = _root_.Option.some .boolean) (hB : s.heap.size ≤ eB E) (d : decode code pc = .ok (.ireturn, 1)) (hcap : cells ≤ room_1.cells ∧ slots ≤ room_1.slots) :
    G p l e room_1 s m #[Value.ref b] below meth c nL cells slots (lw_Z below #[Value.ref b] s) E w σ pc lv [.int 1] := by
  intro H locs ls hP hS hl
  exact va_forget (fun q hq => Nat.le_trans hB (hS.2.2 q hq)) (W.widen hcap.1 hcap.2 (lw_ret hC.1 hC.2.1 hr hC.2.2.2.2.2.2.2 d))
end GLW

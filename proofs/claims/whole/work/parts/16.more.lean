/-! two rows more: a throw with a wide text, a switch of four -/
section GM
variable {p : Program} {l : Launch} {e : Env} {R : Room} {s : State} {m : MethodId} {args : Array Value} {below : List Frame} {meth : Method} {c : Code} {nL cells slots : Nat} {Q : State → Prop} {E : gE} {w : Nat → Int64} {σ : gSt} {pc q : Nat} {lv lv' : List (Nat × Value)} {st st' : List Value} {cc : ByteArray} {own : String} {ret : Option FieldType}
/-- throw new E("text"), in RX6 -/
theorem G_throwW (hC : gCx p s m args meth c cc nL RX6 ret E) (hX : ∀ x ∈ c.exceptionTable.toList, False) (hflag : l.stackTraces = false) {ik is ic k0 n MC MS : Nat} {text : String} {r : Nat × Int32 × gSt}
    (hr : some (n, 0, σ) = some r) (hn : ¬ n = 0) (hfit : Bundle.fit (gExN n) = true) (hlink : Cond.classLink RX6 ik (gExN n) ∈ WALL) (hini : Cond.initialized (gExN n) ∈ WALL) (htx : (is, text) ∈ gTxt)
    (hat : ∀ w ∈ vx_atS RX6 ic (gExN n) gUp, w ∈ WALL ∨ w ∈ XWL) (hot : ∀ w ∈ vx_atS RX6 ic (gExN n) gUp, vx_ot w = true)
    (d0 : decode cc pc = .ok (.new ik, 3)) (d3 : decode cc (pc + 3) = .ok (.dup, 1)) (d4 : decode cc (pc + 4) = .ok (.ldc_w is, 3)) (d7 : decode cc (pc + 7) = .ok (.invokespecial ic, 3)) (d10 : decode cc (pc + 10) = .ok (.athrow, 1))
    (hf : 5 < R.frames) (hloc : (st.map fun v => v.category).sum + 82 ≤ R.locals) (hcap : cells + 1 ≤ R.cells ∧ slots + 6 ≤ R.slots) (hM2 : cells + 1 ≤ MC ∧ slots + 6 ≤ MS) :
    G p l e R s m args below meth c nL cells slots (vx_MQ below (gQX E w k0 r) (gXC E w r) args s MC MS (fun q => eB E ≤ q)) E w σ pc lv st := by
  intro H locs ls hP hS hl
  cases hr
  have hts := hC.2.2.2.2.1
  have hK := hC.2.2.2.2.2.1
  have hg : ∀ w ∈ Cond.classLink RX6 ik (gExN n) :: Cond.initialized (gExN n) :: vx_atS RX6 ic (gExN n) gUp, vx_ot w = true := by
    intro w hw
    rcases List.mem_cons.mp hw with rfl | hw
    · rfl
    · rcases List.mem_cons.mp hw with rfl | hw
      · rfl
      · exact hot w hw
  refine vx_throwSW hC.1 hC.2.1 hflag hC.2.2.2.1 hfit (by decide) (hts _ hlink) (hts _ hini) (hK.2.2.2.1 _ htx) (fun w hw => ?_) hg hK.2.2.2.2.1 hK.2.2.2.2.2.1 hS (hl.1.trans hC.2.2.1.symm) d0 d3 d4 d7 d10 (fun x hx => (hX x hx).elim) (by exact hf) (by exact hloc) hcap.1 hcap.2 hC.2.2.2.2.2.2.2 (fun t hA h1 h2 => ⟨hn, rfl, hP.kept (fun k q hk => h2 q.1 ((hP k q hk).lt)), Nat.le_trans hS.1 h1, fun q h3 h4 => ?_⟩) hS.2.2 hM2.1 hM2.2
  · rcases hat w hw with h | h
    · exact hts _ h
    · have h5 := XWL_ok w h
      simp only [Bool.and_eq_true] at h5
      exact va_Nw.use h5.1 (hK.2.2.1 w h)
  · rw [h2 q (Nat.lt_of_lt_of_le h3 hS.1)]
    exact hS.2.1 q h3 h4

theorem G_tab4 {dflt o0 o1 o2 o3 : Int} {offs : Array Int} {len t0 t1 t2 t3 td : Nat} {x : Int32} (hC : gCx p s m args meth c cc nL own ret E) (d : decode cc pc = .ok (.tableswitch dflt 0 3 offs, len)) (ho : offs = #[o0, o1, o2, o3]) (h0 : (pc : Int) + o0 = (t0 : Int)) (h1 : (pc : Int) + o1 = (t1 : Int)) (h2 : (pc : Int) + o2 = (t2 : Int)) (h3 : (pc : Int) + o3 = (t3 : Int)) (hd : (pc : Int) + dflt = (td : Int))
    (k0 : x = 0 → G p l e R s m args below meth c nL cells slots Q E w σ t0 lv st) (k1 : x = 1 → G p l e R s m args below meth c nL cells slots Q E w σ t1 lv st) (k2 : x = 2 → G p l e R s m args below meth c nL cells slots Q E w σ t2 lv st) (k3 : x = 3 → G p l e R s m args below meth c nL cells slots Q E w σ t3 lv st) (kd : ¬ x = 0 → ¬ x = 1 → ¬ x = 2 → ¬ x = 3 → G p l e R s m args below meth c nL cells slots Q E w σ td lv st) : G p l e R s m args below meth c nL cells slots Q E w σ pc lv (.int x :: st) := by
  intro H locs ls hP hS hl
  subst ho
  by_cases e0 : x = 0
  · have k := k0 e0
    subst e0
    exact lv_tableIn hC.1 hC.2.1 d (by decide) (by decide) (off := o0) rfl h0 (k H locs ls hP hS hl)
  by_cases e1 : x = 1
  · have k := k1 e1
    subst e1
    exact lv_tableIn hC.1 hC.2.1 d (by decide) (by decide) (off := o1) rfl h1 (k H locs ls hP hS hl)
  by_cases e2 : x = 2
  · have k := k2 e2
    subst e2
    exact lv_tableIn hC.1 hC.2.1 d (by decide) (by decide) (off := o2) rfl h2 (k H locs ls hP hS hl)
  by_cases e3 : x = 3
  · have k := k3 e3
    subst e3
    exact lv_tableIn hC.1 hC.2.1 d (by decide) (by decide) (off := o3) rfl h3 (k H locs ls hP hS hl)
  refine lv_tableOut hC.1 hC.2.1 d ?_ hd (kd e0 e1 e2 e3 H locs ls hP hS hl)
  have f0 : ¬ x.toInt = 0 := fun h => e0 (Int32.toInt_inj.mp (by rw [h]; rfl))
  have f1 : ¬ x.toInt = 1 := fun h => e1 (Int32.toInt_inj.mp (by rw [h]; rfl))
  have f2 : ¬ x.toInt = 2 := fun h => e2 (Int32.toInt_inj.mp (by rw [h]; rfl))
  have f3 : ¬ x.toInt = 3 := fun h => e3 (Int32.toInt_inj.mp (by rw [h]; rfl))
  omega
end GM

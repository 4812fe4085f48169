/-! the judgement over the store: G .. σ pc locals stack; a row an instruction -/
def lkp : List (Nat × Value) → Nat → Option Value
  | [], _ => none
  | q :: r, i => cond (Nat.beq q.1 i) (some q.2) (lkp r i)
theorem lkp_mem {v : Value} {i : Nat} : ∀ {l : List (Nat × Value)}, lkp l i = some v → (i, v) ∈ l
  | [], h => by cases h
  | q :: r, h => by
    unfold lkp at h
    cases hb : Nat.beq q.1 i with
    | true =>
      rw [hb] at h
      have h1 : q.2 = v := Option.some.inj h
      have h2 : q.1 = i := Nat.eq_of_beq_eq_true hb
      have h3 : q = (i, v) := Prod.ext h2 h1
      rw [← h3]
      exact List.mem_cons_self
    | false =>
      rw [hb] at h
      exact List.mem_cons_of_mem _ (lkp_mem h)
theorem lkp_at {ls : Array Slot} {nL : Nat} {l : List (Nat × Value)} {i : Nat} {v : Value} (h : lv_has ls nL l) (hk : lkp l i = some v) : ls[i]? = some (.val v) := h.2.2 (i, v) (lkp_mem hk)
/-- guards and calls of the written functions -/
def gd {α : Type} (b : Bool) (k : Option α) : Option α := cond b k none
theorem gd_ok {α : Type} {b : Bool} {k : Option α} {r : α} (h : gd b k = some r) : b = true ∧ k = some r := by
  cases b with
  | true => exact ⟨rfl, h⟩
  | false => cases h
def bd {α : Type} (m : Option (Int32 × gSt)) (k : Int32 → gSt → Option α) : Option α := match m with
  | none => none
  | some r => k r.1 r.2
theorem bd_ok {α : Type} {m : Option (Int32 × gSt)} {k : Int32 → gSt → Option α} {r : α} (h : bd m k = some r) : ∃ (v : Int32) (σ : gSt), m = some (v, σ) ∧ k v σ = some r := by
  cases m with
  | none => cases h
  | some q => exact ⟨q.1, q.2, rfl, h⟩
def inb (x : Int32) (n : Nat) : Bool := decide (0 ≤ x) && Nat.blt x.toNatClampNeg n
theorem inb_in {x : Int32} {n : Nat} (h : inb x n = true) : vp_in x n := by
  simp only [inb, Bool.and_eq_true, decide_eq_true_eq] at h
  have h2 : x.toNatClampNeg < n := Nat.le_of_ble_eq_true h.2
  intro q
  rcases q with q | q
  · exact absurd q (Int32.not_lt.mpr h.1)
  · omega
theorem inb_lt {x : Int32} {n : Nat} (h : inb x n = true) : x.toNatClampNeg < n := by
  simp only [inb, Bool.and_eq_true] at h
  exact Nat.le_of_ble_eq_true h.2
/-- an array access: the type, the family, the owner, the place -/
def okA (t F i : Nat) (x : Int32) : Bool := isArr F && Nat.blt F 206 && Nat.beq (tA F) t && Nat.blt i (nA F) && inb x (lA F)
theorem okA_s {t F i : Nat} {x : Int32} (h : okA t F i x = true) : (dec (oA F i) = (10, F, i) ∧ oA F i < 606) ∧ tA F = t ∧ inb x (lA F) = true := by
  simp only [okA, Bool.and_eq_true] at h
  obtain ⟨⟨⟨⟨h1, h2⟩, h3⟩, h4⟩, h5⟩ := h
  exact ⟨dec_arr F (Nat.le_of_ble_eq_true h2) i (Nat.le_of_ble_eq_true h4) h1, Nat.eq_of_beq_eq_true h3, h5⟩
theorem okA_o {t F i : Nat} {x : Int32} (h : okA t F i x = true) : oOf F i = oA F i := by
  simp only [okA, Bool.and_eq_true] at h
  simp only [oOf, h.1.1.1.1, cond_true]
def b01 (x : Int32) : Bool := decide (x = 0 ∨ x = 1)
theorem b01_s {x : Int32} (h : b01 x = true) : x = 0 ∨ x = 1 := by simpa [b01] using h
def isC (x : Int32) : Bool := decide (0 ≤ x ∧ x ≤ 65535)
theorem isC_nI {x : Int32} (h : isC x = true) : ∃ j : Nat, j < 65536 ∧ x = nI j := by
  simp only [isC, decide_eq_true_eq] at h
  obtain ⟨j, hj, rfl⟩ := nI_of (Int32.not_lt.mpr h.1)
  refine ⟨j, ?_, rfl⟩
  have h2 := Int32.le_iff_toInt_le.mp h.2
  rw [nI_toInt hj] at h2
  have h3 : (65535 : Int32).toInt = 65535 := by decide
  omega
theorem isC_narrow {x : Int32} (h : isC x = true) : narrow .char (.int x) = .int x := by
  obtain ⟨j, hj, rfl⟩ := isC_nI h
  exact (pk_charN hj).1
theorem isC_fits {x : Int32} (h : isC x = true) : fits .char (.int x) = true := by
  obtain ⟨j, hj, rfl⟩ := isC_nI h
  exact (pk_charN hj).2
theorem isC_nar {x : Int32} (h : isC x = true) : vp_nar .char x = x := by
  simp only [vp_nar, isC_narrow h]
theorem b01_nar {x : Int32} (h : b01 x = true) : vp_nar .boolean x = x := by
  rcases b01_s h with rfl | rfl <;> rfl
theorem b01_narrow {x : Int32} (h : b01 x = true) : narrow .boolean (.int x) = .int x := by
  rcases b01_s h with rfl | rfl <;> rfl
theorem b01_fits {x : Int32} (h : b01 x = true) : fits .boolean (.int x) = true := by
  rcases b01_s h with rfl | rfl <;> decide
theorem upd_same (f : Nat → Int32) (k : Nat) (x : Int32) : upd f k x = fun k' => if k' = k then x else f k' := rfl
section GR
variable {p : Program} {l : Launch} {e : Env} {R : Room} {s : State} {m : MethodId} {args : Array Value} {below : List Frame} {meth : Method} {c : Code} {nL cells slots : Nat} {Q : State → Prop} {E : gE} {w : Nat → Int64} {σ : gSt} {pc q : Nat} {lv lv' : List (Nat × Value)} {st : List Value} {cc : ByteArray} {own : String} {ret : Option FieldType}
def G (p : Program) (l : Launch) (e : Env) (R : Room) (s : State) (m : MethodId) (args : Array Value) (below : List Frame) (meth : Method) (c : Code) (nL cells slots : Nat) (Q : State → Prop) (E : gE) (w : Nat → Int64) (σ : gSt) (pc : Nat) (lv : List (Nat × Value)) (st : List Value) : Prop :=
  ∀ (H : Heap) (locs : List Loc) (ls : Array Slot), va_P (eD E) vwCl (gW E w σ) H → va_S (fun q => eB E ≤ q) s.heap H locs → lv_has ls nL lv → W p l e R s m args below meth c H locs cells slots Q (F0 m pc ls st)
/-- what stands over a whole body -/
def gCx (p : Program) (s : State) (m : MethodId) (args : Array Value) (meth : Method) (c : Code) (cc : ByteArray) (nL : Nat) (own : String) (ret : Option FieldType) (E : gE) : Prop :=
  p.tables.exec = Jvm.exec ∧ c.code = cc ∧ c.maxLocals = nL ∧ s.vm.findClass own = some m.cls ∧ (∀ w ∈ WALL, w.before args s = true) ∧ gK E s ∧ meth.sig.returnType = ret ∧ meth.locks = false
theorem G_iconst {n : Int} {v : Int32} (hC : gCx p s m args meth c cc nL own ret E) (d : decode cc pc = .ok (.iconst n, 1)) (hq : pc + 1 = q) (hv : Int32.ofInt n = v) (k : G p l e R s m args below meth c nL cells slots Q E w σ q lv (.int v :: st)): G p l e R s m args below meth c nL cells slots Q E w σ pc lv st := by
  subst hq
  intro H locs ls hP hS hl
  exact lv_iconst hC.1 hC.2.1 d hv (k H locs ls hP hS hl)
theorem G_bipush {n : Int} {v : Int32} (hC : gCx p s m args meth c cc nL own ret E) (d : decode cc pc = .ok (.bipush n, 2)) (hq : pc + 2 = q) (hv : (Int8.ofInt n).toInt32 = v) (k : G p l e R s m args below meth c nL cells slots Q E w σ q lv (.int v :: st)): G p l e R s m args below meth c nL cells slots Q E w σ pc lv st := by
  subst hq
  intro H locs ls hP hS hl
  exact lv_bipush hC.1 hC.2.1 d hv (k H locs ls hP hS hl)
theorem G_sipush {n : Int} {v : Int32} (hC : gCx p s m args meth c cc nL own ret E) (d : decode cc pc = .ok (.sipush n, 3)) (hq : pc + 3 = q) (hv : (Int16.ofInt n).toInt32 = v) (k : G p l e R s m args below meth c nL cells slots Q E w σ q lv (.int v :: st)): G p l e R s m args below meth c nL cells slots Q E w σ pc lv st := by
  subst hq
  intro H locs ls hP hS hl
  exact lv_sipush hC.1 hC.2.1 d hv (k H locs ls hP hS hl)
theorem G_iload_n {n : Fin 4} {x : Int32} (hC : gCx p s m args meth c cc nL own ret E) (d : decode cc pc = .ok (.iload_n n, 1)) (hq : pc + 1 = q) (hx : lkp lv n = some (.int x)) (k : G p l e R s m args below meth c nL cells slots Q E w σ q lv (.int x :: st)): G p l e R s m args below meth c nL cells slots Q E w σ pc lv st := by
  subst hq
  intro H locs ls hP hS hl
  exact lv_iload_n hC.1 hC.2.1 d rfl (lkp_at hl hx) (k H locs ls hP hS hl)
theorem G_iload {n : Nat} {x : Int32} (hC : gCx p s m args meth c cc nL own ret E) (d : decode cc pc = .ok (.iload n, 2)) (hq : pc + 2 = q) (hx : lkp lv n = some (.int x)) (k : G p l e R s m args below meth c nL cells slots Q E w σ q lv (.int x :: st)): G p l e R s m args below meth c nL cells slots Q E w σ pc lv st := by
  subst hq
  intro H locs ls hP hS hl
  exact lv_iload hC.1 hC.2.1 d (lkp_at hl hx) (k H locs ls hP hS hl)
theorem G_aload_n {n : Fin 4} {x : Nat} (hC : gCx p s m args meth c cc nL own ret E) (d : decode cc pc = .ok (.aload_n n, 1)) (hq : pc + 1 = q) (hx : lkp lv n = some (.ref x)) (k : G p l e R s m args below meth c nL cells slots Q E w σ q lv (.ref x :: st)): G p l e R s m args below meth c nL cells slots Q E w σ pc lv st := by
  subst hq
  intro H locs ls hP hS hl
  exact lv_aload_n hC.1 hC.2.1 d rfl (lkp_at hl hx) (k H locs ls hP hS hl)
theorem G_aload {n : Nat} {x : Nat} (hC : gCx p s m args meth c cc nL own ret E) (d : decode cc pc = .ok (.aload n, 2)) (hq : pc + 2 = q) (hx : lkp lv n = some (.ref x)) (k : G p l e R s m args below meth c nL cells slots Q E w σ q lv (.ref x :: st)): G p l e R s m args below meth c nL cells slots Q E w σ pc lv st := by
  subst hq
  intro H locs ls hP hS hl
  exact lv_aload hC.1 hC.2.1 d (lkp_at hl hx) (k H locs ls hP hS hl)
theorem G_istore_n {n : Fin 4} {x : Int32} (hC : gCx p s m args meth c cc nL own ret E) (d : decode cc pc = .ok (.istore_n n, 1)) (hq : pc + 1 = q) (hn : (n : Nat) < nL) (hv : ((n : Nat), Value.int x) :: lv.filter (fun q => !(q.1 == (n : Nat)) && !(q.1 + 1 == (n : Nat) && q.2.category == 2)) = lv') (k : G p l e R s m args below meth c nL cells slots Q E w σ q lv' st): G p l e R s m args below meth c nL cells slots Q E w σ pc lv (.int x :: st) := by
  subst hq
  intro H locs ls hP hS hl
  exact lv_istore_n hC.1 hC.2.1 d rfl hl hn hv (fun ls' hl' => k H locs ls' hP hS hl')
theorem G_istore {n : Nat} {x : Int32} (hC : gCx p s m args meth c cc nL own ret E) (d : decode cc pc = .ok (.istore n, 2)) (hq : pc + 2 = q) (hn : n < nL) (hv : (n, Value.int x) :: lv.filter (fun q => !(q.1 == n) && !(q.1 + 1 == n && q.2.category == 2)) = lv') (k : G p l e R s m args below meth c nL cells slots Q E w σ q lv' st): G p l e R s m args below meth c nL cells slots Q E w σ pc lv (.int x :: st) := by
  subst hq
  intro H locs ls hP hS hl
  exact lv_istore hC.1 hC.2.1 d hl hn hv (fun ls' hl' => k H locs ls' hP hS hl')
theorem G_astore_n {n : Fin 4} {x : Nat} (hC : gCx p s m args meth c cc nL own ret E) (d : decode cc pc = .ok (.astore_n n, 1)) (hq : pc + 1 = q) (hn : (n : Nat) < nL) (hv : ((n : Nat), Value.ref x) :: lv.filter (fun q => !(q.1 == (n : Nat)) && !(q.1 + 1 == (n : Nat) && q.2.category == 2)) = lv') (k : G p l e R s m args below meth c nL cells slots Q E w σ q lv' st): G p l e R s m args below meth c nL cells slots Q E w σ pc lv (.ref x :: st) := by
  subst hq
  intro H locs ls hP hS hl
  exact lv_astore_n hC.1 hC.2.1 d rfl hl hn hv (fun ls' hl' => k H locs ls' hP hS hl')
theorem G_astore {n : Nat} {x : Nat} (hC : gCx p s m args meth c cc nL own ret E) (d : decode cc pc = .ok (.astore n, 2)) (hq : pc + 2 = q) (hn : n < nL) (hv : (n, Value.ref x) :: lv.filter (fun q => !(q.1 == n) && !(q.1 + 1 == n && q.2.category == 2)) = lv') (k : G p l e R s m args below meth c nL cells slots Q E w σ q lv' st): G p l e R s m args below meth c nL cells slots Q E w σ pc lv (.ref x :: st) := by
  subst hq
  intro H locs ls hP hS hl
  exact lv_astore hC.1 hC.2.1 d hl hn hv (fun ls' hl' => k H locs ls' hP hS hl')
theorem G_iinc {i n : Nat} {z : Int} {x v : Int32} (hC : gCx p s m args meth c cc nL own ret E) (d : decode cc pc = .ok (.iinc i z, 3)) (hq : pc + 3 = q) (hk : lv[n]? = some (i, .int x)) (hx : x + Int32.ofInt z = v) (hn : i < nL) (hv : (i, Value.int v) :: lv.filter (fun q => !(q.1 == i) && !(q.1 + 1 == i && q.2.category == 2)) = lv') (k : G p l e R s m args below meth c nL cells slots Q E w σ q lv' st): G p l e R s m args below meth c nL cells slots Q E w σ pc lv st := by
  subst hq
  intro H locs ls hP hS hl
  exact lv_iinc hC.1 hC.2.1 d hl hk hx hn hv (fun ls' hl' => k H locs ls' hP hS hl')
theorem G_iadd {x y : Int32} (hC : gCx p s m args meth c cc nL own ret E) (d : decode cc pc = .ok (.iadd, 1)) (hq : pc + 1 = q) (k : G p l e R s m args below meth c nL cells slots Q E w σ q lv (.int (x + y) :: st)): G p l e R s m args below meth c nL cells slots Q E w σ pc lv (.int y :: .int x :: st) := by
  subst hq
  intro H locs ls hP hS hl
  exact lv_iadd hC.1 hC.2.1 d (k H locs ls hP hS hl)
theorem G_isub {x y : Int32} (hC : gCx p s m args meth c cc nL own ret E) (d : decode cc pc = .ok (.isub, 1)) (hq : pc + 1 = q) (k : G p l e R s m args below meth c nL cells slots Q E w σ q lv (.int (x - y) :: st)): G p l e R s m args below meth c nL cells slots Q E w σ pc lv (.int y :: .int x :: st) := by
  subst hq
  intro H locs ls hP hS hl
  exact lv_isub hC.1 hC.2.1 d (k H locs ls hP hS hl)
theorem G_imul {x y : Int32} (hC : gCx p s m args meth c cc nL own ret E) (d : decode cc pc = .ok (.imul, 1)) (hq : pc + 1 = q) (k : G p l e R s m args below meth c nL cells slots Q E w σ q lv (.int (x * y) :: st)): G p l e R s m args below meth c nL cells slots Q E w σ pc lv (.int y :: .int x :: st) := by
  subst hq
  intro H locs ls hP hS hl
  exact lv_imul hC.1 hC.2.1 d (k H locs ls hP hS hl)
theorem G_iand {x y : Int32} (hC : gCx p s m args meth c cc nL own ret E) (d : decode cc pc = .ok (.iand, 1)) (hq : pc + 1 = q) (k : G p l e R s m args below meth c nL cells slots Q E w σ q lv (.int (x &&& y) :: st)): G p l e R s m args below meth c nL cells slots Q E w σ pc lv (.int y :: .int x :: st) := by
  subst hq
  intro H locs ls hP hS hl
  exact lv_iand hC.1 hC.2.1 d (k H locs ls hP hS hl)
theorem G_ior {x y : Int32} (hC : gCx p s m args meth c cc nL own ret E) (d : decode cc pc = .ok (.ior, 1)) (hq : pc + 1 = q) (k : G p l e R s m args below meth c nL cells slots Q E w σ q lv (.int (x ||| y) :: st)): G p l e R s m args below meth c nL cells slots Q E w σ pc lv (.int y :: .int x :: st) := by
  subst hq
  intro H locs ls hP hS hl
  exact lv_ior hC.1 hC.2.1 d (k H locs ls hP hS hl)
theorem G_ishl {x y : Int32} (hC : gCx p s m args meth c cc nL own ret E) (d : decode cc pc = .ok (.ishl, 1)) (hq : pc + 1 = q) (k : G p l e R s m args below meth c nL cells slots Q E w σ q lv (.int (x <<< (y &&& 31)) :: st)): G p l e R s m args below meth c nL cells slots Q E w σ pc lv (.int y :: .int x :: st) := by
  subst hq
  intro H locs ls hP hS hl
  exact lv_ishl hC.1 hC.2.1 d (k H locs ls hP hS hl)
theorem G_ishr {x y : Int32} (hC : gCx p s m args meth c cc nL own ret E) (d : decode cc pc = .ok (.ishr, 1)) (hq : pc + 1 = q) (k : G p l e R s m args below meth c nL cells slots Q E w σ q lv (.int (x >>> (y &&& 31)) :: st)): G p l e R s m args below meth c nL cells slots Q E w σ pc lv (.int y :: .int x :: st) := by
  subst hq
  intro H locs ls hP hS hl
  exact lv_ishr hC.1 hC.2.1 d (k H locs ls hP hS hl)
theorem G_idiv {x y : Int32} (hC : gCx p s m args meth c cc nL own ret E) (d : decode cc pc = .ok (.idiv, 1)) (hq : pc + 1 = q) (hne : ¬ y = 0) (k : G p l e R s m args below meth c nL cells slots Q E w σ q lv (.int (x / y) :: st)): G p l e R s m args below meth c nL cells slots Q E w σ pc lv (.int y :: .int x :: st) := by
  subst hq
  intro H locs ls hP hS hl
  exact lv_idiv hC.1 hC.2.1 d hne (k H locs ls hP hS hl)
theorem G_irem {x y : Int32} (hC : gCx p s m args meth c cc nL own ret E) (d : decode cc pc = .ok (.irem, 1)) (hq : pc + 1 = q) (hne : ¬ y = 0) (k : G p l e R s m args below meth c nL cells slots Q E w σ q lv (.int (x - (x / y) * y) :: st)): G p l e R s m args below meth c nL cells slots Q E w σ pc lv (.int y :: .int x :: st) := by
  subst hq
  intro H locs ls hP hS hl
  exact lv_irem hC.1 hC.2.1 d hne (k H locs ls hP hS hl)
theorem G_i2c {x v : Int32} (hC : gCx p s m args meth c cc nL own ret E) (d : decode cc pc = .ok (.i2c, 1)) (hq : pc + 1 = q) (hv : (x.toUInt32 % 65536).toInt32 = v) (k : G p l e R s m args below meth c nL cells slots Q E w σ q lv (.int v :: st)): G p l e R s m args below meth c nL cells slots Q E w σ pc lv (.int x :: st) := by
  subst hq
  intro H locs ls hP hS hl
  exact lv_i2c hC.1 hC.2.1 d hv (k H locs ls hP hS hl)
theorem G_dup {v : Value} (hC : gCx p s m args meth c cc nL own ret E) (d : decode cc pc = .ok (.dup, 1)) (hq : pc + 1 = q) (hv : v.category = 1) (k : G p l e R s m args below meth c nL cells slots Q E w σ q lv (v :: v :: st)): G p l e R s m args below meth c nL cells slots Q E w σ pc lv (v :: st) := by
  subst hq
  intro H locs ls hP hS hl
  exact lv_dup hC.1 hC.2.1 d hv (k H locs ls hP hS hl)
theorem G_dup2 {v u : Value} (hC : gCx p s m args meth c cc nL own ret E) (d : decode cc pc = .ok (.dup2, 1)) (hq : pc + 1 = q) (hv : v.category = 1) (hu : u.category = 1) (k : G p l e R s m args below meth c nL cells slots Q E w σ q lv (v :: u :: v :: u :: st)): G p l e R s m args below meth c nL cells slots Q E w σ pc lv (v :: u :: st) := by
  subst hq
  intro H locs ls hP hS hl
  exact lv_dup2_11 hC.1 hC.2.1 d hv hu (k H locs ls hP hS hl)
theorem G_dup_x1 {v u : Value} (hC : gCx p s m args meth c cc nL own ret E) (d : decode cc pc = .ok (.dup_x1, 1)) (hq : pc + 1 = q) (hv : v.category = 1) (hu : u.category = 1) (k : G p l e R s m args below meth c nL cells slots Q E w σ q lv (v :: u :: v :: st)): G p l e R s m args below meth c nL cells slots Q E w σ pc lv (v :: u :: st) := by
  subst hq
  intro H locs ls hP hS hl
  exact lv_dup_x1 hC.1 hC.2.1 d hv hu (k H locs ls hP hS hl)
theorem G_pop {v : Value} (hC : gCx p s m args meth c cc nL own ret E) (d : decode cc pc = .ok (.pop, 1)) (hq : pc + 1 = q) (hv : v.category = 1) (k : G p l e R s m args below meth c nL cells slots Q E w σ q lv st): G p l e R s m args below meth c nL cells slots Q E w σ pc lv (v :: st) := by
  subst hq
  intro H locs ls hP hS hl
  exact lv_pop hC.1 hC.2.1 d hv (k H locs ls hP hS hl)
theorem G_if_eq {x : Int32} {off : Int} {tgt : Nat} (hC : gCx p s m args meth c cc nL own ret E) (d : decode cc pc = .ok (.ifCond .eq off, 3)) (ht : (pc : Int) + off = (tgt : Int)) (hq : pc + 3 = q) (kt : x = 0 → G p l e R s m args below meth c nL cells slots Q E w σ tgt lv st) (kf : ¬ x = 0 → G p l e R s m args below meth c nL cells slots Q E w σ q lv st): G p l e R s m args below meth c nL cells slots Q E w σ pc lv (.int x :: st) := by
  subst hq
  intro H locs ls hP hS hl
  exact lv_if_eq hC.1 hC.2.1 d ht (fun h => kt h H locs ls hP hS hl) (fun h => kf h H locs ls hP hS hl)
theorem G_if_ne {x : Int32} {off : Int} {tgt : Nat} (hC : gCx p s m args meth c cc nL own ret E) (d : decode cc pc = .ok (.ifCond .ne off, 3)) (ht : (pc : Int) + off = (tgt : Int)) (hq : pc + 3 = q) (kt : ¬ x = 0 → G p l e R s m args below meth c nL cells slots Q E w σ tgt lv st) (kf : x = 0 → G p l e R s m args below meth c nL cells slots Q E w σ q lv st): G p l e R s m args below meth c nL cells slots Q E w σ pc lv (.int x :: st) := by
  subst hq
  intro H locs ls hP hS hl
  exact lv_if_ne hC.1 hC.2.1 d ht (fun h => kt h H locs ls hP hS hl) (fun h => kf h H locs ls hP hS hl)
theorem G_if_lt {x : Int32} {off : Int} {tgt : Nat} (hC : gCx p s m args meth c cc nL own ret E) (d : decode cc pc = .ok (.ifCond .lt off, 3)) (ht : (pc : Int) + off = (tgt : Int)) (hq : pc + 3 = q) (kt : x < 0 → G p l e R s m args below meth c nL cells slots Q E w σ tgt lv st) (kf : ¬ x < 0 → G p l e R s m args below meth c nL cells slots Q E w σ q lv st): G p l e R s m args below meth c nL cells slots Q E w σ pc lv (.int x :: st) := by
  subst hq
  intro H locs ls hP hS hl
  exact lv_if_lt hC.1 hC.2.1 d ht (fun h => kt h H locs ls hP hS hl) (fun h => kf h H locs ls hP hS hl)
theorem G_if_ge {x : Int32} {off : Int} {tgt : Nat} (hC : gCx p s m args meth c cc nL own ret E) (d : decode cc pc = .ok (.ifCond .ge off, 3)) (ht : (pc : Int) + off = (tgt : Int)) (hq : pc + 3 = q) (kt : 0 ≤ x → G p l e R s m args below meth c nL cells slots Q E w σ tgt lv st) (kf : ¬ 0 ≤ x → G p l e R s m args below meth c nL cells slots Q E w σ q lv st): G p l e R s m args below meth c nL cells slots Q E w σ pc lv (.int x :: st) := by
  subst hq
  intro H locs ls hP hS hl
  exact lv_if_ge hC.1 hC.2.1 d ht (fun h => kt h H locs ls hP hS hl) (fun h => kf h H locs ls hP hS hl)
theorem G_if_gt {x : Int32} {off : Int} {tgt : Nat} (hC : gCx p s m args meth c cc nL own ret E) (d : decode cc pc = .ok (.ifCond .gt off, 3)) (ht : (pc : Int) + off = (tgt : Int)) (hq : pc + 3 = q) (kt : 0 < x → G p l e R s m args below meth c nL cells slots Q E w σ tgt lv st) (kf : ¬ 0 < x → G p l e R s m args below meth c nL cells slots Q E w σ q lv st): G p l e R s m args below meth c nL cells slots Q E w σ pc lv (.int x :: st) := by
  subst hq
  intro H locs ls hP hS hl
  exact lv_if_gt hC.1 hC.2.1 d ht (fun h => kt h H locs ls hP hS hl) (fun h => kf h H locs ls hP hS hl)
theorem G_if_le {x : Int32} {off : Int} {tgt : Nat} (hC : gCx p s m args meth c cc nL own ret E) (d : decode cc pc = .ok (.ifCond .le off, 3)) (ht : (pc : Int) + off = (tgt : Int)) (hq : pc + 3 = q) (kt : x ≤ 0 → G p l e R s m args below meth c nL cells slots Q E w σ tgt lv st) (kf : ¬ x ≤ 0 → G p l e R s m args below meth c nL cells slots Q E w σ q lv st): G p l e R s m args below meth c nL cells slots Q E w σ pc lv (.int x :: st) := by
  subst hq
  intro H locs ls hP hS hl
  exact lv_if_le hC.1 hC.2.1 d ht (fun h => kt h H locs ls hP hS hl) (fun h => kf h H locs ls hP hS hl)
theorem G_icmp_eq {x y : Int32} {off : Int} {tgt : Nat} (hC : gCx p s m args meth c cc nL own ret E) (d : decode cc pc = .ok (.if_icmp .eq off, 3)) (ht : (pc : Int) + off = (tgt : Int)) (hq : pc + 3 = q) (kt : x = y → G p l e R s m args below meth c nL cells slots Q E w σ tgt lv st) (kf : ¬ x = y → G p l e R s m args below meth c nL cells slots Q E w σ q lv st): G p l e R s m args below meth c nL cells slots Q E w σ pc lv (.int y :: .int x :: st) := by
  subst hq
  intro H locs ls hP hS hl
  exact lv_icmp_eq hC.1 hC.2.1 d ht (fun h => kt h H locs ls hP hS hl) (fun h => kf h H locs ls hP hS hl)
theorem G_icmp_ne {x y : Int32} {off : Int} {tgt : Nat} (hC : gCx p s m args meth c cc nL own ret E) (d : decode cc pc = .ok (.if_icmp .ne off, 3)) (ht : (pc : Int) + off = (tgt : Int)) (hq : pc + 3 = q) (kt : ¬ x = y → G p l e R s m args below meth c nL cells slots Q E w σ tgt lv st) (kf : x = y → G p l e R s m args below meth c nL cells slots Q E w σ q lv st): G p l e R s m args below meth c nL cells slots Q E w σ pc lv (.int y :: .int x :: st) := by
  subst hq
  intro H locs ls hP hS hl
  exact lv_icmp_ne hC.1 hC.2.1 d ht (fun h => kt h H locs ls hP hS hl) (fun h => kf h H locs ls hP hS hl)
theorem G_icmp_lt {x y : Int32} {off : Int} {tgt : Nat} (hC : gCx p s m args meth c cc nL own ret E) (d : decode cc pc = .ok (.if_icmp .lt off, 3)) (ht : (pc : Int) + off = (tgt : Int)) (hq : pc + 3 = q) (kt : x < y → G p l e R s m args below meth c nL cells slots Q E w σ tgt lv st) (kf : ¬ x < y → G p l e R s m args below meth c nL cells slots Q E w σ q lv st): G p l e R s m args below meth c nL cells slots Q E w σ pc lv (.int y :: .int x :: st) := by
  subst hq
  intro H locs ls hP hS hl
  exact lv_icmp_lt hC.1 hC.2.1 d ht (fun h => kt h H locs ls hP hS hl) (fun h => kf h H locs ls hP hS hl)
theorem G_icmp_ge {x y : Int32} {off : Int} {tgt : Nat} (hC : gCx p s m args meth c cc nL own ret E) (d : decode cc pc = .ok (.if_icmp .ge off, 3)) (ht : (pc : Int) + off = (tgt : Int)) (hq : pc + 3 = q) (kt : y ≤ x → G p l e R s m args below meth c nL cells slots Q E w σ tgt lv st) (kf : ¬ y ≤ x → G p l e R s m args below meth c nL cells slots Q E w σ q lv st): G p l e R s m args below meth c nL cells slots Q E w σ pc lv (.int y :: .int x :: st) := by
  subst hq
  intro H locs ls hP hS hl
  exact lv_icmp_ge hC.1 hC.2.1 d ht (fun h => kt h H locs ls hP hS hl) (fun h => kf h H locs ls hP hS hl)
theorem G_icmp_gt {x y : Int32} {off : Int} {tgt : Nat} (hC : gCx p s m args meth c cc nL own ret E) (d : decode cc pc = .ok (.if_icmp .gt off, 3)) (ht : (pc : Int) + off = (tgt : Int)) (hq : pc + 3 = q) (kt : y < x → G p l e R s m args below meth c nL cells slots Q E w σ tgt lv st) (kf : ¬ y < x → G p l e R s m args below meth c nL cells slots Q E w σ q lv st): G p l e R s m args below meth c nL cells slots Q E w σ pc lv (.int y :: .int x :: st) := by
  subst hq
  intro H locs ls hP hS hl
  exact lv_icmp_gt hC.1 hC.2.1 d ht (fun h => kt h H locs ls hP hS hl) (fun h => kf h H locs ls hP hS hl)
theorem G_icmp_le {x y : Int32} {off : Int} {tgt : Nat} (hC : gCx p s m args meth c cc nL own ret E) (d : decode cc pc = .ok (.if_icmp .le off, 3)) (ht : (pc : Int) + off = (tgt : Int)) (hq : pc + 3 = q) (kt : x ≤ y → G p l e R s m args below meth c nL cells slots Q E w σ tgt lv st) (kf : ¬ x ≤ y → G p l e R s m args below meth c nL cells slots Q E w σ q lv st): G p l e R s m args below meth c nL cells slots Q E w σ pc lv (.int y :: .int x :: st) := by
  subst hq
  intro H locs ls hP hS hl
  exact lv_icmp_le hC.1 hC.2.1 d ht (fun h => kt h H locs ls hP hS hl) (fun h => kf h H locs ls hP hS hl)
theorem G_goto {off : Int} {tgt : Nat} (hC : gCx p s m args meth c cc nL own ret E) (d : decode cc pc = .ok (.goto off, 3)) (ht : (pc : Int) + off = (tgt : Int)) (k : G p l e R s m args below meth c nL cells slots Q E w σ tgt lv st): G p l e R s m args below meth c nL cells slots Q E w σ pc lv st := by
  intro H locs ls hP hS hl
  exact lv_goto hC.1 hC.2.1 d ht (k H locs ls hP hS hl)
theorem G_lv (ks : List Nat) (h : lv_pick lv ks = lv') (k : G p l e R s m args below meth c nL cells slots Q E w σ pc lv' st) : G p l e R s m args below meth c nL cells slots Q E w σ pc lv st := fun H locs ls hP hS hl => k H locs ls hP hS (lv_sub hl ks h)
def okF (x : Int32) : Bool := decide (0 ≤ x) && Nat.blt x.toNatClampNeg 5
theorem okF_lt {x : Int32} (h : okF x = true) : x.toNatClampNeg < 5 := by
  simp only [okF, Bool.and_eq_true] at h
  exact Nat.le_of_ble_eq_true h.2
theorem okF_eq {x y : Int32} (hx : okF x = true) (hy : okF y = true) (h : x.toNatClampNeg = y.toNatClampNeg) : x = y := by
  simp only [okF, Bool.and_eq_true, decide_eq_true_eq] at hx hy
  obtain ⟨j, hj, rfl⟩ := nI_of (Int32.not_lt.mpr hx.1)
  obtain ⟨k, hk, rfl⟩ := nI_of (Int32.not_lt.mpr hy.1)
  rw [nI_clamp hj, nI_clamp hk] at h
  rw [h]
theorem G_acmp_ne {x y : Int32} {off : Int} {tgt : Nat} (hC : gCx p s m args meth c cc nL own ret E) (d : decode cc pc = .ok (.if_acmp .ne off, 3)) (ht : (pc : Int) + off = (tgt : Int)) (hq : pc + 3 = q) (hx : okF x = true) (hy : okF y = true) (kt : ¬ x = y → G p l e R s m args below meth c nL cells slots Q E w σ tgt lv st) (kf : x = y → G p l e R s m args below meth c nL cells slots Q E w σ q lv st): G p l e R s m args below meth c nL cells slots Q E w σ pc lv (.ref (eF E y.toNatClampNeg) :: .ref (eF E x.toNatClampNeg) :: st) := by
  subst hq
  intro H locs ls hP hS hl
  exact lv_acmp_ne (rx := some (eF E x.toNatClampNeg)) (ry := some (eF E y.toNatClampNeg)) hC.1 hC.2.1 d ht (fun h => kt (fun z => h (by rw [z])) H locs ls hP hS hl) (fun h => kf (okF_eq hx hy (hC.2.2.2.2.2.1.2.2.2.2.2.2.2.1 _ _ (okF_lt hx) (okF_lt hy) (Option.some.inj h))) H locs ls hP hS hl)
theorem G_get {o ci k N idx : Nat} {C ref : String} {T : u_T} {fs : List Value} {v : Value} (hC : gCx p s m args meth c cc nL own ret E) (d : decode cc pc = .ok (.getfield idx, 3)) (hq : pc + 3 = q) (ho : o < 606) (hc : gC E w σ o = .inr (ci, fs)) (hcl : vwCl[ci]? = some (C, T, N)) (hin : ∀ w ∈ u_ws C T N, w ∈ WALL) (hk : k < N) (hlink : Cond.fieldLink own idx ref (T k).2.1 (T k).2.2.1 ∈ WALL) (href : (T k).1 = ref) (hv : fs[k]? = some v) (kk : G p l e R s m args below meth c nL cells slots Q E w σ q lv (v :: st)): G p l e R s m args below meth c nL cells slots Q E w σ pc lv (.ref (eB E + o) :: st) := by
  subst hq
  subst href
  intro H locs ls hP hS hl
  exact va_get hC.1 hC.2.1 hC.2.2.2.2.1 hin hC.2.2.2.1 hC.2.2.2.2.2.1.1 hP o (by rw [gW_at ho, hc]) hcl k hk (hC.2.2.2.2.1 _ hlink) (fun _ h => h) hv d (kk H locs ls hP hS hl)
theorem G_getN {host : String} {o ci k N idx : Nat} {C ref : String} {T : u_T} {fs : List Value} {v : Value} (hC : gCx p s m args meth c cc nL own ret E) (d : decode cc pc = .ok (.getfield idx, 3)) (hq : pc + 3 = q) (ho : o < 606) (hc : gC E w σ o = .inr (ci, fs)) (hcl : vwCl[ci]? = some (C, T, N)) (hin : ∀ w ∈ u_ws C T N, w ∈ WALL) (hk : k < N) (hlink : Cond.fieldLinkNest own idx ref (T k).2.1 (T k).2.2.1 host ∈ NWL) (href : (T k).1 = ref) (hv : fs[k]? = some v) (kk : G p l e R s m args below meth c nL cells slots Q E w σ q lv (v :: st)): G p l e R s m args below meth c nL cells slots Q E w σ pc lv (.ref (eB E + o) :: st) := by
  subst hq
  subst href
  intro H locs ls hP hS hl
  exact va_getN hC.1 hC.2.1 hC.2.2.2.2.1 hin hC.2.2.2.1 hC.2.2.2.2.2.1.1 hP o (by rw [gW_at ho, hc]) hcl k hk (va_Nw.use rfl (hC.2.2.2.2.2.1.2.1 _ hlink)) (fun _ h => h) hv d (kk H locs ls hP hS hl)
theorem G_put {o ci k N idx : Nat} {C ref : String} {T : u_T} {fs : List Value} {F i : Nat} {x : Int32} {ty : FieldType} (hC : gCx p s m args meth c cc nL own ret E) (d : decode cc pc = .ok (.putfield idx, 3)) (hq : pc + 3 = q) (ho : o < 606) (hc : gC E w σ o = .inr (ci, fs)) (hcl : vwCl[ci]? = some (C, T, N)) (hin : ∀ w ∈ u_ws C T N, w ∈ WALL) (hk : k < N) (hlink : Cond.fieldLink own idx ref (T k).2.1 (T k).2.2.1 ∈ WALL) (href : (T k).1 = ref) (hoo : oOf F i = o) (hset : gC E w (gU σ F i 0 x) o = .inr (ci, fs.set k (.int x))) (ty0 : Nat → FieldType) (hty : ∀ k, k < N → parseFieldDescriptor (T k).2.2.1 = some (ty0 k)) (hnm : ∀ a, a < N → ∀ b, b < N → a ≠ b → (T a).2.1 ≠ (T b).2.1) (hfin : (T k).2.2.2 = false) (hd : parseFieldDescriptor (T k).2.2.1 = some ty) (hn : narrow ty (.int x) = .int x) (hfit : fits ty (.int x) = true) (hlen : k < fs.length) (kk : G p l e R s m args below meth c nL cells slots Q E w (gU σ F i 0 x) q lv st): G p l e R s m args below meth c nL cells slots Q E w σ pc lv (.int x :: .ref (eB E + o) :: st) := by
  subst hq
  subst href
  intro H locs ls hP hS hl
  refine va_put hC.1 hC.2.1 hC.2.2.2.2.1 hin ty0 hty hnm hC.2.2.2.1 hC.2.2.2.2.2.1.1 hP gD hS o (by rw [gW_at ho, hc]) hcl k hk (hC.2.2.2.2.1 _ hlink) (fun _ h => h) hfin hd hn hfit hlen d (fun H1 locs1 hP1 _ hS1 => ?_)
  rw [gW_set hset (fun o' h1 h2 => by rw [gU_R]; exact gC_ne h1 (by rw [hoo]; exact h2))] at hP1
  exact kk H1 locs1 ls hP1 hS1 hl
theorem G_putN {host : String} {o ci k N idx : Nat} {C ref : String} {T : u_T} {fs : List Value} {F i : Nat} {x : Int32} {ty : FieldType} (hC : gCx p s m args meth c cc nL own ret E) (d : decode cc pc = .ok (.putfield idx, 3)) (hq : pc + 3 = q) (ho : o < 606) (hc : gC E w σ o = .inr (ci, fs)) (hcl : vwCl[ci]? = some (C, T, N)) (hin : ∀ w ∈ u_ws C T N, w ∈ WALL) (hk : k < N) (hlink : Cond.fieldLinkNest own idx ref (T k).2.1 (T k).2.2.1 host ∈ NWL) (href : (T k).1 = ref) (hoo : oOf F i = o) (hset : gC E w (gU σ F i 0 x) o = .inr (ci, fs.set k (.int x))) (ty0 : Nat → FieldType) (hty : ∀ k, k < N → parseFieldDescriptor (T k).2.2.1 = some (ty0 k)) (hnm : ∀ a, a < N → ∀ b, b < N → a ≠ b → (T a).2.1 ≠ (T b).2.1) (hfin : (T k).2.2.2 = false) (hd : parseFieldDescriptor (T k).2.2.1 = some ty) (hn : narrow ty (.int x) = .int x) (hfit : fits ty (.int x) = true) (hlen : k < fs.length) (kk : G p l e R s m args below meth c nL cells slots Q E w (gU σ F i 0 x) q lv st): G p l e R s m args below meth c nL cells slots Q E w σ pc lv (.int x :: .ref (eB E + o) :: st) := by
  subst hq
  subst href
  intro H locs ls hP hS hl
  refine va_putN hC.1 hC.2.1 hC.2.2.2.2.1 hin ty0 hty hnm hC.2.2.2.1 hC.2.2.2.2.2.1.1 hP gD hS o (by rw [gW_at ho, hc]) hcl k hk (va_Nw.use rfl (hC.2.2.2.2.2.1.2.1 _ hlink)) (fun _ h => h) hfin hd hn hfit hlen d (fun H1 locs1 hP1 _ hS1 => ?_)
  rw [gW_set hset (fun o' h1 h2 => by rw [gU_R]; exact gC_ne h1 (by rw [hoo]; exact h2))] at hP1
  exact kk H1 locs1 ls hP1 hS1 hl
theorem G_iald {F i : Nat} {x : Int32} (hC : gCx p s m args meth c cc nL own ret E) (d : decode cc pc = .ok (.iaload, 1)) (hq : pc + 1 = q) (h : okA 1 F i x = true) (k : G p l e R s m args below meth c nL cells slots Q E w σ q lv (.int (σ F i x.toNatClampNeg) :: st)): G p l e R s m args below meth c nL cells slots Q E w σ pc lv (.int x :: .ref (eB E + oA F i) :: st) := by
  subst hq
  intro H locs ls hP hS hl
  obtain ⟨⟨h1, h2⟩, h3, h4⟩ := okA_s h
  exact va_iald (f := fun k => σ F i k) (cA := eT E 1) hC.1 hC.2.1 hC.2.2.2.2.2.1.1 hP (oA F i) 1 (by rw [gW_at h2, gC, h1]; simp only [cellK, h3]) rfl (inb_in h4) d (k H locs ls hP hS hl)
theorem G_zald {F i : Nat} {x : Int32} (hC : gCx p s m args meth c cc nL own ret E) (d : decode cc pc = .ok (.baload, 1)) (hq : pc + 1 = q) (h : okA 2 F i x = true) (k : G p l e R s m args below meth c nL cells slots Q E w σ q lv (.int (σ F i x.toNatClampNeg) :: st)): G p l e R s m args below meth c nL cells slots Q E w σ pc lv (.int x :: .ref (eB E + oA F i) :: st) := by
  subst hq
  intro H locs ls hP hS hl
  obtain ⟨⟨h1, h2⟩, h3, h4⟩ := okA_s h
  exact va_zald (f := fun k => σ F i k) (cA := eT E 2) hC.1 hC.2.1 hC.2.2.2.2.2.1.1 hP (oA F i) 2 (by rw [gW_at h2, gC, h1]; simp only [cellK, h3]) rfl (inb_in h4) d (k H locs ls hP hS hl)
theorem G_cald {F i : Nat} {x : Int32} (hC : gCx p s m args meth c cc nL own ret E) (d : decode cc pc = .ok (.caload, 1)) (hq : pc + 1 = q) (h : okA 0 F i x = true) (k : G p l e R s m args below meth c nL cells slots Q E w σ q lv (.int (σ F i x.toNatClampNeg) :: st)): G p l e R s m args below meth c nL cells slots Q E w σ pc lv (.int x :: .ref (eB E + oA F i) :: st) := by
  subst hq
  intro H locs ls hP hS hl
  obtain ⟨⟨h1, h2⟩, h3, h4⟩ := okA_s h
  exact va_cald (f := fun k => σ F i k) (cA := eT E 0) hC.1 hC.2.1 hC.2.2.2.2.2.1.1 hP (oA F i) 0 (by rw [gW_at h2, gC, h1]; simp only [cellK, h3]) rfl (inb_in h4) d (k H locs ls hP hS hl)
theorem G_iast {F i : Nat} {x y : Int32} (hC : gCx p s m args meth c cc nL own ret E) (d : decode cc pc = .ok (.iastore, 1)) (hq : pc + 1 = q) (h : okA 1 F i x = true) (k : G p l e R s m args below meth c nL cells slots Q E w (gU σ F i x.toNatClampNeg y) q lv st): G p l e R s m args below meth c nL cells slots Q E w σ pc lv (.int y :: .int x :: .ref (eB E + oA F i) :: st) := by
  subst hq
  intro H locs ls hP hS hl
  obtain ⟨⟨h1, h2⟩, h3, h4⟩ := okA_s h
  refine va_iast (f := fun k => σ F i k) (cA := eT E 1) hC.1 hC.2.1 hC.2.2.2.2.2.1.1 hP gD hS (oA F i) 1 (by rw [gW_at h2, gC, h1]; simp only [cellK, h3]) rfl (inb_in h4) d (fun H1 locs1 hP1 _ hS1 => ?_)
  rw [gW_set (σ' := gU σ F i x.toNatClampNeg y) (by rw [gC, h1]; simp only [cellK, h3]; rw [gU_R]; simp only [gR, and_self, if_true]; rfl) (fun o' h1 h2 => by rw [gU_R]; exact gC_ne h1 (by rw [okA_o h]; exact h2))] at hP1
  exact k H1 locs1 ls hP1 hS1 hl
theorem G_zast {F i : Nat} {x y : Int32} (hC : gCx p s m args meth c cc nL own ret E) (d : decode cc pc = .ok (.bastore, 1)) (hq : pc + 1 = q) (h : okA 2 F i x = true) (hb : b01 y = true) (k : G p l e R s m args below meth c nL cells slots Q E w (gU σ F i x.toNatClampNeg y) q lv st): G p l e R s m args below meth c nL cells slots Q E w σ pc lv (.int y :: .int x :: .ref (eB E + oA F i) :: st) := by
  subst hq
  intro H locs ls hP hS hl
  obtain ⟨⟨h1, h2⟩, h3, h4⟩ := okA_s h
  refine va_zast (f := fun k => σ F i k) (cA := eT E 2) hC.1 hC.2.1 hC.2.2.2.2.2.1.1 hP gD hS (oA F i) 2 (by rw [gW_at h2, gC, h1]; simp only [cellK, h3]) rfl (inb_in h4) d (fun H1 locs1 hP1 _ hS1 => ?_)
  rw [b01_nar hb] at hP1
  rw [gW_set (σ' := gU σ F i x.toNatClampNeg y) (by rw [gC, h1]; simp only [cellK, h3]; rw [gU_R]; simp only [gR, and_self, if_true]; rfl) (fun o' h1 h2 => by rw [gU_R]; exact gC_ne h1 (by rw [okA_o h]; exact h2))] at hP1
  exact k H1 locs1 ls hP1 hS1 hl
theorem G_cast {F i : Nat} {x y : Int32} (hC : gCx p s m args meth c cc nL own ret E) (d : decode cc pc = .ok (.castore, 1)) (hq : pc + 1 = q) (h : okA 0 F i x = true) (hb : isC y = true) (k : G p l e R s m args below meth c nL cells slots Q E w (gU σ F i x.toNatClampNeg y) q lv st): G p l e R s m args below meth c nL cells slots Q E w σ pc lv (.int y :: .int x :: .ref (eB E + oA F i) :: st) := by
  subst hq
  intro H locs ls hP hS hl
  obtain ⟨⟨h1, h2⟩, h3, h4⟩ := okA_s h
  refine va_cast (f := fun k => σ F i k) (cA := eT E 0) hC.1 hC.2.1 hC.2.2.2.2.2.1.1 hP gD hS (oA F i) 0 (by rw [gW_at h2, gC, h1]; simp only [cellK, h3]) rfl (inb_in h4) d (fun H1 locs1 hP1 _ hS1 => ?_)
  rw [isC_nar hb] at hP1
  rw [gW_set (σ' := gU σ F i x.toNatClampNeg y) (by rw [gC, h1]; simp only [cellK, h3]; rw [gU_R]; simp only [gR, and_self, if_true]; rfl) (fun o' h1 h2 => by rw [gU_R]; exact gC_ne h1 (by rw [okA_o h]; exact h2))] at hP1
  exact k H1 locs1 ls hP1 hS1 hl
theorem G_aldArt {x : Int32} (hC : gCx p s m args meth c cc nL own ret E) (d : decode cc pc = .ok (.aaload, 1)) (hq : pc + 1 = q) (h : inb x 24 = true) (k : G p l e R s m args below meth c nL cells slots Q E w σ q lv (.ref (eB E + oArt x.toNatClampNeg) :: st)): G p l e R s m args below meth c nL cells slots Q E w σ pc lv (.int x :: .ref (eB E + 4) :: st) := by
  subst hq
  intro H locs ls hP hS hl
  exact va_aldq (f := fun k => some (eB E + oArt k)) (cA := eT E 3) (C := RX0) hC.1 hC.2.1 hC.2.2.2.2.2.1.1 hP (4) 3 (by rw [gW_at (by decide)]; rfl) rfl (inb_in h) d (k H locs ls hP hS hl)
theorem G_aldVol {x : Int32} (hC : gCx p s m args meth c cc nL own ret E) (d : decode cc pc = .ok (.aaload, 1)) (hq : pc + 1 = q) (h : inb x 4 = true) (k : G p l e R s m args below meth c nL cells slots Q E w σ q lv (.ref (eB E + oVol x.toNatClampNeg) :: st)): G p l e R s m args below meth c nL cells slots Q E w σ pc lv (.int x :: .ref (eB E + 5) :: st) := by
  subst hq
  intro H locs ls hP hS hl
  exact va_aldq (f := fun k => some (eB E + oVol k)) (cA := eT E 6) (C := RX5) hC.1 hC.2.1 hC.2.2.2.2.2.1.1 hP (5) 6 (by rw [gW_at (by decide)]; rfl) rfl (inb_in h) d (k H locs ls hP hS hl)
theorem G_aldCon {x : Int32} (hC : gCx p s m args meth c cc nL own ret E) (d : decode cc pc = .ok (.aaload, 1)) (hq : pc + 1 = q) (h : inb x 6 = true) (k : G p l e R s m args below meth c nL cells slots Q E w σ q lv (.ref (eB E + oCon x.toNatClampNeg) :: st)): G p l e R s m args below meth c nL cells slots Q E w σ pc lv (.int x :: .ref (eB E + 6) :: st) := by
  subst hq
  intro H locs ls hP hS hl
  exact va_aldq (f := fun k => some (eB E + oCon k)) (cA := eT E 4) (C := RX1) hC.1 hC.2.1 hC.2.2.2.2.2.1.1 hP (6) 4 (by rw [gW_at (by decide)]; rfl) rfl (inb_in h) d (k H locs ls hP hS hl)
theorem G_aldRef {i : Nat} {x : Int32} (hC : gCx p s m args meth c cc nL own ret E) (d : decode cc pc = .ok (.aaload, 1)) (hq : pc + 1 = q) (hi : i < 24) (h : inb x 4 = true) (k : G p l e R s m args below meth c nL cells slots Q E w σ q lv (.ref (eB E + oRef (4 * i + x.toNatClampNeg)) :: st)): G p l e R s m args below meth c nL cells slots Q E w σ pc lv (.int x :: .ref (eB E + oRa i) :: st) := by
  subst hq
  intro H locs ls hP hS hl
  exact va_aldq (f := fun k => some (eB E + oRef (4 * i + k))) (cA := eT E 5) (C := RX4) hC.1 hC.2.1 hC.2.2.2.2.2.1.1 hP (oRa i) 5 (by rw [gW_at (dec_ra i hi).2, gC, (dec_ra i hi).1]; rfl) rfl (inb_in h) d (k H locs ls hP hS hl)
theorem G_fate {n : Nat} {nm : String} {idx : Nat} (hC : gCx p s m args meth c cc nL own ret E) (d : decode cc pc = .ok (.getstatic idx, 3)) (hq : pc + 3 = q) (hn : gFates[n]? = some nm) (hlink : Cond.fieldLink own idx RX2 nm gFd ∈ WALL) (k : G p l e R s m args below meth c nL cells slots Q E w σ q lv (.ref (eF E n) :: st)): G p l e R s m args below meth c nL cells slots Q E w σ pc lv st := by
  subst hq
  intro H locs ls hP hS hl
  exact va_gets hC.1 hC.2.1 (hC.2.2.2.2.2.1.2.2.2.2.2.2.1 n nm hn) hS hC.2.2.2.1 (hC.2.2.2.2.1 _ hlink) (fun _ h => h) d (k H locs ls hP hS hl)
end GR

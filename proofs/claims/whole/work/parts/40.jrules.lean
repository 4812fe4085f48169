/-! the judgement of the constructors: a world that grows, its content a function of the cells' numbers -/
def gV (E : gE) (CC : Nat → va_E) (nn : Nat) : va_W := (List.range nn).map (fun o => (eB E + o, CC o))
theorem gV_at {E : gE} {CC : Nat → va_E} {nn o : Nat} (h : o < nn) : (gV E CC nn)[o]? = some (eB E + o, CC o) := by
  simp [gV, h]
theorem gV_inv {E : gE} {CC : Nat → va_E} {nn o : Nat} {q : Nat × va_E} (h : (gV E CC nn)[o]? = some q) : o < nn ∧ q = (eB E + o, CC o) := by
  have h1 : o < nn := by
    have := (List.getElem?_eq_some_iff.mp h).1
    simpa [gV] using this
  rw [gV_at h1] at h
  exact ⟨h1, (Option.some.inj h).symm⟩
theorem gVD {E : gE} {CC : Nat → va_E} {nn : Nat} : va_D (fun q => eB E ≤ q) (gV E CC nn) := by
  refine ⟨fun i j p q hi hj hpq => ?_, fun k q hk => ?_⟩
  · obtain ⟨-, rfl⟩ := gV_inv hi
    obtain ⟨-, rfl⟩ := gV_inv hj
    have : eB E + i = eB E + j := hpq
    omega
  · obtain ⟨-, rfl⟩ := gV_inv hk
    exact Nat.le_add_right _ _
def cU (CC : Nat → va_E) (o : Nat) (v : va_E) : Nat → va_E := fun q => if q = o then v else CC q
theorem gV_set {E : gE} {CC : Nat → va_E} {nn o : Nat} {v : va_E} : (gV E CC nn).set o (eB E + o, v) = gV E (cU CC o v) nn := by
  apply List.ext_getElem?
  intro k
  rw [List.getElem?_set]
  by_cases hk : k < nn
  · rw [gV_at hk, gV_at hk]
    by_cases e : o = k
    · subst e
      simp [gV, hk, cU]
    · rw [if_neg e]
      show some (eB E + k, CC k) = some (eB E + k, if k = o then v else CC k)
      rw [if_neg (fun z : k = o => e z.symm)]
  · have e1 : (gV E (cU CC o v) nn)[k]? = none := by simp [gV]; omega
    have e2 : (gV E CC nn)[k]? = none := by simp [gV]; omega
    have e3 : ¬ k < (gV E CC nn).length := by simpa [gV] using hk
    rw [e1, e2]
    by_cases e : o = k
    · subst e
      simp [e3]
    · simp [e]
theorem gV_low {E : gE} {CC : Nat → va_E} {nn : Nat} {H : Heap} (h : va_P (eD E) vwCl (gV E CC nn) H) (hn : 0 < nn) : eB E + nn ≤ H.size := by
  have h1 := (h (nn - 1) _ (gV_at (by omega))).lt
  have h2 : eB E + (nn - 1) < H.size := h1
  omega
/-- one cell more -/
theorem gV_push {E : gE} {CC : Nat → va_E} {nn : Nat} {v : va_E} {H H1 : Heap} (h : va_P (eD E) vwCl (gV E CC nn) H) (hk : ∀ q, q < H.size → H1[q]? = H[q]?) (hv : va_at (eD E) vwCl (eB E + nn, v) H1) : va_P (eD E) vwCl (gV E (cU CC nn v) (nn + 1)) H1 := by
  intro k q hkq
  obtain ⟨h1, rfl⟩ := gV_inv hkq
  by_cases e : k = nn
  · subst e
    simpa [cU] using hv
  · have h2 : k < nn := by omega
    have h3 := h k _ (gV_at h2)
    have h4 : (eB E + k, cU CC nn v k) = (eB E + k, CC k) := by simp [cU, e]
    rw [h4]
    exact h3.kept (hk _ h3.lt)
/-- a world's content counts only up to its size -/
theorem gV_congr {E : gE} {CC C2 : Nat → va_E} {nn : Nat} (h : ∀ q, q < nn → CC q = C2 q) : gV E CC nn = gV E C2 nn := by
  unfold gV
  apply List.map_congr_left
  intro q hq
  rw [h q (List.mem_range.mp hq)]
def gO (U : State) : Prop := ∀ C ∈ [RX0, RX1, RX4, RX5], va_AO C U
section JR
variable {p : Program} {l : Launch} {e : Env} {R : Room} {s : State} {m : MethodId} {args : Array Value} {below : List Frame} {meth : Method} {c : Code} {nL cells slots : Nat} {Q : State → Prop} {E : gE} {CC : Nat → va_E} {nn : Nat} {pc q : Nat} {lv lv' : List (Nat × Value)} {st : List Value} {cc : ByteArray} {own : String} {ret : Option FieldType}
def J (p : Program) (l : Launch) (e : Env) (R : Room) (s : State) (m : MethodId) (args : Array Value) (below : List Frame) (meth : Method) (c : Code) (nL cells slots : Nat) (Q : State → Prop) (E : gE) (CC : Nat → va_E) (nn : Nat) (pc : Nat) (lv : List (Nat × Value)) (st : List Value) : Prop :=
  ∀ (H : Heap) (locs : List Loc) (ls : Array Slot), va_P (eD E) vwCl (gV E CC nn) H → va_S (fun q => eB E ≤ q) s.heap H locs → eB E + nn ≤ H.size → lv_has ls nL lv → W p l e R s m args below meth c H locs cells slots Q (F0 m pc ls st)
theorem J_iconst {n : Int} {v : Int32} (hC : gCx p s m args meth c cc nL own ret E) (d : decode cc pc = .ok (.iconst n, 1)) (hq : pc + 1 = q) (hv : Int32.ofInt n = v) (k : J p l e R s m args below meth c nL cells slots Q E CC nn q lv (.int v :: st)): J p l e R s m args below meth c nL cells slots Q E CC nn pc lv st := by
  subst hq
  intro H locs ls hP hS hz hl
  exact lv_iconst hC.1 hC.2.1 d hv (k H locs ls hP hS hz hl)
theorem J_bipush {n : Int} {v : Int32} (hC : gCx p s m args meth c cc nL own ret E) (d : decode cc pc = .ok (.bipush n, 2)) (hq : pc + 2 = q) (hv : (Int8.ofInt n).toInt32 = v) (k : J p l e R s m args below meth c nL cells slots Q E CC nn q lv (.int v :: st)): J p l e R s m args below meth c nL cells slots Q E CC nn pc lv st := by
  subst hq
  intro H locs ls hP hS hz hl
  exact lv_bipush hC.1 hC.2.1 d hv (k H locs ls hP hS hz hl)
theorem J_sipush {n : Int} {v : Int32} (hC : gCx p s m args meth c cc nL own ret E) (d : decode cc pc = .ok (.sipush n, 3)) (hq : pc + 3 = q) (hv : (Int16.ofInt n).toInt32 = v) (k : J p l e R s m args below meth c nL cells slots Q E CC nn q lv (.int v :: st)): J p l e R s m args below meth c nL cells slots Q E CC nn pc lv st := by
  subst hq
  intro H locs ls hP hS hz hl
  exact lv_sipush hC.1 hC.2.1 d hv (k H locs ls hP hS hz hl)
theorem J_iload_n {n : Fin 4} {x : Int32} (hC : gCx p s m args meth c cc nL own ret E) (d : decode cc pc = .ok (.iload_n n, 1)) (hq : pc + 1 = q) (hx : lkp lv n = some (.int x)) (k : J p l e R s m args below meth c nL cells slots Q E CC nn q lv (.int x :: st)): J p l e R s m args below meth c nL cells slots Q E CC nn pc lv st := by
  subst hq
  intro H locs ls hP hS hz hl
  exact lv_iload_n hC.1 hC.2.1 d rfl (lkp_at hl hx) (k H locs ls hP hS hz hl)
theorem J_iload {n : Nat} {x : Int32} (hC : gCx p s m args meth c cc nL own ret E) (d : decode cc pc = .ok (.iload n, 2)) (hq : pc + 2 = q) (hx : lkp lv n = some (.int x)) (k : J p l e R s m args below meth c nL cells slots Q E CC nn q lv (.int x :: st)): J p l e R s m args below meth c nL cells slots Q E CC nn pc lv st := by
  subst hq
  intro H locs ls hP hS hz hl
  exact lv_iload hC.1 hC.2.1 d (lkp_at hl hx) (k H locs ls hP hS hz hl)
theorem J_aload_n {n : Fin 4} {x : Nat} (hC : gCx p s m args meth c cc nL own ret E) (d : decode cc pc = .ok (.aload_n n, 1)) (hq : pc + 1 = q) (hx : lkp lv n = some (.ref x)) (k : J p l e R s m args below meth c nL cells slots Q E CC nn q lv (.ref x :: st)): J p l e R s m args below meth c nL cells slots Q E CC nn pc lv st := by
  subst hq
  intro H locs ls hP hS hz hl
  exact lv_aload_n hC.1 hC.2.1 d rfl (lkp_at hl hx) (k H locs ls hP hS hz hl)
theorem J_istore_n {n : Fin 4} {x : Int32} (hC : gCx p s m args meth c cc nL own ret E) (d : decode cc pc = .ok (.istore_n n, 1)) (hq : pc + 1 = q) (hn : (n : Nat) < nL) (hv : ((n : Nat), Value.int x) :: lv.filter (fun q => !(q.1 == (n : Nat)) && !(q.1 + 1 == (n : Nat) && q.2.category == 2)) = lv') (k : J p l e R s m args below meth c nL cells slots Q E CC nn q lv' st): J p l e R s m args below meth c nL cells slots Q E CC nn pc lv (.int x :: st) := by
  subst hq
  intro H locs ls hP hS hz hl
  exact lv_istore_n hC.1 hC.2.1 d rfl hl hn hv (fun ls' hl' => k H locs ls' hP hS hz hl')
theorem J_istore {n : Nat} {x : Int32} (hC : gCx p s m args meth c cc nL own ret E) (d : decode cc pc = .ok (.istore n, 2)) (hq : pc + 2 = q) (hn : n < nL) (hv : (n, Value.int x) :: lv.filter (fun q => !(q.1 == n) && !(q.1 + 1 == n && q.2.category == 2)) = lv') (k : J p l e R s m args below meth c nL cells slots Q E CC nn q lv' st): J p l e R s m args below meth c nL cells slots Q E CC nn pc lv (.int x :: st) := by
  subst hq
  intro H locs ls hP hS hz hl
  exact lv_istore hC.1 hC.2.1 d hl hn hv (fun ls' hl' => k H locs ls' hP hS hz hl')
theorem J_astore_n {n : Fin 4} {x : Nat} (hC : gCx p s m args meth c cc nL own ret E) (d : decode cc pc = .ok (.astore_n n, 1)) (hq : pc + 1 = q) (hn : (n : Nat) < nL) (hv : ((n : Nat), Value.ref x) :: lv.filter (fun q => !(q.1 == (n : Nat)) && !(q.1 + 1 == (n : Nat) && q.2.category == 2)) = lv') (k : J p l e R s m args below meth c nL cells slots Q E CC nn q lv' st): J p l e R s m args below meth c nL cells slots Q E CC nn pc lv (.ref x :: st) := by
  subst hq
  intro H locs ls hP hS hz hl
  exact lv_astore_n hC.1 hC.2.1 d rfl hl hn hv (fun ls' hl' => k H locs ls' hP hS hz hl')
theorem J_iinc {i n : Nat} {z : Int} {x v : Int32} (hC : gCx p s m args meth c cc nL own ret E) (d : decode cc pc = .ok (.iinc i z, 3)) (hq : pc + 3 = q) (hk : lv[n]? = some (i, .int x)) (hx : x + Int32.ofInt z = v) (hn : i < nL) (hv : (i, Value.int v) :: lv.filter (fun q => !(q.1 == i) && !(q.1 + 1 == i && q.2.category == 2)) = lv') (k : J p l e R s m args below meth c nL cells slots Q E CC nn q lv' st): J p l e R s m args below meth c nL cells slots Q E CC nn pc lv st := by
  subst hq
  intro H locs ls hP hS hz hl
  exact lv_iinc hC.1 hC.2.1 d hl hk hx hn hv (fun ls' hl' => k H locs ls' hP hS hz hl')
theorem J_dup {v : Value} (hC : gCx p s m args meth c cc nL own ret E) (d : decode cc pc = .ok (.dup, 1)) (hq : pc + 1 = q) (hv : v.category = 1) (k : J p l e R s m args below meth c nL cells slots Q E CC nn q lv (v :: v :: st)): J p l e R s m args below meth c nL cells slots Q E CC nn pc lv (v :: st) := by
  subst hq
  intro H locs ls hP hS hz hl
  exact lv_dup hC.1 hC.2.1 d hv (k H locs ls hP hS hz hl)
theorem J_icmp_ge {x y : Int32} {off : Int} {tgt : Nat} (hC : gCx p s m args meth c cc nL own ret E) (d : decode cc pc = .ok (.if_icmp .ge off, 3)) (ht : (pc : Int) + off = (tgt : Int)) (hq : pc + 3 = q) (kt : y ≤ x → J p l e R s m args below meth c nL cells slots Q E CC nn tgt lv st) (kf : ¬ y ≤ x → J p l e R s m args below meth c nL cells slots Q E CC nn q lv st): J p l e R s m args below meth c nL cells slots Q E CC nn pc lv (.int y :: .int x :: st) := by
  subst hq
  intro H locs ls hP hS hz hl
  exact lv_icmp_ge hC.1 hC.2.1 d ht (fun h => kt h H locs ls hP hS hz hl) (fun h => kf h H locs ls hP hS hz hl)
theorem J_goto {off : Int} {tgt : Nat} (hC : gCx p s m args meth c cc nL own ret E) (d : decode cc pc = .ok (.goto off, 3)) (ht : (pc : Int) + off = (tgt : Int)) (k : J p l e R s m args below meth c nL cells slots Q E CC nn tgt lv st): J p l e R s m args below meth c nL cells slots Q E CC nn pc lv st := by
  intro H locs ls hP hS hz hl
  exact lv_goto hC.1 hC.2.1 d ht (k H locs ls hP hS hz hl)
theorem J_lv (ks : List Nat) (h : lv_pick lv ks = lv') (k : J p l e R s m args below meth c nL cells slots Q E CC nn pc lv' st) : J p l e R s m args below meth c nL cells slots Q E CC nn pc lv st := fun H locs ls hP hS hz hl => k H locs ls hP hS hz (lv_sub hl ks h)
/-- the heap's size is known where a cell is made -/
theorem j_size {T : State} {H : Heap} {locs : List Loc} (hs : s.heap.size + cells = eB E + nn) (hz : eB E + nn ≤ H.size) (hT : T.heap = H) (X : Stand p l e R s m args below meth c T locs cells slots) : H.size = eB E + nn := by
  have h := X.same.2.2.1
  have h2 : T.heap.size ≤ s.heap.size + cells := h
  rw [hT] at h2
  omega
theorem j_keep {A : Nat → Prop} {H0 H H1 : Heap} {locs : List Loc} (hS : va_S A H0 H locs) (z1 : H1.size = H.size + 1) (o1 : ∀ q, q < H.size → H1[q]? = H[q]?) : va_S A H0 H1 locs :=
  ⟨Nat.le_trans hS.1 (by omega), fun x h1 h2 => (o1 x (Nat.lt_of_lt_of_le h1 hS.1)).trans (hS.2.1 x h1 h2), hS.2.2⟩
theorem J_new {ci N idx : Nat} {C : String} {T : u_T} {fs : List Value} (hC : gCx p s m args meth c cc nL own ret E) (d : decode cc pc = .ok (.new idx, 3)) (hq : pc + 3 = q) (hs : s.heap.size + cells = eB E + nn) (ty : Nat → FieldType) (hty : ∀ k, k < N → parseFieldDescriptor (T k).2.2.1 = some (ty k)) (hin : ∀ w ∈ u_ws C T N, w ∈ WALL) (hc : vwCl[ci]? = some (C, T, N)) (hcl : Cond.classLink own idx C ∈ WALL) (hinst : Cond.instantiable C N ∈ WALL) (hini : Cond.initialized C ∈ WALL)
    (hfs : ∀ j, j < N → defaultValue (ty j) = vp_V fs j) (hcap : cells + 1 ≤ R.cells ∧ slots + N ≤ R.slots) (kk : ∀ C2 : Nat → va_E, C2 nn = .inr (ci, fs) → (∀ q, q < nn → C2 q = CC q) → J p l e R s m args below meth c nL (cells + 1) (slots + N) Q E C2 (nn + 1) q lv (.ref (eB E + nn) :: st)) : J p l e R s m args below meth c nL cells slots Q E CC nn pc lv st := by
  subst hq
  intro H locs ls hP hS hz hl T' hT X
  have hsz := j_size hs hz hT X
  have hts := hC.2.2.2.2.1
  have hKn := hC.2.2.2.2.2.1.1.1 ci _ hc
  refine (show W p l e R s m args below meth c H locs cells slots Q (F0 m pc ls st) from ?_) T' hT X
  refine W.newcK hC.1 hC.2.1 hC.2.2.2.1 (hts _ hcl) (hts _ hinst) (hts _ hini) rfl d hcap.1 hcap.2 hKn.2.1 hsz (fun H1 kC hkC e1 z1 o1 => ?_)
  have z2 : H1.size = H.size + 1 := by rw [z1, hsz]
  have o2 : ∀ q, q < H.size → H1[q]? = H[q]? := fun q hq => o1 q (by rw [← hsz]; exact hq)
  exact kk (cU CC nn (.inr (ci, fs))) (by simp [cU]) (fun q hq => by simp [cU, Nat.ne_of_lt hq]) H1 locs ls (gV_push hP o2 ⟨_, hc, (u_born ty hts (fun w hw => hin w hw) hKn hkC e1 hty).to hfs⟩) (j_keep hS z2 o2) (by omega) hl
theorem J_newa {atype : ArrayType} {t N : Nat} {n : Int32} {ty : FieldType} (hC : gCx p s m args meth c cc nL own ret E) (d : decode cc pc = .ok (.newarray atype, 2)) (hq : pc + 2 = q) (hs : s.heap.size + cells = eB E + nn) (harr : Cond.arrayClass (newarray.typeOf atype) ∈ WALL) (hty : newarray.typeOf atype = ty) (ht : (gTys E)[t]? = some (eT E t, ty)) {a0 : vp_A} (ha : ∀ cA : ClassId, vp_cell cA a0 = arrV cA N (fun _ => defaultValue ty)) (hnm : va_RA s (eT E t) ty → s.vm.findClass ("[" ++ ty.toString) = some (eT E t)) (hn : ¬ n < 0) (hN : n.toNatClampNeg = N) (hb : N * componentBytes ty ≤ 536870912) (hcap : cells + 1 ≤ R.cells ∧ slots + N ≤ R.slots)
    (kk : ∀ C2 : Nat → va_E, C2 nn = .inl (eT E t, a0) → (∀ q, q < nn → C2 q = CC q) → J p l e R s m args below meth c nL (cells + 1) (slots + N) Q E C2 (nn + 1) q lv (.ref (eB E + nn) :: st)) : J p l e R s m args below meth c nL cells slots Q E CC nn pc lv (.int n :: st) := by
  subst hq
  subst hty
  intro H locs ls hP hS hz hl T' hT X
  have hsz := j_size hs hz hT X
  have hts := hC.2.2.2.2.1
  refine (show W p l e R s m args below meth c H locs cells slots Q (F0 m pc ls (.int n :: st)) from ?_) T' hT X
  refine va_newaK hC.1 hC.2.1 (hts _ harr) rfl d rfl hn hN hb hcap.1 hcap.2 hsz (fun H1 cA e1 z1 o1 hAr hNm => ?_)
  have hcA : cA = eT E t := Option.some.inj (hNm.symm.trans (hnm (hC.2.2.2.2.2.1.1.2 t _ ht).2))
  subst hcA
  have z2 : H1.size = H.size + 1 := by rw [z1, hsz]
  have o2 : ∀ q, q < H.size → H1[q]? = H[q]? := fun q hq => o1 q (by rw [← hsz]; exact hq)
  exact kk (cU CC nn (.inl (eT E t, a0))) (by simp [cU]) (fun q hq => by simp [cU, Nat.ne_of_lt hq]) H1 locs ls (gV_push hP o2 (by show H1[eB E + nn]? = some (vp_cell _ _); rw [ha]; exact e1)) (j_keep hS z2 o2) (by omega) hl
theorem J_newq {idx t N : Nat} {n : Int32} {C : String} (hC : gCx p s m args meth c cc nL own ret E) (d : decode cc pc = .ok (.anewarray idx, 3)) (hq : pc + 3 = q) (hs : s.heap.size + cells = eB E + nn) (hcl : Cond.classLink own idx C ∈ WALL) (hov : va_AO C s) (ht : (gTys E)[t]? = some (eT E t, .object C)) (hn : ¬ n < 0) (hN : n.toNatClampNeg = N) (hb : N * 4 ≤ 536870912) (hcap : cells + 1 ≤ R.cells ∧ slots + N ≤ R.slots)
    (kk : ∀ C2 : Nat → va_E, C2 nn = .inl (eT E t, N, .inr (.inr (.inr (.inr (fun _ => none))))) → (∀ q, q < nn → C2 q = CC q) → J p l e R s m args below meth c nL (cells + 1) (slots + N) Q E C2 (nn + 1) q lv (.ref (eB E + nn) :: st)) : J p l e R s m args below meth c nL cells slots Q E CC nn pc lv (.int n :: st) := by
  subst hq
  subst hN
  intro H locs ls hP hS hz hl T' hT X
  have hsz := j_size hs hz hT X
  have hts := hC.2.2.2.2.1
  refine (show W p l e R s m args below meth c H locs cells slots Q (F0 m pc ls (.int n :: st)) from ?_) T' hT X
  refine W.anew hC.1 hC.2.1 hC.2.2.2.1 (hts _ hcl) (va_AO.use hov) rfl d rfl hn hb hcap.1 hcap.2 (fun cA kA comp f1 f2 f3 f4 => ?_)
  have hra := (hC.2.2.2.2.2.1.1.2 t _ ht).2
  obtain ⟨kA9, comp9, g1, g2, g3, g4⟩ := hra
  have hcA : cA = eT E t := Option.some.inj (f1.symm.trans g4)
  subst hcA
  rw [hsz]
  generalize hH1 : H.push ({ cls := eT E t, slots := Array.replicate n.toNatClampNeg .null, vm := .none } : Cell) = H1
  have z1 : H1.size = H.size + 1 := by rw [← hH1, Array.size_push]
  have e1 : H1[H.size]? = some (arrV (eT E t) n.toNatClampNeg (fun _ => .null)) := by rw [← hH1, Array.getElem?_push_size, ← arrV_new]
  have o1 : ∀ q : Nat, q < H.size → H1[q]? = H[q]? := fun q hq => by rw [← hH1, Array.getElem?_push, if_neg (Nat.ne_of_lt hq)]
  exact kk (cU CC nn (.inl (eT E t, n.toNatClampNeg, .inr (.inr (.inr (.inr (fun _ => none))))))) (by simp [cU]) (fun q hq => by simp [cU, Nat.ne_of_lt hq]) H1 locs ls (gV_push hP o1 (by show H1[eB E + nn]? = some (vp_cell _ _); rw [vp_cell_q, ← hsz]; exact e1)) (j_keep hS z1 o1) (by omega) hl
theorem J_putF {o ci k N idx : Nat} {C ref : String} {T : u_T} {fs : List Value} {ty : FieldType} {v : Value} (hC : gCx p s m args meth c cc nL own ret E) (d : decode cc pc = .ok (.putfield idx, 3)) (hq : pc + 3 = q) (hin2 : meth.name = "<init>") (ho : o < nn) (hc : CC o = .inr (ci, fs)) (hcl : vwCl[ci]? = some (C, T, N)) (hin : ∀ w ∈ u_ws C T N, w ∈ WALL) (hk : k < N) (hlink : Cond.fieldLink own idx ref (T k).2.1 (T k).2.2.1 ∈ WALL) (href : (T k).1 = ref) (ty0 : Nat → FieldType) (hty : ∀ k, k < N → parseFieldDescriptor (T k).2.2.1 = some (ty0 k)) (hnm : ∀ a, a < N → ∀ b, b < N → a ≠ b → (T a).2.1 ≠ (T b).2.1) (hfin : (T k).2.2.2 = true) (hdecl : (T k).1 = own) (hd : parseFieldDescriptor (T k).2.2.1 = some ty) (hn : narrow ty v = v) (hfit : fits ty v = true) (hlen : k < fs.length)
    (kk : ∀ C2 : Nat → va_E, C2 o = .inr (ci, fs.set k v) → (∀ q, q ≠ o → C2 q = CC q) → J p l e R s m args below meth c nL cells slots Q E C2 nn q lv st) : J p l e R s m args below meth c nL cells slots Q E CC nn pc lv (v :: .ref (eB E + o) :: st) := by
  subst hq
  subst href
  intro H locs ls hP hS hz hl
  refine va_putF hC.1 hC.2.1 hC.2.2.2.2.1 hin ty0 hty hnm hC.2.2.2.1 hC.2.2.2.2.2.1.1 hP gVD hS o (by rw [gV_at ho, hc]) hcl k hk (hC.2.2.2.2.1 _ hlink) (fun _ h => h) hfin hin2 hdecl hd hn hfit hlen d (fun H1 locs1 hP1 _ hS1 => ?_)
  rw [gV_set] at hP1
  exact kk (cU CC o (.inr (ci, fs.set k v))) (by simp [cU]) (fun q hq => by simp [cU, hq]) H1 locs1 ls hP1 hS1 (gV_low hP1 (by omega)) hl
theorem J_put {o ci k N idx : Nat} {C ref : String} {T : u_T} {fs : List Value} {ty : FieldType} {v : Value} (hC : gCx p s m args meth c cc nL own ret E) (d : decode cc pc = .ok (.putfield idx, 3)) (hq : pc + 3 = q) (ho : o < nn) (hc : CC o = .inr (ci, fs)) (hcl : vwCl[ci]? = some (C, T, N)) (hin : ∀ w ∈ u_ws C T N, w ∈ WALL) (hk : k < N) (hlink : Cond.fieldLink own idx ref (T k).2.1 (T k).2.2.1 ∈ WALL) (href : (T k).1 = ref) (ty0 : Nat → FieldType) (hty : ∀ k, k < N → parseFieldDescriptor (T k).2.2.1 = some (ty0 k)) (hnm : ∀ a, a < N → ∀ b, b < N → a ≠ b → (T a).2.1 ≠ (T b).2.1) (hfin : (T k).2.2.2 = false) (hd : parseFieldDescriptor (T k).2.2.1 = some ty) (hn : narrow ty v = v) (hfit : fits ty v = true) (hlen : k < fs.length)
    (kk : ∀ C2 : Nat → va_E, C2 o = .inr (ci, fs.set k v) → (∀ q, q ≠ o → C2 q = CC q) → J p l e R s m args below meth c nL cells slots Q E C2 nn q lv st) : J p l e R s m args below meth c nL cells slots Q E CC nn pc lv (v :: .ref (eB E + o) :: st) := by
  subst hq
  subst href
  intro H locs ls hP hS hz hl
  refine va_put hC.1 hC.2.1 hC.2.2.2.2.1 hin ty0 hty hnm hC.2.2.2.1 hC.2.2.2.2.2.1.1 hP gVD hS o (by rw [gV_at ho, hc]) hcl k hk (hC.2.2.2.2.1 _ hlink) (fun _ h => h) hfin hd hn hfit hlen d (fun H1 locs1 hP1 _ hS1 => ?_)
  rw [gV_set] at hP1
  exact kk (cU CC o (.inr (ci, fs.set k v))) (by simp [cU]) (fun q hq => by simp [cU, hq]) H1 locs1 ls hP1 hS1 (gV_low hP1 (by omega)) hl
theorem J_get {o ci k N idx : Nat} {C ref : String} {T : u_T} {fs : List Value} {v : Value} (hC : gCx p s m args meth c cc nL own ret E) (d : decode cc pc = .ok (.getfield idx, 3)) (hq : pc + 3 = q) (ho : o < nn) (hc : CC o = .inr (ci, fs)) (hcl : vwCl[ci]? = some (C, T, N)) (hin : ∀ w ∈ u_ws C T N, w ∈ WALL) (hk : k < N) (hlink : Cond.fieldLink own idx ref (T k).2.1 (T k).2.2.1 ∈ WALL) (href : (T k).1 = ref) (hv : fs[k]? = some v) (kk : J p l e R s m args below meth c nL cells slots Q E CC nn q lv (v :: st)) : J p l e R s m args below meth c nL cells slots Q E CC nn pc lv (.ref (eB E + o) :: st) := by
  subst hq
  subst href
  intro H locs ls hP hS hz hl
  exact va_get hC.1 hC.2.1 hC.2.2.2.2.1 hin hC.2.2.2.1 hC.2.2.2.2.2.1.1 hP o (by rw [gV_at ho, hc]) hcl k hk (hC.2.2.2.2.1 _ hlink) (fun _ h => h) hv d (kk H locs ls hP hS hz hl)
theorem J_aast {o v0 ci t N : Nat} {r : vw_C} {vs : List Value} {f : Nat → Option Nat} {i : Int32} (hC : gCx p s m args meth c cc nL own ret E) (d : decode cc pc = .ok (.aastore, 1)) (hq : pc + 1 = q) (ho : o < nn) (hc : CC o = .inl (eT E t, N, .inr (.inr (.inr (.inr f))))) (ht : (gTys E)[t]? = some (eT E t, .object r.1)) (hv0 : v0 < nn) (hcv : CC v0 = .inr (ci, vs)) (hcl : vwCl[ci]? = some r) (hi : inb i N = true)
    (kk : ∀ C2 : Nat → va_E, C2 o = .inl (eT E t, N, .inr (.inr (.inr (.inr (va_up f i.toNatClampNeg (some (eB E + v0))))))) → (∀ q, q ≠ o → C2 q = CC q) → J p l e R s m args below meth c nL cells slots Q E C2 nn q lv st) : J p l e R s m args below meth c nL cells slots Q E CC nn pc lv (.ref (eB E + v0) :: .int i :: .ref (eB E + o) :: st) := by
  subst hq
  intro H locs ls hP hS hz hl
  refine va_astq (r := r) hC.1 hC.2.1 hC.2.2.2.2.2.1.1 hP gVD hS o t v0 ci (by rw [gV_at ho, hc]) ht (by rw [gV_at hv0, hcv]) hcl (inb_in hi) d (fun H1 locs1 hP1 _ hS1 => ?_)
  rw [gV_set] at hP1
  exact kk (cU CC o _) (by simp [cU]) (fun q hq => by simp [cU, hq]) H1 locs1 ls hP1 hS1 (gV_low hP1 (by omega)) hl
theorem J_iast {o N : Nat} {f : Nat → Int32} {i x : Int32} (hC : gCx p s m args meth c cc nL own ret E) (d : decode cc pc = .ok (.iastore, 1)) (hq : pc + 1 = q) (ho : o < nn) (hc : CC o = .inl (eT E 1, N, .inl f)) (hi : inb i N = true)
    (kk : ∀ C2 : Nat → va_E, C2 o = .inl (eT E 1, N, .inl (upd f i.toNatClampNeg x)) → (∀ q, q ≠ o → C2 q = CC q) → J p l e R s m args below meth c nL cells slots Q E C2 nn q lv st) : J p l e R s m args below meth c nL cells slots Q E CC nn pc lv (.int x :: .int i :: .ref (eB E + o) :: st) := by
  subst hq
  intro H locs ls hP hS hz hl
  refine va_iast hC.1 hC.2.1 hC.2.2.2.2.2.1.1 hP gVD hS o 1 (by rw [gV_at ho, hc]) rfl (inb_in hi) d (fun H1 locs1 hP1 _ hS1 => ?_)
  rw [gV_set] at hP1
  exact kk (cU CC o _) (by simp [cU]) (fun q hq => by simp [cU, hq]) H1 locs1 ls hP1 hS1 (gV_low hP1 (by omega)) hl
theorem J_fate {n : Nat} {nm : String} {idx : Nat} (hC : gCx p s m args meth c cc nL own ret E) (d : decode cc pc = .ok (.getstatic idx, 3)) (hq : pc + 3 = q) (hn : gFates[n]? = some nm) (hlink : Cond.fieldLink own idx RX2 nm gFd ∈ WALL) (k : J p l e R s m args below meth c nL cells slots Q E CC nn q lv (.ref (eF E n) :: st)) : J p l e R s m args below meth c nL cells slots Q E CC nn pc lv st := by
  subst hq
  intro H locs ls hP hS hz hl
  exact va_gets hC.1 hC.2.1 (hC.2.2.2.2.2.1.2.2.2.2.2.2.1 n nm hn) hS hC.2.2.2.1 (hC.2.2.2.2.1 _ hlink) (fun _ h => h) d (k H locs ls hP hS hz hl)
theorem J_obj {idx a : Nat} (hC : gCx p s m args meth c cc nL own ret E) (d : decode cc pc = .ok (.invokespecial idx, 3)) (hq : pc + 3 = q) (hlink : Cond.methodLink own idx Lib.objectInit ∈ WALL) (hinst : Cond.instanceMethod Lib.objectInit ∈ WALL) (hcode : Cond.code Lib.objectInit ⟨#[0xb1]⟩ 1 none ∈ WALL) (hf : 1 ≤ R.frames) (hloc : (st.map fun v => v.category).sum + 12 ≤ R.locals) (k : J p l e R s m args below meth c nL cells slots Q E CC nn q lv st) : J p l e R s m args below meth c nL cells slots Q E CC nn pc lv (.ref a :: st) := by
  subst hq
  intro H locs ls hP hS hz hl
  have hts := hC.2.2.2.2.1
  refine W.objInit hC.1 hC.2.1 hC.2.2.2.1 (hts _ hlink) (hts _ hinst) (hts _ hcode) rfl (hl.1.trans hC.2.2.1.symm) rfl d hf (by show 2 * 0 + _ + 12 ≤ _; omega) (k H locs ls hP hS hz hl)
/-- two functions that agree on an array's places -/
theorem J_conv {o N t : Nat} {f g : Nat → Option Nat} (ho : o < nn) (hc : CC o = .inl (eT E t, N, .inr (.inr (.inr (.inr f))))) (hfg : ∀ k, k < N → f k = g k) (kk : ∀ C2 : Nat → va_E, C2 o = .inl (eT E t, N, .inr (.inr (.inr (.inr g)))) → (∀ q, q ≠ o → C2 q = CC q) → J p l e R s m args below meth c nL cells slots Q E C2 nn pc lv st) : J p l e R s m args below meth c nL cells slots Q E CC nn pc lv st := by
  intro H locs ls hP hS hz hl
  refine kk (cU CC o (.inl (eT E t, N, .inr (.inr (.inr (.inr g)))))) (by simp [cU]) (fun q hq => by simp [cU, hq]) H locs ls ?_ hS hz hl
  intro k q hk
  obtain ⟨h1, rfl⟩ := gV_inv hk
  by_cases e : k = o
  · subst e
    have h2 := hP k _ (gV_at h1)
    rw [hc] at h2
    have h3 : H[eB E + k]? = some (vp_cell (eT E t) (N, .inr (.inr (.inr (.inr f))))) := h2
    simp only [cU, if_true]
    show H[eB E + k]? = some (vp_cell (eT E t) (N, .inr (.inr (.inr (.inr g)))))
    rw [h3, vp_cell_q, vp_cell_q]
    congr 1
    have e9 : (fun j : Fin N => va_rf (f j.val)) = (fun j : Fin N => va_rf (g j.val)) := funext fun j => by rw [hfg j.val j.isLt]
    simp only [arrV, e9]
  · have h2 := hP k _ (gV_at h1)
    simp only [cU, if_neg e]
    exact h2
/-- a constructor's contract: its object is the cell o, nn cells stand ahead; behind it n2 -/
def gI (l : Launch) (y : MethodName) (cc : ByteArray) (nL : Nat) (rm : Room) (E : gE) (CC : Nat → va_E) (nn o : Nat) (PC : (Nat → va_E) → Prop) : Prop :=
  Met l y (Cond.code y cc nL none :: WALL) rm (va_Pc [.ref (eB E + o)] (fun U => U.heap.size = eB E + nn ∧ va_P (eD E) vwCl (gV E CC nn) U.heap ∧ gK E U ∧ gO U)) (fun _ st oc t => oc = .returned none ∧ (∃ C2 : Nat → va_E, PC C2 ∧ va_P (eD E) vwCl (gV E C2 (nn + rm.cells)) t.heap) ∧ va_F (fun q => eB E ≤ q) st t) rm.cells rm.slots (fun q => eB E ≤ q)
theorem gI_of {y : MethodName} {rm : Room} {o : Nat} {PC : (Nat → va_E) → Prop} (hy : plainName y.cls = true) (hyn : y.name = "<init>") (hnL : 1 ≤ nL) (hnn : 0 < nn)
    (body : ∀ (p : Program) (e : Env) (s : State) (m : MethodId) (args : Array Value) (below : List Frame) (meth : Method) (c : Code), gCx p s m args meth c cc nL y.cls none E → meth.name = "<init>" → gO s → s.heap.size + 0 = eB E + nn →
      J p l e rm s m args below meth c nL 0 0 (MQ below (fun _ st oc t => oc = .returned none ∧ (∃ C2 : Nat → va_E, PC C2 ∧ va_P (eD E) vwCl (gV E C2 (nn + rm.cells)) t.heap) ∧ va_F (fun q => eB E ≤ q) st t) args s rm.cells rm.slots (fun q => eB E ≤ q)) E CC nn 0 [(0, .ref (eB E + o))] []) : gI l y cc nL rm E CC nn o PC := by
  refine Met.ofW (cc := cc) (maxL := nL) (ret := none) hy rfl ?_
  intro p e s m args below meth c s₁ B hml hv
  obtain ⟨rfl, hz, hP, hK, hO⟩ := hv
  have hts := atoms_spec (ws := Cond.code y cc nL none :: WALL) B.pre
  have hC : gCx p s m [Value.ref (eB E + o)].toArray meth c cc nL y.cls none E := ⟨B.exec, B.bytes, hml, findClass_of_methodNamed B.named, fun w hw => hts w (List.mem_cons_of_mem _ hw), hK, B.returns, B.notSynchronized⟩
  have hin : meth.name = "<init>" := (name_of_methodNamed B.named B.method).1.trans hyn
  have h := body p e s m _ below meth c hC hin hO hz s.heap [] _ hP va_S.rf (gV_low hP hnn) (lv_entry [.ref (eB E + o)] (by exact hnL))
  rw [lg_entry_eq]
  exact h
theorem J_ret {PC : (Nat → va_E) → Prop} {mc ms n2 : Nat} (hC : gCx p s m args meth c cc nL own ret E) (d : decode cc pc = .ok (.return_, 1)) (ht : ret = none) (hPC : PC CC) (hn : nn = n2) (hc : cells ≤ mc) (hs : slots ≤ ms) : J p l e R s m args below meth c nL cells slots (MQ below (fun _ st oc t => oc = .returned none ∧ (∃ C2 : Nat → va_E, PC C2 ∧ va_P (eD E) vwCl (gV E C2 n2) t.heap) ∧ va_F (fun q => eB E ≤ q) st t) args s mc ms (fun q => eB E ≤ q)) E CC nn pc lv [] := by
  intro H locs ls hP hS hz hl
  subst hn
  exact W.widen hc hs (W.vret hC.1 hC.2.1 (hC.2.2.2.2.2.2.1.trans ht) (fun t ht hW => ⟨rfl, ⟨CC, hPC, by rw [ht]; exact hP⟩, hS.F ht⟩) hS.2.2 d hC.2.2.2.2.2.2.2)
theorem J_run {H : Heap} {locs : List Loc} {ls : Array Slot} {PC : (Nat → va_E) → Prop} {mc ms : Nat} {st0 : List Value} {n2 : Nat} (hr : va_Run p l e R s m args below meth c H locs cells slots mc ms (F0 m pc ls st0) st (fun st oc t => oc = .returned none ∧ (∃ C2 : Nat → va_E, PC C2 ∧ va_P (eD E) vwCl (gV E C2 n2) t.heap) ∧ va_F (fun q => eB E ≤ q) st t) (fun q => eB E ≤ q))
    (hS : va_S (fun q => eB E ≤ q) s.heap H locs) (hn2 : 0 < n2) (hl : lv_has ls nL lv) (kk : ∀ C2 : Nat → va_E, PC C2 → J p l e R s m args below meth c nL (cells + mc) (slots + ms) Q E C2 n2 (pc + 3) lv st) : W p l e R s m args below meth c H locs cells slots Q (F0 m pc ls st0) := by
  intro T hT X
  obtain ⟨v', st₀, t, T', L, h0, X', hL, e1, e2, ⟨hv, ⟨C2, hPC, hP1⟩, hz, hk⟩, stp⟩ := hr T hT X
  cases hv
  rw [h0] at hz hk
  have hP2 : va_P (eD E) vwCl (gV E C2 n2) T'.heap := by rw [e1]; exact hP1
  obtain ⟨t2, a1, b1⟩ := kk C2 hPC T'.heap (locs ++ L) ls hP2
    ⟨Nat.le_trans hS.1 (by rw [e1]; exact hz), fun q h1 h2 => by rw [e1, hk q (Nat.lt_of_lt_of_le h1 hS.1) h2]; exact hS.2.1 q h1 h2, fun q hq => by
      rcases List.mem_append.mp hq with h | h
      · exact hS.2.2 q h
      · exact hL q h⟩ (gV_low hP2 hn2) hl T' rfl X'
  exact ⟨t2, stp t2 a1, b1⟩
/-- 'invokespecial <init>' of a nest mate -/
theorem J_callIN {y : MethodName} {cc' : ByteArray} {nL' idx o : Nat} {host : String} {rm' : Room} {PC : (Nat → va_E) → Prop} (hC : gCx p s m args meth c cc nL own ret E) (d : decode cc pc = .ok (.invokespecial idx, 3)) (hq : pc + 3 = q) (hO : gO s) (hs : s.heap.size + cells = eB E + nn) (hM : gI l y cc' nL' rm' E CC nn o PC) (hyn : y.name = "<init>") (hcode : Cond.code y cc' nL' none ∈ WALL) (hinst : Cond.instanceMethod y ∈ WALL) (hini : Cond.initialized y.cls ∈ WALL) (hlink : Cond.methodLinkNest own idx y host ∈ NWL)
    (hd : y.cls ≠ "java/lang/invoke/MethodHandle" ∧ y.cls ≠ "java/lang/invoke/VarHandle" ∧ (parseMethodDescriptor y.desc).map (fun d => d.parameters.length) = some 0) (hR : rm'.frames + 1 ≤ R.frames ∧ 8 + (nL' + 11) + rm'.locals ≤ R.locals) (hsum : (st.map fun v => v.category).sum ≤ 8) (hcap : cells + rm'.cells ≤ R.cells ∧ slots + rm'.slots ≤ R.slots) (hnn : 0 < nn)
    (kk : ∀ C2 : Nat → va_E, PC C2 → J p l e R s m args below meth c nL (cells + rm'.cells) (slots + rm'.slots) Q E C2 (nn + rm'.cells) q lv st) : J p l e R s m args below meth c nL cells slots Q E CC nn pc lv (.ref (eB E + o) :: st) := by
  subst hq
  intro H locs ls hP hS hz hl T hT X
  have hsz := j_size hs hz hT X
  have hts := hC.2.2.2.2.1
  have cw := va_cnB (R := R) (s := s) (args := args) (own := own) (index := idx) (host := host) (ret := none) 0 hts (wall_good hcode) rfl (rfl : rm'.cells = rm'.cells) (rfl : rm'.slots = rm'.slots) (hC.2.2.2.2.2.1.2.1 _ hlink) (hts _ hini) hd hR
  have hbl : FrameBlind (va_Pc [.ref (eB E + o)] (fun U => U.heap.size = eB E + nn ∧ va_P (eD E) vwCl (gV E CC nn) U.heap ∧ gK E U ∧ gO U)) := by
    intro a U g mk h
    obtain ⟨h1, h2, h3, h4, h5⟩ := h
    exact ⟨h1, h2, h3, gK.same (U := U.calling g mk a) h4 rfl rfl, fun C9 hC9 => va_AO.moved (U := U.calling g mk a) (Vm.Alike.refl U.vm) (h5 C9 hC9)⟩
  refine J_run (va_runIN (As := []) (gFix hC) hM ⟨cw, hyn, hts _ hinst⟩ ⟨hbl, fun U hU hW => ⟨rfl, by rw [hU]; exact hsz, by rw [hU]; exact hP, hC.2.2.2.2.2.1.warm hW hU hS, fun C9 hC9 => va_AO.moved hW.alike (hO C9 hC9)⟩⟩ rfl rfl hl.1 rfl (lv_room hsum) d hcap) hS (by omega) hl kk T hT X
/-- .. of a public one -/
theorem J_callI {y : MethodName} {cc' : ByteArray} {nL' idx o : Nat} {rm' : Room} {PC : (Nat → va_E) → Prop} (hC : gCx p s m args meth c cc nL own ret E) (d : decode cc pc = .ok (.invokespecial idx, 3)) (hq : pc + 3 = q) (hO : gO s) (hs : s.heap.size + cells = eB E + nn) (hM : gI l y cc' nL' rm' E CC nn o PC) (hyn : y.name = "<init>") (hcode : Cond.code y cc' nL' none ∈ WALL) (hinst : Cond.instanceMethod y ∈ WALL) (hini : Cond.initialized y.cls ∈ WALL) (hlink : Cond.methodLink own idx y ∈ WALL)
    (hd : y.cls ≠ "java/lang/invoke/MethodHandle" ∧ y.cls ≠ "java/lang/invoke/VarHandle" ∧ (parseMethodDescriptor y.desc).map (fun d => d.parameters.length) = some 0) (hR : rm'.frames + 1 ≤ R.frames ∧ 8 + (nL' + 11) + rm'.locals ≤ R.locals) (hsum : (st.map fun v => v.category).sum ≤ 8) (hcap : cells + rm'.cells ≤ R.cells ∧ slots + rm'.slots ≤ R.slots) (hnn : 0 < nn)
    (kk : ∀ C2 : Nat → va_E, PC C2 → J p l e R s m args below meth c nL (cells + rm'.cells) (slots + rm'.slots) Q E C2 (nn + rm'.cells) q lv st) : J p l e R s m args below meth c nL cells slots Q E CC nn pc lv (.ref (eB E + o) :: st) := by
  subst hq
  intro H locs ls hP hS hz hl T hT X
  have hsz := j_size hs hz hT X
  have hts := hC.2.2.2.2.1
  have hbl : FrameBlind (va_Pc [.ref (eB E + o)] (fun U => U.heap.size = eB E + nn ∧ va_P (eD E) vwCl (gV E CC nn) U.heap ∧ gK E U ∧ gO U)) := by
    intro a U g mk h
    obtain ⟨h1, h2, h3, h4, h5⟩ := h
    exact ⟨h1, h2, h3, gK.same (U := U.calling g mk a) h4 rfl rfl, fun C9 hC9 => va_AO.moved (U := U.calling g mk a) (Vm.Alike.refl U.vm) (h5 C9 hC9)⟩
  refine J_run (va_runI (As := []) (gFix hC) hM ⟨callB_of 0 hts (wall_good hcode) rfl rfl rfl (hts _ hini) (hts _ hlink) hd hR, hyn, hts _ hinst⟩ ⟨hbl, fun U hU hW => ⟨rfl, by rw [hU]; exact hsz, by rw [hU]; exact hP, hC.2.2.2.2.2.1.warm hW hU hS, fun C9 hC9 => va_AO.moved hW.alike (hO C9 hC9)⟩⟩ rfl rfl hl.1 rfl (lv_room hsum) d hcap) hS (by omega) hl kk T hT X
theorem J_widen {k n : Nat} (h1 : cells ≤ k) (h2 : slots ≤ n) (kk : J p l e R s m args below meth c nL k n Q E CC nn pc lv st) : J p l e R s m args below meth c nL cells slots Q E CC nn pc lv st :=
  fun H locs ls hP hS hz hl => W.widen h1 h2 (kk H locs ls hP hS hz hl)
end JR

/-! by program (wip/whole/gen_start.py): what the Statement gives of the start; the law from its entry, but for one pure row -/
theorem XWL_tb : ∀ w ∈ XWL, w ∈ lw_tbl := by decide +kernel
theorem st_prim {s : State} {args : Array Value} {ty : FieldType} (h : (Cond.arrayClass ty).before args s = true) : ∃ c : ClassId, ArrOfT s c ty ∧ s.vm.findClass ("[" ++ ty.toString) = some c := by
  obtain ⟨c, k, comp, h1, h2, h3⟩ := Cond.arrayClass_spec h
  exact ⟨c, fun n z => ⟨fun q hq => (by cases hq), k, h2, comp, h3⟩, h1⟩
theorem st_obj {s : State} {args : Array Value} {C : String} (h : (Cond.arrayOver (.object C)).before args s = true) : ∃ c : ClassId, ArrOfT s c (.object C) ∧ va_RA s c (.object C) := by
  obtain ⟨comp, c, k, h1, h2, h3, h4, h5⟩ := Cond.arrayOver_spec h
  exact ⟨c, fun n z => ⟨fun q hq => (by cases hq), k, h3, comp, h4⟩, k, comp, h3, h4, h1, h5⟩
theorem st_fates {s : State} {args : Array Value} (hg : ∀ c ∈ flatC (Jvm.Cond.and given_1 narrow_1), c.before args s = true) : ∃ f : Nat → Nat, (∀ (k : Nat) (n : String), gFates[k]? = some n → (Term.static RX2 n gFd).eval args s none [] s = some (.ref (f k))) ∧ (∀ i j, i < 5 → j < 5 → f i = f j → i = j) := by
  obtain ⟨a0, -, -, -, e0, -⟩ := Cond.exactly_spec (hg (Cond.exactly (.static RX2 "UNSEEN" gFd) RX2) (by decide +kernel))
  obtain ⟨a1, -, -, -, e1, -⟩ := Cond.exactly_spec (hg (Cond.exactly (.static RX2 "STANDING" gFd) RX2) (by decide +kernel))
  obtain ⟨a2, -, -, -, e2, -⟩ := Cond.exactly_spec (hg (Cond.exactly (.static RX2 "PROMISED" gFd) RX2) (by decide +kernel))
  obtain ⟨a3, -, -, -, e3, -⟩ := Cond.exactly_spec (hg (Cond.exactly (.static RX2 "STRUCK" gFd) RX2) (by decide +kernel))
  obtain ⟨a4, -, -, -, e4, -⟩ := Cond.exactly_spec (hg (Cond.exactly (.static RX2 "TOLD" gFd) RX2) (by decide +kernel))
  refine ⟨fun k => match k with | 0 => a0 | 1 => a1 | 2 => a2 | 3 => a3 | _ => a4, fun k n hn => ?_, fun i j hi hj hij => ?_⟩
  · match k, hn with
    | 0, hn => cases hn; exact e0
    | 1, hn => cases hn; exact e1
    | 2, hn => cases hn; exact e2
    | 3, hn => cases hn; exact e3
    | 4, hn => cases hn; exact e4
    | k + 5, hn => simp [gFates] at hn
  have n01 : a0 ≠ a1 := by first | exact va_neR (hg (Cond.not (.eq (.static RX2 "UNSEEN" gFd) (.static RX2 "STANDING" gFd))) (by decide +kernel)) e0 e1 | exact (va_neR (hg (Cond.not (.eq (.static RX2 "STANDING" gFd) (.static RX2 "UNSEEN" gFd))) (by decide +kernel)) e1 e0).symm
  have n02 : a0 ≠ a2 := by first | exact va_neR (hg (Cond.not (.eq (.static RX2 "UNSEEN" gFd) (.static RX2 "PROMISED" gFd))) (by decide +kernel)) e0 e2 | exact (va_neR (hg (Cond.not (.eq (.static RX2 "PROMISED" gFd) (.static RX2 "UNSEEN" gFd))) (by decide +kernel)) e2 e0).symm
  have n03 : a0 ≠ a3 := by first | exact va_neR (hg (Cond.not (.eq (.static RX2 "UNSEEN" gFd) (.static RX2 "STRUCK" gFd))) (by decide +kernel)) e0 e3 | exact (va_neR (hg (Cond.not (.eq (.static RX2 "STRUCK" gFd) (.static RX2 "UNSEEN" gFd))) (by decide +kernel)) e3 e0).symm
  have n04 : a0 ≠ a4 := by first | exact va_neR (hg (Cond.not (.eq (.static RX2 "UNSEEN" gFd) (.static RX2 "TOLD" gFd))) (by decide +kernel)) e0 e4 | exact (va_neR (hg (Cond.not (.eq (.static RX2 "TOLD" gFd) (.static RX2 "UNSEEN" gFd))) (by decide +kernel)) e4 e0).symm
  have n12 : a1 ≠ a2 := by first | exact va_neR (hg (Cond.not (.eq (.static RX2 "STANDING" gFd) (.static RX2 "PROMISED" gFd))) (by decide +kernel)) e1 e2 | exact (va_neR (hg (Cond.not (.eq (.static RX2 "PROMISED" gFd) (.static RX2 "STANDING" gFd))) (by decide +kernel)) e2 e1).symm
  have n13 : a1 ≠ a3 := by first | exact va_neR (hg (Cond.not (.eq (.static RX2 "STANDING" gFd) (.static RX2 "STRUCK" gFd))) (by decide +kernel)) e1 e3 | exact (va_neR (hg (Cond.not (.eq (.static RX2 "STRUCK" gFd) (.static RX2 "STANDING" gFd))) (by decide +kernel)) e3 e1).symm
  have n14 : a1 ≠ a4 := by first | exact va_neR (hg (Cond.not (.eq (.static RX2 "STANDING" gFd) (.static RX2 "TOLD" gFd))) (by decide +kernel)) e1 e4 | exact (va_neR (hg (Cond.not (.eq (.static RX2 "TOLD" gFd) (.static RX2 "STANDING" gFd))) (by decide +kernel)) e4 e1).symm
  have n23 : a2 ≠ a3 := by first | exact va_neR (hg (Cond.not (.eq (.static RX2 "PROMISED" gFd) (.static RX2 "STRUCK" gFd))) (by decide +kernel)) e2 e3 | exact (va_neR (hg (Cond.not (.eq (.static RX2 "STRUCK" gFd) (.static RX2 "PROMISED" gFd))) (by decide +kernel)) e3 e2).symm
  have n24 : a2 ≠ a4 := by first | exact va_neR (hg (Cond.not (.eq (.static RX2 "PROMISED" gFd) (.static RX2 "TOLD" gFd))) (by decide +kernel)) e2 e4 | exact (va_neR (hg (Cond.not (.eq (.static RX2 "TOLD" gFd) (.static RX2 "PROMISED" gFd))) (by decide +kernel)) e4 e2).symm
  have n34 : a3 ≠ a4 := by first | exact va_neR (hg (Cond.not (.eq (.static RX2 "STRUCK" gFd) (.static RX2 "TOLD" gFd))) (by decide +kernel)) e3 e4 | exact (va_neR (hg (Cond.not (.eq (.static RX2 "TOLD" gFd) (.static RX2 "STRUCK" gFd))) (by decide +kernel)) e4 e3).symm
  match i, j, hi, hj, hij with
  | 0, 0, _, _, _ => rfl
  | 0, 1, _, _, h => exact absurd h n01
  | 0, 2, _, _, h => exact absurd h n02
  | 0, 3, _, _, h => exact absurd h n03
  | 0, 4, _, _, h => exact absurd h n04
  | 1, 0, _, _, h => exact absurd h.symm n01
  | 1, 1, _, _, _ => rfl
  | 1, 2, _, _, h => exact absurd h n12
  | 1, 3, _, _, h => exact absurd h n13
  | 1, 4, _, _, h => exact absurd h n14
  | 2, 0, _, _, h => exact absurd h.symm n02
  | 2, 1, _, _, h => exact absurd h.symm n12
  | 2, 2, _, _, _ => rfl
  | 2, 3, _, _, h => exact absurd h n23
  | 2, 4, _, _, h => exact absurd h n24
  | 3, 0, _, _, h => exact absurd h.symm n03
  | 3, 1, _, _, h => exact absurd h.symm n13
  | 3, 2, _, _, h => exact absurd h.symm n23
  | 3, 3, _, _, _ => rfl
  | 3, 4, _, _, h => exact absurd h n34
  | 4, 0, _, _, h => exact absurd h.symm n04
  | 4, 1, _, _, h => exact absurd h.symm n14
  | 4, 2, _, _, h => exact absurd h.symm n24
  | 4, 3, _, _, h => exact absurd h.symm n34
  | 4, 4, _, _, _ => rfl
  | i + 5, j, hi, _, _ => omega
  | i, j + 5, _, hj, _ => omega
theorem gTxt_nd : ∀ q ∈ gTxt, ∀ r ∈ gTxt, q.1 = r.1 → q.2 = r.2 := by decide +kernel
theorem gTxt_w : ∀ q ∈ gTxt, Cond.stringRef RX6 q.1 q.2 ∈ lw_tbl := by decide +kernel
theorem st_txt {s : State} {args : Array Value} (hts : ∀ w ∈ lw_tbl, w.before args s = true) {cur : ClassId} (hcur : s.vm.findClass RX6 = some cur) : ∃ f : Nat → Nat, ∀ q ∈ gTxt, vk_R RX6 q.1 q.2 (f q.1) s := by
  have h : ∀ k : Nat, ∃ a : Nat, ∀ q ∈ gTxt, q.1 = k → vk_R RX6 q.1 q.2 a s := by
    intro k
    by_cases hk : ∃ q ∈ gTxt, q.1 = k
    · obtain ⟨q, hq, rfl⟩ := hk
      have hw := hts _ (gTxt_w q hq)
      have hw0 : (Cond.stringRef RX6 q.1 q.2).before #[] s = true := hw
      obtain ⟨_, _, _, a, _, _, _, _, _, he⟩ := Cond.stringRef_spec hcur hw0
      refine ⟨a, fun r hr hrq => ?_⟩
      have e2 := gTxt_nd r hr q hq hrq
      rw [hrq, e2]
      exact ⟨hw0, he⟩
    · exact ⟨0, fun q hq e => absurd ⟨q, hq, e⟩ hk⟩
  exact ⟨fun k => Classical.choose (h k), fun q hq => Classical.choose_spec (h q.1) q hq rfl⟩
theorem st_K {p : Program} {s : State} {m : MethodId} {meth : Method} {c : Code} {b L : Nat} {xs : Nat → Int32} (C0 : lw_At p s m meth c b L xs) : ∃ E : gE, eB E = s.heap.size ∧ gK E s ∧ gN s ∧ gO s := by
  obtain ⟨hx, hb, hr, hml, hown, hts, hX, hbl, hlocks, hgv⟩ := id C0
  have hg := flat_of_before _ hgv
  obtain ⟨c0, i0, k0⟩ := u_known (C := RX0) (T := TX0) (N := 12) (n := 12) hts (fun w hw => (List.mem_filter.mp (inW0 w hw)).1) (hts (.instantiable RX0 12) (by decide +kernel))
  obtain ⟨c1, i1, k1⟩ := u_known (C := RX1) (T := TX1) (N := 6) (n := 6) hts (fun w hw => (List.mem_filter.mp (inW1 w hw)).1) (hts (.instantiable RX1 6) (by decide +kernel))
  obtain ⟨c2, i2, k2⟩ := u_known (C := RX3) (T := TX3) (N := 4) (n := 4) hts (fun w hw => (List.mem_filter.mp (inW3 w hw)).1) (hts (.instantiable RX3 4) (by decide +kernel))
  obtain ⟨c3, i3, k3⟩ := u_known (C := RX4) (T := TX4) (N := 2) (n := 2) hts (fun w hw => (List.mem_filter.mp (inW4 w hw)).1) (hts (.instantiable RX4 2) (by decide +kernel))
  obtain ⟨c4, i4, k4⟩ := u_known (C := RX5) (T := TX5) (N := 2) (n := 2) hts (fun w hw => (List.mem_filter.mp (inW5 w hw)).1) (hts (.instantiable RX5 2) (by decide +kernel))
  obtain ⟨c5, i5, k5⟩ := u_known (C := RX6) (T := TX6) (N := 12) (n := 12) hts (fun w hw => (List.mem_filter.mp (inW6 w hw)).1) (hts (.instantiable RX6 12) (by decide +kernel))
  obtain ⟨c6, i6, k6⟩ := u_known (C := RX7) (T := TX7) (N := 30) (n := 30) hts (fun w hw => (List.mem_filter.mp (inW7 w hw)).1) (hts (.instantiable RX7 30) (by decide +kernel))
  obtain ⟨t0, a0, b0⟩ := st_prim (ty := .char) (hts (.arrayClass .char) (by decide +kernel))
  obtain ⟨t1, a1, b1⟩ := st_prim (ty := .int) (hts (.arrayClass .int) (by decide +kernel))
  obtain ⟨t2, a2, b2⟩ := st_prim (ty := .boolean) (hts (.arrayClass .boolean) (by decide +kernel))
  obtain ⟨t7, a7, b7⟩ := st_prim (ty := .long) (hts (.arrayClass .long) (by decide +kernel))
  obtain ⟨t3, a3, b3⟩ := st_obj (C := RX0) (hts (.arrayOver (.object RX0)) (by decide +kernel))
  obtain ⟨t4, a4, b4⟩ := st_obj (C := RX1) (hts (.arrayOver (.object RX1)) (by decide +kernel))
  obtain ⟨t5, a5, b5⟩ := st_obj (C := RX4) (hts (.arrayOver (.object RX4)) (by decide +kernel))
  obtain ⟨t6, a6, b6⟩ := st_obj (C := RX5) (hts (.arrayOver (.object RX5)) (by decide +kernel))
  obtain ⟨fa, f1, f2⟩ := st_fates hg
  obtain ⟨ft, f3⟩ := st_txt hts k5.2.1
  have hA : ∀ a : Nat, a < s.heap.size → ¬ s.heap.size ≤ a := fun a h => Nat.not_le.mpr h
  refine ⟨((fun k => if k = 0 then c0 else if k = 1 then c1 else if k = 2 then c2 else if k = 3 then c3 else if k = 4 then c4 else if k = 5 then c5 else c6, fun k => if k = 0 then i0 else if k = 1 then i1 else if k = 2 then i2 else if k = 3 then i3 else if k = 4 then i4 else if k = 5 then i5 else i6), (fun k => if k = 0 then t0 else if k = 1 then t1 else if k = 2 then t2 else if k = 3 then t3 else if k = 4 then t4 else if k = 5 then t5 else if k = 6 then t6 else t7), fa, ft, s.heap.size), rfl, ⟨⟨fun k q hq => ?_, fun k q hq => ?_⟩, fun w hw => va_Nw.of (nestW_ot (NWL_ok w hw)) (hts w (NWL_tb w hw)), fun w hw => va_Nw.of (by have h5 := XWL_ok w hw; simp only [Bool.and_eq_true] at h5; exact h5.1) (hts w (XWL_tb w hw)), f3, ?_, ?_, fun k n hn => ?_, f2, Nat.le_refl _⟩, fun q hq => ?_, fun C hC => va_AO.of (A := #[Value.ref b]) (hts (.arrayOver (.object C)) ?_)⟩
  · match k, hq with
    | 0, hq => cases hq; exact k0
    | 1, hq => cases hq; exact k1
    | 2, hq => cases hq; exact k2
    | 3, hq => cases hq; exact k3
    | 4, hq => cases hq; exact k4
    | 5, hq => cases hq; exact k5
    | 6, hq => cases hq; exact k6
    | k + 7, hq => simp [vwCl] at hq
  · match k, hq with
    | 0, hq => cases hq; exact ⟨a0, b0⟩
    | 1, hq => cases hq; exact ⟨a1, b1⟩
    | 2, hq => cases hq; exact ⟨a2, b2⟩
    | 3, hq => cases hq; exact ⟨a3, b3⟩
    | 4, hq => cases hq; exact ⟨a4, b4⟩
    | 5, hq => cases hq; exact ⟨a5, b5⟩
    | 6, hq => cases hq; exact ⟨a6, b6⟩
    | 7, hq => cases hq; exact ⟨a7, b7⟩
    | k + 8, hq => simp [gTys] at hq
  · exact vx_Zqof (hts _ (by decide +kernel)) (hts _ (by decide +kernel)) (hg _ (by decide +kernel)) hA
  · exact vx_Zqof (hts _ (by decide +kernel)) (hts _ (by decide +kernel)) (hg _ (by decide +kernel)) hA
  · match k, hn with
    | 0, hn => cases hn; exact va_Zref (hts (.laysStatic RX2 "UNSEEN" gFd) (by decide +kernel)) (hts (.initialized RX2) (by decide +kernel)) (f1 0 _ rfl) hA
    | 1, hn => cases hn; exact va_Zref (hts (.laysStatic RX2 "STANDING" gFd) (by decide +kernel)) (hts (.initialized RX2) (by decide +kernel)) (f1 1 _ rfl) hA
    | 2, hn => cases hn; exact va_Zref (hts (.laysStatic RX2 "PROMISED" gFd) (by decide +kernel)) (hts (.initialized RX2) (by decide +kernel)) (f1 2 _ rfl) hA
    | 3, hn => cases hn; exact va_Zref (hts (.laysStatic RX2 "STRUCK" gFd) (by decide +kernel)) (hts (.initialized RX2) (by decide +kernel)) (f1 3 _ rfl) hA
    | 4, hn => cases hn; exact va_Zref (hts (.laysStatic RX2 "TOLD" gFd) (by decide +kernel)) (hts (.initialized RX2) (by decide +kernel)) (f1 4 _ rfl) hA
    | k + 5, hn => simp [gFates] at hn
  · simp only [ncL, List.mem_cons, List.not_mem_nil, or_false] at hq
    rcases hq with rfl | rfl | rfl | rfl | rfl | rfl <;> exact va_Nc.of (hg _ (by decide +kernel))
  · simp only [List.mem_cons, List.not_mem_nil, or_false] at hC
    rcases hC with rfl | rfl | rfl | rfl <;> decide +kernel
theorem gW_of {E : gE} {C : Nat → va_E} (h : ∀ q, q < 606 → C q = gc0 E q) : gV E C 606 = gW E (fun _ => 0) g0 := by
  unfold gV gW
  apply List.map_congr_left
  intro q hq
  rw [h q (List.mem_range.mp hq)]
  rfl
set_option maxRecDepth 100000 in
set_option maxHeartbeats 4000000 in
theorem start_open (hpure : ∀ (L : Nat) (xs : Nat → Int32), L ≤ 1536 → f_L_law_b20 600 xs L (fun _ => 0) g0 = some 1) {p : Program} {e : Env} {s : State} {m : MethodId} {below : List Frame} {meth : Method} {c : Code} (l : Launch) (hflags : l.flags = flags0) {b L : Nat} {xs : Nat → Int32} (hL : L ≤ 1536) (C0 : lw_At p s m meth c b L xs) : W p l e room_1 s m #[Value.ref b] below meth c s.heap [] 0 0 (lw_Z below #[Value.ref b] s) (entryFrame m ([Value.ref b] : List Value).toArray 7) := by
  obtain ⟨E, hE, hK, hN, hO⟩ := st_K C0
  obtain ⟨hx, hb, hr, hml, hown, hts, hX, hbl, hlocks, hgv⟩ := id C0
  have hflag : l.stackTraces = false := by simp only [Launch.stackTraces, hflags]; decide +kernel
  have hC : gCx p s m #[Value.ref b] meth c cL_law 7 RL (some .boolean) E := ⟨hx, hb, hml, hown, fun w hw => hts w (List.mem_filter.mp hw).1, hK, hr, hlocks⟩
  have hB : gS s E b L xs := ⟨hX, hbl, by rw [hE]; exact Nat.not_le.mpr hbl⟩
  have hs : s.heap.size + 0 = eB E + 0 := by rw [hE]
  have key : J p l e room_1 s m #[Value.ref b] below meth c 7 0 0 (lw_Z below #[Value.ref b] s) E (fun _ => .inr (0, [])) 0 0 [(0, .ref b)] [] := by
    refine J_new (q := 3) (ci := 5) (T := TX6) (N := 12) (fs := [.null, .null, .null, .null, .null, .null, .int 0, .int 0, .int 0, .int 0, .int 0, .int 0]) hC dL_law_0 rfl (by omega) tyX6 tyX6_ok inW6 rfl (wall (by decide +kernel) rfl) (wall (by decide +kernel) rfl) (wall (by decide +kernel) rfl) (fun j hj => by rcases (show j = 0 ∨ j = 1 ∨ j = 2 ∨ j = 3 ∨ j = 4 ∨ j = 5 ∨ j = 6 ∨ j = 7 ∨ j = 8 ∨ j = 9 ∨ j = 10 ∨ j = 11 by omega) with rfl | rfl | rfl | rfl | rfl | rfl | rfl | rfl | rfl | rfl | rfl | rfl <;> rfl) ⟨(Nat.le_of_ble_eq_true rfl), (Nat.le_of_ble_eq_true rfl)⟩ (fun C1 n1 k1 => ?_)
    refine J_dup (q := 4) hC dL_law_3 rfl rfl ?_
    refine J_callI (q := 7) hC dL_law_4 rfl hO (by omega) (i_X6 n1) rfl (wall (by decide +kernel) rfl) (wall (by decide +kernel) rfl) (wall (by decide +kernel) rfl) (wall (by decide +kernel) rfl) ⟨by decide +kernel, by decide +kernel, by decide +kernel⟩ ⟨(Nat.le_of_ble_eq_true rfl), (Nat.le_of_ble_eq_true rfl)⟩ (Nat.le_of_ble_eq_true rfl) ⟨(Nat.le_of_ble_eq_true rfl), (Nat.le_of_ble_eq_true rfl)⟩ (by decide) (fun C2 c2 => ?_)
    refine J_nn 583 583 3668 rfl rfl rfl ?_
    refine J_astore_n (q := 8) (lv' := [(1, .ref (eB E + 0)), (0, .ref b)]) hC dL_law_7 rfl (by decide) rfl ?_
    refine J_new (q := 11) (ci := 6) (T := TX7) (N := 30) (fs := [.int 0, .null, .null, .int 0, .null, .null, .null, .null, .null, .null, .null, .null, .null, .null, .null, .null, .null, .int 0, .null, .null, .int 0, .int 0, .null, .null, .null, .null, .int 0, .int 0, .int 0, .int 0]) hC dL_law_8 rfl (by omega) tyX7 tyX7_ok inW7 rfl (wall (by decide +kernel) rfl) (wall (by decide +kernel) rfl) (wall (by decide +kernel) rfl) (fun j hj => by rcases (show j = 0 ∨ j = 1 ∨ j = 2 ∨ j = 3 ∨ j = 4 ∨ j = 5 ∨ j = 6 ∨ j = 7 ∨ j = 8 ∨ j = 9 ∨ j = 10 ∨ j = 11 ∨ j = 12 ∨ j = 13 ∨ j = 14 ∨ j = 15 ∨ j = 16 ∨ j = 17 ∨ j = 18 ∨ j = 19 ∨ j = 20 ∨ j = 21 ∨ j = 22 ∨ j = 23 ∨ j = 24 ∨ j = 25 ∨ j = 26 ∨ j = 27 ∨ j = 28 ∨ j = 29 by omega) with rfl | rfl | rfl | rfl | rfl | rfl | rfl | rfl | rfl | rfl | rfl | rfl | rfl | rfl | rfl | rfl | rfl | rfl | rfl | rfl | rfl | rfl | rfl | rfl | rfl | rfl | rfl | rfl | rfl | rfl <;> rfl) ⟨(Nat.le_of_ble_eq_true rfl), (Nat.le_of_ble_eq_true rfl)⟩ (fun C3 n3 k3 => ?_)
    refine J_dup (q := 12) hC dL_law_11 rfl rfl ?_
    refine J_callI (q := 15) hC dL_law_12 rfl hO (by omega) (i_X7 n3) rfl (wall (by decide +kernel) rfl) (wall (by decide +kernel) rfl) (wall (by decide +kernel) rfl) (wall (by decide +kernel) rfl) ⟨by decide +kernel, by decide +kernel, by decide +kernel⟩ ⟨(Nat.le_of_ble_eq_true rfl), (Nat.le_of_ble_eq_true rfl)⟩ (Nat.le_of_ble_eq_true rfl) ⟨(Nat.le_of_ble_eq_true rfl), (Nat.le_of_ble_eq_true rfl)⟩ (by decide) (fun C4 c4 => ?_)
    obtain ⟨k4, r4⟩ := c4
    refine J_nn 605 605 5575 rfl rfl rfl ?_
    refine J_astore_n (q := 16) (lv' := [(2, .ref (eB E + 583)), (1, .ref (eB E + 0)), (0, .ref b)]) hC dL_law_15 rfl (by decide) rfl ?_
    refine J_iconst (q := 17) hC dL_law_16 rfl ic_1 ?_
    refine J_newa (q := 19) (t := 7) (N := 1) (ty := .long) (a0 := (1, .inr (.inl (fun _ => 0)))) hC dL_law_17 rfl (by omega) (wall (by decide +kernel) rfl) rfl rfl (fun _ => rfl) id (by decide) (by decide) (Nat.le_of_ble_eq_true rfl) ⟨(Nat.le_of_ble_eq_true rfl), (Nat.le_of_ble_eq_true rfl)⟩ (fun C5 n5 k5 => ?_)
    refine J_nn 606 606 5576 rfl rfl rfl ?_
    refine J_astore_n (q := 20) (lv' := [(3, .ref (eB E + 605)), (2, .ref (eB E + 583)), (1, .ref (eB E + 0)), (0, .ref b)]) hC dL_law_19 rfl (by decide) rfl ?_
    intro H locs ls hP hS hz hl
    have hw : ∀ q, q < 606 → C5 q = gc0 E q := fun q hq => by
      by_cases e5 : q = 605
      · subst e5; exact n5
      refine (k5 q (by omega)).trans ?_
      by_cases e4 : q < 583
      · exact (k4 q e4).trans ((k3 q e4).trans (c2 q e4))
      · exact r4 q (by omega) (by omega)
    rw [gW_of hw] at hP
    exact t_L_law_b20 hC hN hB (by rw [hE]; exact Nat.le_refl _) hflag (fu := 600) (by decide) (by decide) (hpure L xs hL) H locs ls hP hS (lv_sub hl [3, 2, 1, 0] rfl)
  have h := key s.heap [] _ (fun k q h => by simp [gV] at h) va_S.rf (by rw [hE]; exact Nat.le_refl _) (lv_entry [.ref b] (n := 7) (Nat.le_of_ble_eq_true rfl))
  rw [lg_entry_eq]
  exact h

/-! by program (wip/whole/gen_walk.py): the methods as functions over the store, and their walks -/
section WK
variable {p : Program} {l : Launch} {e : Env} {s : State} {m : MethodId} {args : Array Value} {below : List Frame} {meth : Method} {c : Code} {E : gE} {w : Nat → Int64}
def f_X6_areAlike_b17 (fu : Nat)  (σ : gSt) (xs0 : Int32) : Option (Int32 × gSt) :=
  gd (b01 xs0) (some (xs0, σ))
set_option maxRecDepth 100000 in
theorem t_X6_areAlike_b17 {fu : Nat}  {r : Int32 × gSt} (hC : gCx p s m args meth c cX6_areAlike 3 RX6 (some .boolean) E)  {σ : gSt} {xs0 : Int32}  (hf : f_X6_areAlike_b17 fu  σ xs0 = some r) : G p l e rm_X6_areAlike s m args below meth c 3 0 0 (MQ below (gQ E w 1 r) args s 0 0 (fun q => eB E ≤ q)) E w σ 17 [] [.int xs0] := by
  unfold f_X6_areAlike_b17 at hf
  obtain ⟨g1, hf⟩ := gd_ok hf
  exact G_iret hC hf rfl (b01_narrow g1) dX6_areAlike_17

def f_X6_areAlike (fu : Nat)  (σ : gSt) (i1 : Nat) (i2 : Nat) : Option (Int32 × gSt) :=
  bd (f_X3_compareBy fu σ i1 (σ 161 0 0) i2) (fun v1 σ1 => if v1 = 0 then (f_X6_areAlike_b17 fu  σ1 (1 : Int32)) else (f_X6_areAlike_b17 fu  σ1 (0 : Int32)))
set_option maxRecDepth 100000 in
theorem t_X6_areAlike {fu : Nat}  {r : Int32 × gSt} (hC : gCx p s m args meth c cX6_areAlike 3 RX6 (some .boolean) E)  {σ : gSt} {i1 : Nat} {i2 : Nat} (h1 : i1 < 121) (h2 : i2 < 121) (hf : f_X6_areAlike fu  σ i1 i2 = some r) : G p l e rm_X6_areAlike s m args below meth c 3 0 0 (MQ below (gQ E w 1 r) args s 0 0 (fun q => eB E ≤ q)) E w σ 0 [(0, .ref (eB E + 0)), (1, .ref (eB E + oHw i1)), (2, .ref (eB E + oHw i2))] [] := by
  unfold f_X6_areAlike at hf
  refine G_aload_n (q := 1) hC dX6_areAlike_0 rfl rfl ?_
  refine G_aload_n (q := 2) hC dX6_areAlike_1 rfl rfl ?_
  refine gf_RX6_79 (q := 5) hC dX6_areAlike_2 rfl ?_
  refine G_aload_n (q := 6) hC dX6_areAlike_5 rfl rfl ?_
  obtain ⟨v1, σ1, hm1, hf⟩ := bd_ok hf
  refine cl_RX6_312 (q := 9) hC dX6_areAlike_6 rfl (m_X3_compareBy h1 h2 hm1) h1 ⟨Nat.le_of_ble_eq_true rfl, Nat.le_of_ble_eq_true rfl⟩ (Nat.le_of_ble_eq_true rfl) ⟨Nat.le_of_ble_eq_true rfl, Nat.le_of_ble_eq_true rfl⟩ ?_
  refine G_if_ne (tgt := 16) (q := 12) hC dX6_areAlike_9 (by decide) rfl (fun c1 => ?_) (fun c1 => ?_)
  · have hf := (if_neg c1).symm.trans hf
    refine G_iconst (q := 17) hC dX6_areAlike_16 rfl ic_0 ?_
    refine G_lv (lv' := []) [] rfl ?_
    exact t_X6_areAlike_b17 hC   hf
  · have hf := (if_pos c1).symm.trans hf
    refine G_iconst (q := 13) hC dX6_areAlike_12 rfl ic_1 ?_
    refine G_goto (tgt := 17) hC dX6_areAlike_13 (by decide) ?_
    refine G_lv (lv' := []) [] rfl ?_
    exact t_X6_areAlike_b17 hC   hf

theorem m_X6_areAlike {l : Launch} {fu : Nat} {E : gE} {w : Nat → Int64} {σ : gSt} {i1 : Nat} {i2 : Nat} {r : Int32 × gSt} (h1 : i1 < 121) (h2 : i2 < 121) (hf : f_X6_areAlike fu σ i1 i2 = some r) : gM l yX6_areAlike cX6_areAlike 3 (some .boolean) rm_X6_areAlike 1 E w σ [.ref (eB E + 0), .ref (eB E + oHw i1), .ref (eB E + oHw i2)] r :=
  gM_of (by decide +kernel) (Nat.le_of_ble_eq_true rfl) (fun p e s m args below meth c hC => t_X6_areAlike hC h1 h2 hf)
def f_X6_refersTo_b2_B (fu : Nat) (k2 : gSt → Nat → Nat → Int32 → Option (Int32 × gSt)) (σ : gSt) (i1 : Nat) (i2 : Nat) (x3 : Int32) : Option (Int32 × gSt) :=
  if (σ 4 i1 0) ≤ x3 then (some ((0 : Int32), σ)) else (gd (inb x3 4) (bd (f_X6_areAlike fu σ (24 + (4 * i1 + x3.toNatClampNeg)) i2) (fun v2 σ2 => if v2 = 0 then (k2 σ2 i1 i2 (x3 + (1))) else (some ((1 : Int32), σ2)))))
def f_X6_refersTo_b2 (fu : Nat)  : Nat → gSt → Nat → Nat → Int32 → Option (Int32 × gSt)
  | 0 => fun _ _ _ _ => none
  | n + 1 => f_X6_refersTo_b2_B fu  (f_X6_refersTo_b2 fu  n)
set_option maxRecDepth 100000 in
theorem t_X6_refersTo_b2_B {fu : Nat} {k2 : gSt → Nat → Nat → Int32 → Option (Int32 × gSt)} {r : Int32 × gSt} (hC : gCx p s m args meth c cX6_refersTo 4 RX6 (some .boolean) E) (hk2 : ∀ (σ : gSt) (i1 : Nat) (i2 : Nat) (x3 : Int32), i1 < 24 → i2 < 24 → k2 σ i1 i2 x3 = some r → G p l e rm_X6_refersTo s m args below meth c 4 0 0 (MQ below (gQ E w 1 r) args s 0 0 (fun q => eB E ≤ q)) E w σ 2 [(0, .ref (eB E + 0)), (1, .ref (eB E + oArt i1)), (2, .ref (eB E + oArt i2)), (3, .int x3)] []) {σ : gSt} {i1 : Nat} {i2 : Nat} {x3 : Int32} (h1 : i1 < 24) (h2 : i2 < 24) (hf : f_X6_refersTo_b2_B fu k2 σ i1 i2 x3 = some r) : G p l e rm_X6_refersTo s m args below meth c 4 0 0 (MQ below (gQ E w 1 r) args s 0 0 (fun q => eB E ≤ q)) E w σ 2 [(0, .ref (eB E + 0)), (1, .ref (eB E + oArt i1)), (2, .ref (eB E + oArt i2)), (3, .int x3)] [] := by
  unfold f_X6_refersTo_b2_B at hf
  refine G_iload_n (q := 3) hC dX6_refersTo_2 rfl rfl ?_
  refine G_aload_n (q := 4) hC dX6_refersTo_3 rfl rfl ?_
  refine gf_RX6_119 (q := 7) hC dX6_refersTo_4 rfl h1 ?_
  refine G_icmp_ge (tgt := 38) (q := 10) hC dX6_refersTo_7 (by decide) rfl (fun c0 => ?_) (fun c0 => ?_)
  · have hf := (if_pos c0).symm.trans hf
    refine G_iconst (q := 39) hC dX6_refersTo_38 rfl ic_0 ?_
    exact G_iret hC hf rfl rfl dX6_refersTo_39
  · have hf := (if_neg c0).symm.trans hf
    refine G_aload_n (q := 11) hC dX6_refersTo_10 rfl rfl ?_
    refine G_aload_n (q := 12) hC dX6_refersTo_11 rfl rfl ?_
    refine gf_RX6_124 (q := 15) hC dX6_refersTo_12 rfl h1 ?_
    refine G_iload_n (q := 16) hC dX6_refersTo_15 rfl rfl ?_
    obtain ⟨g1, hf⟩ := gd_ok hf
    refine G_aldRef (q := 17) hC dX6_refersTo_16 rfl h1 g1 ?_
    refine gf_RX6_128 (q := 20) hC dX6_refersTo_17 rfl (refB h1 g1) ?_
    refine G_aload_n (q := 21) hC dX6_refersTo_20 rfl rfl ?_
    refine gf_RX6_104 (q := 24) hC dX6_refersTo_21 rfl h2 ?_
    obtain ⟨v2, σ2, hm2, hf⟩ := bd_ok hf
    refine cl_RX6_334 (q := 27) hC dX6_refersTo_24 rfl (m_X6_areAlike (hwR (refB h1 g1)) (hwA h2) hm2) ⟨Nat.le_of_ble_eq_true rfl, Nat.le_of_ble_eq_true rfl⟩ (Nat.le_of_ble_eq_true rfl) ⟨Nat.le_of_ble_eq_true rfl, Nat.le_of_ble_eq_true rfl⟩ ?_
    refine G_if_eq (tgt := 32) (q := 30) hC dX6_refersTo_27 (by decide) rfl (fun c2 => ?_) (fun c2 => ?_)
    · have hf := (if_pos c2).symm.trans hf
      refine G_iinc (q := 35) (n := 3) (lv' := [(3, .int (x3 + (1))), (0, .ref (eB E + 0)), (1, .ref (eB E + oArt i1)), (2, .ref (eB E + oArt i2))]) hC dX6_refersTo_32 rfl rfl (ii_1 _) (by decide) rfl ?_
      refine G_goto (tgt := 2) hC dX6_refersTo_35 (by decide) ?_
      refine G_lv (lv' := [(0, .ref (eB E + 0)), (1, .ref (eB E + oArt i1)), (2, .ref (eB E + oArt i2)), (3, .int (x3 + (1)))]) [1, 2, 3, 0] rfl ?_
      exact hk2 _ _ _ _ h1 h2 hf
    · have hf := (if_neg c2).symm.trans hf
      refine G_iconst (q := 31) hC dX6_refersTo_30 rfl ic_1 ?_
      exact G_iret hC hf rfl rfl dX6_refersTo_31

theorem t_X6_refersTo_b2 {fu : Nat}  {r : Int32 × gSt} (hC : gCx p s m args meth c cX6_refersTo 4 RX6 (some .boolean) E)  (n : Nat) : ∀ (σ : gSt) (i1 : Nat) (i2 : Nat) (x3 : Int32), i1 < 24 → i2 < 24 → f_X6_refersTo_b2 fu  n σ i1 i2 x3 = some r → G p l e rm_X6_refersTo s m args below meth c 4 0 0 (MQ below (gQ E w 1 r) args s 0 0 (fun q => eB E ≤ q)) E w σ 2 [(0, .ref (eB E + 0)), (1, .ref (eB E + oArt i1)), (2, .ref (eB E + oArt i2)), (3, .int x3)] [] := by
  induction n with
  | zero => intro σ i1 i2 x3 h1 h2 hf; cases hf
  | succ n ih => intro σ i1 i2 x3 h1 h2 hf; exact t_X6_refersTo_b2_B hC  ih h1 h2 hf
def f_X6_refersTo (fu : Nat)  (σ : gSt) (i1 : Nat) (i2 : Nat) : Option (Int32 × gSt) :=
  f_X6_refersTo_b2 fu  fu σ i1 i2 (0 : Int32)
set_option maxRecDepth 100000 in
theorem t_X6_refersTo {fu : Nat}  {r : Int32 × gSt} (hC : gCx p s m args meth c cX6_refersTo 4 RX6 (some .boolean) E)  {σ : gSt} {i1 : Nat} {i2 : Nat} (h1 : i1 < 24) (h2 : i2 < 24) (hf : f_X6_refersTo fu  σ i1 i2 = some r) : G p l e rm_X6_refersTo s m args below meth c 4 0 0 (MQ below (gQ E w 1 r) args s 0 0 (fun q => eB E ≤ q)) E w σ 0 [(0, .ref (eB E + 0)), (1, .ref (eB E + oArt i1)), (2, .ref (eB E + oArt i2))] [] := by
  unfold f_X6_refersTo at hf
  refine G_iconst (q := 1) hC dX6_refersTo_0 rfl ic_0 ?_
  refine G_istore_n (q := 2) (lv' := [(3, .int (0 : Int32)), (0, .ref (eB E + 0)), (1, .ref (eB E + oArt i1)), (2, .ref (eB E + oArt i2))]) hC dX6_refersTo_1 rfl (by decide) rfl ?_
  refine G_lv (lv' := [(0, .ref (eB E + 0)), (1, .ref (eB E + oArt i1)), (2, .ref (eB E + oArt i2)), (3, .int (0 : Int32))]) [1, 2, 3, 0] rfl ?_
  exact t_X6_refersTo_b2 hC  fu _ _ _ _ h1 h2 hf

theorem m_X6_refersTo {l : Launch} {fu : Nat} {E : gE} {w : Nat → Int64} {σ : gSt} {i1 : Nat} {i2 : Nat} {r : Int32 × gSt} (h1 : i1 < 24) (h2 : i2 < 24) (hf : f_X6_refersTo fu σ i1 i2 = some r) : gM l yX6_refersTo cX6_refersTo 4 (some .boolean) rm_X6_refersTo 1 E w σ [.ref (eB E + 0), .ref (eB E + oArt i1), .ref (eB E + oArt i2)] r :=
  gM_of (by decide +kernel) (Nat.le_of_ble_eq_true rfl) (fun p e s m args below meth c hC => t_X6_refersTo hC h1 h2 hf)
def f_X6_isAmongEnemies_b62 (fu : Nat) (k2 : gSt → Nat → Nat → Int32 → Option (Int32 × gSt)) (σ : gSt) (i1 : Nat) (i2 : Nat) (x3 : Int32) : Option (Int32 × gSt) :=
  k2 σ i1 i2 (x3 + (1))
set_option maxRecDepth 100000 in
theorem t_X6_isAmongEnemies_b62 {fu : Nat} {k2 : gSt → Nat → Nat → Int32 → Option (Int32 × gSt)} {r : Int32 × gSt} (hC : gCx p s m args meth c cX6_isAmongEnemies 5 RX6 (some .boolean) E) (hk2 : ∀ (σ : gSt) (i1 : Nat) (i2 : Nat) (x3 : Int32), i1 < 24 → i2 < 6 → k2 σ i1 i2 x3 = some r → G p l e rm_X6_isAmongEnemies s m args below meth c 5 0 0 (MQ below (gQ E w 1 r) args s 0 0 (fun q => eB E ≤ q)) E w σ 2 [(0, .ref (eB E + 0)), (1, .ref (eB E + oArt i1)), (2, .ref (eB E + oCon i2)), (3, .int x3)] []) {σ : gSt} {i1 : Nat} {i2 : Nat} {x3 : Int32} (h1 : i1 < 24) (h2 : i2 < 6) (hf : f_X6_isAmongEnemies_b62 fu k2 σ i1 i2 x3 = some r) : G p l e rm_X6_isAmongEnemies s m args below meth c 5 0 0 (MQ below (gQ E w 1 r) args s 0 0 (fun q => eB E ≤ q)) E w σ 62 [(0, .ref (eB E + 0)), (1, .ref (eB E + oArt i1)), (2, .ref (eB E + oCon i2)), (3, .int x3)] [] := by
  unfold f_X6_isAmongEnemies_b62 at hf
  refine G_iinc (q := 65) (n := 3) (lv' := [(3, .int (x3 + (1))), (0, .ref (eB E + 0)), (1, .ref (eB E + oArt i1)), (2, .ref (eB E + oCon i2))]) hC dX6_isAmongEnemies_62 rfl rfl (ii_1 _) (by decide) rfl ?_
  refine G_goto (tgt := 2) hC dX6_isAmongEnemies_65 (by decide) ?_
  refine G_lv (lv' := [(0, .ref (eB E + 0)), (1, .ref (eB E + oArt i1)), (2, .ref (eB E + oCon i2)), (3, .int (x3 + (1)))]) [1, 2, 3, 0] rfl ?_
  exact hk2 _ _ _ _ h1 h2 hf

def f_X6_isAmongEnemies_b60 (fu : Nat)  (σ : gSt)  : Option (Int32 × gSt) :=
  some ((1 : Int32), σ)
set_option maxRecDepth 100000 in
theorem t_X6_isAmongEnemies_b60 {fu : Nat}  {r : Int32 × gSt} (hC : gCx p s m args meth c cX6_isAmongEnemies 5 RX6 (some .boolean) E)  {σ : gSt}   (hf : f_X6_isAmongEnemies_b60 fu  σ  = some r) : G p l e rm_X6_isAmongEnemies s m args below meth c 5 0 0 (MQ below (gQ E w 1 r) args s 0 0 (fun q => eB E ≤ q)) E w σ 60 [] [] := by
  unfold f_X6_isAmongEnemies_b60 at hf
  refine G_iconst (q := 61) hC dX6_isAmongEnemies_60 rfl ic_1 ?_
  exact G_iret hC hf rfl rfl dX6_isAmongEnemies_61

def f_X6_isAmongEnemies_b2_B (fu : Nat) (k2 : gSt → Nat → Nat → Int32 → Option (Int32 × gSt)) (σ : gSt) (i1 : Nat) (i2 : Nat) (x3 : Int32) : Option (Int32 × gSt) :=
  if (σ 156 0 0) ≤ x3 then (some ((0 : Int32), σ)) else (gd (inb x3 24) (if (σ 7 (x3.toNatClampNeg) 0) = (-1 : Int32) then (f_X6_isAmongEnemies_b62 fu k2 σ i1 i2 x3) else (gd (inb (σ 7 (x3.toNatClampNeg) 0) 6) (if (σ 31 i2 (σ 7 (x3.toNatClampNeg) 0).toNatClampNeg) = 0 then (f_X6_isAmongEnemies_b62 fu k2 σ i1 i2 x3) else (bd (f_X6_refersTo fu σ i1 (x3.toNatClampNeg)) (fun v4 σ4 => if v4 = 0 then (bd (f_X6_refersTo fu σ4 (x3.toNatClampNeg) i1) (fun v6 σ6 => if v6 = 0 then (f_X6_isAmongEnemies_b62 fu k2 σ6 i1 i2 x3) else (f_X6_isAmongEnemies_b60 fu  σ6))) else (f_X6_isAmongEnemies_b60 fu  σ4)))))))
def f_X6_isAmongEnemies_b2 (fu : Nat)  : Nat → gSt → Nat → Nat → Int32 → Option (Int32 × gSt)
  | 0 => fun _ _ _ _ => none
  | n + 1 => f_X6_isAmongEnemies_b2_B fu  (f_X6_isAmongEnemies_b2 fu  n)
set_option maxRecDepth 100000 in
theorem t_X6_isAmongEnemies_b2_B {fu : Nat} {k2 : gSt → Nat → Nat → Int32 → Option (Int32 × gSt)} {r : Int32 × gSt} (hC : gCx p s m args meth c cX6_isAmongEnemies 5 RX6 (some .boolean) E) (hk2 : ∀ (σ : gSt) (i1 : Nat) (i2 : Nat) (x3 : Int32), i1 < 24 → i2 < 6 → k2 σ i1 i2 x3 = some r → G p l e rm_X6_isAmongEnemies s m args below meth c 5 0 0 (MQ below (gQ E w 1 r) args s 0 0 (fun q => eB E ≤ q)) E w σ 2 [(0, .ref (eB E + 0)), (1, .ref (eB E + oArt i1)), (2, .ref (eB E + oCon i2)), (3, .int x3)] []) {σ : gSt} {i1 : Nat} {i2 : Nat} {x3 : Int32} (h1 : i1 < 24) (h2 : i2 < 6) (hf : f_X6_isAmongEnemies_b2_B fu k2 σ i1 i2 x3 = some r) : G p l e rm_X6_isAmongEnemies s m args below meth c 5 0 0 (MQ below (gQ E w 1 r) args s 0 0 (fun q => eB E ≤ q)) E w σ 2 [(0, .ref (eB E + 0)), (1, .ref (eB E + oArt i1)), (2, .ref (eB E + oCon i2)), (3, .int x3)] [] := by
  unfold f_X6_isAmongEnemies_b2_B at hf
  refine G_iload_n (q := 3) hC dX6_isAmongEnemies_2 rfl rfl ?_
  refine G_aload_n (q := 4) hC dX6_isAmongEnemies_3 rfl rfl ?_
  refine gf_RX6_89 (q := 7) hC dX6_isAmongEnemies_4 rfl ?_
  refine G_icmp_ge (tgt := 68) (q := 10) hC dX6_isAmongEnemies_7 (by decide) rfl (fun c0 => ?_) (fun c0 => ?_)
  · have hf := (if_pos c0).symm.trans hf
    refine G_iconst (q := 69) hC dX6_isAmongEnemies_68 rfl ic_0 ?_
    exact G_iret hC hf rfl rfl dX6_isAmongEnemies_69
  · have hf := (if_neg c0).symm.trans hf
    refine G_aload_n (q := 11) hC dX6_isAmongEnemies_10 rfl rfl ?_
    refine gf_RX6_18 (q := 14) hC dX6_isAmongEnemies_11 rfl ?_
    refine G_iload_n (q := 15) hC dX6_isAmongEnemies_14 rfl rfl ?_
    obtain ⟨g1, hf⟩ := gd_ok hf
    refine G_aldArt (q := 16) hC dX6_isAmongEnemies_15 rfl g1 ?_
    refine G_astore (q := 18) (lv' := [(4, .ref (eB E + oArt (x3.toNatClampNeg))), (0, .ref (eB E + 0)), (1, .ref (eB E + oArt i1)), (2, .ref (eB E + oCon i2)), (3, .int x3)]) hC dX6_isAmongEnemies_16 rfl (by decide) rfl ?_
    refine G_aload (q := 20) hC dX6_isAmongEnemies_18 rfl rfl ?_
    refine gf_RX6_195 (q := 23) hC dX6_isAmongEnemies_20 rfl (inb_lt g1) ?_
    refine G_iconst (q := 24) hC dX6_isAmongEnemies_23 rfl ic_m1 ?_
    refine G_icmp_eq (tgt := 62) (q := 27) hC dX6_isAmongEnemies_24 (by decide) rfl (fun c1 => ?_) (fun c1 => ?_)
    · have hf := (if_pos c1).symm.trans hf
      refine G_lv (lv' := [(0, .ref (eB E + 0)), (1, .ref (eB E + oArt i1)), (2, .ref (eB E + oCon i2)), (3, .int x3)]) [1, 2, 3, 4] rfl ?_
      exact t_X6_isAmongEnemies_b62 hC hk2 h1 h2 hf
    · have hf := (if_neg c1).symm.trans hf
      refine G_aload_n (q := 28) hC dX6_isAmongEnemies_27 rfl rfl ?_
      refine gf_RX6_179 (q := 31) hC dX6_isAmongEnemies_28 rfl h2 ?_
      refine G_aload (q := 33) hC dX6_isAmongEnemies_31 rfl rfl ?_
      refine gf_RX6_195 (q := 36) hC dX6_isAmongEnemies_33 rfl (inb_lt g1) ?_
      obtain ⟨g2, hf⟩ := gd_ok hf
      refine G_zald (q := 37) hC dX6_isAmongEnemies_36 rfl (ok_31 h2 g2) ?_
      refine G_if_eq (tgt := 62) (q := 40) hC dX6_isAmongEnemies_37 (by decide) rfl (fun c2 => ?_) (fun c2 => ?_)
      · have hf := (if_pos c2).symm.trans hf
        refine G_lv (lv' := [(0, .ref (eB E + 0)), (1, .ref (eB E + oArt i1)), (2, .ref (eB E + oCon i2)), (3, .int x3)]) [1, 2, 3, 4] rfl ?_
        exact t_X6_isAmongEnemies_b62 hC hk2 h1 h2 hf
      · have hf := (if_neg c2).symm.trans hf
        refine G_aload_n (q := 41) hC dX6_isAmongEnemies_40 rfl rfl ?_
        refine G_aload_n (q := 42) hC dX6_isAmongEnemies_41 rfl rfl ?_
        refine G_aload (q := 44) hC dX6_isAmongEnemies_42 rfl rfl ?_
        obtain ⟨v4, σ4, hm4, hf⟩ := bd_ok hf
        refine cl_RX6_330 (q := 47) hC dX6_isAmongEnemies_44 rfl (m_X6_refersTo h1 (inb_lt g1) hm4) ⟨Nat.le_of_ble_eq_true rfl, Nat.le_of_ble_eq_true rfl⟩ (Nat.le_of_ble_eq_true rfl) ⟨Nat.le_of_ble_eq_true rfl, Nat.le_of_ble_eq_true rfl⟩ ?_
        refine G_if_ne (tgt := 60) (q := 50) hC dX6_isAmongEnemies_47 (by decide) rfl (fun c4 => ?_) (fun c4 => ?_)
        · have hf := (if_neg c4).symm.trans hf
          refine G_lv (lv' := []) [] rfl ?_
          exact t_X6_isAmongEnemies_b60 hC   hf
        · have hf := (if_pos c4).symm.trans hf
          refine G_aload_n (q := 51) hC dX6_isAmongEnemies_50 rfl rfl ?_
          refine G_aload (q := 53) hC dX6_isAmongEnemies_51 rfl rfl ?_
          refine G_aload_n (q := 54) hC dX6_isAmongEnemies_53 rfl rfl ?_
          obtain ⟨v6, σ6, hm6, hf⟩ := bd_ok hf
          refine cl_RX6_330 (q := 57) hC dX6_isAmongEnemies_54 rfl (m_X6_refersTo (inb_lt g1) h1 hm6) ⟨Nat.le_of_ble_eq_true rfl, Nat.le_of_ble_eq_true rfl⟩ (Nat.le_of_ble_eq_true rfl) ⟨Nat.le_of_ble_eq_true rfl, Nat.le_of_ble_eq_true rfl⟩ ?_
          refine G_if_eq (tgt := 62) (q := 60) hC dX6_isAmongEnemies_57 (by decide) rfl (fun c6 => ?_) (fun c6 => ?_)
          · have hf := (if_pos c6).symm.trans hf
            refine G_lv (lv' := [(0, .ref (eB E + 0)), (1, .ref (eB E + oArt i1)), (2, .ref (eB E + oCon i2)), (3, .int x3)]) [1, 2, 3, 4] rfl ?_
            exact t_X6_isAmongEnemies_b62 hC hk2 h1 h2 hf
          · have hf := (if_neg c6).symm.trans hf
            refine G_lv (lv' := []) [] rfl ?_
            exact t_X6_isAmongEnemies_b60 hC   hf

theorem t_X6_isAmongEnemies_b2 {fu : Nat}  {r : Int32 × gSt} (hC : gCx p s m args meth c cX6_isAmongEnemies 5 RX6 (some .boolean) E)  (n : Nat) : ∀ (σ : gSt) (i1 : Nat) (i2 : Nat) (x3 : Int32), i1 < 24 → i2 < 6 → f_X6_isAmongEnemies_b2 fu  n σ i1 i2 x3 = some r → G p l e rm_X6_isAmongEnemies s m args below meth c 5 0 0 (MQ below (gQ E w 1 r) args s 0 0 (fun q => eB E ≤ q)) E w σ 2 [(0, .ref (eB E + 0)), (1, .ref (eB E + oArt i1)), (2, .ref (eB E + oCon i2)), (3, .int x3)] [] := by
  induction n with
  | zero => intro σ i1 i2 x3 h1 h2 hf; cases hf
  | succ n ih => intro σ i1 i2 x3 h1 h2 hf; exact t_X6_isAmongEnemies_b2_B hC  ih h1 h2 hf
def f_X6_isAmongEnemies (fu : Nat)  (σ : gSt) (i1 : Nat) (i2 : Nat) : Option (Int32 × gSt) :=
  f_X6_isAmongEnemies_b2 fu  fu σ i1 i2 (0 : Int32)
set_option maxRecDepth 100000 in
theorem t_X6_isAmongEnemies {fu : Nat}  {r : Int32 × gSt} (hC : gCx p s m args meth c cX6_isAmongEnemies 5 RX6 (some .boolean) E)  {σ : gSt} {i1 : Nat} {i2 : Nat} (h1 : i1 < 24) (h2 : i2 < 6) (hf : f_X6_isAmongEnemies fu  σ i1 i2 = some r) : G p l e rm_X6_isAmongEnemies s m args below meth c 5 0 0 (MQ below (gQ E w 1 r) args s 0 0 (fun q => eB E ≤ q)) E w σ 0 [(0, .ref (eB E + 0)), (1, .ref (eB E + oArt i1)), (2, .ref (eB E + oCon i2))] [] := by
  unfold f_X6_isAmongEnemies at hf
  refine G_iconst (q := 1) hC dX6_isAmongEnemies_0 rfl ic_0 ?_
  refine G_istore_n (q := 2) (lv' := [(3, .int (0 : Int32)), (0, .ref (eB E + 0)), (1, .ref (eB E + oArt i1)), (2, .ref (eB E + oCon i2))]) hC dX6_isAmongEnemies_1 rfl (by decide) rfl ?_
  refine G_lv (lv' := [(0, .ref (eB E + 0)), (1, .ref (eB E + oArt i1)), (2, .ref (eB E + oCon i2)), (3, .int (0 : Int32))]) [1, 2, 3, 0] rfl ?_
  exact t_X6_isAmongEnemies_b2 hC  fu _ _ _ _ h1 h2 hf

theorem m_X6_isAmongEnemies {l : Launch} {fu : Nat} {E : gE} {w : Nat → Int64} {σ : gSt} {i1 : Nat} {i2 : Nat} {r : Int32 × gSt} (h1 : i1 < 24) (h2 : i2 < 6) (hf : f_X6_isAmongEnemies fu σ i1 i2 = some r) : gM l yX6_isAmongEnemies cX6_isAmongEnemies 5 (some .boolean) rm_X6_isAmongEnemies 1 E w σ [.ref (eB E + 0), .ref (eB E + oArt i1), .ref (eB E + oCon i2)] r :=
  gM_of (by decide +kernel) (Nat.le_of_ble_eq_true rfl) (fun p e s m args below meth c hC => t_X6_isAmongEnemies hC h1 h2 hf)
def f_X6_worthsIn_b41 (fu : Nat) (k4 : gSt → Int32 → Int32 → Int32 → Option (Int32 × gSt)) (σ : gSt) (x1 : Int32) (x2 : Int32) (x3 : Int32) : Option (Int32 × gSt) :=
  k4 σ x1 x2 (x3 + (1))
set_option maxRecDepth 100000 in
theorem t_X6_worthsIn_b41 {fu : Nat} {k4 : gSt → Int32 → Int32 → Int32 → Option (Int32 × gSt)} {r : Int32 × gSt} (hC : gCx p s m args meth c cX6_worthsIn 4 RX6 (some .int) E) (hk4 : ∀ (σ : gSt) (x1 : Int32) (x2 : Int32) (x3 : Int32), k4 σ x1 x2 x3 = some r → G p l e rm_X6_worthsIn s m args below meth c 4 0 0 (MQ below (gQ E w 1 r) args s 0 0 (fun q => eB E ≤ q)) E w σ 4 [(0, .ref (eB E + 0)), (1, .int x1), (2, .int x2), (3, .int x3)] []) {σ : gSt} {x1 : Int32} {x2 : Int32} {x3 : Int32}  (hf : f_X6_worthsIn_b41 fu k4 σ x1 x2 x3 = some r) : G p l e rm_X6_worthsIn s m args below meth c 4 0 0 (MQ below (gQ E w 1 r) args s 0 0 (fun q => eB E ≤ q)) E w σ 41 [(0, .ref (eB E + 0)), (1, .int x1), (2, .int x2), (3, .int x3)] [] := by
  unfold f_X6_worthsIn_b41 at hf
  refine G_iinc (q := 44) (n := 3) (lv' := [(3, .int (x3 + (1))), (0, .ref (eB E + 0)), (1, .int x1), (2, .int x2)]) hC dX6_worthsIn_41 rfl rfl (ii_1 _) (by decide) rfl ?_
  refine G_goto (tgt := 4) hC dX6_worthsIn_44 (by decide) ?_
  refine G_lv (lv' := [(0, .ref (eB E + 0)), (1, .int x1), (2, .int x2), (3, .int (x3 + (1)))]) [1, 2, 3, 0] rfl ?_
  exact hk4 _ _ _ _  hf

def f_X6_worthsIn_b4_B (fu : Nat) (k4 : gSt → Int32 → Int32 → Int32 → Option (Int32 × gSt)) (σ : gSt) (x1 : Int32) (x2 : Int32) (x3 : Int32) : Option (Int32 × gSt) :=
  if (σ 156 0 0) ≤ x3 then (some (x2, σ)) else (gd (inb x3 24) (bd (f_X6_volumeOf fu σ (x3.toNatClampNeg)) (fun v2 σ2 => if v2 = x1 then (gd (inb x3 24) (f_X6_worthsIn_b41 fu k4 σ2 x1 (x2 + (σ2 6 (x3.toNatClampNeg) 0)) x3)) else (f_X6_worthsIn_b41 fu k4 σ2 x1 x2 x3))))
def f_X6_worthsIn_b4 (fu : Nat)  : Nat → gSt → Int32 → Int32 → Int32 → Option (Int32 × gSt)
  | 0 => fun _ _ _ _ => none
  | n + 1 => f_X6_worthsIn_b4_B fu  (f_X6_worthsIn_b4 fu  n)
set_option maxRecDepth 100000 in
theorem t_X6_worthsIn_b4_B {fu : Nat} {k4 : gSt → Int32 → Int32 → Int32 → Option (Int32 × gSt)} {r : Int32 × gSt} (hC : gCx p s m args meth c cX6_worthsIn 4 RX6 (some .int) E) (hk4 : ∀ (σ : gSt) (x1 : Int32) (x2 : Int32) (x3 : Int32), k4 σ x1 x2 x3 = some r → G p l e rm_X6_worthsIn s m args below meth c 4 0 0 (MQ below (gQ E w 1 r) args s 0 0 (fun q => eB E ≤ q)) E w σ 4 [(0, .ref (eB E + 0)), (1, .int x1), (2, .int x2), (3, .int x3)] []) {σ : gSt} {x1 : Int32} {x2 : Int32} {x3 : Int32}  (hf : f_X6_worthsIn_b4_B fu k4 σ x1 x2 x3 = some r) : G p l e rm_X6_worthsIn s m args below meth c 4 0 0 (MQ below (gQ E w 1 r) args s 0 0 (fun q => eB E ≤ q)) E w σ 4 [(0, .ref (eB E + 0)), (1, .int x1), (2, .int x2), (3, .int x3)] [] := by
  unfold f_X6_worthsIn_b4_B at hf
  refine G_iload_n (q := 5) hC dX6_worthsIn_4 rfl rfl ?_
  refine G_aload_n (q := 6) hC dX6_worthsIn_5 rfl rfl ?_
  refine gf_RX6_89 (q := 9) hC dX6_worthsIn_6 rfl ?_
  refine G_icmp_ge (tgt := 47) (q := 12) hC dX6_worthsIn_9 (by decide) rfl (fun c0 => ?_) (fun c0 => ?_)
  · have hf := (if_pos c0).symm.trans hf
    refine G_iload_n (q := 48) hC dX6_worthsIn_47 rfl rfl ?_
    exact G_iret hC hf rfl rfl dX6_worthsIn_48
  · have hf := (if_neg c0).symm.trans hf
    refine G_aload_n (q := 13) hC dX6_worthsIn_12 rfl rfl ?_
    refine G_aload_n (q := 14) hC dX6_worthsIn_13 rfl rfl ?_
    refine gf_RX6_18 (q := 17) hC dX6_worthsIn_14 rfl ?_
    refine G_iload_n (q := 18) hC dX6_worthsIn_17 rfl rfl ?_
    obtain ⟨g1, hf⟩ := gd_ok hf
    refine G_aldArt (q := 19) hC dX6_worthsIn_18 rfl g1 ?_
    refine gf_RX6_104 (q := 22) hC dX6_worthsIn_19 rfl (inb_lt g1) ?_
    obtain ⟨v2, σ2, hm2, hf⟩ := bd_ok hf
    refine cl_RX6_259 (q := 25) hC dX6_worthsIn_22 rfl (m_X6_volumeOf (hwA (inb_lt g1)) hm2) ⟨Nat.le_of_ble_eq_true rfl, Nat.le_of_ble_eq_true rfl⟩ (Nat.le_of_ble_eq_true rfl) ⟨Nat.le_of_ble_eq_true rfl, Nat.le_of_ble_eq_true rfl⟩ ?_
    refine G_iload_n (q := 26) hC dX6_worthsIn_25 rfl rfl ?_
    refine G_icmp_ne (tgt := 41) (q := 29) hC dX6_worthsIn_26 (by decide) rfl (fun c2 => ?_) (fun c2 => ?_)
    · have hf := (if_neg c2).symm.trans hf
      exact t_X6_worthsIn_b41 hC hk4  hf
    · have hf := (if_pos c2).symm.trans hf
      refine G_iload_n (q := 30) hC dX6_worthsIn_29 rfl rfl ?_
      refine G_aload_n (q := 31) hC dX6_worthsIn_30 rfl rfl ?_
      refine gf_RX6_18 (q := 34) hC dX6_worthsIn_31 rfl ?_
      refine G_iload_n (q := 35) hC dX6_worthsIn_34 rfl rfl ?_
      obtain ⟨g2, hf⟩ := gd_ok hf
      refine G_aldArt (q := 36) hC dX6_worthsIn_35 rfl g2 ?_
      refine gf_RX6_101 (q := 39) hC dX6_worthsIn_36 rfl (inb_lt g2) ?_
      refine G_iadd (q := 40) hC dX6_worthsIn_39 rfl ?_
      refine G_istore_n (q := 41) (lv' := [(2, .int (x2 + (σ2 6 (x3.toNatClampNeg) 0))), (0, .ref (eB E + 0)), (1, .int x1), (3, .int x3)]) hC dX6_worthsIn_40 rfl (by decide) rfl ?_
      refine G_lv (lv' := [(0, .ref (eB E + 0)), (1, .int x1), (2, .int (x2 + (σ2 6 (x3.toNatClampNeg) 0))), (3, .int x3)]) [1, 2, 0, 3] rfl ?_
      exact t_X6_worthsIn_b41 hC hk4  hf

theorem t_X6_worthsIn_b4 {fu : Nat}  {r : Int32 × gSt} (hC : gCx p s m args meth c cX6_worthsIn 4 RX6 (some .int) E)  (n : Nat) : ∀ (σ : gSt) (x1 : Int32) (x2 : Int32) (x3 : Int32), f_X6_worthsIn_b4 fu  n σ x1 x2 x3 = some r → G p l e rm_X6_worthsIn s m args below meth c 4 0 0 (MQ below (gQ E w 1 r) args s 0 0 (fun q => eB E ≤ q)) E w σ 4 [(0, .ref (eB E + 0)), (1, .int x1), (2, .int x2), (3, .int x3)] [] := by
  induction n with
  | zero => intro σ x1 x2 x3  hf; cases hf
  | succ n ih => intro σ x1 x2 x3  hf; exact t_X6_worthsIn_b4_B hC  ih  hf
def f_X6_worthsIn (fu : Nat)  (σ : gSt) (x1 : Int32) : Option (Int32 × gSt) :=
  f_X6_worthsIn_b4 fu  fu σ x1 (0 : Int32) (0 : Int32)
set_option maxRecDepth 100000 in
theorem t_X6_worthsIn {fu : Nat}  {r : Int32 × gSt} (hC : gCx p s m args meth c cX6_worthsIn 4 RX6 (some .int) E)  {σ : gSt} {x1 : Int32}  (hf : f_X6_worthsIn fu  σ x1 = some r) : G p l e rm_X6_worthsIn s m args below meth c 4 0 0 (MQ below (gQ E w 1 r) args s 0 0 (fun q => eB E ≤ q)) E w σ 0 [(0, .ref (eB E + 0)), (1, .int x1)] [] := by
  unfold f_X6_worthsIn at hf
  refine G_iconst (q := 1) hC dX6_worthsIn_0 rfl ic_0 ?_
  refine G_istore_n (q := 2) (lv' := [(2, .int (0 : Int32)), (0, .ref (eB E + 0)), (1, .int x1)]) hC dX6_worthsIn_1 rfl (by decide) rfl ?_
  refine G_iconst (q := 3) hC dX6_worthsIn_2 rfl ic_0 ?_
  refine G_istore_n (q := 4) (lv' := [(3, .int (0 : Int32)), (2, .int (0 : Int32)), (0, .ref (eB E + 0)), (1, .int x1)]) hC dX6_worthsIn_3 rfl (by decide) rfl ?_
  refine G_lv (lv' := [(0, .ref (eB E + 0)), (1, .int x1), (2, .int (0 : Int32)), (3, .int (0 : Int32))]) [2, 3, 1, 0] rfl ?_
  exact t_X6_worthsIn_b4 hC  fu _ _ _ _  hf

theorem m_X6_worthsIn {l : Launch} {fu : Nat} {E : gE} {w : Nat → Int64} {σ : gSt} {x1 : Int32} {r : Int32 × gSt}  (hf : f_X6_worthsIn fu σ x1 = some r) : gM l yX6_worthsIn cX6_worthsIn 4 (some .int) rm_X6_worthsIn 1 E w σ [.ref (eB E + 0), .int x1] r :=
  gM_of (by decide +kernel) (Nat.le_of_ble_eq_true rfl) (fun p e s m args below meth c hC => t_X6_worthsIn hC  hf)
def f_X6_comesAhead_b44 (fu : Nat)  (σ : gSt) (xs0 : Int32) : Option (Int32 × gSt) :=
  gd (b01 xs0) (some (xs0, σ))
set_option maxRecDepth 100000 in
theorem t_X6_comesAhead_b44 {fu : Nat}  {r : Int32 × gSt} (hC : gCx p s m args meth c cX6_comesAhead 4 RX6 (some .boolean) E)  {σ : gSt} {xs0 : Int32}  (hf : f_X6_comesAhead_b44 fu  σ xs0 = some r) : G p l e rm_X6_comesAhead s m args below meth c 4 0 0 (MQ below (gQ E w 1 r) args s 0 0 (fun q => eB E ≤ q)) E w σ 44 [] [.int xs0] := by
  unfold f_X6_comesAhead_b44 at hf
  obtain ⟨g1, hf⟩ := gd_ok hf
  exact G_iret hC hf rfl (b01_narrow g1) dX6_comesAhead_44

def f_X6_comesAhead_b39 (fu : Nat)  (σ : gSt)  : Option (Int32 × gSt) :=
  f_X6_comesAhead_b44 fu  σ (1 : Int32)
set_option maxRecDepth 100000 in
theorem t_X6_comesAhead_b39 {fu : Nat}  {r : Int32 × gSt} (hC : gCx p s m args meth c cX6_comesAhead 4 RX6 (some .boolean) E)  {σ : gSt}   (hf : f_X6_comesAhead_b39 fu  σ  = some r) : G p l e rm_X6_comesAhead s m args below meth c 4 0 0 (MQ below (gQ E w 1 r) args s 0 0 (fun q => eB E ≤ q)) E w σ 39 [] [] := by
  unfold f_X6_comesAhead_b39 at hf
  refine G_iconst (q := 40) hC dX6_comesAhead_39 rfl ic_1 ?_
  refine G_goto (tgt := 44) hC dX6_comesAhead_40 (by decide) ?_
  exact t_X6_comesAhead_b44 hC   hf

def f_X6_comesAhead_b43 (fu : Nat)  (σ : gSt)  : Option (Int32 × gSt) :=
  f_X6_comesAhead_b44 fu  σ (0 : Int32)
set_option maxRecDepth 100000 in
theorem t_X6_comesAhead_b43 {fu : Nat}  {r : Int32 × gSt} (hC : gCx p s m args meth c cX6_comesAhead 4 RX6 (some .boolean) E)  {σ : gSt}   (hf : f_X6_comesAhead_b43 fu  σ  = some r) : G p l e rm_X6_comesAhead s m args below meth c 4 0 0 (MQ below (gQ E w 1 r) args s 0 0 (fun q => eB E ≤ q)) E w σ 43 [] [] := by
  unfold f_X6_comesAhead_b43 at hf
  refine G_iconst (q := 44) hC dX6_comesAhead_43 rfl ic_0 ?_
  exact t_X6_comesAhead_b44 hC   hf

def f_X6_comesAhead (fu : Nat)  (σ : gSt) (x1 : Int32) (x2 : Int32) : Option (Int32 × gSt) :=
  gd (inb x1 24) (gd (inb x2 24) (bd (f_X3_compareBy fu σ (x1.toNatClampNeg) (σ 161 0 0) (x2.toNatClampNeg)) (fun v1 σ1 => if v1 < 0 then (f_X6_comesAhead_b39 fu  σ1) else (if v1 = 0 then (if x2 ≤ x1 then (f_X6_comesAhead_b43 fu  σ1) else (f_X6_comesAhead_b39 fu  σ1)) else (f_X6_comesAhead_b43 fu  σ1)))))
set_option maxRecDepth 100000 in
theorem t_X6_comesAhead {fu : Nat}  {r : Int32 × gSt} (hC : gCx p s m args meth c cX6_comesAhead 4 RX6 (some .boolean) E)  {σ : gSt} {x1 : Int32} {x2 : Int32}  (hf : f_X6_comesAhead fu  σ x1 x2 = some r) : G p l e rm_X6_comesAhead s m args below meth c 4 0 0 (MQ below (gQ E w 1 r) args s 0 0 (fun q => eB E ≤ q)) E w σ 0 [(0, .ref (eB E + 0)), (1, .int x1), (2, .int x2)] [] := by
  unfold f_X6_comesAhead at hf
  refine G_aload_n (q := 1) hC dX6_comesAhead_0 rfl rfl ?_
  refine gf_RX6_18 (q := 4) hC dX6_comesAhead_1 rfl ?_
  refine G_iload_n (q := 5) hC dX6_comesAhead_4 rfl rfl ?_
  obtain ⟨g1, hf⟩ := gd_ok hf
  refine G_aldArt (q := 6) hC dX6_comesAhead_5 rfl g1 ?_
  refine gf_RX6_104 (q := 9) hC dX6_comesAhead_6 rfl (inb_lt g1) ?_
  refine G_aload_n (q := 10) hC dX6_comesAhead_9 rfl rfl ?_
  refine gf_RX6_79 (q := 13) hC dX6_comesAhead_10 rfl ?_
  refine G_aload_n (q := 14) hC dX6_comesAhead_13 rfl rfl ?_
  refine gf_RX6_18 (q := 17) hC dX6_comesAhead_14 rfl ?_
  refine G_iload_n (q := 18) hC dX6_comesAhead_17 rfl rfl ?_
  obtain ⟨g2, hf⟩ := gd_ok hf
  refine G_aldArt (q := 19) hC dX6_comesAhead_18 rfl g2 ?_
  refine gf_RX6_104 (q := 22) hC dX6_comesAhead_19 rfl (inb_lt g2) ?_
  obtain ⟨v1, σ1, hm1, hf⟩ := bd_ok hf
  refine cl_RX6_312 (q := 25) hC dX6_comesAhead_22 rfl (m_X3_compareBy (hwA (inb_lt g1)) (hwA (inb_lt g2)) hm1) (hwA (inb_lt g1)) ⟨Nat.le_of_ble_eq_true rfl, Nat.le_of_ble_eq_true rfl⟩ (Nat.le_of_ble_eq_true rfl) ⟨Nat.le_of_ble_eq_true rfl, Nat.le_of_ble_eq_true rfl⟩ ?_
  refine G_istore_n (q := 26) (lv' := [(3, .int v1), (0, .ref (eB E + 0)), (1, .int x1), (2, .int x2)]) hC dX6_comesAhead_25 rfl (by decide) rfl ?_
  refine G_iload_n (q := 27) hC dX6_comesAhead_26 rfl rfl ?_
  refine G_if_lt (tgt := 39) (q := 30) hC dX6_comesAhead_27 (by decide) rfl (fun c1 => ?_) (fun c1 => ?_)
  · have hf := (if_pos c1).symm.trans hf
    refine G_lv (lv' := []) [] rfl ?_
    exact t_X6_comesAhead_b39 hC   hf
  · have hf := (if_neg c1).symm.trans hf
    refine G_iload_n (q := 31) hC dX6_comesAhead_30 rfl rfl ?_
    refine G_if_ne (tgt := 43) (q := 34) hC dX6_comesAhead_31 (by decide) rfl (fun c2 => ?_) (fun c2 => ?_)
    · have hf := (if_neg c2).symm.trans hf
      refine G_lv (lv' := []) [] rfl ?_
      exact t_X6_comesAhead_b43 hC   hf
    · have hf := (if_pos c2).symm.trans hf
      refine G_iload_n (q := 35) hC dX6_comesAhead_34 rfl rfl ?_
      refine G_iload_n (q := 36) hC dX6_comesAhead_35 rfl rfl ?_
      refine G_icmp_ge (tgt := 43) (q := 39) hC dX6_comesAhead_36 (by decide) rfl (fun c3 => ?_) (fun c3 => ?_)
      · have hf := (if_pos c3).symm.trans hf
        refine G_lv (lv' := []) [] rfl ?_
        exact t_X6_comesAhead_b43 hC   hf
      · have hf := (if_neg c3).symm.trans hf
        refine G_lv (lv' := []) [] rfl ?_
        exact t_X6_comesAhead_b39 hC   hf

theorem m_X6_comesAhead {l : Launch} {fu : Nat} {E : gE} {w : Nat → Int64} {σ : gSt} {x1 : Int32} {x2 : Int32} {r : Int32 × gSt}  (hf : f_X6_comesAhead fu σ x1 x2 = some r) : gM l yX6_comesAhead cX6_comesAhead 4 (some .boolean) rm_X6_comesAhead 1 E w σ [.ref (eB E + 0), .int x1, .int x2] r :=
  gM_of (by decide +kernel) (Nat.le_of_ble_eq_true rfl) (fun p e s m args below meth c hC => t_X6_comesAhead hC  hf)
def f_X6_columnsOf_b153 (fu : Nat) (k68 : gSt → Int32 → Int32 → Int32 → Int32 → Int32 → Int32 → Int32 → Int32 → Option (Int32 × gSt)) (σ : gSt) (x1 : Int32) (x2 : Int32) (x3 : Int32) (x4 : Int32) (x5 : Int32) (x6 : Int32) (x7 : Int32) (x8 : Int32) : Option (Int32 × gSt) :=
  k68 σ x1 x2 x3 x4 x5 x6 x7 (x8 + (1))
set_option maxRecDepth 100000 in
theorem t_X6_columnsOf_b153 {fu : Nat} {k68 : gSt → Int32 → Int32 → Int32 → Int32 → Int32 → Int32 → Int32 → Int32 → Option (Int32 × gSt)} {r : Int32 × gSt} (hC : gCx p s m args meth c cX6_columnsOf 11 RX6 (some .int) E) (hk68 : ∀ (σ : gSt) (x1 : Int32) (x2 : Int32) (x3 : Int32) (x4 : Int32) (x5 : Int32) (x6 : Int32) (x7 : Int32) (x8 : Int32), k68 σ x1 x2 x3 x4 x5 x6 x7 x8 = some r → G p l e rm_X6_columnsOf s m args below meth c 11 0 0 (MQ below (gQ E w 1 r) args s 0 0 (fun q => eB E ≤ q)) E w σ 68 [(0, .ref (eB E + 0)), (1, .int x1), (2, .int x2), (3, .int x3), (4, .int x4), (5, .int x5), (6, .int x6), (7, .int x7), (8, .int x8)] []) {σ : gSt} {x1 : Int32} {x2 : Int32} {x3 : Int32} {x4 : Int32} {x5 : Int32} {x6 : Int32} {x7 : Int32} {x8 : Int32}  (hf : f_X6_columnsOf_b153 fu k68 σ x1 x2 x3 x4 x5 x6 x7 x8 = some r) : G p l e rm_X6_columnsOf s m args below meth c 11 0 0 (MQ below (gQ E w 1 r) args s 0 0 (fun q => eB E ≤ q)) E w σ 153 [(0, .ref (eB E + 0)), (1, .int x1), (2, .int x2), (3, .int x3), (4, .int x4), (5, .int x5), (6, .int x6), (7, .int x7), (8, .int x8)] [] := by
  unfold f_X6_columnsOf_b153 at hf
  refine G_iinc (q := 156) (n := 8) (lv' := [(8, .int (x8 + (1))), (0, .ref (eB E + 0)), (1, .int x1), (2, .int x2), (3, .int x3), (4, .int x4), (5, .int x5), (6, .int x6), (7, .int x7)]) hC dX6_columnsOf_153 rfl rfl (ii_1 _) (by decide) rfl ?_
  refine G_goto (tgt := 68) hC dX6_columnsOf_156 (by decide) ?_
  refine G_lv (lv' := [(0, .ref (eB E + 0)), (1, .int x1), (2, .int x2), (3, .int x3), (4, .int x4), (5, .int x5), (6, .int x6), (7, .int x7), (8, .int (x8 + (1)))]) [1, 2, 3, 4, 5, 6, 7, 8, 0] rfl ?_
  exact hk68 _ _ _ _ _ _ _ _ _  hf

def f_X6_columnsOf_b150 (fu : Nat) (k68 : gSt → Int32 → Int32 → Int32 → Int32 → Int32 → Int32 → Int32 → Int32 → Option (Int32 × gSt)) (σ : gSt) (x1 : Int32) (x2 : Int32) (x3 : Int32) (x4 : Int32) (x5 : Int32) (x6 : Int32) (x7 : Int32) (x8 : Int32) : Option (Int32 × gSt) :=
  f_X6_columnsOf_b153 fu k68 σ x1 x2 x3 x4 x5 x6 (x7 + (1)) x8
set_option maxRecDepth 100000 in
theorem t_X6_columnsOf_b150 {fu : Nat} {k68 : gSt → Int32 → Int32 → Int32 → Int32 → Int32 → Int32 → Int32 → Int32 → Option (Int32 × gSt)} {r : Int32 × gSt} (hC : gCx p s m args meth c cX6_columnsOf 11 RX6 (some .int) E) (hk68 : ∀ (σ : gSt) (x1 : Int32) (x2 : Int32) (x3 : Int32) (x4 : Int32) (x5 : Int32) (x6 : Int32) (x7 : Int32) (x8 : Int32), k68 σ x1 x2 x3 x4 x5 x6 x7 x8 = some r → G p l e rm_X6_columnsOf s m args below meth c 11 0 0 (MQ below (gQ E w 1 r) args s 0 0 (fun q => eB E ≤ q)) E w σ 68 [(0, .ref (eB E + 0)), (1, .int x1), (2, .int x2), (3, .int x3), (4, .int x4), (5, .int x5), (6, .int x6), (7, .int x7), (8, .int x8)] []) {σ : gSt} {x1 : Int32} {x2 : Int32} {x3 : Int32} {x4 : Int32} {x5 : Int32} {x6 : Int32} {x7 : Int32} {x8 : Int32}  (hf : f_X6_columnsOf_b150 fu k68 σ x1 x2 x3 x4 x5 x6 x7 x8 = some r) : G p l e rm_X6_columnsOf s m args below meth c 11 0 0 (MQ below (gQ E w 1 r) args s 0 0 (fun q => eB E ≤ q)) E w σ 150 [(0, .ref (eB E + 0)), (1, .int x1), (2, .int x2), (3, .int x3), (4, .int x4), (5, .int x5), (6, .int x6), (7, .int x7), (8, .int x8)] [] := by
  unfold f_X6_columnsOf_b150 at hf
  refine G_iinc (q := 153) (n := 7) (lv' := [(7, .int (x7 + (1))), (0, .ref (eB E + 0)), (1, .int x1), (2, .int x2), (3, .int x3), (4, .int x4), (5, .int x5), (6, .int x6), (8, .int x8)]) hC dX6_columnsOf_150 rfl rfl (ii_1 _) (by decide) rfl ?_
  refine G_lv (lv' := [(0, .ref (eB E + 0)), (1, .int x1), (2, .int x2), (3, .int x3), (4, .int x4), (5, .int x5), (6, .int x6), (7, .int (x7 + (1))), (8, .int x8)]) [1, 2, 3, 4, 5, 6, 7, 0, 8] rfl ?_
  exact t_X6_columnsOf_b153 hC hk68  hf

def f_X6_columnsOf_b175 (fu : Nat)  (σ : gSt) (xs0 : Int32) (xs1 : Int32) : Option (Int32 × gSt) :=
  some ((xs0 + xs1), σ)
set_option maxRecDepth 100000 in
theorem t_X6_columnsOf_b175 {fu : Nat}  {r : Int32 × gSt} (hC : gCx p s m args meth c cX6_columnsOf 11 RX6 (some .int) E)  {σ : gSt} {xs0 : Int32} {xs1 : Int32}  (hf : f_X6_columnsOf_b175 fu  σ xs0 xs1 = some r) : G p l e rm_X6_columnsOf s m args below meth c 11 0 0 (MQ below (gQ E w 1 r) args s 0 0 (fun q => eB E ≤ q)) E w σ 175 [] [.int xs1, .int xs0] := by
  unfold f_X6_columnsOf_b175 at hf
  refine G_iadd (q := 176) hC dX6_columnsOf_175 rfl ?_
  exact G_iret hC hf rfl rfl dX6_columnsOf_176

def f_X6_columnsOf_b68_B (fu : Nat) (k68 : gSt → Int32 → Int32 → Int32 → Int32 → Int32 → Int32 → Int32 → Int32 → Option (Int32 × gSt)) (σ : gSt) (x1 : Int32) (x2 : Int32) (x3 : Int32) (x4 : Int32) (x5 : Int32) (x6 : Int32) (x7 : Int32) (x8 : Int32) : Option (Int32 × gSt) :=
  if (σ 156 0 0) ≤ x8 then (gd (!decide (x3 = 0)) (if x6 ≤ x7 then (f_X6_columnsOf_b175 fu  σ (x5 / x3) (0 : Int32)) else (f_X6_columnsOf_b175 fu  σ (x5 / x3) (1 : Int32)))) else (gd (inb x8 24) (bd (f_X6_volumeOf fu σ (x8.toNatClampNeg)) (fun v3 σ3 => if v3 = x2 then (gd (inb x8 24) (gd (!decide (x3 = 0)) (gd (!decide (x3 = 0)) (gd (!decide (x3 = 0)) (if 0 < (((x4 * (σ3 6 (x8.toNatClampNeg) 0)) - ((x4 * (σ3 6 (x8.toNatClampNeg) 0)) / x3) * x3) - (x5 - (x5 / x3) * x3)) then (f_X6_columnsOf_b150 fu k68 σ3 x1 x2 x3 x4 x5 (x6 - ((x4 * (σ3 6 (x8.toNatClampNeg) 0)) / x3)) x7 x8) else (if (((x4 * (σ3 6 (x8.toNatClampNeg) 0)) - ((x4 * (σ3 6 (x8.toNatClampNeg) 0)) / x3) * x3) - (x5 - (x5 / x3) * x3)) = 0 then (bd (f_X6_comesAhead fu σ3 x8 x1) (fun v7 σ7 => if v7 = 0 then (f_X6_columnsOf_b153 fu k68 σ7 x1 x2 x3 x4 x5 (x6 - ((x4 * (σ3 6 (x8.toNatClampNeg) 0)) / x3)) x7 x8) else (f_X6_columnsOf_b150 fu k68 σ7 x1 x2 x3 x4 x5 (x6 - ((x4 * (σ3 6 (x8.toNatClampNeg) 0)) / x3)) x7 x8))) else (f_X6_columnsOf_b153 fu k68 σ3 x1 x2 x3 x4 x5 (x6 - ((x4 * (σ3 6 (x8.toNatClampNeg) 0)) / x3)) x7 x8))))))) else (f_X6_columnsOf_b153 fu k68 σ3 x1 x2 x3 x4 x5 x6 x7 x8))))
def f_X6_columnsOf_b68 (fu : Nat)  : Nat → gSt → Int32 → Int32 → Int32 → Int32 → Int32 → Int32 → Int32 → Int32 → Option (Int32 × gSt)
  | 0 => fun _ _ _ _ _ _ _ _ _ => none
  | n + 1 => f_X6_columnsOf_b68_B fu  (f_X6_columnsOf_b68 fu  n)
set_option maxRecDepth 100000 in
theorem t_X6_columnsOf_b68_B {fu : Nat} {k68 : gSt → Int32 → Int32 → Int32 → Int32 → Int32 → Int32 → Int32 → Int32 → Option (Int32 × gSt)} {r : Int32 × gSt} (hC : gCx p s m args meth c cX6_columnsOf 11 RX6 (some .int) E) (hk68 : ∀ (σ : gSt) (x1 : Int32) (x2 : Int32) (x3 : Int32) (x4 : Int32) (x5 : Int32) (x6 : Int32) (x7 : Int32) (x8 : Int32), k68 σ x1 x2 x3 x4 x5 x6 x7 x8 = some r → G p l e rm_X6_columnsOf s m args below meth c 11 0 0 (MQ below (gQ E w 1 r) args s 0 0 (fun q => eB E ≤ q)) E w σ 68 [(0, .ref (eB E + 0)), (1, .int x1), (2, .int x2), (3, .int x3), (4, .int x4), (5, .int x5), (6, .int x6), (7, .int x7), (8, .int x8)] []) {σ : gSt} {x1 : Int32} {x2 : Int32} {x3 : Int32} {x4 : Int32} {x5 : Int32} {x6 : Int32} {x7 : Int32} {x8 : Int32}  (hf : f_X6_columnsOf_b68_B fu k68 σ x1 x2 x3 x4 x5 x6 x7 x8 = some r) : G p l e rm_X6_columnsOf s m args below meth c 11 0 0 (MQ below (gQ E w 1 r) args s 0 0 (fun q => eB E ≤ q)) E w σ 68 [(0, .ref (eB E + 0)), (1, .int x1), (2, .int x2), (3, .int x3), (4, .int x4), (5, .int x5), (6, .int x6), (7, .int x7), (8, .int x8)] [] := by
  unfold f_X6_columnsOf_b68_B at hf
  refine G_iload (q := 70) hC dX6_columnsOf_68 rfl rfl ?_
  refine G_aload_n (q := 71) hC dX6_columnsOf_70 rfl rfl ?_
  refine gf_RX6_89 (q := 74) hC dX6_columnsOf_71 rfl ?_
  refine G_icmp_ge (tgt := 159) (q := 77) hC dX6_columnsOf_74 (by decide) rfl (fun c0 => ?_) (fun c0 => ?_)
  · have hf := (if_pos c0).symm.trans hf
    refine G_iload (q := 161) hC dX6_columnsOf_159 rfl rfl ?_
    refine G_iload_n (q := 162) hC dX6_columnsOf_161 rfl rfl ?_
    obtain ⟨g1, hf⟩ := gd_ok hf
    refine G_idiv (q := 163) hC dX6_columnsOf_162 rfl (by simpa using g1) ?_
    refine G_iload (q := 165) hC dX6_columnsOf_163 rfl rfl ?_
    refine G_iload (q := 167) hC dX6_columnsOf_165 rfl rfl ?_
    refine G_icmp_ge (tgt := 174) (q := 170) hC dX6_columnsOf_167 (by decide) rfl (fun c1 => ?_) (fun c1 => ?_)
    · have hf := (if_pos c1).symm.trans hf
      refine G_iconst (q := 175) hC dX6_columnsOf_174 rfl ic_0 ?_
      refine G_lv (lv' := []) [] rfl ?_
      exact t_X6_columnsOf_b175 hC   hf
    · have hf := (if_neg c1).symm.trans hf
      refine G_iconst (q := 171) hC dX6_columnsOf_170 rfl ic_1 ?_
      refine G_goto (tgt := 175) hC dX6_columnsOf_171 (by decide) ?_
      refine G_lv (lv' := []) [] rfl ?_
      exact t_X6_columnsOf_b175 hC   hf
  · have hf := (if_neg c0).symm.trans hf
    refine G_aload_n (q := 78) hC dX6_columnsOf_77 rfl rfl ?_
    refine G_aload_n (q := 79) hC dX6_columnsOf_78 rfl rfl ?_
    refine gf_RX6_18 (q := 82) hC dX6_columnsOf_79 rfl ?_
    refine G_iload (q := 84) hC dX6_columnsOf_82 rfl rfl ?_
    obtain ⟨g2, hf⟩ := gd_ok hf
    refine G_aldArt (q := 85) hC dX6_columnsOf_84 rfl g2 ?_
    refine gf_RX6_104 (q := 88) hC dX6_columnsOf_85 rfl (inb_lt g2) ?_
    obtain ⟨v3, σ3, hm3, hf⟩ := bd_ok hf
    refine cl_RX6_259 (q := 91) hC dX6_columnsOf_88 rfl (m_X6_volumeOf (hwA (inb_lt g2)) hm3) ⟨Nat.le_of_ble_eq_true rfl, Nat.le_of_ble_eq_true rfl⟩ (Nat.le_of_ble_eq_true rfl) ⟨Nat.le_of_ble_eq_true rfl, Nat.le_of_ble_eq_true rfl⟩ ?_
    refine G_iload_n (q := 92) hC dX6_columnsOf_91 rfl rfl ?_
    refine G_icmp_ne (tgt := 153) (q := 95) hC dX6_columnsOf_92 (by decide) rfl (fun c3 => ?_) (fun c3 => ?_)
    · have hf := (if_neg c3).symm.trans hf
      exact t_X6_columnsOf_b153 hC hk68  hf
    · have hf := (if_pos c3).symm.trans hf
      refine G_iload (q := 97) hC dX6_columnsOf_95 rfl rfl ?_
      refine G_aload_n (q := 98) hC dX6_columnsOf_97 rfl rfl ?_
      refine gf_RX6_18 (q := 101) hC dX6_columnsOf_98 rfl ?_
      refine G_iload (q := 103) hC dX6_columnsOf_101 rfl rfl ?_
      obtain ⟨g3, hf⟩ := gd_ok hf
      refine G_aldArt (q := 104) hC dX6_columnsOf_103 rfl g3 ?_
      refine gf_RX6_101 (q := 107) hC dX6_columnsOf_104 rfl (inb_lt g3) ?_
      refine G_imul (q := 108) hC dX6_columnsOf_107 rfl ?_
      refine G_istore (q := 110) (lv' := [(9, .int (x4 * (σ3 6 (x8.toNatClampNeg) 0))), (0, .ref (eB E + 0)), (1, .int x1), (2, .int x2), (3, .int x3), (4, .int x4), (5, .int x5), (6, .int x6), (7, .int x7), (8, .int x8)]) hC dX6_columnsOf_108 rfl (by decide) rfl ?_
      refine G_iload (q := 112) hC dX6_columnsOf_110 rfl rfl ?_
      refine G_iload (q := 114) hC dX6_columnsOf_112 rfl rfl ?_
      refine G_iload_n (q := 115) hC dX6_columnsOf_114 rfl rfl ?_
      obtain ⟨g4, hf⟩ := gd_ok hf
      refine G_idiv (q := 116) hC dX6_columnsOf_115 rfl (by simpa using g4) ?_
      refine G_isub (q := 117) hC dX6_columnsOf_116 rfl ?_
      refine G_istore (q := 119) (lv' := [(6, .int (x6 - ((x4 * (σ3 6 (x8.toNatClampNeg) 0)) / x3))), (9, .int (x4 * (σ3 6 (x8.toNatClampNeg) 0))), (0, .ref (eB E + 0)), (1, .int x1), (2, .int x2), (3, .int x3), (4, .int x4), (5, .int x5), (7, .int x7), (8, .int x8)]) hC dX6_columnsOf_117 rfl (by decide) rfl ?_
      refine G_iload (q := 121) hC dX6_columnsOf_119 rfl rfl ?_
      refine G_iload_n (q := 122) hC dX6_columnsOf_121 rfl rfl ?_
      obtain ⟨g5, hf⟩ := gd_ok hf
      refine G_irem (q := 123) hC dX6_columnsOf_122 rfl (by simpa using g5) ?_
      refine G_iload (q := 125) hC dX6_columnsOf_123 rfl rfl ?_
      refine G_iload_n (q := 126) hC dX6_columnsOf_125 rfl rfl ?_
      obtain ⟨g6, hf⟩ := gd_ok hf
      refine G_irem (q := 127) hC dX6_columnsOf_126 rfl (by simpa using g6) ?_
      refine G_isub (q := 128) hC dX6_columnsOf_127 rfl ?_
      refine G_istore (q := 130) (lv' := [(10, .int (((x4 * (σ3 6 (x8.toNatClampNeg) 0)) - ((x4 * (σ3 6 (x8.toNatClampNeg) 0)) / x3) * x3) - (x5 - (x5 / x3) * x3))), (6, .int (x6 - ((x4 * (σ3 6 (x8.toNatClampNeg) 0)) / x3))), (9, .int (x4 * (σ3 6 (x8.toNatClampNeg) 0))), (0, .ref (eB E + 0)), (1, .int x1), (2, .int x2), (3, .int x3), (4, .int x4), (5, .int x5), (7, .int x7), (8, .int x8)]) hC dX6_columnsOf_128 rfl (by decide) rfl ?_
      refine G_iload (q := 132) hC dX6_columnsOf_130 rfl rfl ?_
      refine G_if_gt (tgt := 150) (q := 135) hC dX6_columnsOf_132 (by decide) rfl (fun c4 => ?_) (fun c4 => ?_)
      · have hf := (if_pos c4).symm.trans hf
        refine G_lv (lv' := [(0, .ref (eB E + 0)), (1, .int x1), (2, .int x2), (3, .int x3), (4, .int x4), (5, .int x5), (6, .int (x6 - ((x4 * (σ3 6 (x8.toNatClampNeg) 0)) / x3))), (7, .int x7), (8, .int x8)]) [3, 4, 5, 6, 7, 8, 1, 9, 10] rfl ?_
        exact t_X6_columnsOf_b150 hC hk68  hf
      · have hf := (if_neg c4).symm.trans hf
        refine G_iload (q := 137) hC dX6_columnsOf_135 rfl rfl ?_
        refine G_if_ne (tgt := 153) (q := 140) hC dX6_columnsOf_137 (by decide) rfl (fun c5 => ?_) (fun c5 => ?_)
        · have hf := (if_neg c5).symm.trans hf
          refine G_lv (lv' := [(0, .ref (eB E + 0)), (1, .int x1), (2, .int x2), (3, .int x3), (4, .int x4), (5, .int x5), (6, .int (x6 - ((x4 * (σ3 6 (x8.toNatClampNeg) 0)) / x3))), (7, .int x7), (8, .int x8)]) [3, 4, 5, 6, 7, 8, 1, 9, 10] rfl ?_
          exact t_X6_columnsOf_b153 hC hk68  hf
        · have hf := (if_pos c5).symm.trans hf
          refine G_aload_n (q := 141) hC dX6_columnsOf_140 rfl rfl ?_
          refine G_iload (q := 143) hC dX6_columnsOf_141 rfl rfl ?_
          refine G_iload_n (q := 144) hC dX6_columnsOf_143 rfl rfl ?_
          obtain ⟨v7, σ7, hm7, hf⟩ := bd_ok hf
          refine cl_RX6_316 (q := 147) hC dX6_columnsOf_144 rfl (m_X6_comesAhead hm7) ⟨Nat.le_of_ble_eq_true rfl, Nat.le_of_ble_eq_true rfl⟩ (Nat.le_of_ble_eq_true rfl) ⟨Nat.le_of_ble_eq_true rfl, Nat.le_of_ble_eq_true rfl⟩ ?_
          refine G_if_eq (tgt := 153) (q := 150) hC dX6_columnsOf_147 (by decide) rfl (fun c7 => ?_) (fun c7 => ?_)
          · have hf := (if_pos c7).symm.trans hf
            refine G_lv (lv' := [(0, .ref (eB E + 0)), (1, .int x1), (2, .int x2), (3, .int x3), (4, .int x4), (5, .int x5), (6, .int (x6 - ((x4 * (σ3 6 (x8.toNatClampNeg) 0)) / x3))), (7, .int x7), (8, .int x8)]) [3, 4, 5, 6, 7, 8, 1, 9, 10] rfl ?_
            exact t_X6_columnsOf_b153 hC hk68  hf
          · have hf := (if_neg c7).symm.trans hf
            refine G_lv (lv' := [(0, .ref (eB E + 0)), (1, .int x1), (2, .int x2), (3, .int x3), (4, .int x4), (5, .int x5), (6, .int (x6 - ((x4 * (σ3 6 (x8.toNatClampNeg) 0)) / x3))), (7, .int x7), (8, .int x8)]) [3, 4, 5, 6, 7, 8, 1, 9, 10] rfl ?_
            exact t_X6_columnsOf_b150 hC hk68  hf

theorem t_X6_columnsOf_b68 {fu : Nat}  {r : Int32 × gSt} (hC : gCx p s m args meth c cX6_columnsOf 11 RX6 (some .int) E)  (n : Nat) : ∀ (σ : gSt) (x1 : Int32) (x2 : Int32) (x3 : Int32) (x4 : Int32) (x5 : Int32) (x6 : Int32) (x7 : Int32) (x8 : Int32), f_X6_columnsOf_b68 fu  n σ x1 x2 x3 x4 x5 x6 x7 x8 = some r → G p l e rm_X6_columnsOf s m args below meth c 11 0 0 (MQ below (gQ E w 1 r) args s 0 0 (fun q => eB E ≤ q)) E w σ 68 [(0, .ref (eB E + 0)), (1, .int x1), (2, .int x2), (3, .int x3), (4, .int x4), (5, .int x5), (6, .int x6), (7, .int x7), (8, .int x8)] [] := by
  induction n with
  | zero => intro σ x1 x2 x3 x4 x5 x6 x7 x8  hf; cases hf
  | succ n ih => intro σ x1 x2 x3 x4 x5 x6 x7 x8  hf; exact t_X6_columnsOf_b68_B hC  ih  hf
def f_X6_columnsOf (fu : Nat)  (σ : gSt) (x1 : Int32) : Option (Int32 × gSt) :=
  gd (inb x1 24) (bd (f_X6_volumeOf fu σ (x1.toNatClampNeg)) (fun v1 σ1 => if v1 = (-1 : Int32) then (some ((0 : Int32), σ1)) else (bd (f_X6_worthsIn fu σ1 v1) (fun v3 σ3 => if v3 = 0 then (some ((0 : Int32), σ3)) else (gd (inb v1 4) (gd (inb x1 24) (f_X6_columnsOf_b68 fu  fu σ3 x1 v1 v3 (σ3 121 (v1.toNatClampNeg) 0) ((σ3 121 (v1.toNatClampNeg) 0) * (σ3 6 (x1.toNatClampNeg) 0)) (σ3 121 (v1.toNatClampNeg) 0) (0 : Int32) (0 : Int32))))))))
set_option maxRecDepth 100000 in
theorem t_X6_columnsOf {fu : Nat}  {r : Int32 × gSt} (hC : gCx p s m args meth c cX6_columnsOf 11 RX6 (some .int) E)  {σ : gSt} {x1 : Int32}  (hf : f_X6_columnsOf fu  σ x1 = some r) : G p l e rm_X6_columnsOf s m args below meth c 11 0 0 (MQ below (gQ E w 1 r) args s 0 0 (fun q => eB E ≤ q)) E w σ 0 [(0, .ref (eB E + 0)), (1, .int x1)] [] := by
  unfold f_X6_columnsOf at hf
  refine G_aload_n (q := 1) hC dX6_columnsOf_0 rfl rfl ?_
  refine G_aload_n (q := 2) hC dX6_columnsOf_1 rfl rfl ?_
  refine gf_RX6_18 (q := 5) hC dX6_columnsOf_2 rfl ?_
  refine G_iload_n (q := 6) hC dX6_columnsOf_5 rfl rfl ?_
  obtain ⟨g1, hf⟩ := gd_ok hf
  refine G_aldArt (q := 7) hC dX6_columnsOf_6 rfl g1 ?_
  refine gf_RX6_104 (q := 10) hC dX6_columnsOf_7 rfl (inb_lt g1) ?_
  obtain ⟨v1, σ1, hm1, hf⟩ := bd_ok hf
  refine cl_RX6_259 (q := 13) hC dX6_columnsOf_10 rfl (m_X6_volumeOf (hwA (inb_lt g1)) hm1) ⟨Nat.le_of_ble_eq_true rfl, Nat.le_of_ble_eq_true rfl⟩ (Nat.le_of_ble_eq_true rfl) ⟨Nat.le_of_ble_eq_true rfl, Nat.le_of_ble_eq_true rfl⟩ ?_
  refine G_istore_n (q := 14) (lv' := [(2, .int v1), (0, .ref (eB E + 0)), (1, .int x1)]) hC dX6_columnsOf_13 rfl (by decide) rfl ?_
  refine G_iload_n (q := 15) hC dX6_columnsOf_14 rfl rfl ?_
  refine G_iconst (q := 16) hC dX6_columnsOf_15 rfl ic_m1 ?_
  refine G_icmp_ne (tgt := 21) (q := 19) hC dX6_columnsOf_16 (by decide) rfl (fun c1 => ?_) (fun c1 => ?_)
  · have hf := (if_neg c1).symm.trans hf
    refine G_aload_n (q := 22) hC dX6_columnsOf_21 rfl rfl ?_
    refine G_iload_n (q := 23) hC dX6_columnsOf_22 rfl rfl ?_
    obtain ⟨v3, σ3, hm3, hf⟩ := bd_ok hf
    refine cl_RX6_323 (q := 26) hC dX6_columnsOf_23 rfl (m_X6_worthsIn hm3) ⟨Nat.le_of_ble_eq_true rfl, Nat.le_of_ble_eq_true rfl⟩ (Nat.le_of_ble_eq_true rfl) ⟨Nat.le_of_ble_eq_true rfl, Nat.le_of_ble_eq_true rfl⟩ ?_
    refine G_istore_n (q := 27) (lv' := [(3, .int v3), (2, .int v1), (0, .ref (eB E + 0)), (1, .int x1)]) hC dX6_columnsOf_26 rfl (by decide) rfl ?_
    refine G_iload_n (q := 28) hC dX6_columnsOf_27 rfl rfl ?_
    refine G_if_ne (tgt := 33) (q := 31) hC dX6_columnsOf_28 (by decide) rfl (fun c3 => ?_) (fun c3 => ?_)
    · have hf := (if_neg c3).symm.trans hf
      refine G_aload_n (q := 34) hC dX6_columnsOf_33 rfl rfl ?_
      refine gf_RX6_24 (q := 37) hC dX6_columnsOf_34 rfl ?_
      refine G_iload_n (q := 38) hC dX6_columnsOf_37 rfl rfl ?_
      obtain ⟨g2, hf⟩ := gd_ok hf
      refine G_aldVol (q := 39) hC dX6_columnsOf_38 rfl g2 ?_
      refine gf_RX6_161 (q := 42) hC dX6_columnsOf_39 rfl (inb_lt g2) ?_
      refine G_istore (q := 44) (lv' := [(4, .int (σ3 121 (v1.toNatClampNeg) 0)), (3, .int v3), (2, .int v1), (0, .ref (eB E + 0)), (1, .int x1)]) hC dX6_columnsOf_42 rfl (by decide) rfl ?_
      refine G_iload (q := 46) hC dX6_columnsOf_44 rfl rfl ?_
      refine G_aload_n (q := 47) hC dX6_columnsOf_46 rfl rfl ?_
      refine gf_RX6_18 (q := 50) hC dX6_columnsOf_47 rfl ?_
      refine G_iload_n (q := 51) hC dX6_columnsOf_50 rfl rfl ?_
      obtain ⟨g3, hf⟩ := gd_ok hf
      refine G_aldArt (q := 52) hC dX6_columnsOf_51 rfl g3 ?_
      refine gf_RX6_101 (q := 55) hC dX6_columnsOf_52 rfl (inb_lt g3) ?_
      refine G_imul (q := 56) hC dX6_columnsOf_55 rfl ?_
      refine G_istore (q := 58) (lv' := [(5, .int ((σ3 121 (v1.toNatClampNeg) 0) * (σ3 6 (x1.toNatClampNeg) 0))), (4, .int (σ3 121 (v1.toNatClampNeg) 0)), (3, .int v3), (2, .int v1), (0, .ref (eB E + 0)), (1, .int x1)]) hC dX6_columnsOf_56 rfl (by decide) rfl ?_
      refine G_iload (q := 60) hC dX6_columnsOf_58 rfl rfl ?_
      refine G_istore (q := 62) (lv' := [(6, .int (σ3 121 (v1.toNatClampNeg) 0)), (5, .int ((σ3 121 (v1.toNatClampNeg) 0) * (σ3 6 (x1.toNatClampNeg) 0))), (4, .int (σ3 121 (v1.toNatClampNeg) 0)), (3, .int v3), (2, .int v1), (0, .ref (eB E + 0)), (1, .int x1)]) hC dX6_columnsOf_60 rfl (by decide) rfl ?_
      refine G_iconst (q := 63) hC dX6_columnsOf_62 rfl ic_0 ?_
      refine G_istore (q := 65) (lv' := [(7, .int (0 : Int32)), (6, .int (σ3 121 (v1.toNatClampNeg) 0)), (5, .int ((σ3 121 (v1.toNatClampNeg) 0) * (σ3 6 (x1.toNatClampNeg) 0))), (4, .int (σ3 121 (v1.toNatClampNeg) 0)), (3, .int v3), (2, .int v1), (0, .ref (eB E + 0)), (1, .int x1)]) hC dX6_columnsOf_63 rfl (by decide) rfl ?_
      refine G_iconst (q := 66) hC dX6_columnsOf_65 rfl ic_0 ?_
      refine G_istore (q := 68) (lv' := [(8, .int (0 : Int32)), (7, .int (0 : Int32)), (6, .int (σ3 121 (v1.toNatClampNeg) 0)), (5, .int ((σ3 121 (v1.toNatClampNeg) 0) * (σ3 6 (x1.toNatClampNeg) 0))), (4, .int (σ3 121 (v1.toNatClampNeg) 0)), (3, .int v3), (2, .int v1), (0, .ref (eB E + 0)), (1, .int x1)]) hC dX6_columnsOf_66 rfl (by decide) rfl ?_
      refine G_lv (lv' := [(0, .ref (eB E + 0)), (1, .int x1), (2, .int v1), (3, .int v3), (4, .int (σ3 121 (v1.toNatClampNeg) 0)), (5, .int ((σ3 121 (v1.toNatClampNeg) 0) * (σ3 6 (x1.toNatClampNeg) 0))), (6, .int (σ3 121 (v1.toNatClampNeg) 0)), (7, .int (0 : Int32)), (8, .int (0 : Int32))]) [7, 8, 6, 5, 4, 3, 2, 1, 0] rfl ?_
      exact t_X6_columnsOf_b68 hC  fu _ _ _ _ _ _ _ _ _  hf
    · have hf := (if_pos c3).symm.trans hf
      refine G_iconst (q := 32) hC dX6_columnsOf_31 rfl ic_0 ?_
      exact G_iret hC hf rfl rfl dX6_columnsOf_32
  · have hf := (if_pos c1).symm.trans hf
    refine G_iconst (q := 20) hC dX6_columnsOf_19 rfl ic_0 ?_
    exact G_iret hC hf rfl rfl dX6_columnsOf_20

theorem m_X6_columnsOf {l : Launch} {fu : Nat} {E : gE} {w : Nat → Int64} {σ : gSt} {x1 : Int32} {r : Int32 × gSt}  (hf : f_X6_columnsOf fu σ x1 = some r) : gM l yX6_columnsOf cX6_columnsOf 11 (some .int) rm_X6_columnsOf 1 E w σ [.ref (eB E + 0), .int x1] r :=
  gM_of (by decide +kernel) (Nat.le_of_ble_eq_true rfl) (fun p e s m args below meth c hC => t_X6_columnsOf hC  hf)
def f_X6_beginFirst_b37 (fu : Nat)  (σ : gSt)  : Option (Int32 × gSt) :=
  some (0, σ)
set_option maxRecDepth 100000 in
theorem t_X6_beginFirst_b37 {fu : Nat}  {r : Int32 × gSt} (hC : gCx p s m args meth c cX6_beginFirst 3 RX6 none E)  {σ : gSt}   (hf : f_X6_beginFirst_b37 fu  σ  = some r) : G p l e rm_X6_beginFirst s m args below meth c 3 0 0 (MQ below (gQ E w 0 r) args s 0 0 (fun q => eB E ≤ q)) E w σ 37 [] [] := by
  unfold f_X6_beginFirst_b37 at hf
  exact G_vret hC hf rfl dX6_beginFirst_37

def f_X6_beginFirst (fu : Nat)  (σ : gSt) (i1 : Nat) : Option (Int32 × gSt) :=
  if (σ 32 i1 0) ≤ 0 then (f_X6_beginFirst_b37 fu  σ) else (gd (inb (0 : Int32) 24) (gd (inb (σ 30 i1 (0 : Int32).toNatClampNeg) 24) (bd (f_X6_columnsOf fu σ (σ 30 i1 (0 : Int32).toNatClampNeg)) (fun v2 σ2 => bd (f_X1_monthsFor fu σ2 i1 v2) (fun v3 σ3 => f_X6_beginFirst_b37 fu  (gU σ3 8 ((σ 30 i1 (0 : Int32).toNatClampNeg).toNatClampNeg) 0 ((σ 160 0 0) + v3)))))))
set_option maxRecDepth 100000 in
theorem t_X6_beginFirst {fu : Nat}  {r : Int32 × gSt} (hC : gCx p s m args meth c cX6_beginFirst 3 RX6 none E)  {σ : gSt} {i1 : Nat} (h1 : i1 < 6) (hf : f_X6_beginFirst fu  σ i1 = some r) : G p l e rm_X6_beginFirst s m args below meth c 3 0 0 (MQ below (gQ E w 0 r) args s 0 0 (fun q => eB E ≤ q)) E w σ 0 [(0, .ref (eB E + 0)), (1, .ref (eB E + oCon i1))] [] := by
  unfold f_X6_beginFirst at hf
  refine G_aload_n (q := 1) hC dX6_beginFirst_0 rfl rfl ?_
  refine gf_RX6_201 (q := 4) hC dX6_beginFirst_1 rfl h1 ?_
  refine G_if_le (tgt := 37) (q := 7) hC dX6_beginFirst_4 (by decide) rfl (fun c0 => ?_) (fun c0 => ?_)
  · have hf := (if_pos c0).symm.trans hf
    refine G_lv (lv' := []) [] rfl ?_
    exact t_X6_beginFirst_b37 hC   hf
  · have hf := (if_neg c0).symm.trans hf
    refine G_aload_n (q := 8) hC dX6_beginFirst_7 rfl rfl ?_
    refine gf_RX6_210 (q := 11) hC dX6_beginFirst_8 rfl h1 ?_
    refine G_iconst (q := 12) hC dX6_beginFirst_11 rfl ic_0 ?_
    obtain ⟨g1, hf⟩ := gd_ok hf
    refine G_iald (q := 13) hC dX6_beginFirst_12 rfl (ok_30 h1 g1) ?_
    refine G_istore_n (q := 14) (lv' := [(2, .int (σ 30 i1 (0 : Int32).toNatClampNeg)), (0, .ref (eB E + 0)), (1, .ref (eB E + oCon i1))]) hC dX6_beginFirst_13 rfl (by decide) rfl ?_
    refine G_aload_n (q := 15) hC dX6_beginFirst_14 rfl rfl ?_
    refine gf_RX6_18 (q := 18) hC dX6_beginFirst_15 rfl ?_
    refine G_iload_n (q := 19) hC dX6_beginFirst_18 rfl rfl ?_
    obtain ⟨g2, hf⟩ := gd_ok hf
    refine G_aldArt (q := 20) hC dX6_beginFirst_19 rfl g2 ?_
    refine G_aload_n (q := 21) hC dX6_beginFirst_20 rfl rfl ?_
    refine gf_RX6_218 (q := 24) hC dX6_beginFirst_21 rfl ?_
    refine G_aload_n (q := 25) hC dX6_beginFirst_24 rfl rfl ?_
    refine G_aload_n (q := 26) hC dX6_beginFirst_25 rfl rfl ?_
    refine G_iload_n (q := 27) hC dX6_beginFirst_26 rfl rfl ?_
    obtain ⟨v2, σ2, hm2, hf⟩ := bd_ok hf
    refine cl_RX6_263 (q := 30) hC dX6_beginFirst_27 rfl (m_X6_columnsOf hm2) ⟨Nat.le_of_ble_eq_true rfl, Nat.le_of_ble_eq_true rfl⟩ (Nat.le_of_ble_eq_true rfl) ⟨Nat.le_of_ble_eq_true rfl, Nat.le_of_ble_eq_true rfl⟩ ?_
    obtain ⟨v3, σ3, hm3, hf⟩ := bd_ok hf
    refine cl_RX6_338 (q := 33) hC dX6_beginFirst_30 rfl (m_X1_monthsFor h1 hm3) h1 ⟨Nat.le_of_ble_eq_true rfl, Nat.le_of_ble_eq_true rfl⟩ (Nat.le_of_ble_eq_true rfl) ⟨Nat.le_of_ble_eq_true rfl, Nat.le_of_ble_eq_true rfl⟩ ?_
    refine G_iadd (q := 34) hC dX6_beginFirst_33 rfl ?_
    refine pf_RX6_213 (q := 37) hC dX6_beginFirst_34 rfl (inb_lt g2) ?_
    refine G_lv (lv' := []) [] rfl ?_
    exact t_X6_beginFirst_b37 hC   hf

theorem m_X6_beginFirst {l : Launch} {fu : Nat} {E : gE} {w : Nat → Int64} {σ : gSt} {i1 : Nat} {r : Int32 × gSt} (h1 : i1 < 6) (hf : f_X6_beginFirst fu σ i1 = some r) : gM l yX6_beginFirst cX6_beginFirst 3 none rm_X6_beginFirst 0 E w σ [.ref (eB E + 0), .ref (eB E + oCon i1)] r :=
  gM_of (by decide +kernel) (Nat.le_of_ble_eq_true rfl) (fun p e s m args below meth c hC => t_X6_beginFirst hC h1 hf)
def f_X6_give_b51 (fu : Nat)  (σ : gSt)  : Option (Nat × Int32 × gSt) :=
  some (2, 0, σ)
set_option maxRecDepth 100000 in
theorem t_X6_give_b51 {fu : Nat}  {r : Nat × Int32 × gSt} (hC : gCx p s m args meth c cX6_give 5 RX6 (some .int) E) (hX : ∀ x ∈ c.exceptionTable.toList, False) (hflag : l.stackTraces = false)  {σ : gSt}   (hf : f_X6_give_b51 fu  σ  = some r) : G p l e rm_X6_give s m args below meth c 5 2 12 (vx_MQ below (gQX E w 1 r) (gXC E w r) args s rm_X6_give.cells rm_X6_give.slots (fun q => eB E ≤ q)) E w σ 51 [] [] := by
  unfold f_X6_give_b51 at hf
  exact G_throw hC hX hflag (text := "it cannot be given to that one") hf (by decide) (by decide +kernel) (wall (by decide +kernel) rfl) (wall (by decide +kernel) rfl) (by decide) thA2 thB2 dX6_give_51 dX6_give_54 dX6_give_55 dX6_give_57 dX6_give_60 (Nat.le_of_ble_eq_true rfl) (Nat.le_of_ble_eq_true rfl) ⟨Nat.le_of_ble_eq_true rfl, Nat.le_of_ble_eq_true rfl⟩ ⟨Nat.le_of_ble_eq_true rfl, Nat.le_of_ble_eq_true rfl⟩

def f_X6_give_b87 (fu : Nat)  (σ : gSt) (i4 : Nat) : Option (Nat × Int32 × gSt) :=
  some (0, (σ 32 i4 0), σ)
set_option maxRecDepth 100000 in
theorem t_X6_give_b87 {fu : Nat}  {r : Nat × Int32 × gSt} (hC : gCx p s m args meth c cX6_give 5 RX6 (some .int) E) (hX : ∀ x ∈ c.exceptionTable.toList, False) (hflag : l.stackTraces = false)  {σ : gSt} {i4 : Nat} (h4 : i4 < 6) (hf : f_X6_give_b87 fu  σ i4 = some r) : G p l e rm_X6_give s m args below meth c 5 2 12 (vx_MQ below (gQX E w 1 r) (gXC E w r) args s rm_X6_give.cells rm_X6_give.slots (fun q => eB E ≤ q)) E w σ 87 [(4, .ref (eB E + oCon i4))] [] := by
  unfold f_X6_give_b87 at hf
  refine G_aload (q := 89) hC dX6_give_87 rfl rfl ?_
  refine gf_RX6_201 (q := 92) hC dX6_give_89 rfl h4 ?_
  exact G_iretX hC hf rfl rfl (Nat.le_of_ble_eq_true rfl) (Nat.le_of_ble_eq_true rfl) dX6_give_92

def f_X6_give (fu : Nat)  (σ : gSt) (x1 : Int32) (x2 : Int32) : Option (Nat × Int32 × gSt) :=
  bx (f_X6_requireArticle fu σ x1) (fun _ σ1 => bx (f_X6_requireContributor fu σ1 x2) (fun _ σ2 => gd (inb x1 24) (gd (inb x2 6) (bd (f_X6_isToBeGiven fu σ2 (x1.toNatClampNeg)) (fun v3 σ3 => if v3 = 0 then (f_X6_give_b51 fu  σ3) else (if (σ3 35 (x2.toNatClampNeg) 0) = 0 then (bd (f_X6_isAmongEnemies fu σ3 (x1.toNatClampNeg) (x2.toNatClampNeg)) (fun v6 σ6 => if v6 = 0 then (bd (f_X1_addToWrite fu (gU σ6 7 (x1.toNatClampNeg) 0 x2) (x2.toNatClampNeg) x1) (fun _ σ8 => if (σ8 32 (x2.toNatClampNeg) 0) = (1 : Int32) then (bd (f_X6_beginFirst fu σ8 (x2.toNatClampNeg)) (fun _ σ10 => f_X6_give_b87 fu  σ10 (x2.toNatClampNeg))) else (f_X6_give_b87 fu  σ8 (x2.toNatClampNeg)))) else (f_X6_give_b51 fu  σ6))) else (f_X6_give_b51 fu  σ3)))))))
set_option maxRecDepth 100000 in
theorem t_X6_give {fu : Nat}  {r : Nat × Int32 × gSt} (hC : gCx p s m args meth c cX6_give 5 RX6 (some .int) E) (hX : ∀ x ∈ c.exceptionTable.toList, False) (hflag : l.stackTraces = false)  {σ : gSt} {x1 : Int32} {x2 : Int32}  (hf : f_X6_give fu  σ x1 x2 = some r) : G p l e rm_X6_give s m args below meth c 5 0 0 (vx_MQ below (gQX E w 1 r) (gXC E w r) args s rm_X6_give.cells rm_X6_give.slots (fun q => eB E ≤ q)) E w σ 0 [(0, .ref (eB E + 0)), (1, .int x1), (2, .int x2)] [] := by
  unfold f_X6_give at hf
  refine G_aload_n (q := 1) hC dX6_give_0 rfl rfl ?_
  refine G_iload_n (q := 2) hC dX6_give_1 rfl rfl ?_
  obtain ⟨z1, hm1, hf, hx1⟩ := bx_ok hf
  refine cl_RX6_113 (q := 5) hC dX6_give_2 rfl hX (m_X6_requireArticle hflag hm1) ⟨Nat.le_of_ble_eq_true rfl, Nat.le_of_ble_eq_true rfl⟩ (Nat.le_of_ble_eq_true rfl) ⟨Nat.le_of_ble_eq_true rfl, Nat.le_of_ble_eq_true rfl⟩ ⟨Nat.le_of_ble_eq_true rfl, Nat.le_of_ble_eq_true rfl⟩ hx1 (fun z0 => ?_)
  have hf := hf z0
  obtain ⟨v1, ev1⟩ : ∃ y, y = z1.2.1 := ⟨_, rfl⟩
  obtain ⟨σ1, eσ1⟩ : ∃ y, y = z1.2.2 := ⟨_, rfl⟩
  rw [← eσ1] at hf ⊢
  refine G_widen (k := 1) (n := 6) (Nat.le_of_ble_eq_true rfl) (Nat.le_of_ble_eq_true rfl) ?_
  refine G_aload_n (q := 6) hC dX6_give_5 rfl rfl ?_
  refine G_iload_n (q := 7) hC dX6_give_6 rfl rfl ?_
  obtain ⟨z2, hm2, hf, hx2⟩ := bx_ok hf
  refine cl_RX6_174 (q := 10) hC dX6_give_7 rfl hX (m_X6_requireContributor hflag hm2) ⟨Nat.le_of_ble_eq_true rfl, Nat.le_of_ble_eq_true rfl⟩ (Nat.le_of_ble_eq_true rfl) ⟨Nat.le_of_ble_eq_true rfl, Nat.le_of_ble_eq_true rfl⟩ ⟨Nat.le_of_ble_eq_true rfl, Nat.le_of_ble_eq_true rfl⟩ hx2 (fun z0 => ?_)
  have hf := hf z0
  obtain ⟨v2, ev2⟩ : ∃ y, y = z2.2.1 := ⟨_, rfl⟩
  obtain ⟨σ2, eσ2⟩ : ∃ y, y = z2.2.2 := ⟨_, rfl⟩
  rw [← eσ2] at hf ⊢
  refine G_widen (k := 2) (n := 12) (Nat.le_of_ble_eq_true rfl) (Nat.le_of_ble_eq_true rfl) ?_
  refine G_aload_n (q := 11) hC dX6_give_10 rfl rfl ?_
  refine gf_RX6_18 (q := 14) hC dX6_give_11 rfl ?_
  refine G_iload_n (q := 15) hC dX6_give_14 rfl rfl ?_
  obtain ⟨g1, hf⟩ := gd_ok hf
  refine G_aldArt (q := 16) hC dX6_give_15 rfl g1 ?_
  refine G_astore_n (q := 17) (lv' := [(3, .ref (eB E + oArt (x1.toNatClampNeg))), (0, .ref (eB E + 0)), (1, .int x1), (2, .int x2)]) hC dX6_give_16 rfl (by decide) rfl ?_
  refine G_aload_n (q := 18) hC dX6_give_17 rfl rfl ?_
  refine gf_RX6_30 (q := 21) hC dX6_give_18 rfl ?_
  refine G_iload_n (q := 22) hC dX6_give_21 rfl rfl ?_
  obtain ⟨g2, hf⟩ := gd_ok hf
  refine G_aldCon (q := 23) hC dX6_give_22 rfl g2 ?_
  refine G_astore (q := 25) (lv' := [(4, .ref (eB E + oCon (x2.toNatClampNeg))), (3, .ref (eB E + oArt (x1.toNatClampNeg))), (0, .ref (eB E + 0)), (1, .int x1), (2, .int x2)]) hC dX6_give_23 rfl (by decide) rfl ?_
  refine G_aload_n (q := 26) hC dX6_give_25 rfl rfl ?_
  refine G_aload_n (q := 27) hC dX6_give_26 rfl rfl ?_
  obtain ⟨v3, σ3, hm3, hf⟩ := bd_ok hf
  refine cl_RX6_182 (q := 30) hC dX6_give_27 rfl (m_X6_isToBeGiven (inb_lt g1) hm3) ⟨Nat.le_of_ble_eq_true rfl, Nat.le_of_ble_eq_true rfl⟩ (Nat.le_of_ble_eq_true rfl) ⟨Nat.le_of_ble_eq_true rfl, Nat.le_of_ble_eq_true rfl⟩ ?_
  refine G_if_eq (tgt := 51) (q := 33) hC dX6_give_30 (by decide) rfl (fun c3 => ?_) (fun c3 => ?_)
  · have hf := (if_pos c3).symm.trans hf
    refine G_lv (lv' := []) [] rfl ?_
    exact t_X6_give_b51 hC hX hflag   hf
  · have hf := (if_neg c3).symm.trans hf
    refine G_aload (q := 35) hC dX6_give_33 rfl rfl ?_
    refine gf_RX6_186 (q := 38) hC dX6_give_35 rfl (inb_lt g2) ?_
    refine G_if_ne (tgt := 51) (q := 41) hC dX6_give_38 (by decide) rfl (fun c4 => ?_) (fun c4 => ?_)
    · have hf := (if_neg c4).symm.trans hf
      refine G_lv (lv' := []) [] rfl ?_
      exact t_X6_give_b51 hC hX hflag   hf
    · have hf := (if_pos c4).symm.trans hf
      refine G_aload_n (q := 42) hC dX6_give_41 rfl rfl ?_
      refine G_aload_n (q := 43) hC dX6_give_42 rfl rfl ?_
      refine G_aload (q := 45) hC dX6_give_43 rfl rfl ?_
      obtain ⟨v6, σ6, hm6, hf⟩ := bd_ok hf
      refine cl_RX6_189 (q := 48) hC dX6_give_45 rfl (m_X6_isAmongEnemies (inb_lt g1) (inb_lt g2) hm6) ⟨Nat.le_of_ble_eq_true rfl, Nat.le_of_ble_eq_true rfl⟩ (Nat.le_of_ble_eq_true rfl) ⟨Nat.le_of_ble_eq_true rfl, Nat.le_of_ble_eq_true rfl⟩ ?_
      refine G_if_eq (tgt := 61) (q := 51) hC dX6_give_48 (by decide) rfl (fun c6 => ?_) (fun c6 => ?_)
      · have hf := (if_pos c6).symm.trans hf
        refine G_aload_n (q := 62) hC dX6_give_61 rfl rfl ?_
        refine G_iload_n (q := 63) hC dX6_give_62 rfl rfl ?_
        refine pf_RX6_195 (q := 66) hC dX6_give_63 rfl (inb_lt g1) ?_
        refine G_aload (q := 68) hC dX6_give_66 rfl rfl ?_
        refine G_iload_n (q := 69) hC dX6_give_68 rfl rfl ?_
        obtain ⟨v8, σ8, hm8, hf⟩ := bd_ok hf
        refine cl_RX6_198 (q := 72) hC dX6_give_69 rfl (m_X1_addToWrite (inb_lt g2) hm8) (inb_lt g2) ⟨Nat.le_of_ble_eq_true rfl, Nat.le_of_ble_eq_true rfl⟩ (Nat.le_of_ble_eq_true rfl) ⟨Nat.le_of_ble_eq_true rfl, Nat.le_of_ble_eq_true rfl⟩ ?_
        refine G_aload (q := 74) hC dX6_give_72 rfl rfl ?_
        refine gf_RX6_201 (q := 77) hC dX6_give_74 rfl (inb_lt g2) ?_
        refine G_iconst (q := 78) hC dX6_give_77 rfl ic_1 ?_
        refine G_icmp_ne (tgt := 87) (q := 81) hC dX6_give_78 (by decide) rfl (fun c8 => ?_) (fun c8 => ?_)
        · have hf := (if_neg c8).symm.trans hf
          refine G_lv (lv' := [(4, .ref (eB E + oCon (x2.toNatClampNeg)))]) [0] rfl ?_
          exact t_X6_give_b87 hC hX hflag  (inb_lt g2) hf
        · have hf := (if_pos c8).symm.trans hf
          refine G_aload_n (q := 82) hC dX6_give_81 rfl rfl ?_
          refine G_aload (q := 84) hC dX6_give_82 rfl rfl ?_
          obtain ⟨v10, σ10, hm10, hf⟩ := bd_ok hf
          refine cl_RX6_204 (q := 87) hC dX6_give_84 rfl (m_X6_beginFirst (inb_lt g2) hm10) ⟨Nat.le_of_ble_eq_true rfl, Nat.le_of_ble_eq_true rfl⟩ (Nat.le_of_ble_eq_true rfl) ⟨Nat.le_of_ble_eq_true rfl, Nat.le_of_ble_eq_true rfl⟩ ?_
          refine G_lv (lv' := [(4, .ref (eB E + oCon (x2.toNatClampNeg)))]) [0] rfl ?_
          exact t_X6_give_b87 hC hX hflag  (inb_lt g2) hf
      · have hf := (if_neg c6).symm.trans hf
        refine G_lv (lv' := []) [] rfl ?_
        exact t_X6_give_b51 hC hX hflag   hf

theorem m_X6_give {l : Launch} {fu : Nat} {E : gE} {w : Nat → Int64} {σ : gSt} {x1 : Int32} {x2 : Int32} {r : Nat × Int32 × gSt} (hflag : l.stackTraces = false)  (hf : f_X6_give fu σ x1 x2 = some r) : gMX l yX6_give cX6_give 5 (some .int) rm_X6_give 1 E w σ [.ref (eB E + 0), .int x1, .int x2] r :=
  gMX_of (by decide +kernel) (Nat.le_of_ble_eq_true rfl) (fun p e s m args below meth c hC hX => t_X6_give hC hX hflag  hf)
def f_X6_die_b37_B (fu : Nat) (k37 : gSt → Nat → Int32 → Int32 → Option (Nat × Int32 × gSt)) (σ : gSt) (i2 : Nat) (x3 : Int32) (x4 : Int32) : Option (Nat × Int32 × gSt) :=
  if x3 ≤ x4 then (some (0, x3, (gU (gU σ 32 i2 0 (0 : Int32)) 35 i2 0 (1 : Int32)))) else (gd (inb x4 24) (gd (inb (σ 30 i2 x4.toNatClampNeg) 24) (k37 (gU (gU σ 7 ((σ 30 i2 x4.toNatClampNeg).toNatClampNeg) 0 (-1 : Int32)) 8 ((σ 30 i2 x4.toNatClampNeg).toNatClampNeg) 0 (-1 : Int32)) i2 x3 (x4 + (1)))))
def f_X6_die_b37 (fu : Nat)  : Nat → gSt → Nat → Int32 → Int32 → Option (Nat × Int32 × gSt)
  | 0 => fun _ _ _ _ => none
  | n + 1 => f_X6_die_b37_B fu  (f_X6_die_b37 fu  n)
set_option maxRecDepth 100000 in
theorem t_X6_die_b37_B {fu : Nat} {k37 : gSt → Nat → Int32 → Int32 → Option (Nat × Int32 × gSt)} {r : Nat × Int32 × gSt} (hC : gCx p s m args meth c cX6_die 6 RX6 (some .int) E) (hX : ∀ x ∈ c.exceptionTable.toList, False) (hflag : l.stackTraces = false) (hk37 : ∀ (σ : gSt) (i2 : Nat) (x3 : Int32) (x4 : Int32), i2 < 6 → k37 σ i2 x3 x4 = some r → G p l e rm_X6_die s m args below meth c 6 1 6 (vx_MQ below (gQX E w 1 r) (gXC E w r) args s rm_X6_die.cells rm_X6_die.slots (fun q => eB E ≤ q)) E w σ 37 [(0, .ref (eB E + 0)), (2, .ref (eB E + oCon i2)), (3, .int x3), (4, .int x4)] []) {σ : gSt} {i2 : Nat} {x3 : Int32} {x4 : Int32} (h2 : i2 < 6) (hf : f_X6_die_b37_B fu k37 σ i2 x3 x4 = some r) : G p l e rm_X6_die s m args below meth c 6 1 6 (vx_MQ below (gQX E w 1 r) (gXC E w r) args s rm_X6_die.cells rm_X6_die.slots (fun q => eB E ≤ q)) E w σ 37 [(0, .ref (eB E + 0)), (2, .ref (eB E + oCon i2)), (3, .int x3), (4, .int x4)] [] := by
  unfold f_X6_die_b37_B at hf
  refine G_iload (q := 39) hC dX6_die_37 rfl rfl ?_
  refine G_iload_n (q := 40) hC dX6_die_39 rfl rfl ?_
  refine G_icmp_ge (tgt := 75) (q := 43) hC dX6_die_40 (by decide) rfl (fun c0 => ?_) (fun c0 => ?_)
  · have hf := (if_pos c0).symm.trans hf
    refine G_aload_n (q := 76) hC dX6_die_75 rfl rfl ?_
    refine G_iconst (q := 77) hC dX6_die_76 rfl ic_0 ?_
    refine pf_RX6_201 (q := 80) hC dX6_die_77 rfl h2 ?_
    refine G_aload_n (q := 81) hC dX6_die_80 rfl rfl ?_
    refine G_iconst (q := 82) hC dX6_die_81 rfl ic_1 ?_
    refine pf_RX6_186 (q := 85) hC dX6_die_82 rfl h2 rfl ?_
    refine G_iload_n (q := 86) hC dX6_die_85 rfl rfl ?_
    exact G_iretX hC hf rfl rfl (Nat.le_of_ble_eq_true rfl) (Nat.le_of_ble_eq_true rfl) dX6_die_86
  · have hf := (if_neg c0).symm.trans hf
    refine G_aload_n (q := 44) hC dX6_die_43 rfl rfl ?_
    refine gf_RX6_18 (q := 47) hC dX6_die_44 rfl ?_
    refine G_aload_n (q := 48) hC dX6_die_47 rfl rfl ?_
    refine gf_RX6_210 (q := 51) hC dX6_die_48 rfl h2 ?_
    refine G_iload (q := 53) hC dX6_die_51 rfl rfl ?_
    obtain ⟨g1, hf⟩ := gd_ok hf
    refine G_iald (q := 54) hC dX6_die_53 rfl (ok_30 h2 g1) ?_
    obtain ⟨g2, hf⟩ := gd_ok hf
    refine G_aldArt (q := 55) hC dX6_die_54 rfl g2 ?_
    refine G_astore (q := 57) (lv' := [(5, .ref (eB E + oArt ((σ 30 i2 x4.toNatClampNeg).toNatClampNeg))), (0, .ref (eB E + 0)), (2, .ref (eB E + oCon i2)), (3, .int x3), (4, .int x4)]) hC dX6_die_55 rfl (by decide) rfl ?_
    refine G_aload (q := 59) hC dX6_die_57 rfl rfl ?_
    refine G_iconst (q := 60) hC dX6_die_59 rfl ic_m1 ?_
    refine pf_RX6_195 (q := 63) hC dX6_die_60 rfl (inb_lt g2) ?_
    refine G_aload (q := 65) hC dX6_die_63 rfl rfl ?_
    refine G_iconst (q := 66) hC dX6_die_65 rfl ic_m1 ?_
    refine pf_RX6_213 (q := 69) hC dX6_die_66 rfl (inb_lt g2) ?_
    refine G_iinc (q := 72) (n := 4) (lv' := [(4, .int (x4 + (1))), (5, .ref (eB E + oArt ((σ 30 i2 x4.toNatClampNeg).toNatClampNeg))), (0, .ref (eB E + 0)), (2, .ref (eB E + oCon i2)), (3, .int x3)]) hC dX6_die_69 rfl rfl (ii_1 _) (by decide) rfl ?_
    refine G_goto (tgt := 37) hC dX6_die_72 (by decide) ?_
    refine G_lv (lv' := [(0, .ref (eB E + 0)), (2, .ref (eB E + oCon i2)), (3, .int x3), (4, .int (x4 + (1)))]) [2, 3, 4, 0] rfl ?_
    exact hk37 _ _ _ _ h2 hf

theorem t_X6_die_b37 {fu : Nat}  {r : Nat × Int32 × gSt} (hC : gCx p s m args meth c cX6_die 6 RX6 (some .int) E) (hX : ∀ x ∈ c.exceptionTable.toList, False) (hflag : l.stackTraces = false)  (n : Nat) : ∀ (σ : gSt) (i2 : Nat) (x3 : Int32) (x4 : Int32), i2 < 6 → f_X6_die_b37 fu  n σ i2 x3 x4 = some r → G p l e rm_X6_die s m args below meth c 6 1 6 (vx_MQ below (gQX E w 1 r) (gXC E w r) args s rm_X6_die.cells rm_X6_die.slots (fun q => eB E ≤ q)) E w σ 37 [(0, .ref (eB E + 0)), (2, .ref (eB E + oCon i2)), (3, .int x3), (4, .int x4)] [] := by
  induction n with
  | zero => intro σ i2 x3 x4 h2 hf; cases hf
  | succ n ih => intro σ i2 x3 x4 h2 hf; exact t_X6_die_b37_B hC hX hflag  ih h2 hf
def f_X6_die (fu : Nat)  (σ : gSt) (x1 : Int32) : Option (Nat × Int32 × gSt) :=
  bx (f_X6_requireContributor fu σ x1) (fun _ σ1 => gd (inb x1 6) (if (σ1 35 (x1.toNatClampNeg) 0) = 0 then (f_X6_die_b37 fu  fu σ1 (x1.toNatClampNeg) (σ1 32 (x1.toNatClampNeg) 0) (0 : Int32)) else (some (2, 0, σ1))))
set_option maxRecDepth 100000 in
theorem t_X6_die {fu : Nat}  {r : Nat × Int32 × gSt} (hC : gCx p s m args meth c cX6_die 6 RX6 (some .int) E) (hX : ∀ x ∈ c.exceptionTable.toList, False) (hflag : l.stackTraces = false)  {σ : gSt} {x1 : Int32}  (hf : f_X6_die fu  σ x1 = some r) : G p l e rm_X6_die s m args below meth c 6 0 0 (vx_MQ below (gQX E w 1 r) (gXC E w r) args s rm_X6_die.cells rm_X6_die.slots (fun q => eB E ≤ q)) E w σ 0 [(0, .ref (eB E + 0)), (1, .int x1)] [] := by
  unfold f_X6_die at hf
  refine G_aload_n (q := 1) hC dX6_die_0 rfl rfl ?_
  refine G_iload_n (q := 2) hC dX6_die_1 rfl rfl ?_
  obtain ⟨z1, hm1, hf, hx1⟩ := bx_ok hf
  refine cl_RX6_174 (q := 5) hC dX6_die_2 rfl hX (m_X6_requireContributor hflag hm1) ⟨Nat.le_of_ble_eq_true rfl, Nat.le_of_ble_eq_true rfl⟩ (Nat.le_of_ble_eq_true rfl) ⟨Nat.le_of_ble_eq_true rfl, Nat.le_of_ble_eq_true rfl⟩ ⟨Nat.le_of_ble_eq_true rfl, Nat.le_of_ble_eq_true rfl⟩ hx1 (fun z0 => ?_)
  have hf := hf z0
  obtain ⟨v1, ev1⟩ : ∃ y, y = z1.2.1 := ⟨_, rfl⟩
  obtain ⟨σ1, eσ1⟩ : ∃ y, y = z1.2.2 := ⟨_, rfl⟩
  rw [← eσ1] at hf ⊢
  refine G_widen (k := 1) (n := 6) (Nat.le_of_ble_eq_true rfl) (Nat.le_of_ble_eq_true rfl) ?_
  refine G_aload_n (q := 6) hC dX6_die_5 rfl rfl ?_
  refine gf_RX6_30 (q := 9) hC dX6_die_6 rfl ?_
  refine G_iload_n (q := 10) hC dX6_die_9 rfl rfl ?_
  obtain ⟨g1, hf⟩ := gd_ok hf
  refine G_aldCon (q := 11) hC dX6_die_10 rfl g1 ?_
  refine G_astore_n (q := 12) (lv' := [(2, .ref (eB E + oCon (x1.toNatClampNeg))), (0, .ref (eB E + 0)), (1, .int x1)]) hC dX6_die_11 rfl (by decide) rfl ?_
  refine G_aload_n (q := 13) hC dX6_die_12 rfl rfl ?_
  refine gf_RX6_186 (q := 16) hC dX6_die_13 rfl (inb_lt g1) ?_
  refine G_if_eq (tgt := 29) (q := 19) hC dX6_die_16 (by decide) rfl (fun c1 => ?_) (fun c1 => ?_)
  · have hf := (if_pos c1).symm.trans hf
    refine G_aload_n (q := 30) hC dX6_die_29 rfl rfl ?_
    refine gf_RX6_201 (q := 33) hC dX6_die_30 rfl (inb_lt g1) ?_
    refine G_istore_n (q := 34) (lv' := [(3, .int (σ1 32 (x1.toNatClampNeg) 0)), (2, .ref (eB E + oCon (x1.toNatClampNeg))), (0, .ref (eB E + 0)), (1, .int x1)]) hC dX6_die_33 rfl (by decide) rfl ?_
    refine G_iconst (q := 35) hC dX6_die_34 rfl ic_0 ?_
    refine G_istore (q := 37) (lv' := [(4, .int (0 : Int32)), (3, .int (σ1 32 (x1.toNatClampNeg) 0)), (2, .ref (eB E + oCon (x1.toNatClampNeg))), (0, .ref (eB E + 0)), (1, .int x1)]) hC dX6_die_35 rfl (by decide) rfl ?_
    refine G_lv (lv' := [(0, .ref (eB E + 0)), (2, .ref (eB E + oCon (x1.toNatClampNeg))), (3, .int (σ1 32 (x1.toNatClampNeg) 0)), (4, .int (0 : Int32))]) [3, 2, 1, 0] rfl ?_
    exact t_X6_die_b37 hC hX hflag  fu _ _ _ _ (inb_lt g1) hf
  · have hf := (if_neg c1).symm.trans hf
    exact G_throw hC hX hflag (text := "dead") hf (by decide) (by decide +kernel) (wall (by decide +kernel) rfl) (wall (by decide +kernel) rfl) (by decide) thA2 thB2 dX6_die_19 dX6_die_22 dX6_die_23 dX6_die_25 dX6_die_28 (Nat.le_of_ble_eq_true rfl) (Nat.le_of_ble_eq_true rfl) ⟨Nat.le_of_ble_eq_true rfl, Nat.le_of_ble_eq_true rfl⟩ ⟨Nat.le_of_ble_eq_true rfl, Nat.le_of_ble_eq_true rfl⟩

theorem m_X6_die {l : Launch} {fu : Nat} {E : gE} {w : Nat → Int64} {σ : gSt} {x1 : Int32} {r : Nat × Int32 × gSt} (hflag : l.stackTraces = false)  (hf : f_X6_die fu σ x1 = some r) : gMX l yX6_die cX6_die 6 (some .int) rm_X6_die 1 E w σ [.ref (eB E + 0), .int x1] r :=
  gMX_of (by decide +kernel) (Nat.le_of_ble_eq_true rfl) (fun p e s m args below meth c hC hX => t_X6_die hC hX hflag  hf)
def f_X6_endsAnArticle (fu : Nat)  (σ : gSt) (i1 : Nat) : Option (Int32 × gSt) :=
  if (σ 32 i1 0) = 0 then (some ((0 : Int32), σ)) else (gd (inb (0 : Int32) 24) (gd (inb (σ 30 i1 (0 : Int32).toNatClampNeg) 24) (if (σ 8 ((σ 30 i1 (0 : Int32).toNatClampNeg).toNatClampNeg) 0) = (σ 160 0 0) then (bd (f_X1_removeFirst fu (gU σ 9 ((σ 30 i1 (0 : Int32).toNatClampNeg).toNatClampNeg) 0 (1 : Int32)) i1) (fun _ σ3 => bd (f_X6_beginFirst fu σ3 i1) (fun _ σ4 => some ((1 : Int32), σ4)))) else (some ((0 : Int32), σ)))))
set_option maxRecDepth 100000 in
theorem t_X6_endsAnArticle {fu : Nat}  {r : Int32 × gSt} (hC : gCx p s m args meth c cX6_endsAnArticle 3 RX6 (some .boolean) E)  {σ : gSt} {i1 : Nat} (h1 : i1 < 6) (hf : f_X6_endsAnArticle fu  σ i1 = some r) : G p l e rm_X6_endsAnArticle s m args below meth c 3 0 0 (MQ below (gQ E w 1 r) args s 0 0 (fun q => eB E ≤ q)) E w σ 0 [(0, .ref (eB E + 0)), (1, .ref (eB E + oCon i1))] [] := by
  unfold f_X6_endsAnArticle at hf
  refine G_aload_n (q := 1) hC dX6_endsAnArticle_0 rfl rfl ?_
  refine gf_RX6_201 (q := 4) hC dX6_endsAnArticle_1 rfl h1 ?_
  refine G_if_ne (tgt := 9) (q := 7) hC dX6_endsAnArticle_4 (by decide) rfl (fun c0 => ?_) (fun c0 => ?_)
  · have hf := (if_neg c0).symm.trans hf
    refine G_aload_n (q := 10) hC dX6_endsAnArticle_9 rfl rfl ?_
    refine gf_RX6_18 (q := 13) hC dX6_endsAnArticle_10 rfl ?_
    refine G_aload_n (q := 14) hC dX6_endsAnArticle_13 rfl rfl ?_
    refine gf_RX6_210 (q := 17) hC dX6_endsAnArticle_14 rfl h1 ?_
    refine G_iconst (q := 18) hC dX6_endsAnArticle_17 rfl ic_0 ?_
    obtain ⟨g1, hf⟩ := gd_ok hf
    refine G_iald (q := 19) hC dX6_endsAnArticle_18 rfl (ok_30 h1 g1) ?_
    obtain ⟨g2, hf⟩ := gd_ok hf
    refine G_aldArt (q := 20) hC dX6_endsAnArticle_19 rfl g2 ?_
    refine G_astore_n (q := 21) (lv' := [(2, .ref (eB E + oArt ((σ 30 i1 (0 : Int32).toNatClampNeg).toNatClampNeg))), (0, .ref (eB E + 0)), (1, .ref (eB E + oCon i1))]) hC dX6_endsAnArticle_20 rfl (by decide) rfl ?_
    refine G_aload_n (q := 22) hC dX6_endsAnArticle_21 rfl rfl ?_
    refine gf_RX6_213 (q := 25) hC dX6_endsAnArticle_22 rfl (inb_lt g2) ?_
    refine G_aload_n (q := 26) hC dX6_endsAnArticle_25 rfl rfl ?_
    refine gf_RX6_218 (q := 29) hC dX6_endsAnArticle_26 rfl ?_
    refine G_icmp_eq (tgt := 34) (q := 32) hC dX6_endsAnArticle_29 (by decide) rfl (fun c1 => ?_) (fun c1 => ?_)
    · have hf := (if_pos c1).symm.trans hf
      refine G_aload_n (q := 35) hC dX6_endsAnArticle_34 rfl rfl ?_
      refine G_iconst (q := 36) hC dX6_endsAnArticle_35 rfl ic_1 ?_
      refine pf_RX6_341 (q := 39) hC dX6_endsAnArticle_36 rfl (inb_lt g2) rfl ?_
      refine G_aload_n (q := 40) hC dX6_endsAnArticle_39 rfl rfl ?_
      obtain ⟨v3, σ3, hm3, hf⟩ := bd_ok hf
      refine cl_RX6_344 (q := 43) hC dX6_endsAnArticle_40 rfl (m_X1_removeFirst h1 hm3) h1 ⟨Nat.le_of_ble_eq_true rfl, Nat.le_of_ble_eq_true rfl⟩ (Nat.le_of_ble_eq_true rfl) ⟨Nat.le_of_ble_eq_true rfl, Nat.le_of_ble_eq_true rfl⟩ ?_
      refine G_aload_n (q := 44) hC dX6_endsAnArticle_43 rfl rfl ?_
      refine G_aload_n (q := 45) hC dX6_endsAnArticle_44 rfl rfl ?_
      obtain ⟨v4, σ4, hm4, hf⟩ := bd_ok hf
      refine cl_RX6_204 (q := 48) hC dX6_endsAnArticle_45 rfl (m_X6_beginFirst h1 hm4) ⟨Nat.le_of_ble_eq_true rfl, Nat.le_of_ble_eq_true rfl⟩ (Nat.le_of_ble_eq_true rfl) ⟨Nat.le_of_ble_eq_true rfl, Nat.le_of_ble_eq_true rfl⟩ ?_
      refine G_iconst (q := 49) hC dX6_endsAnArticle_48 rfl ic_1 ?_
      exact G_iret hC hf rfl rfl dX6_endsAnArticle_49
    · have hf := (if_neg c1).symm.trans hf
      refine G_iconst (q := 33) hC dX6_endsAnArticle_32 rfl ic_0 ?_
      exact G_iret hC hf rfl rfl dX6_endsAnArticle_33
  · have hf := (if_pos c0).symm.trans hf
    refine G_iconst (q := 8) hC dX6_endsAnArticle_7 rfl ic_0 ?_
    exact G_iret hC hf rfl rfl dX6_endsAnArticle_8

theorem m_X6_endsAnArticle {l : Launch} {fu : Nat} {E : gE} {w : Nat → Int64} {σ : gSt} {i1 : Nat} {r : Int32 × gSt} (h1 : i1 < 6) (hf : f_X6_endsAnArticle fu σ i1 = some r) : gM l yX6_endsAnArticle cX6_endsAnArticle 3 (some .boolean) rm_X6_endsAnArticle 1 E w σ [.ref (eB E + 0), .ref (eB E + oCon i1)] r :=
  gM_of (by decide +kernel) (Nat.le_of_ble_eq_true rfl) (fun p e s m args below meth c hC => t_X6_endsAnArticle hC h1 hf)
def f_X6_pass_b11 (fu : Nat)  (σ : gSt)  : Option (Nat × Int32 × gSt) :=
  some (1, 0, σ)
set_option maxRecDepth 100000 in
theorem t_X6_pass_b11 {fu : Nat}  {r : Nat × Int32 × gSt} (hC : gCx p s m args meth c cX6_pass 5 RX6 (some .int) E) (hX : ∀ x ∈ c.exceptionTable.toList, False) (hflag : l.stackTraces = false)  {σ : gSt}   (hf : f_X6_pass_b11 fu  σ  = some r) : G p l e rm_X6_pass s m args below meth c 5 0 0 (vx_MQ below (gQX E w 1 r) (gXC E w r) args s rm_X6_pass.cells rm_X6_pass.slots (fun q => eB E ≤ q)) E w σ 11 [] [] := by
  unfold f_X6_pass_b11 at hf
  exact G_throw hC hX hflag (text := "months out of range") hf (by decide) (by decide +kernel) (wall (by decide +kernel) rfl) (wall (by decide +kernel) rfl) (by decide) thA1 thB1 dX6_pass_11 dX6_pass_14 dX6_pass_15 dX6_pass_17 dX6_pass_20 (Nat.le_of_ble_eq_true rfl) (Nat.le_of_ble_eq_true rfl) ⟨Nat.le_of_ble_eq_true rfl, Nat.le_of_ble_eq_true rfl⟩ ⟨Nat.le_of_ble_eq_true rfl, Nat.le_of_ble_eq_true rfl⟩

def f_X6_pass_b69 (fu : Nat) (k25 : gSt → Int32 → Int32 → Int32 → Option (Nat × Int32 × gSt)) (k43 : gSt → Int32 → Int32 → Int32 → Int32 → Option (Nat × Int32 × gSt)) (σ : gSt) (x1 : Int32) (x2 : Int32) (x3 : Int32) (x4 : Int32) : Option (Nat × Int32 × gSt) :=
  k43 σ x1 x2 x3 (x4 + (1))
set_option maxRecDepth 100000 in
theorem t_X6_pass_b69 {fu : Nat} {k25 : gSt → Int32 → Int32 → Int32 → Option (Nat × Int32 × gSt)} {k43 : gSt → Int32 → Int32 → Int32 → Int32 → Option (Nat × Int32 × gSt)} {r : Nat × Int32 × gSt} (hC : gCx p s m args meth c cX6_pass 5 RX6 (some .int) E) (hX : ∀ x ∈ c.exceptionTable.toList, False) (hflag : l.stackTraces = false) (hk25 : ∀ (σ : gSt) (x1 : Int32) (x2 : Int32) (x3 : Int32), k25 σ x1 x2 x3 = some r → G p l e rm_X6_pass s m args below meth c 5 0 0 (vx_MQ below (gQX E w 1 r) (gXC E w r) args s rm_X6_pass.cells rm_X6_pass.slots (fun q => eB E ≤ q)) E w σ 25 [(0, .ref (eB E + 0)), (1, .int x1), (2, .int x2), (3, .int x3)] []) (hk43 : ∀ (σ : gSt) (x1 : Int32) (x2 : Int32) (x3 : Int32) (x4 : Int32), k43 σ x1 x2 x3 x4 = some r → G p l e rm_X6_pass s m args below meth c 5 0 0 (vx_MQ below (gQX E w 1 r) (gXC E w r) args s rm_X6_pass.cells rm_X6_pass.slots (fun q => eB E ≤ q)) E w σ 43 [(0, .ref (eB E + 0)), (1, .int x1), (2, .int x2), (3, .int x3), (4, .int x4)] []) {σ : gSt} {x1 : Int32} {x2 : Int32} {x3 : Int32} {x4 : Int32}  (hf : f_X6_pass_b69 fu k25 k43 σ x1 x2 x3 x4 = some r) : G p l e rm_X6_pass s m args below meth c 5 0 0 (vx_MQ below (gQX E w 1 r) (gXC E w r) args s rm_X6_pass.cells rm_X6_pass.slots (fun q => eB E ≤ q)) E w σ 69 [(0, .ref (eB E + 0)), (1, .int x1), (2, .int x2), (3, .int x3), (4, .int x4)] [] := by
  unfold f_X6_pass_b69 at hf
  refine G_iinc (q := 72) (n := 4) (lv' := [(4, .int (x4 + (1))), (0, .ref (eB E + 0)), (1, .int x1), (2, .int x2), (3, .int x3)]) hC dX6_pass_69 rfl rfl (ii_1 _) (by decide) rfl ?_
  refine G_goto (tgt := 43) hC dX6_pass_72 (by decide) ?_
  refine G_lv (lv' := [(0, .ref (eB E + 0)), (1, .int x1), (2, .int x2), (3, .int x3), (4, .int (x4 + (1)))]) [1, 2, 3, 4, 0] rfl ?_
  exact hk43 _ _ _ _ _  hf

def f_X6_pass_b43_B (fu : Nat) (k25 : gSt → Int32 → Int32 → Int32 → Option (Nat × Int32 × gSt)) (k43 : gSt → Int32 → Int32 → Int32 → Int32 → Option (Nat × Int32 × gSt)) (σ : gSt) (x1 : Int32) (x2 : Int32) (x3 : Int32) (x4 : Int32) : Option (Nat × Int32 × gSt) :=
  if (σ 159 0 0) ≤ x4 then (k25 σ x1 x2 (x3 + (1))) else (gd (inb x4 6) (bd (f_X6_endsAnArticle fu σ (x4.toNatClampNeg)) (fun v2 σ2 => if v2 = 0 then (f_X6_pass_b69 fu k25 k43 σ2 x1 x2 x3 x4) else (f_X6_pass_b69 fu k25 k43 σ2 x1 (x2 + (1)) x3 x4))))
def f_X6_pass_b43 (fu : Nat) (k25 : gSt → Int32 → Int32 → Int32 → Option (Nat × Int32 × gSt)) : Nat → gSt → Int32 → Int32 → Int32 → Int32 → Option (Nat × Int32 × gSt)
  | 0 => fun _ _ _ _ _ => none
  | n + 1 => f_X6_pass_b43_B fu k25 (f_X6_pass_b43 fu k25 n)
set_option maxRecDepth 100000 in
theorem t_X6_pass_b43_B {fu : Nat} {k25 : gSt → Int32 → Int32 → Int32 → Option (Nat × Int32 × gSt)} {k43 : gSt → Int32 → Int32 → Int32 → Int32 → Option (Nat × Int32 × gSt)} {r : Nat × Int32 × gSt} (hC : gCx p s m args meth c cX6_pass 5 RX6 (some .int) E) (hX : ∀ x ∈ c.exceptionTable.toList, False) (hflag : l.stackTraces = false) (hk25 : ∀ (σ : gSt) (x1 : Int32) (x2 : Int32) (x3 : Int32), k25 σ x1 x2 x3 = some r → G p l e rm_X6_pass s m args below meth c 5 0 0 (vx_MQ below (gQX E w 1 r) (gXC E w r) args s rm_X6_pass.cells rm_X6_pass.slots (fun q => eB E ≤ q)) E w σ 25 [(0, .ref (eB E + 0)), (1, .int x1), (2, .int x2), (3, .int x3)] []) (hk43 : ∀ (σ : gSt) (x1 : Int32) (x2 : Int32) (x3 : Int32) (x4 : Int32), k43 σ x1 x2 x3 x4 = some r → G p l e rm_X6_pass s m args below meth c 5 0 0 (vx_MQ below (gQX E w 1 r) (gXC E w r) args s rm_X6_pass.cells rm_X6_pass.slots (fun q => eB E ≤ q)) E w σ 43 [(0, .ref (eB E + 0)), (1, .int x1), (2, .int x2), (3, .int x3), (4, .int x4)] []) {σ : gSt} {x1 : Int32} {x2 : Int32} {x3 : Int32} {x4 : Int32}  (hf : f_X6_pass_b43_B fu k25 k43 σ x1 x2 x3 x4 = some r) : G p l e rm_X6_pass s m args below meth c 5 0 0 (vx_MQ below (gQX E w 1 r) (gXC E w r) args s rm_X6_pass.cells rm_X6_pass.slots (fun q => eB E ≤ q)) E w σ 43 [(0, .ref (eB E + 0)), (1, .int x1), (2, .int x2), (3, .int x3), (4, .int x4)] [] := by
  unfold f_X6_pass_b43_B at hf
  refine G_iload (q := 45) hC dX6_pass_43 rfl rfl ?_
  refine G_aload_n (q := 46) hC dX6_pass_45 rfl rfl ?_
  refine gf_RX6_166 (q := 49) hC dX6_pass_46 rfl ?_
  refine G_icmp_ge (tgt := 75) (q := 52) hC dX6_pass_49 (by decide) rfl (fun c0 => ?_) (fun c0 => ?_)
  · have hf := (if_pos c0).symm.trans hf
    refine G_iinc (q := 78) (n := 3) (lv' := [(3, .int (x3 + (1))), (0, .ref (eB E + 0)), (1, .int x1), (2, .int x2), (4, .int x4)]) hC dX6_pass_75 rfl rfl (ii_1 _) (by decide) rfl ?_
    refine G_goto (tgt := 25) hC dX6_pass_78 (by decide) ?_
    refine G_lv (lv' := [(0, .ref (eB E + 0)), (1, .int x1), (2, .int x2), (3, .int (x3 + (1)))]) [1, 2, 3, 0] rfl ?_
    exact hk25 _ _ _ _  hf
  · have hf := (if_neg c0).symm.trans hf
    refine G_aload_n (q := 53) hC dX6_pass_52 rfl rfl ?_
    refine G_aload_n (q := 54) hC dX6_pass_53 rfl rfl ?_
    refine gf_RX6_30 (q := 57) hC dX6_pass_54 rfl ?_
    refine G_iload (q := 59) hC dX6_pass_57 rfl rfl ?_
    obtain ⟨g1, hf⟩ := gd_ok hf
    refine G_aldCon (q := 60) hC dX6_pass_59 rfl g1 ?_
    obtain ⟨v2, σ2, hm2, hf⟩ := bd_ok hf
    refine cl_RX6_221 (q := 63) hC dX6_pass_60 rfl (m_X6_endsAnArticle (inb_lt g1) hm2) ⟨Nat.le_of_ble_eq_true rfl, Nat.le_of_ble_eq_true rfl⟩ (Nat.le_of_ble_eq_true rfl) ⟨Nat.le_of_ble_eq_true rfl, Nat.le_of_ble_eq_true rfl⟩ ?_
    refine G_if_eq (tgt := 69) (q := 66) hC dX6_pass_63 (by decide) rfl (fun c2 => ?_) (fun c2 => ?_)
    · have hf := (if_pos c2).symm.trans hf
      exact t_X6_pass_b69 hC hX hflag hk25 hk43  hf
    · have hf := (if_neg c2).symm.trans hf
      refine G_iinc (q := 69) (n := 2) (lv' := [(2, .int (x2 + (1))), (0, .ref (eB E + 0)), (1, .int x1), (3, .int x3), (4, .int x4)]) hC dX6_pass_66 rfl rfl (ii_1 _) (by decide) rfl ?_
      refine G_lv (lv' := [(0, .ref (eB E + 0)), (1, .int x1), (2, .int (x2 + (1))), (3, .int x3), (4, .int x4)]) [1, 2, 0, 3, 4] rfl ?_
      exact t_X6_pass_b69 hC hX hflag hk25 hk43  hf

theorem t_X6_pass_b43 {fu : Nat} {k25 : gSt → Int32 → Int32 → Int32 → Option (Nat × Int32 × gSt)} {r : Nat × Int32 × gSt} (hC : gCx p s m args meth c cX6_pass 5 RX6 (some .int) E) (hX : ∀ x ∈ c.exceptionTable.toList, False) (hflag : l.stackTraces = false) (hk25 : ∀ (σ : gSt) (x1 : Int32) (x2 : Int32) (x3 : Int32), k25 σ x1 x2 x3 = some r → G p l e rm_X6_pass s m args below meth c 5 0 0 (vx_MQ below (gQX E w 1 r) (gXC E w r) args s rm_X6_pass.cells rm_X6_pass.slots (fun q => eB E ≤ q)) E w σ 25 [(0, .ref (eB E + 0)), (1, .int x1), (2, .int x2), (3, .int x3)] []) (n : Nat) : ∀ (σ : gSt) (x1 : Int32) (x2 : Int32) (x3 : Int32) (x4 : Int32), f_X6_pass_b43 fu k25 n σ x1 x2 x3 x4 = some r → G p l e rm_X6_pass s m args below meth c 5 0 0 (vx_MQ below (gQX E w 1 r) (gXC E w r) args s rm_X6_pass.cells rm_X6_pass.slots (fun q => eB E ≤ q)) E w σ 43 [(0, .ref (eB E + 0)), (1, .int x1), (2, .int x2), (3, .int x3), (4, .int x4)] [] := by
  induction n with
  | zero => intro σ x1 x2 x3 x4  hf; cases hf
  | succ n ih => intro σ x1 x2 x3 x4  hf; exact t_X6_pass_b43_B hC hX hflag hk25 ih  hf
def f_X6_pass_b25_B (fu : Nat) (k25 : gSt → Int32 → Int32 → Int32 → Option (Nat × Int32 × gSt)) (σ : gSt) (x1 : Int32) (x2 : Int32) (x3 : Int32) : Option (Nat × Int32 × gSt) :=
  if x1 ≤ x3 then (some (0, x2, σ)) else (f_X6_pass_b43 fu k25 fu (gU σ 160 0 0 ((σ 160 0 0) + (1 : Int32))) x1 x2 x3 (0 : Int32))
def f_X6_pass_b25 (fu : Nat)  : Nat → gSt → Int32 → Int32 → Int32 → Option (Nat × Int32 × gSt)
  | 0 => fun _ _ _ _ => none
  | n + 1 => f_X6_pass_b25_B fu  (f_X6_pass_b25 fu  n)
set_option maxRecDepth 100000 in
theorem t_X6_pass_b25_B {fu : Nat} {k25 : gSt → Int32 → Int32 → Int32 → Option (Nat × Int32 × gSt)} {r : Nat × Int32 × gSt} (hC : gCx p s m args meth c cX6_pass 5 RX6 (some .int) E) (hX : ∀ x ∈ c.exceptionTable.toList, False) (hflag : l.stackTraces = false) (hk25 : ∀ (σ : gSt) (x1 : Int32) (x2 : Int32) (x3 : Int32), k25 σ x1 x2 x3 = some r → G p l e rm_X6_pass s m args below meth c 5 0 0 (vx_MQ below (gQX E w 1 r) (gXC E w r) args s rm_X6_pass.cells rm_X6_pass.slots (fun q => eB E ≤ q)) E w σ 25 [(0, .ref (eB E + 0)), (1, .int x1), (2, .int x2), (3, .int x3)] []) {σ : gSt} {x1 : Int32} {x2 : Int32} {x3 : Int32}  (hf : f_X6_pass_b25_B fu k25 σ x1 x2 x3 = some r) : G p l e rm_X6_pass s m args below meth c 5 0 0 (vx_MQ below (gQX E w 1 r) (gXC E w r) args s rm_X6_pass.cells rm_X6_pass.slots (fun q => eB E ≤ q)) E w σ 25 [(0, .ref (eB E + 0)), (1, .int x1), (2, .int x2), (3, .int x3)] [] := by
  unfold f_X6_pass_b25_B at hf
  refine G_iload_n (q := 26) hC dX6_pass_25 rfl rfl ?_
  refine G_iload_n (q := 27) hC dX6_pass_26 rfl rfl ?_
  refine G_icmp_ge (tgt := 81) (q := 30) hC dX6_pass_27 (by decide) rfl (fun c0 => ?_) (fun c0 => ?_)
  · have hf := (if_pos c0).symm.trans hf
    refine G_iload_n (q := 82) hC dX6_pass_81 rfl rfl ?_
    exact G_iretX hC hf rfl rfl (Nat.le_of_ble_eq_true rfl) (Nat.le_of_ble_eq_true rfl) dX6_pass_82
  · have hf := (if_neg c0).symm.trans hf
    refine G_aload_n (q := 31) hC dX6_pass_30 rfl rfl ?_
    refine G_dup (q := 32) hC dX6_pass_31 rfl rfl ?_
    refine gf_RX6_218 (q := 35) hC dX6_pass_32 rfl ?_
    refine G_iconst (q := 36) hC dX6_pass_35 rfl ic_1 ?_
    refine G_iadd (q := 37) hC dX6_pass_36 rfl ?_
    refine pf_RX6_218 (q := 40) hC dX6_pass_37 rfl ?_
    refine G_iconst (q := 41) hC dX6_pass_40 rfl ic_0 ?_
    refine G_istore (q := 43) (lv' := [(4, .int (0 : Int32)), (0, .ref (eB E + 0)), (1, .int x1), (2, .int x2), (3, .int x3)]) hC dX6_pass_41 rfl (by decide) rfl ?_
    refine G_lv (lv' := [(0, .ref (eB E + 0)), (1, .int x1), (2, .int x2), (3, .int x3), (4, .int (0 : Int32))]) [1, 2, 3, 4, 0] rfl ?_
    exact t_X6_pass_b43 hC hX hflag hk25 fu _ _ _ _ _  hf

theorem t_X6_pass_b25 {fu : Nat}  {r : Nat × Int32 × gSt} (hC : gCx p s m args meth c cX6_pass 5 RX6 (some .int) E) (hX : ∀ x ∈ c.exceptionTable.toList, False) (hflag : l.stackTraces = false)  (n : Nat) : ∀ (σ : gSt) (x1 : Int32) (x2 : Int32) (x3 : Int32), f_X6_pass_b25 fu  n σ x1 x2 x3 = some r → G p l e rm_X6_pass s m args below meth c 5 0 0 (vx_MQ below (gQX E w 1 r) (gXC E w r) args s rm_X6_pass.cells rm_X6_pass.slots (fun q => eB E ≤ q)) E w σ 25 [(0, .ref (eB E + 0)), (1, .int x1), (2, .int x2), (3, .int x3)] [] := by
  induction n with
  | zero => intro σ x1 x2 x3  hf; cases hf
  | succ n ih => intro σ x1 x2 x3  hf; exact t_X6_pass_b25_B hC hX hflag  ih  hf
def f_X6_pass (fu : Nat)  (σ : gSt) (x1 : Int32) : Option (Nat × Int32 × gSt) :=
  if x1 < (1 : Int32) then (f_X6_pass_b11 fu  σ) else (if x1 ≤ (50 : Int32) then (f_X6_pass_b25 fu  fu σ x1 (0 : Int32) (0 : Int32)) else (f_X6_pass_b11 fu  σ))
set_option maxRecDepth 100000 in
theorem t_X6_pass {fu : Nat}  {r : Nat × Int32 × gSt} (hC : gCx p s m args meth c cX6_pass 5 RX6 (some .int) E) (hX : ∀ x ∈ c.exceptionTable.toList, False) (hflag : l.stackTraces = false)  {σ : gSt} {x1 : Int32}  (hf : f_X6_pass fu  σ x1 = some r) : G p l e rm_X6_pass s m args below meth c 5 0 0 (vx_MQ below (gQX E w 1 r) (gXC E w r) args s rm_X6_pass.cells rm_X6_pass.slots (fun q => eB E ≤ q)) E w σ 0 [(0, .ref (eB E + 0)), (1, .int x1)] [] := by
  unfold f_X6_pass at hf
  refine G_iload_n (q := 1) hC dX6_pass_0 rfl rfl ?_
  refine G_iconst (q := 2) hC dX6_pass_1 rfl ic_1 ?_
  refine G_icmp_lt (tgt := 11) (q := 5) hC dX6_pass_2 (by decide) rfl (fun c0 => ?_) (fun c0 => ?_)
  · have hf := (if_pos c0).symm.trans hf
    refine G_lv (lv' := []) [] rfl ?_
    exact t_X6_pass_b11 hC hX hflag   hf
  · have hf := (if_neg c0).symm.trans hf
    refine G_iload_n (q := 6) hC dX6_pass_5 rfl rfl ?_
    refine G_bipush (q := 8) hC dX6_pass_6 rfl bp_50 ?_
    refine G_icmp_le (tgt := 21) (q := 11) hC dX6_pass_8 (by decide) rfl (fun c1 => ?_) (fun c1 => ?_)
    · have hf := (if_pos c1).symm.trans hf
      refine G_iconst (q := 22) hC dX6_pass_21 rfl ic_0 ?_
      refine G_istore_n (q := 23) (lv' := [(2, .int (0 : Int32)), (0, .ref (eB E + 0)), (1, .int x1)]) hC dX6_pass_22 rfl (by decide) rfl ?_
      refine G_iconst (q := 24) hC dX6_pass_23 rfl ic_0 ?_
      refine G_istore_n (q := 25) (lv' := [(3, .int (0 : Int32)), (2, .int (0 : Int32)), (0, .ref (eB E + 0)), (1, .int x1)]) hC dX6_pass_24 rfl (by decide) rfl ?_
      refine G_lv (lv' := [(0, .ref (eB E + 0)), (1, .int x1), (2, .int (0 : Int32)), (3, .int (0 : Int32))]) [2, 3, 1, 0] rfl ?_
      exact t_X6_pass_b25 hC hX hflag  fu _ _ _ _  hf
    · have hf := (if_neg c1).symm.trans hf
      refine G_lv (lv' := []) [] rfl ?_
      exact t_X6_pass_b11 hC hX hflag   hf

theorem m_X6_pass {l : Launch} {fu : Nat} {E : gE} {w : Nat → Int64} {σ : gSt} {x1 : Int32} {r : Nat × Int32 × gSt} (hflag : l.stackTraces = false)  (hf : f_X6_pass fu σ x1 = some r) : gMX l yX6_pass cX6_pass 5 (some .int) rm_X6_pass 1 E w σ [.ref (eB E + 0), .int x1] r :=
  gMX_of (by decide +kernel) (Nat.le_of_ble_eq_true rfl) (fun p e s m args below meth c hC hX => t_X6_pass hC hX hflag  hf)
def f_X6_requireVolume_b12 (fu : Nat)  (σ : gSt)  : Option (Nat × Int32 × gSt) :=
  some (3, 0, σ)
set_option maxRecDepth 100000 in
theorem t_X6_requireVolume_b12 {fu : Nat}  {r : Nat × Int32 × gSt} (hC : gCx p s m args meth c cX6_requireVolume 2 RX6 none E) (hX : ∀ x ∈ c.exceptionTable.toList, False) (hflag : l.stackTraces = false)  {σ : gSt}   (hf : f_X6_requireVolume_b12 fu  σ  = some r) : G p l e rm_X6_requireVolume s m args below meth c 2 0 0 (vx_MQ below (gQX E w 0 r) (gXC E w r) args s rm_X6_requireVolume.cells rm_X6_requireVolume.slots (fun q => eB E ≤ q)) E w σ 12 [] [] := by
  unfold f_X6_requireVolume_b12 at hf
  exact G_throwW hC hX hflag (text := "no such volume") hf (by decide) (by decide +kernel) (wall (by decide +kernel) rfl) (wall (by decide +kernel) rfl) (by decide) thA3 thB3 dX6_requireVolume_12 dX6_requireVolume_15 dX6_requireVolume_16 dX6_requireVolume_19 dX6_requireVolume_22 (Nat.le_of_ble_eq_true rfl) (Nat.le_of_ble_eq_true rfl) ⟨Nat.le_of_ble_eq_true rfl, Nat.le_of_ble_eq_true rfl⟩ ⟨Nat.le_of_ble_eq_true rfl, Nat.le_of_ble_eq_true rfl⟩

def f_X6_requireVolume (fu : Nat)  (σ : gSt) (x1 : Int32) : Option (Nat × Int32 × gSt) :=
  if x1 < 0 then (f_X6_requireVolume_b12 fu  σ) else (if x1 < (σ 157 0 0) then (some (0, 0, σ)) else (f_X6_requireVolume_b12 fu  σ))
set_option maxRecDepth 100000 in
theorem t_X6_requireVolume {fu : Nat}  {r : Nat × Int32 × gSt} (hC : gCx p s m args meth c cX6_requireVolume 2 RX6 none E) (hX : ∀ x ∈ c.exceptionTable.toList, False) (hflag : l.stackTraces = false)  {σ : gSt} {x1 : Int32}  (hf : f_X6_requireVolume fu  σ x1 = some r) : G p l e rm_X6_requireVolume s m args below meth c 2 0 0 (vx_MQ below (gQX E w 0 r) (gXC E w r) args s rm_X6_requireVolume.cells rm_X6_requireVolume.slots (fun q => eB E ≤ q)) E w σ 0 [(0, .ref (eB E + 0)), (1, .int x1)] [] := by
  unfold f_X6_requireVolume at hf
  refine G_iload_n (q := 1) hC dX6_requireVolume_0 rfl rfl ?_
  refine G_if_lt (tgt := 12) (q := 4) hC dX6_requireVolume_1 (by decide) rfl (fun c0 => ?_) (fun c0 => ?_)
  · have hf := (if_pos c0).symm.trans hf
    refine G_lv (lv' := []) [] rfl ?_
    exact t_X6_requireVolume_b12 hC hX hflag   hf
  · have hf := (if_neg c0).symm.trans hf
    refine G_iload_n (q := 5) hC dX6_requireVolume_4 rfl rfl ?_
    refine G_aload_n (q := 6) hC dX6_requireVolume_5 rfl rfl ?_
    refine gf_RX6_150 (q := 9) hC dX6_requireVolume_6 rfl ?_
    refine G_icmp_lt (tgt := 23) (q := 12) hC dX6_requireVolume_9 (by decide) rfl (fun c1 => ?_) (fun c1 => ?_)
    · have hf := (if_pos c1).symm.trans hf
      exact G_vretX hC hf rfl (Nat.le_of_ble_eq_true rfl) (Nat.le_of_ble_eq_true rfl) dX6_requireVolume_23
    · have hf := (if_neg c1).symm.trans hf
      refine G_lv (lv' := []) [] rfl ?_
      exact t_X6_requireVolume_b12 hC hX hflag   hf

theorem m_X6_requireVolume {l : Launch} {fu : Nat} {E : gE} {w : Nat → Int64} {σ : gSt} {x1 : Int32} {r : Nat × Int32 × gSt} (hflag : l.stackTraces = false)  (hf : f_X6_requireVolume fu σ x1 = some r) : gMX l yX6_requireVolume cX6_requireVolume 2 none rm_X6_requireVolume 0 E w σ [.ref (eB E + 0), .int x1] r :=
  gMX_of (by decide +kernel) (Nat.le_of_ble_eq_true rfl) (fun p e s m args below meth c hC hX => t_X6_requireVolume hC hX hflag  hf)
def f_X6_putToPressFrom_b65 (fu : Nat) (k4 : gSt → Int32 → Int32 → Int32 → Option (Int32 × gSt)) (σ : gSt) (x1 : Int32) (x2 : Int32) (x3 : Int32) : Option (Int32 × gSt) :=
  k4 σ x1 x2 (x3 + (1))
set_option maxRecDepth 100000 in
theorem t_X6_putToPressFrom_b65 {fu : Nat} {k4 : gSt → Int32 → Int32 → Int32 → Option (Int32 × gSt)} {r : Int32 × gSt} (hC : gCx p s m args meth c cX6_putToPressFrom 5 RX6 (some .int) E) (hk4 : ∀ (σ : gSt) (x1 : Int32) (x2 : Int32) (x3 : Int32), k4 σ x1 x2 x3 = some r → G p l e rm_X6_putToPressFrom s m args below meth c 5 0 0 (MQ below (gQ E w 1 r) args s 0 0 (fun q => eB E ≤ q)) E w σ 4 [(0, .ref (eB E + 0)), (1, .int x1), (2, .int x2), (3, .int x3)] []) {σ : gSt} {x1 : Int32} {x2 : Int32} {x3 : Int32}  (hf : f_X6_putToPressFrom_b65 fu k4 σ x1 x2 x3 = some r) : G p l e rm_X6_putToPressFrom s m args below meth c 5 0 0 (MQ below (gQ E w 1 r) args s 0 0 (fun q => eB E ≤ q)) E w σ 65 [(0, .ref (eB E + 0)), (1, .int x1), (2, .int x2), (3, .int x3)] [] := by
  unfold f_X6_putToPressFrom_b65 at hf
  refine G_iinc (q := 68) (n := 3) (lv' := [(3, .int (x3 + (1))), (0, .ref (eB E + 0)), (1, .int x1), (2, .int x2)]) hC dX6_putToPressFrom_65 rfl rfl (ii_1 _) (by decide) rfl ?_
  refine G_goto (tgt := 4) hC dX6_putToPressFrom_68 (by decide) ?_
  refine G_lv (lv' := [(0, .ref (eB E + 0)), (1, .int x1), (2, .int x2), (3, .int (x3 + (1)))]) [1, 2, 3, 0] rfl ?_
  exact hk4 _ _ _ _  hf

def f_X6_putToPressFrom_b4_B (fu : Nat) (k4 : gSt → Int32 → Int32 → Int32 → Option (Int32 × gSt)) (σ : gSt) (x1 : Int32) (x2 : Int32) (x3 : Int32) : Option (Int32 × gSt) :=
  if (σ 156 0 0) ≤ x3 then (some (x2, σ)) else (gd (inb x3 24) (bd (f_X0_isReady fu σ (x3.toNatClampNeg)) (fun v2 σ2 => if v2 = 0 then (f_X6_putToPressFrom_b65 fu k4 σ2 x1 x2 x3) else (bd (f_X6_volumeOf fu σ2 (x3.toNatClampNeg)) (fun v4 σ4 => if v4 < x1 then (f_X6_putToPressFrom_b65 fu k4 σ4 x1 x2 x3) else (bd (f_X6_isOfPrintedVolume fu σ4 (x3.toNatClampNeg)) (fun v6 σ6 => if v6 = 0 then (f_X6_putToPressFrom_b65 fu k4 σ6 x1 x2 x3) else (bd (f_X0_putToPress fu σ6 (x3.toNatClampNeg) 155 0) (fun _ σ8 => f_X6_putToPressFrom_b65 fu k4 σ8 x1 (x2 + (1)) x3)))))))))
def f_X6_putToPressFrom_b4 (fu : Nat)  : Nat → gSt → Int32 → Int32 → Int32 → Option (Int32 × gSt)
  | 0 => fun _ _ _ _ => none
  | n + 1 => f_X6_putToPressFrom_b4_B fu  (f_X6_putToPressFrom_b4 fu  n)
set_option maxRecDepth 100000 in
theorem t_X6_putToPressFrom_b4_B {fu : Nat} {k4 : gSt → Int32 → Int32 → Int32 → Option (Int32 × gSt)} {r : Int32 × gSt} (hC : gCx p s m args meth c cX6_putToPressFrom 5 RX6 (some .int) E) (hk4 : ∀ (σ : gSt) (x1 : Int32) (x2 : Int32) (x3 : Int32), k4 σ x1 x2 x3 = some r → G p l e rm_X6_putToPressFrom s m args below meth c 5 0 0 (MQ below (gQ E w 1 r) args s 0 0 (fun q => eB E ≤ q)) E w σ 4 [(0, .ref (eB E + 0)), (1, .int x1), (2, .int x2), (3, .int x3)] []) {σ : gSt} {x1 : Int32} {x2 : Int32} {x3 : Int32}  (hf : f_X6_putToPressFrom_b4_B fu k4 σ x1 x2 x3 = some r) : G p l e rm_X6_putToPressFrom s m args below meth c 5 0 0 (MQ below (gQ E w 1 r) args s 0 0 (fun q => eB E ≤ q)) E w σ 4 [(0, .ref (eB E + 0)), (1, .int x1), (2, .int x2), (3, .int x3)] [] := by
  unfold f_X6_putToPressFrom_b4_B at hf
  refine G_iload_n (q := 5) hC dX6_putToPressFrom_4 rfl rfl ?_
  refine G_aload_n (q := 6) hC dX6_putToPressFrom_5 rfl rfl ?_
  refine gf_RX6_89 (q := 9) hC dX6_putToPressFrom_6 rfl ?_
  refine G_icmp_ge (tgt := 71) (q := 12) hC dX6_putToPressFrom_9 (by decide) rfl (fun c0 => ?_) (fun c0 => ?_)
  · have hf := (if_pos c0).symm.trans hf
    refine G_iload_n (q := 72) hC dX6_putToPressFrom_71 rfl rfl ?_
    exact G_iret hC hf rfl rfl dX6_putToPressFrom_72
  · have hf := (if_neg c0).symm.trans hf
    refine G_aload_n (q := 13) hC dX6_putToPressFrom_12 rfl rfl ?_
    refine gf_RX6_18 (q := 16) hC dX6_putToPressFrom_13 rfl ?_
    refine G_iload_n (q := 17) hC dX6_putToPressFrom_16 rfl rfl ?_
    obtain ⟨g1, hf⟩ := gd_ok hf
    refine G_aldArt (q := 18) hC dX6_putToPressFrom_17 rfl g1 ?_
    refine G_astore (q := 20) (lv' := [(4, .ref (eB E + oArt (x3.toNatClampNeg))), (0, .ref (eB E + 0)), (1, .int x1), (2, .int x2), (3, .int x3)]) hC dX6_putToPressFrom_18 rfl (by decide) rfl ?_
    refine G_aload (q := 22) hC dX6_putToPressFrom_20 rfl rfl ?_
    obtain ⟨v2, σ2, hm2, hf⟩ := bd_ok hf
    refine cl_RX6_347 (q := 25) hC dX6_putToPressFrom_22 rfl (m_X0_isReady (inb_lt g1) hm2) (inb_lt g1) ⟨Nat.le_of_ble_eq_true rfl, Nat.le_of_ble_eq_true rfl⟩ (Nat.le_of_ble_eq_true rfl) ⟨Nat.le_of_ble_eq_true rfl, Nat.le_of_ble_eq_true rfl⟩ ?_
    refine G_if_eq (tgt := 65) (q := 28) hC dX6_putToPressFrom_25 (by decide) rfl (fun c2 => ?_) (fun c2 => ?_)
    · have hf := (if_pos c2).symm.trans hf
      refine G_lv (lv' := [(0, .ref (eB E + 0)), (1, .int x1), (2, .int x2), (3, .int x3)]) [1, 2, 3, 4] rfl ?_
      exact t_X6_putToPressFrom_b65 hC hk4  hf
    · have hf := (if_neg c2).symm.trans hf
      refine G_aload_n (q := 29) hC dX6_putToPressFrom_28 rfl rfl ?_
      refine G_aload (q := 31) hC dX6_putToPressFrom_29 rfl rfl ?_
      refine gf_RX6_104 (q := 34) hC dX6_putToPressFrom_31 rfl (inb_lt g1) ?_
      obtain ⟨v4, σ4, hm4, hf⟩ := bd_ok hf
      refine cl_RX6_259 (q := 37) hC dX6_putToPressFrom_34 rfl (m_X6_volumeOf (hwA (inb_lt g1)) hm4) ⟨Nat.le_of_ble_eq_true rfl, Nat.le_of_ble_eq_true rfl⟩ (Nat.le_of_ble_eq_true rfl) ⟨Nat.le_of_ble_eq_true rfl, Nat.le_of_ble_eq_true rfl⟩ ?_
      refine G_iload_n (q := 38) hC dX6_putToPressFrom_37 rfl rfl ?_
      refine G_icmp_lt (tgt := 65) (q := 41) hC dX6_putToPressFrom_38 (by decide) rfl (fun c4 => ?_) (fun c4 => ?_)
      · have hf := (if_pos c4).symm.trans hf
        refine G_lv (lv' := [(0, .ref (eB E + 0)), (1, .int x1), (2, .int x2), (3, .int x3)]) [1, 2, 3, 4] rfl ?_
        exact t_X6_putToPressFrom_b65 hC hk4  hf
      · have hf := (if_neg c4).symm.trans hf
        refine G_aload_n (q := 42) hC dX6_putToPressFrom_41 rfl rfl ?_
        refine G_aload (q := 44) hC dX6_putToPressFrom_42 rfl rfl ?_
        refine gf_RX6_104 (q := 47) hC dX6_putToPressFrom_44 rfl (inb_lt g1) ?_
        obtain ⟨v6, σ6, hm6, hf⟩ := bd_ok hf
        refine cl_RX6_326 (q := 50) hC dX6_putToPressFrom_47 rfl (m_X6_isOfPrintedVolume (hwA (inb_lt g1)) hm6) ⟨Nat.le_of_ble_eq_true rfl, Nat.le_of_ble_eq_true rfl⟩ (Nat.le_of_ble_eq_true rfl) ⟨Nat.le_of_ble_eq_true rfl, Nat.le_of_ble_eq_true rfl⟩ ?_
        refine G_if_eq (tgt := 65) (q := 53) hC dX6_putToPressFrom_50 (by decide) rfl (fun c6 => ?_) (fun c6 => ?_)
        · have hf := (if_pos c6).symm.trans hf
          refine G_lv (lv' := [(0, .ref (eB E + 0)), (1, .int x1), (2, .int x2), (3, .int x3)]) [1, 2, 3, 4] rfl ?_
          exact t_X6_putToPressFrom_b65 hC hk4  hf
        · have hf := (if_neg c6).symm.trans hf
          refine G_aload (q := 55) hC dX6_putToPressFrom_53 rfl rfl ?_
          refine G_aload_n (q := 56) hC dX6_putToPressFrom_55 rfl rfl ?_
          refine gf_RX6_38 (q := 59) hC dX6_putToPressFrom_56 rfl ?_
          obtain ⟨v8, σ8, hm8, hf⟩ := bd_ok hf
          refine cl_RX6_350 (q := 62) hC dX6_putToPressFrom_59 rfl (m_X0_putToPress (inb_lt g1) hm8) (inb_lt g1) ⟨Nat.le_of_ble_eq_true rfl, Nat.le_of_ble_eq_true rfl⟩ (Nat.le_of_ble_eq_true rfl) ⟨Nat.le_of_ble_eq_true rfl, Nat.le_of_ble_eq_true rfl⟩ ?_
          refine G_iinc (q := 65) (n := 3) (lv' := [(2, .int (x2 + (1))), (4, .ref (eB E + oArt (x3.toNatClampNeg))), (0, .ref (eB E + 0)), (1, .int x1), (3, .int x3)]) hC dX6_putToPressFrom_62 rfl rfl (ii_1 _) (by decide) rfl ?_
          refine G_lv (lv' := [(0, .ref (eB E + 0)), (1, .int x1), (2, .int (x2 + (1))), (3, .int x3)]) [2, 3, 0, 4] rfl ?_
          exact t_X6_putToPressFrom_b65 hC hk4  hf

theorem t_X6_putToPressFrom_b4 {fu : Nat}  {r : Int32 × gSt} (hC : gCx p s m args meth c cX6_putToPressFrom 5 RX6 (some .int) E)  (n : Nat) : ∀ (σ : gSt) (x1 : Int32) (x2 : Int32) (x3 : Int32), f_X6_putToPressFrom_b4 fu  n σ x1 x2 x3 = some r → G p l e rm_X6_putToPressFrom s m args below meth c 5 0 0 (MQ below (gQ E w 1 r) args s 0 0 (fun q => eB E ≤ q)) E w σ 4 [(0, .ref (eB E + 0)), (1, .int x1), (2, .int x2), (3, .int x3)] [] := by
  induction n with
  | zero => intro σ x1 x2 x3  hf; cases hf
  | succ n ih => intro σ x1 x2 x3  hf; exact t_X6_putToPressFrom_b4_B hC  ih  hf
def f_X6_putToPressFrom (fu : Nat)  (σ : gSt) (x1 : Int32) : Option (Int32 × gSt) :=
  f_X6_putToPressFrom_b4 fu  fu σ x1 (0 : Int32) (0 : Int32)
set_option maxRecDepth 100000 in
theorem t_X6_putToPressFrom {fu : Nat}  {r : Int32 × gSt} (hC : gCx p s m args meth c cX6_putToPressFrom 5 RX6 (some .int) E)  {σ : gSt} {x1 : Int32}  (hf : f_X6_putToPressFrom fu  σ x1 = some r) : G p l e rm_X6_putToPressFrom s m args below meth c 5 0 0 (MQ below (gQ E w 1 r) args s 0 0 (fun q => eB E ≤ q)) E w σ 0 [(0, .ref (eB E + 0)), (1, .int x1)] [] := by
  unfold f_X6_putToPressFrom at hf
  refine G_iconst (q := 1) hC dX6_putToPressFrom_0 rfl ic_0 ?_
  refine G_istore_n (q := 2) (lv' := [(2, .int (0 : Int32)), (0, .ref (eB E + 0)), (1, .int x1)]) hC dX6_putToPressFrom_1 rfl (by decide) rfl ?_
  refine G_iconst (q := 3) hC dX6_putToPressFrom_2 rfl ic_0 ?_
  refine G_istore_n (q := 4) (lv' := [(3, .int (0 : Int32)), (2, .int (0 : Int32)), (0, .ref (eB E + 0)), (1, .int x1)]) hC dX6_putToPressFrom_3 rfl (by decide) rfl ?_
  refine G_lv (lv' := [(0, .ref (eB E + 0)), (1, .int x1), (2, .int (0 : Int32)), (3, .int (0 : Int32))]) [2, 3, 1, 0] rfl ?_
  exact t_X6_putToPressFrom_b4 hC  fu _ _ _ _  hf

theorem m_X6_putToPressFrom {l : Launch} {fu : Nat} {E : gE} {w : Nat → Int64} {σ : gSt} {x1 : Int32} {r : Int32 × gSt}  (hf : f_X6_putToPressFrom fu σ x1 = some r) : gM l yX6_putToPressFrom cX6_putToPressFrom 5 (some .int) rm_X6_putToPressFrom 1 E w σ [.ref (eB E + 0), .int x1] r :=
  gM_of (by decide +kernel) (Nat.le_of_ble_eq_true rfl) (fun p e s m args below meth c hC => t_X6_putToPressFrom hC  hf)
def f_X6_isThere_b41 (fu : Nat) (k2 : gSt → Nat → Int32 → Option (Int32 × gSt)) (σ : gSt) (i1 : Nat) (x2 : Int32) : Option (Int32 × gSt) :=
  k2 σ i1 (x2 + (1))
set_option maxRecDepth 100000 in
theorem t_X6_isThere_b41 {fu : Nat} {k2 : gSt → Nat → Int32 → Option (Int32 × gSt)} {r : Int32 × gSt} (hC : gCx p s m args meth c cX6_isThere 3 RX6 (some .boolean) E) (hk2 : ∀ (σ : gSt) (i1 : Nat) (x2 : Int32), i1 < 121 → k2 σ i1 x2 = some r → G p l e rm_X6_isThere s m args below meth c 3 0 0 (MQ below (gQ E w 1 r) args s 0 0 (fun q => eB E ≤ q)) E w σ 2 [(0, .ref (eB E + 0)), (1, .ref (eB E + oHw i1)), (2, .int x2)] []) {σ : gSt} {i1 : Nat} {x2 : Int32} (h1 : i1 < 121) (hf : f_X6_isThere_b41 fu k2 σ i1 x2 = some r) : G p l e rm_X6_isThere s m args below meth c 3 0 0 (MQ below (gQ E w 1 r) args s 0 0 (fun q => eB E ≤ q)) E w σ 41 [(0, .ref (eB E + 0)), (1, .ref (eB E + oHw i1)), (2, .int x2)] [] := by
  unfold f_X6_isThere_b41 at hf
  refine G_iinc (q := 44) (n := 2) (lv' := [(2, .int (x2 + (1))), (0, .ref (eB E + 0)), (1, .ref (eB E + oHw i1))]) hC dX6_isThere_41 rfl rfl (ii_1 _) (by decide) rfl ?_
  refine G_goto (tgt := 2) hC dX6_isThere_44 (by decide) ?_
  refine G_lv (lv' := [(0, .ref (eB E + 0)), (1, .ref (eB E + oHw i1)), (2, .int (x2 + (1)))]) [1, 2, 0] rfl ?_
  exact hk2 _ _ _ h1 hf

def f_X6_isThere_b2_B (fu : Nat) (k2 : gSt → Nat → Int32 → Option (Int32 × gSt)) (σ : gSt) (i1 : Nat) (x2 : Int32) : Option (Int32 × gSt) :=
  if (σ 156 0 0) ≤ x2 then (some ((0 : Int32), σ)) else (gd (inb x2 24) (if (σ 11 (x2.toNatClampNeg) 0) = 0 then (f_X6_isThere_b41 fu k2 σ i1 x2) else (gd (inb x2 24) (bd (f_X6_areAlike fu σ (x2.toNatClampNeg) i1) (fun v3 σ3 => if v3 = 0 then (f_X6_isThere_b41 fu k2 σ3 i1 x2) else (some ((1 : Int32), σ3)))))))
def f_X6_isThere_b2 (fu : Nat)  : Nat → gSt → Nat → Int32 → Option (Int32 × gSt)
  | 0 => fun _ _ _ => none
  | n + 1 => f_X6_isThere_b2_B fu  (f_X6_isThere_b2 fu  n)
set_option maxRecDepth 100000 in
theorem t_X6_isThere_b2_B {fu : Nat} {k2 : gSt → Nat → Int32 → Option (Int32 × gSt)} {r : Int32 × gSt} (hC : gCx p s m args meth c cX6_isThere 3 RX6 (some .boolean) E) (hk2 : ∀ (σ : gSt) (i1 : Nat) (x2 : Int32), i1 < 121 → k2 σ i1 x2 = some r → G p l e rm_X6_isThere s m args below meth c 3 0 0 (MQ below (gQ E w 1 r) args s 0 0 (fun q => eB E ≤ q)) E w σ 2 [(0, .ref (eB E + 0)), (1, .ref (eB E + oHw i1)), (2, .int x2)] []) {σ : gSt} {i1 : Nat} {x2 : Int32} (h1 : i1 < 121) (hf : f_X6_isThere_b2_B fu k2 σ i1 x2 = some r) : G p l e rm_X6_isThere s m args below meth c 3 0 0 (MQ below (gQ E w 1 r) args s 0 0 (fun q => eB E ≤ q)) E w σ 2 [(0, .ref (eB E + 0)), (1, .ref (eB E + oHw i1)), (2, .int x2)] [] := by
  unfold f_X6_isThere_b2_B at hf
  refine G_iload_n (q := 3) hC dX6_isThere_2 rfl rfl ?_
  refine G_aload_n (q := 4) hC dX6_isThere_3 rfl rfl ?_
  refine gf_RX6_89 (q := 7) hC dX6_isThere_4 rfl ?_
  refine G_icmp_ge (tgt := 47) (q := 10) hC dX6_isThere_7 (by decide) rfl (fun c0 => ?_) (fun c0 => ?_)
  · have hf := (if_pos c0).symm.trans hf
    refine G_iconst (q := 48) hC dX6_isThere_47 rfl ic_0 ?_
    exact G_iret hC hf rfl rfl dX6_isThere_48
  · have hf := (if_neg c0).symm.trans hf
    refine G_aload_n (q := 11) hC dX6_isThere_10 rfl rfl ?_
    refine gf_RX6_18 (q := 14) hC dX6_isThere_11 rfl ?_
    refine G_iload_n (q := 15) hC dX6_isThere_14 rfl rfl ?_
    obtain ⟨g1, hf⟩ := gd_ok hf
    refine G_aldArt (q := 16) hC dX6_isThere_15 rfl g1 ?_
    refine gf_RX6_116 (q := 19) hC dX6_isThere_16 rfl (inb_lt g1) ?_
    refine G_if_eq (tgt := 41) (q := 22) hC dX6_isThere_19 (by decide) rfl (fun c1 => ?_) (fun c1 => ?_)
    · have hf := (if_pos c1).symm.trans hf
      exact t_X6_isThere_b41 hC hk2 h1 hf
    · have hf := (if_neg c1).symm.trans hf
      refine G_aload_n (q := 23) hC dX6_isThere_22 rfl rfl ?_
      refine G_aload_n (q := 24) hC dX6_isThere_23 rfl rfl ?_
      refine gf_RX6_18 (q := 27) hC dX6_isThere_24 rfl ?_
      refine G_iload_n (q := 28) hC dX6_isThere_27 rfl rfl ?_
      obtain ⟨g2, hf⟩ := gd_ok hf
      refine G_aldArt (q := 29) hC dX6_isThere_28 rfl g2 ?_
      refine gf_RX6_104 (q := 32) hC dX6_isThere_29 rfl (inb_lt g2) ?_
      refine G_aload_n (q := 33) hC dX6_isThere_32 rfl rfl ?_
      obtain ⟨v3, σ3, hm3, hf⟩ := bd_ok hf
      refine cl_RX6_334 (q := 36) hC dX6_isThere_33 rfl (m_X6_areAlike (hwA (inb_lt g2)) h1 hm3) ⟨Nat.le_of_ble_eq_true rfl, Nat.le_of_ble_eq_true rfl⟩ (Nat.le_of_ble_eq_true rfl) ⟨Nat.le_of_ble_eq_true rfl, Nat.le_of_ble_eq_true rfl⟩ ?_
      refine G_if_eq (tgt := 41) (q := 39) hC dX6_isThere_36 (by decide) rfl (fun c3 => ?_) (fun c3 => ?_)
      · have hf := (if_pos c3).symm.trans hf
        exact t_X6_isThere_b41 hC hk2 h1 hf
      · have hf := (if_neg c3).symm.trans hf
        refine G_iconst (q := 40) hC dX6_isThere_39 rfl ic_1 ?_
        exact G_iret hC hf rfl rfl dX6_isThere_40

theorem t_X6_isThere_b2 {fu : Nat}  {r : Int32 × gSt} (hC : gCx p s m args meth c cX6_isThere 3 RX6 (some .boolean) E)  (n : Nat) : ∀ (σ : gSt) (i1 : Nat) (x2 : Int32), i1 < 121 → f_X6_isThere_b2 fu  n σ i1 x2 = some r → G p l e rm_X6_isThere s m args below meth c 3 0 0 (MQ below (gQ E w 1 r) args s 0 0 (fun q => eB E ≤ q)) E w σ 2 [(0, .ref (eB E + 0)), (1, .ref (eB E + oHw i1)), (2, .int x2)] [] := by
  induction n with
  | zero => intro σ i1 x2 h1 hf; cases hf
  | succ n ih => intro σ i1 x2 h1 hf; exact t_X6_isThere_b2_B hC  ih h1 hf
def f_X6_isThere (fu : Nat)  (σ : gSt) (i1 : Nat) : Option (Int32 × gSt) :=
  f_X6_isThere_b2 fu  fu σ i1 (0 : Int32)
set_option maxRecDepth 100000 in
theorem t_X6_isThere {fu : Nat}  {r : Int32 × gSt} (hC : gCx p s m args meth c cX6_isThere 3 RX6 (some .boolean) E)  {σ : gSt} {i1 : Nat} (h1 : i1 < 121) (hf : f_X6_isThere fu  σ i1 = some r) : G p l e rm_X6_isThere s m args below meth c 3 0 0 (MQ below (gQ E w 1 r) args s 0 0 (fun q => eB E ≤ q)) E w σ 0 [(0, .ref (eB E + 0)), (1, .ref (eB E + oHw i1))] [] := by
  unfold f_X6_isThere at hf
  refine G_iconst (q := 1) hC dX6_isThere_0 rfl ic_0 ?_
  refine G_istore_n (q := 2) (lv' := [(2, .int (0 : Int32)), (0, .ref (eB E + 0)), (1, .ref (eB E + oHw i1))]) hC dX6_isThere_1 rfl (by decide) rfl ?_
  refine G_lv (lv' := [(0, .ref (eB E + 0)), (1, .ref (eB E + oHw i1)), (2, .int (0 : Int32))]) [1, 2, 0] rfl ?_
  exact t_X6_isThere_b2 hC  fu _ _ _ h1 hf

theorem m_X6_isThere {l : Launch} {fu : Nat} {E : gE} {w : Nat → Int64} {σ : gSt} {i1 : Nat} {r : Int32 × gSt} (h1 : i1 < 121) (hf : f_X6_isThere fu σ i1 = some r) : gM l yX6_isThere cX6_isThere 3 (some .boolean) rm_X6_isThere 1 E w σ [.ref (eB E + 0), .ref (eB E + oHw i1)] r :=
  gM_of (by decide +kernel) (Nat.le_of_ble_eq_true rfl) (fun p e s m args below meth c hC => t_X6_isThere hC h1 hf)
def f_X6_fateOf_b29 (fu : Nat)  (σ : gSt) (xs0 : Int32) : Option (Int32 × gSt) :=
  some (xs0, σ)
set_option maxRecDepth 100000 in
theorem t_X6_fateOf_b29 {fu : Nat}  {r : Int32 × gSt} (hC : gCx p s m args meth c cX6_fateOf 2 RX6 (some (.object "CircleOfLeaves$Fate")) E)  {σ : gSt} {xs0 : Int32}  (hf : f_X6_fateOf_b29 fu  σ xs0 = some r) : G p l e rm_X6_fateOf s m args below meth c 2 0 0 (MQ below (gQ E w 2 r) args s 0 0 (fun q => eB E ≤ q)) E w σ 29 [] [.ref (eF E (xs0).toNatClampNeg)] := by
  unfold f_X6_fateOf_b29 at hf
  exact G_aret hC hf rfl rfl dX6_fateOf_29

def f_X6_fateOf (fu : Nat)  (σ : gSt) (i1 : Nat) : Option (Int32 × gSt) :=
  bd (f_X6_isThere fu σ i1) (fun v1 σ1 => if v1 = 0 then (bd (f_X6_isOfPrintedVolume fu σ1 i1) (fun v3 σ3 => if v3 = 0 then (f_X6_fateOf_b29 fu  σ3 (2 : Int32)) else (f_X6_fateOf_b29 fu  σ3 (3 : Int32)))) else (some ((1 : Int32), σ1)))
set_option maxRecDepth 100000 in
theorem t_X6_fateOf {fu : Nat}  {r : Int32 × gSt} (hC : gCx p s m args meth c cX6_fateOf 2 RX6 (some (.object "CircleOfLeaves$Fate")) E)  {σ : gSt} {i1 : Nat} (h1 : i1 < 121) (hf : f_X6_fateOf fu  σ i1 = some r) : G p l e rm_X6_fateOf s m args below meth c 2 0 0 (MQ below (gQ E w 2 r) args s 0 0 (fun q => eB E ≤ q)) E w σ 0 [(0, .ref (eB E + 0)), (1, .ref (eB E + oHw i1))] [] := by
  unfold f_X6_fateOf at hf
  refine G_aload_n (q := 1) hC dX6_fateOf_0 rfl rfl ?_
  refine G_aload_n (q := 2) hC dX6_fateOf_1 rfl rfl ?_
  obtain ⟨v1, σ1, hm1, hf⟩ := bd_ok hf
  refine cl_RX6_364 (q := 5) hC dX6_fateOf_2 rfl (m_X6_isThere h1 hm1) ⟨Nat.le_of_ble_eq_true rfl, Nat.le_of_ble_eq_true rfl⟩ (Nat.le_of_ble_eq_true rfl) ⟨Nat.le_of_ble_eq_true rfl, Nat.le_of_ble_eq_true rfl⟩ ?_
  refine G_if_eq (tgt := 12) (q := 8) hC dX6_fateOf_5 (by decide) rfl (fun c1 => ?_) (fun c1 => ?_)
  · have hf := (if_pos c1).symm.trans hf
    refine G_aload_n (q := 13) hC dX6_fateOf_12 rfl rfl ?_
    refine G_aload_n (q := 14) hC dX6_fateOf_13 rfl rfl ?_
    obtain ⟨v3, σ3, hm3, hf⟩ := bd_ok hf
    refine cl_RX6_326 (q := 17) hC dX6_fateOf_14 rfl (m_X6_isOfPrintedVolume h1 hm3) ⟨Nat.le_of_ble_eq_true rfl, Nat.le_of_ble_eq_true rfl⟩ (Nat.le_of_ble_eq_true rfl) ⟨Nat.le_of_ble_eq_true rfl, Nat.le_of_ble_eq_true rfl⟩ ?_
    refine G_if_eq (tgt := 26) (q := 20) hC dX6_fateOf_17 (by decide) rfl (fun c3 => ?_) (fun c3 => ?_)
    · have hf := (if_pos c3).symm.trans hf
      refine gs_RX6_370 (q := 29) hC dX6_fateOf_26 rfl ?_
      refine G_lv (lv' := []) [] rfl ?_
      exact t_X6_fateOf_b29 hC   hf
    · have hf := (if_neg c3).symm.trans hf
      refine gs_RX6_266 (q := 23) hC dX6_fateOf_20 rfl ?_
      refine G_goto (tgt := 29) hC dX6_fateOf_23 (by decide) ?_
      refine G_lv (lv' := []) [] rfl ?_
      exact t_X6_fateOf_b29 hC   hf
  · have hf := (if_neg c1).symm.trans hf
    refine gs_RX6_367 (q := 11) hC dX6_fateOf_8 rfl ?_
    exact G_aret hC hf rfl rfl dX6_fateOf_11

theorem m_X6_fateOf {l : Launch} {fu : Nat} {E : gE} {w : Nat → Int64} {σ : gSt} {i1 : Nat} {r : Int32 × gSt} (h1 : i1 < 121) (hf : f_X6_fateOf fu σ i1 = some r) : gM l yX6_fateOf cX6_fateOf 2 (some (.object "CircleOfLeaves$Fate")) rm_X6_fateOf 2 E w σ [.ref (eB E + 0), .ref (eB E + oHw i1)] r :=
  gM_of (by decide +kernel) (Nat.le_of_ble_eq_true rfl) (fun p e s m args below meth c hC => t_X6_fateOf hC h1 hf)
def f_X6_lookAtReferences_b77 (fu : Nat) (k2 : gSt → Int32 → Option (Int32 × gSt)) (σ : gSt) (x1 : Int32) : Option (Int32 × gSt) :=
  k2 σ (x1 + (1))
set_option maxRecDepth 100000 in
theorem t_X6_lookAtReferences_b77 {fu : Nat} {k2 : gSt → Int32 → Option (Int32 × gSt)} {r : Int32 × gSt} (hC : gCx p s m args meth c cX6_lookAtReferences 4 RX6 none E) (hk2 : ∀ (σ : gSt) (x1 : Int32), k2 σ x1 = some r → G p l e rm_X6_lookAtReferences s m args below meth c 4 0 0 (MQ below (gQ E w 0 r) args s 0 0 (fun q => eB E ≤ q)) E w σ 2 [(0, .ref (eB E + 0)), (1, .int x1)] []) {σ : gSt} {x1 : Int32}  (hf : f_X6_lookAtReferences_b77 fu k2 σ x1 = some r) : G p l e rm_X6_lookAtReferences s m args below meth c 4 0 0 (MQ below (gQ E w 0 r) args s 0 0 (fun q => eB E ≤ q)) E w σ 77 [(0, .ref (eB E + 0)), (1, .int x1)] [] := by
  unfold f_X6_lookAtReferences_b77 at hf
  refine G_iinc (q := 80) (n := 1) (lv' := [(1, .int (x1 + (1))), (0, .ref (eB E + 0))]) hC dX6_lookAtReferences_77 rfl rfl (ii_1 _) (by decide) rfl ?_
  refine G_goto (tgt := 2) hC dX6_lookAtReferences_80 (by decide) ?_
  refine G_lv (lv' := [(0, .ref (eB E + 0)), (1, .int (x1 + (1)))]) [1, 0] rfl ?_
  exact hk2 _ _  hf

def f_X6_lookAtReferences_b71 (fu : Nat) (k2 : gSt → Int32 → Option (Int32 × gSt)) (k12 : gSt → Int32 → Int32 → Option (Int32 × gSt)) (σ : gSt) (x1 : Int32) (x2 : Int32) : Option (Int32 × gSt) :=
  k12 σ x1 (x2 + (1))
set_option maxRecDepth 100000 in
theorem t_X6_lookAtReferences_b71 {fu : Nat} {k2 : gSt → Int32 → Option (Int32 × gSt)} {k12 : gSt → Int32 → Int32 → Option (Int32 × gSt)} {r : Int32 × gSt} (hC : gCx p s m args meth c cX6_lookAtReferences 4 RX6 none E) (hk2 : ∀ (σ : gSt) (x1 : Int32), k2 σ x1 = some r → G p l e rm_X6_lookAtReferences s m args below meth c 4 0 0 (MQ below (gQ E w 0 r) args s 0 0 (fun q => eB E ≤ q)) E w σ 2 [(0, .ref (eB E + 0)), (1, .int x1)] []) (hk12 : ∀ (σ : gSt) (x1 : Int32) (x2 : Int32), k12 σ x1 x2 = some r → G p l e rm_X6_lookAtReferences s m args below meth c 4 0 0 (MQ below (gQ E w 0 r) args s 0 0 (fun q => eB E ≤ q)) E w σ 12 [(0, .ref (eB E + 0)), (1, .int x1), (2, .int x2)] []) {σ : gSt} {x1 : Int32} {x2 : Int32}  (hf : f_X6_lookAtReferences_b71 fu k2 k12 σ x1 x2 = some r) : G p l e rm_X6_lookAtReferences s m args below meth c 4 0 0 (MQ below (gQ E w 0 r) args s 0 0 (fun q => eB E ≤ q)) E w σ 71 [(0, .ref (eB E + 0)), (1, .int x1), (2, .int x2)] [] := by
  unfold f_X6_lookAtReferences_b71 at hf
  refine G_iinc (q := 74) (n := 2) (lv' := [(2, .int (x2 + (1))), (0, .ref (eB E + 0)), (1, .int x1)]) hC dX6_lookAtReferences_71 rfl rfl (ii_1 _) (by decide) rfl ?_
  refine G_goto (tgt := 12) hC dX6_lookAtReferences_74 (by decide) ?_
  refine G_lv (lv' := [(0, .ref (eB E + 0)), (1, .int x1), (2, .int (x2 + (1)))]) [1, 2, 0] rfl ?_
  exact hk12 _ _ _  hf

def f_X6_lookAtReferences_b12_B (fu : Nat) (k2 : gSt → Int32 → Option (Int32 × gSt)) (k12 : gSt → Int32 → Int32 → Option (Int32 × gSt)) (σ : gSt) (x1 : Int32) (x2 : Int32) : Option (Int32 × gSt) :=
  gd (inb x1 24) (if (σ 11 (x1.toNatClampNeg) 0) = 0 then (f_X6_lookAtReferences_b77 fu k2 σ x1) else (gd (inb x1 24) (if (σ 4 (x1.toNatClampNeg) 0) ≤ x2 then (f_X6_lookAtReferences_b77 fu k2 σ x1) else (gd (inb x1 24) (gd (inb x2 4) (gd (okF (σ 91 (4 * (x1.toNatClampNeg) + x2.toNatClampNeg) 0)) (gd (okF (0 : Int32)) (if (σ 91 (4 * (x1.toNatClampNeg) + x2.toNatClampNeg) 0) = (0 : Int32) then (bd (f_X6_fateOf fu σ (24 + (4 * (x1.toNatClampNeg) + x2.toNatClampNeg))) (fun v4 σ4 => f_X6_lookAtReferences_b71 fu k2 k12 (gU σ4 91 (4 * (x1.toNatClampNeg) + x2.toNatClampNeg) 0 v4) x1 x2)) else (f_X6_lookAtReferences_b71 fu k2 k12 σ x1 x2)))))))))
def f_X6_lookAtReferences_b12 (fu : Nat) (k2 : gSt → Int32 → Option (Int32 × gSt)) : Nat → gSt → Int32 → Int32 → Option (Int32 × gSt)
  | 0 => fun _ _ _ => none
  | n + 1 => f_X6_lookAtReferences_b12_B fu k2 (f_X6_lookAtReferences_b12 fu k2 n)
set_option maxRecDepth 100000 in
theorem t_X6_lookAtReferences_b12_B {fu : Nat} {k2 : gSt → Int32 → Option (Int32 × gSt)} {k12 : gSt → Int32 → Int32 → Option (Int32 × gSt)} {r : Int32 × gSt} (hC : gCx p s m args meth c cX6_lookAtReferences 4 RX6 none E) (hk2 : ∀ (σ : gSt) (x1 : Int32), k2 σ x1 = some r → G p l e rm_X6_lookAtReferences s m args below meth c 4 0 0 (MQ below (gQ E w 0 r) args s 0 0 (fun q => eB E ≤ q)) E w σ 2 [(0, .ref (eB E + 0)), (1, .int x1)] []) (hk12 : ∀ (σ : gSt) (x1 : Int32) (x2 : Int32), k12 σ x1 x2 = some r → G p l e rm_X6_lookAtReferences s m args below meth c 4 0 0 (MQ below (gQ E w 0 r) args s 0 0 (fun q => eB E ≤ q)) E w σ 12 [(0, .ref (eB E + 0)), (1, .int x1), (2, .int x2)] []) {σ : gSt} {x1 : Int32} {x2 : Int32}  (hf : f_X6_lookAtReferences_b12_B fu k2 k12 σ x1 x2 = some r) : G p l e rm_X6_lookAtReferences s m args below meth c 4 0 0 (MQ below (gQ E w 0 r) args s 0 0 (fun q => eB E ≤ q)) E w σ 12 [(0, .ref (eB E + 0)), (1, .int x1), (2, .int x2)] [] := by
  unfold f_X6_lookAtReferences_b12_B at hf
  refine G_aload_n (q := 13) hC dX6_lookAtReferences_12 rfl rfl ?_
  refine gf_RX6_18 (q := 16) hC dX6_lookAtReferences_13 rfl ?_
  refine G_iload_n (q := 17) hC dX6_lookAtReferences_16 rfl rfl ?_
  obtain ⟨g1, hf⟩ := gd_ok hf
  refine G_aldArt (q := 18) hC dX6_lookAtReferences_17 rfl g1 ?_
  refine gf_RX6_116 (q := 21) hC dX6_lookAtReferences_18 rfl (inb_lt g1) ?_
  refine G_if_eq (tgt := 77) (q := 24) hC dX6_lookAtReferences_21 (by decide) rfl (fun c0 => ?_) (fun c0 => ?_)
  · have hf := (if_pos c0).symm.trans hf
    refine G_lv (lv' := [(0, .ref (eB E + 0)), (1, .int x1)]) [0, 1] rfl ?_
    exact t_X6_lookAtReferences_b77 hC hk2  hf
  · have hf := (if_neg c0).symm.trans hf
    refine G_iload_n (q := 25) hC dX6_lookAtReferences_24 rfl rfl ?_
    refine G_aload_n (q := 26) hC dX6_lookAtReferences_25 rfl rfl ?_
    refine gf_RX6_18 (q := 29) hC dX6_lookAtReferences_26 rfl ?_
    refine G_iload_n (q := 30) hC dX6_lookAtReferences_29 rfl rfl ?_
    obtain ⟨g2, hf⟩ := gd_ok hf
    refine G_aldArt (q := 31) hC dX6_lookAtReferences_30 rfl g2 ?_
    refine gf_RX6_119 (q := 34) hC dX6_lookAtReferences_31 rfl (inb_lt g2) ?_
    refine G_icmp_ge (tgt := 77) (q := 37) hC dX6_lookAtReferences_34 (by decide) rfl (fun c1 => ?_) (fun c1 => ?_)
    · have hf := (if_pos c1).symm.trans hf
      refine G_lv (lv' := [(0, .ref (eB E + 0)), (1, .int x1)]) [0, 1] rfl ?_
      exact t_X6_lookAtReferences_b77 hC hk2  hf
    · have hf := (if_neg c1).symm.trans hf
      refine G_aload_n (q := 38) hC dX6_lookAtReferences_37 rfl rfl ?_
      refine gf_RX6_18 (q := 41) hC dX6_lookAtReferences_38 rfl ?_
      refine G_iload_n (q := 42) hC dX6_lookAtReferences_41 rfl rfl ?_
      obtain ⟨g3, hf⟩ := gd_ok hf
      refine G_aldArt (q := 43) hC dX6_lookAtReferences_42 rfl g3 ?_
      refine gf_RX6_124 (q := 46) hC dX6_lookAtReferences_43 rfl (inb_lt g3) ?_
      refine G_iload_n (q := 47) hC dX6_lookAtReferences_46 rfl rfl ?_
      obtain ⟨g4, hf⟩ := gd_ok hf
      refine G_aldRef (q := 48) hC dX6_lookAtReferences_47 rfl (inb_lt g3) g4 ?_
      refine G_astore_n (q := 49) (lv' := [(3, .ref (eB E + oRef (4 * (x1.toNatClampNeg) + x2.toNatClampNeg))), (0, .ref (eB E + 0)), (1, .int x1), (2, .int x2)]) hC dX6_lookAtReferences_48 rfl (by decide) rfl ?_
      refine G_aload_n (q := 50) hC dX6_lookAtReferences_49 rfl rfl ?_
      refine gf_RX6_354 (q := 53) hC dX6_lookAtReferences_50 rfl (refB (inb_lt g3) g4) ?_
      refine gs_RX6_357 (q := 56) hC dX6_lookAtReferences_53 rfl ?_
      obtain ⟨g5, hf⟩ := gd_ok hf
      obtain ⟨g6, hf⟩ := gd_ok hf
      refine G_acmp_ne (tgt := 71) (q := 59) hC dX6_lookAtReferences_56 (by decide) rfl g5 g6 (fun c2 => ?_) (fun c2 => ?_)
      · have hf := (if_neg c2).symm.trans hf
        refine G_lv (lv' := [(0, .ref (eB E + 0)), (1, .int x1), (2, .int x2)]) [1, 2, 3] rfl ?_
        exact t_X6_lookAtReferences_b71 hC hk2 hk12  hf
      · have hf := (if_pos c2).symm.trans hf
        refine G_aload_n (q := 60) hC dX6_lookAtReferences_59 rfl rfl ?_
        refine G_aload_n (q := 61) hC dX6_lookAtReferences_60 rfl rfl ?_
        refine G_aload_n (q := 62) hC dX6_lookAtReferences_61 rfl rfl ?_
        refine gf_RX6_128 (q := 65) hC dX6_lookAtReferences_62 rfl (refB (inb_lt g3) g4) ?_
        obtain ⟨v4, σ4, hm4, hf⟩ := bd_ok hf
        refine cl_RX6_360 (q := 68) hC dX6_lookAtReferences_65 rfl (m_X6_fateOf (hwR (refB (inb_lt g3) g4)) hm4) ⟨Nat.le_of_ble_eq_true rfl, Nat.le_of_ble_eq_true rfl⟩ (Nat.le_of_ble_eq_true rfl) ⟨Nat.le_of_ble_eq_true rfl, Nat.le_of_ble_eq_true rfl⟩ ?_
        refine pf_RX6_354 (q := 71) hC dX6_lookAtReferences_68 rfl (refB (inb_lt g3) g4) ?_
        refine G_lv (lv' := [(0, .ref (eB E + 0)), (1, .int x1), (2, .int x2)]) [1, 2, 3] rfl ?_
        exact t_X6_lookAtReferences_b71 hC hk2 hk12  hf

theorem t_X6_lookAtReferences_b12 {fu : Nat} {k2 : gSt → Int32 → Option (Int32 × gSt)} {r : Int32 × gSt} (hC : gCx p s m args meth c cX6_lookAtReferences 4 RX6 none E) (hk2 : ∀ (σ : gSt) (x1 : Int32), k2 σ x1 = some r → G p l e rm_X6_lookAtReferences s m args below meth c 4 0 0 (MQ below (gQ E w 0 r) args s 0 0 (fun q => eB E ≤ q)) E w σ 2 [(0, .ref (eB E + 0)), (1, .int x1)] []) (n : Nat) : ∀ (σ : gSt) (x1 : Int32) (x2 : Int32), f_X6_lookAtReferences_b12 fu k2 n σ x1 x2 = some r → G p l e rm_X6_lookAtReferences s m args below meth c 4 0 0 (MQ below (gQ E w 0 r) args s 0 0 (fun q => eB E ≤ q)) E w σ 12 [(0, .ref (eB E + 0)), (1, .int x1), (2, .int x2)] [] := by
  induction n with
  | zero => intro σ x1 x2  hf; cases hf
  | succ n ih => intro σ x1 x2  hf; exact t_X6_lookAtReferences_b12_B hC hk2 ih  hf
def f_X6_lookAtReferences_b2_B (fu : Nat) (k2 : gSt → Int32 → Option (Int32 × gSt)) (σ : gSt) (x1 : Int32) : Option (Int32 × gSt) :=
  if (σ 156 0 0) ≤ x1 then (some (0, σ)) else (f_X6_lookAtReferences_b12 fu k2 fu σ x1 (0 : Int32))
def f_X6_lookAtReferences_b2 (fu : Nat)  : Nat → gSt → Int32 → Option (Int32 × gSt)
  | 0 => fun _ _ => none
  | n + 1 => f_X6_lookAtReferences_b2_B fu  (f_X6_lookAtReferences_b2 fu  n)
set_option maxRecDepth 100000 in
theorem t_X6_lookAtReferences_b2_B {fu : Nat} {k2 : gSt → Int32 → Option (Int32 × gSt)} {r : Int32 × gSt} (hC : gCx p s m args meth c cX6_lookAtReferences 4 RX6 none E) (hk2 : ∀ (σ : gSt) (x1 : Int32), k2 σ x1 = some r → G p l e rm_X6_lookAtReferences s m args below meth c 4 0 0 (MQ below (gQ E w 0 r) args s 0 0 (fun q => eB E ≤ q)) E w σ 2 [(0, .ref (eB E + 0)), (1, .int x1)] []) {σ : gSt} {x1 : Int32}  (hf : f_X6_lookAtReferences_b2_B fu k2 σ x1 = some r) : G p l e rm_X6_lookAtReferences s m args below meth c 4 0 0 (MQ below (gQ E w 0 r) args s 0 0 (fun q => eB E ≤ q)) E w σ 2 [(0, .ref (eB E + 0)), (1, .int x1)] [] := by
  unfold f_X6_lookAtReferences_b2_B at hf
  refine G_iload_n (q := 3) hC dX6_lookAtReferences_2 rfl rfl ?_
  refine G_aload_n (q := 4) hC dX6_lookAtReferences_3 rfl rfl ?_
  refine gf_RX6_89 (q := 7) hC dX6_lookAtReferences_4 rfl ?_
  refine G_icmp_ge (tgt := 83) (q := 10) hC dX6_lookAtReferences_7 (by decide) rfl (fun c0 => ?_) (fun c0 => ?_)
  · have hf := (if_pos c0).symm.trans hf
    exact G_vret hC hf rfl dX6_lookAtReferences_83
  · have hf := (if_neg c0).symm.trans hf
    refine G_iconst (q := 11) hC dX6_lookAtReferences_10 rfl ic_0 ?_
    refine G_istore_n (q := 12) (lv' := [(2, .int (0 : Int32)), (0, .ref (eB E + 0)), (1, .int x1)]) hC dX6_lookAtReferences_11 rfl (by decide) rfl ?_
    refine G_lv (lv' := [(0, .ref (eB E + 0)), (1, .int x1), (2, .int (0 : Int32))]) [1, 2, 0] rfl ?_
    exact t_X6_lookAtReferences_b12 hC hk2 fu _ _ _  hf

theorem t_X6_lookAtReferences_b2 {fu : Nat}  {r : Int32 × gSt} (hC : gCx p s m args meth c cX6_lookAtReferences 4 RX6 none E)  (n : Nat) : ∀ (σ : gSt) (x1 : Int32), f_X6_lookAtReferences_b2 fu  n σ x1 = some r → G p l e rm_X6_lookAtReferences s m args below meth c 4 0 0 (MQ below (gQ E w 0 r) args s 0 0 (fun q => eB E ≤ q)) E w σ 2 [(0, .ref (eB E + 0)), (1, .int x1)] [] := by
  induction n with
  | zero => intro σ x1  hf; cases hf
  | succ n ih => intro σ x1  hf; exact t_X6_lookAtReferences_b2_B hC  ih  hf
def f_X6_lookAtReferences (fu : Nat)  (σ : gSt)  : Option (Int32 × gSt) :=
  f_X6_lookAtReferences_b2 fu  fu σ (0 : Int32)
set_option maxRecDepth 100000 in
theorem t_X6_lookAtReferences {fu : Nat}  {r : Int32 × gSt} (hC : gCx p s m args meth c cX6_lookAtReferences 4 RX6 none E)  {σ : gSt}   (hf : f_X6_lookAtReferences fu  σ  = some r) : G p l e rm_X6_lookAtReferences s m args below meth c 4 0 0 (MQ below (gQ E w 0 r) args s 0 0 (fun q => eB E ≤ q)) E w σ 0 [(0, .ref (eB E + 0))] [] := by
  unfold f_X6_lookAtReferences at hf
  refine G_iconst (q := 1) hC dX6_lookAtReferences_0 rfl ic_0 ?_
  refine G_istore_n (q := 2) (lv' := [(1, .int (0 : Int32)), (0, .ref (eB E + 0))]) hC dX6_lookAtReferences_1 rfl (by decide) rfl ?_
  refine G_lv (lv' := [(0, .ref (eB E + 0)), (1, .int (0 : Int32))]) [1, 0] rfl ?_
  exact t_X6_lookAtReferences_b2 hC  fu _ _  hf

theorem m_X6_lookAtReferences {l : Launch} {fu : Nat} {E : gE} {w : Nat → Int64} {σ : gSt}  {r : Int32 × gSt}  (hf : f_X6_lookAtReferences fu σ  = some r) : gM l yX6_lookAtReferences cX6_lookAtReferences 4 none rm_X6_lookAtReferences 0 E w σ [.ref (eB E + 0)] r :=
  gM_of (by decide +kernel) (Nat.le_of_ble_eq_true rfl) (fun p e s m args below meth c hC => t_X6_lookAtReferences hC  hf)
def f_X6_print (fu : Nat)  (σ : gSt) (x1 : Int32) : Option (Nat × Int32 × gSt) :=
  bx (f_X6_requireVolume fu σ x1) (fun _ σ1 => if x1 = (σ1 158 0 0) then (bd (f_X6_putToPressFrom fu (gU σ1 158 0 0 ((σ1 158 0 0) + (1 : Int32))) x1) (fun v3 σ3 => bd (f_X6_lookAtReferences fu σ3) (fun _ σ4 => some (0, v3, σ4)))) else (some (2, 0, σ1)))
set_option maxRecDepth 100000 in
theorem t_X6_print {fu : Nat}  {r : Nat × Int32 × gSt} (hC : gCx p s m args meth c cX6_print 3 RX6 (some .int) E) (hX : ∀ x ∈ c.exceptionTable.toList, False) (hflag : l.stackTraces = false)  {σ : gSt} {x1 : Int32}  (hf : f_X6_print fu  σ x1 = some r) : G p l e rm_X6_print s m args below meth c 3 0 0 (vx_MQ below (gQX E w 1 r) (gXC E w r) args s rm_X6_print.cells rm_X6_print.slots (fun q => eB E ≤ q)) E w σ 0 [(0, .ref (eB E + 0)), (1, .int x1)] [] := by
  unfold f_X6_print at hf
  refine G_aload_n (q := 1) hC dX6_print_0 rfl rfl ?_
  refine G_iload_n (q := 2) hC dX6_print_1 rfl rfl ?_
  obtain ⟨z1, hm1, hf, hx1⟩ := bx_ok hf
  refine cl_RX6_225 (q := 5) hC dX6_print_2 rfl hX (m_X6_requireVolume hflag hm1) ⟨Nat.le_of_ble_eq_true rfl, Nat.le_of_ble_eq_true rfl⟩ (Nat.le_of_ble_eq_true rfl) ⟨Nat.le_of_ble_eq_true rfl, Nat.le_of_ble_eq_true rfl⟩ ⟨Nat.le_of_ble_eq_true rfl, Nat.le_of_ble_eq_true rfl⟩ hx1 (fun z0 => ?_)
  have hf := hf z0
  obtain ⟨v1, ev1⟩ : ∃ y, y = z1.2.1 := ⟨_, rfl⟩
  obtain ⟨σ1, eσ1⟩ : ∃ y, y = z1.2.2 := ⟨_, rfl⟩
  rw [← eσ1] at hf ⊢
  refine G_widen (k := 1) (n := 6) (Nat.le_of_ble_eq_true rfl) (Nat.le_of_ble_eq_true rfl) ?_
  refine G_iload_n (q := 6) hC dX6_print_5 rfl rfl ?_
  refine G_aload_n (q := 7) hC dX6_print_6 rfl rfl ?_
  refine gf_RX6_74 (q := 10) hC dX6_print_7 rfl ?_
  refine G_icmp_eq (tgt := 23) (q := 13) hC dX6_print_10 (by decide) rfl (fun c1 => ?_) (fun c1 => ?_)
  · have hf := (if_pos c1).symm.trans hf
    refine G_aload_n (q := 24) hC dX6_print_23 rfl rfl ?_
    refine G_dup (q := 25) hC dX6_print_24 rfl rfl ?_
    refine gf_RX6_74 (q := 28) hC dX6_print_25 rfl ?_
    refine G_iconst (q := 29) hC dX6_print_28 rfl ic_1 ?_
    refine G_iadd (q := 30) hC dX6_print_29 rfl ?_
    refine pf_RX6_74 (q := 33) hC dX6_print_30 rfl ?_
    refine G_aload_n (q := 34) hC dX6_print_33 rfl rfl ?_
    refine G_iload_n (q := 35) hC dX6_print_34 rfl rfl ?_
    obtain ⟨v3, σ3, hm3, hf⟩ := bd_ok hf
    refine cl_RX6_230 (q := 38) hC dX6_print_35 rfl (m_X6_putToPressFrom hm3) ⟨Nat.le_of_ble_eq_true rfl, Nat.le_of_ble_eq_true rfl⟩ (Nat.le_of_ble_eq_true rfl) ⟨Nat.le_of_ble_eq_true rfl, Nat.le_of_ble_eq_true rfl⟩ ?_
    refine G_istore_n (q := 39) (lv' := [(2, .int v3), (0, .ref (eB E + 0)), (1, .int x1)]) hC dX6_print_38 rfl (by decide) rfl ?_
    refine G_aload_n (q := 40) hC dX6_print_39 rfl rfl ?_
    obtain ⟨v4, σ4, hm4, hf⟩ := bd_ok hf
    refine cl_RX6_234 (q := 43) hC dX6_print_40 rfl (m_X6_lookAtReferences hm4) ⟨Nat.le_of_ble_eq_true rfl, Nat.le_of_ble_eq_true rfl⟩ (Nat.le_of_ble_eq_true rfl) ⟨Nat.le_of_ble_eq_true rfl, Nat.le_of_ble_eq_true rfl⟩ ?_
    refine G_iload_n (q := 44) hC dX6_print_43 rfl rfl ?_
    exact G_iretX hC hf rfl rfl (Nat.le_of_ble_eq_true rfl) (Nat.le_of_ble_eq_true rfl) dX6_print_44
  · have hf := (if_neg c1).symm.trans hf
    exact G_throw hC hX hflag (text := "printed, or one ahead is not") hf (by decide) (by decide +kernel) (wall (by decide +kernel) rfl) (wall (by decide +kernel) rfl) (by decide) thA2 thB2 dX6_print_13 dX6_print_16 dX6_print_17 dX6_print_19 dX6_print_22 (Nat.le_of_ble_eq_true rfl) (Nat.le_of_ble_eq_true rfl) ⟨Nat.le_of_ble_eq_true rfl, Nat.le_of_ble_eq_true rfl⟩ ⟨Nat.le_of_ble_eq_true rfl, Nat.le_of_ble_eq_true rfl⟩

theorem m_X6_print {l : Launch} {fu : Nat} {E : gE} {w : Nat → Int64} {σ : gSt} {x1 : Int32} {r : Nat × Int32 × gSt} (hflag : l.stackTraces = false)  (hf : f_X6_print fu σ x1 = some r) : gMX l yX6_print cX6_print 3 (some .int) rm_X6_print 1 E w σ [.ref (eB E + 0), .int x1] r :=
  gMX_of (by decide +kernel) (Nat.le_of_ble_eq_true rfl) (fun p e s m args below meth c hC hX => t_X6_print hC hX hflag  hf)
def f_X6_addErratum_b20 (fu : Nat)  (σ : gSt)  : Option (Int32 × gSt) :=
  some (0, σ)
set_option maxRecDepth 100000 in
theorem t_X6_addErratum_b20 {fu : Nat}  {r : Int32 × gSt} (hC : gCx p s m args meth c cX6_addErratum 2 RX6 none E)  {σ : gSt}   (hf : f_X6_addErratum_b20 fu  σ  = some r) : G p l e rm_X6_addErratum s m args below meth c 2 0 0 (MQ below (gQ E w 0 r) args s 0 0 (fun q => eB E ≤ q)) E w σ 20 [] [] := by
  unfold f_X6_addErratum_b20 at hf
  exact G_vret hC hf rfl dX6_addErratum_20

def f_X6_addErratum (fu : Nat)  (σ : gSt) (x1 : Int32) : Option (Int32 × gSt) :=
  if x1 = (-1 : Int32) then (f_X6_addErratum_b20 fu  σ) else (gd (inb x1 6) (f_X6_addErratum_b20 fu  (gU σ 34 (x1.toNatClampNeg) 0 ((σ 34 (x1.toNatClampNeg) 0) + (1 : Int32)))))
set_option maxRecDepth 100000 in
theorem t_X6_addErratum {fu : Nat}  {r : Int32 × gSt} (hC : gCx p s m args meth c cX6_addErratum 2 RX6 none E)  {σ : gSt} {x1 : Int32}  (hf : f_X6_addErratum fu  σ x1 = some r) : G p l e rm_X6_addErratum s m args below meth c 2 0 0 (MQ below (gQ E w 0 r) args s 0 0 (fun q => eB E ≤ q)) E w σ 0 [(0, .ref (eB E + 0)), (1, .int x1)] [] := by
  unfold f_X6_addErratum at hf
  refine G_iload_n (q := 1) hC dX6_addErratum_0 rfl rfl ?_
  refine G_iconst (q := 2) hC dX6_addErratum_1 rfl ic_m1 ?_
  refine G_icmp_eq (tgt := 20) (q := 5) hC dX6_addErratum_2 (by decide) rfl (fun c0 => ?_) (fun c0 => ?_)
  · have hf := (if_pos c0).symm.trans hf
    refine G_lv (lv' := []) [] rfl ?_
    exact t_X6_addErratum_b20 hC   hf
  · have hf := (if_neg c0).symm.trans hf
    refine G_aload_n (q := 6) hC dX6_addErratum_5 rfl rfl ?_
    refine gf_RX6_30 (q := 9) hC dX6_addErratum_6 rfl ?_
    refine G_iload_n (q := 10) hC dX6_addErratum_9 rfl rfl ?_
    obtain ⟨g1, hf⟩ := gd_ok hf
    refine G_aldCon (q := 11) hC dX6_addErratum_10 rfl g1 ?_
    refine G_dup (q := 12) hC dX6_addErratum_11 rfl rfl ?_
    refine gf_RX6_276 (q := 15) hC dX6_addErratum_12 rfl (inb_lt g1) ?_
    refine G_iconst (q := 16) hC dX6_addErratum_15 rfl ic_1 ?_
    refine G_iadd (q := 17) hC dX6_addErratum_16 rfl ?_
    refine pf_RX6_276 (q := 20) hC dX6_addErratum_17 rfl (inb_lt g1) ?_
    refine G_lv (lv' := []) [] rfl ?_
    exact t_X6_addErratum_b20 hC   hf

theorem m_X6_addErratum {l : Launch} {fu : Nat} {E : gE} {w : Nat → Int64} {σ : gSt} {x1 : Int32} {r : Int32 × gSt}  (hf : f_X6_addErratum fu σ x1 = some r) : gM l yX6_addErratum cX6_addErratum 2 none rm_X6_addErratum 0 E w σ [.ref (eB E + 0), .int x1] r :=
  gM_of (by decide +kernel) (Nat.le_of_ble_eq_true rfl) (fun p e s m args below meth c hC => t_X6_addErratum hC  hf)
end WK

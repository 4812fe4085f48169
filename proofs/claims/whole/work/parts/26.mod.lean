/-! by program (wip/whole/gen_walk.py): the methods as functions over the store, and their walks -/
section WK
variable {p : Program} {l : Launch} {e : Env} {s : State} {m : MethodId} {args : Array Value} {below : List Frame} {meth : Method} {c : Code} {E : gE} {w : Nat → Int64}
def f_X7_isPrinted_b40 (fu : Nat) (k4 : gSt → Int32 → Int32 → Int32 → Option (Int32 × gSt)) (σ : gSt) (x1 : Int32) (x3 : Int32) (xs0 : Int32) : Option (Int32 × gSt) :=
  k4 σ x1 xs0 (x3 + (1))
set_option maxRecDepth 100000 in
theorem t_X7_isPrinted_b40 {fu : Nat} {k4 : gSt → Int32 → Int32 → Int32 → Option (Int32 × gSt)} {r : Int32 × gSt} (hC : gCx p s m args meth c cX7_isPrinted 4 RX7 (some .boolean) E) (hk4 : ∀ (σ : gSt) (x1 : Int32) (x2 : Int32) (x3 : Int32), k4 σ x1 x2 x3 = some r → G p l e rm_X7_isPrinted s m args below meth c 4 0 0 (MQ below (gQ E w 1 r) args s 0 0 (fun q => eB E ≤ q)) E w σ 4 [(0, .ref (eB E + 583)), (1, .int x1), (2, .int x2), (3, .int x3)] []) {σ : gSt} {x1 : Int32} {x3 : Int32} {xs0 : Int32}  (hf : f_X7_isPrinted_b40 fu k4 σ x1 x3 xs0 = some r) : G p l e rm_X7_isPrinted s m args below meth c 4 0 0 (MQ below (gQ E w 1 r) args s 0 0 (fun q => eB E ≤ q)) E w σ 40 [(0, .ref (eB E + 583)), (1, .int x1), (3, .int x3)] [.int xs0] := by
  unfold f_X7_isPrinted_b40 at hf
  refine G_istore_n (q := 41) (lv' := [(2, .int xs0), (0, .ref (eB E + 583)), (1, .int x1), (3, .int x3)]) hC dX7_isPrinted_40 rfl (by decide) rfl ?_
  refine G_iinc (q := 44) (n := 3) (lv' := [(3, .int (x3 + (1))), (2, .int xs0), (0, .ref (eB E + 583)), (1, .int x1)]) hC dX7_isPrinted_41 rfl rfl (ii_1 _) (by decide) rfl ?_
  refine G_goto (tgt := 4) hC dX7_isPrinted_44 (by decide) ?_
  refine G_lv (lv' := [(0, .ref (eB E + 583)), (1, .int x1), (2, .int xs0), (3, .int (x3 + (1)))]) [2, 3, 1, 0] rfl ?_
  exact hk4 _ _ _ _  hf

def f_X7_isPrinted_b35 (fu : Nat) (k4 : gSt → Int32 → Int32 → Int32 → Option (Int32 × gSt)) (σ : gSt) (x1 : Int32) (x3 : Int32) : Option (Int32 × gSt) :=
  f_X7_isPrinted_b40 fu k4 σ x1 x3 (1 : Int32)
set_option maxRecDepth 100000 in
theorem t_X7_isPrinted_b35 {fu : Nat} {k4 : gSt → Int32 → Int32 → Int32 → Option (Int32 × gSt)} {r : Int32 × gSt} (hC : gCx p s m args meth c cX7_isPrinted 4 RX7 (some .boolean) E) (hk4 : ∀ (σ : gSt) (x1 : Int32) (x2 : Int32) (x3 : Int32), k4 σ x1 x2 x3 = some r → G p l e rm_X7_isPrinted s m args below meth c 4 0 0 (MQ below (gQ E w 1 r) args s 0 0 (fun q => eB E ≤ q)) E w σ 4 [(0, .ref (eB E + 583)), (1, .int x1), (2, .int x2), (3, .int x3)] []) {σ : gSt} {x1 : Int32} {x3 : Int32}  (hf : f_X7_isPrinted_b35 fu k4 σ x1 x3 = some r) : G p l e rm_X7_isPrinted s m args below meth c 4 0 0 (MQ below (gQ E w 1 r) args s 0 0 (fun q => eB E ≤ q)) E w σ 35 [(0, .ref (eB E + 583)), (1, .int x1), (3, .int x3)] [] := by
  unfold f_X7_isPrinted_b35 at hf
  refine G_iconst (q := 36) hC dX7_isPrinted_35 rfl ic_1 ?_
  refine G_goto (tgt := 40) hC dX7_isPrinted_36 (by decide) ?_
  exact t_X7_isPrinted_b40 hC hk4  hf

def f_X7_isPrinted_b39 (fu : Nat) (k4 : gSt → Int32 → Int32 → Int32 → Option (Int32 × gSt)) (σ : gSt) (x1 : Int32) (x3 : Int32) : Option (Int32 × gSt) :=
  f_X7_isPrinted_b40 fu k4 σ x1 x3 (0 : Int32)
set_option maxRecDepth 100000 in
theorem t_X7_isPrinted_b39 {fu : Nat} {k4 : gSt → Int32 → Int32 → Int32 → Option (Int32 × gSt)} {r : Int32 × gSt} (hC : gCx p s m args meth c cX7_isPrinted 4 RX7 (some .boolean) E) (hk4 : ∀ (σ : gSt) (x1 : Int32) (x2 : Int32) (x3 : Int32), k4 σ x1 x2 x3 = some r → G p l e rm_X7_isPrinted s m args below meth c 4 0 0 (MQ below (gQ E w 1 r) args s 0 0 (fun q => eB E ≤ q)) E w σ 4 [(0, .ref (eB E + 583)), (1, .int x1), (2, .int x2), (3, .int x3)] []) {σ : gSt} {x1 : Int32} {x3 : Int32}  (hf : f_X7_isPrinted_b39 fu k4 σ x1 x3 = some r) : G p l e rm_X7_isPrinted s m args below meth c 4 0 0 (MQ below (gQ E w 1 r) args s 0 0 (fun q => eB E ≤ q)) E w σ 39 [(0, .ref (eB E + 583)), (1, .int x1), (3, .int x3)] [] := by
  unfold f_X7_isPrinted_b39 at hf
  refine G_iconst (q := 40) hC dX7_isPrinted_39 rfl ic_0 ?_
  exact t_X7_isPrinted_b40 hC hk4  hf

def f_X7_isPrinted_b4_B (fu : Nat) (k4 : gSt → Int32 → Int32 → Int32 → Option (Int32 × gSt)) (σ : gSt) (x1 : Int32) (x2 : Int32) (x3 : Int32) : Option (Int32 × gSt) :=
  if (σ 183 0 0) ≤ x3 then (gd (b01 x2) (some (x2, σ))) else (if x2 = 0 then (gd (inb x3 24) (if (σ 186 0 x3.toNatClampNeg) = (3 : Int32) then (bd (f_X7_order fu σ x3 x1) (fun v4 σ4 => if v4 = 0 then (f_X7_isPrinted_b35 fu k4 σ4 x1 x3) else (f_X7_isPrinted_b39 fu k4 σ4 x1 x3))) else (f_X7_isPrinted_b39 fu k4 σ x1 x3))) else (f_X7_isPrinted_b35 fu k4 σ x1 x3))
def f_X7_isPrinted_b4 (fu : Nat)  : Nat → gSt → Int32 → Int32 → Int32 → Option (Int32 × gSt)
  | 0 => fun _ _ _ _ => none
  | n + 1 => f_X7_isPrinted_b4_B fu  (f_X7_isPrinted_b4 fu  n)
set_option maxRecDepth 100000 in
theorem t_X7_isPrinted_b4_B {fu : Nat} {k4 : gSt → Int32 → Int32 → Int32 → Option (Int32 × gSt)} {r : Int32 × gSt} (hC : gCx p s m args meth c cX7_isPrinted 4 RX7 (some .boolean) E) (hk4 : ∀ (σ : gSt) (x1 : Int32) (x2 : Int32) (x3 : Int32), k4 σ x1 x2 x3 = some r → G p l e rm_X7_isPrinted s m args below meth c 4 0 0 (MQ below (gQ E w 1 r) args s 0 0 (fun q => eB E ≤ q)) E w σ 4 [(0, .ref (eB E + 583)), (1, .int x1), (2, .int x2), (3, .int x3)] []) {σ : gSt} {x1 : Int32} {x2 : Int32} {x3 : Int32}  (hf : f_X7_isPrinted_b4_B fu k4 σ x1 x2 x3 = some r) : G p l e rm_X7_isPrinted s m args below meth c 4 0 0 (MQ below (gQ E w 1 r) args s 0 0 (fun q => eB E ≤ q)) E w σ 4 [(0, .ref (eB E + 583)), (1, .int x1), (2, .int x2), (3, .int x3)] [] := by
  unfold f_X7_isPrinted_b4_B at hf
  refine G_iload_n (q := 5) hC dX7_isPrinted_4 rfl rfl ?_
  refine G_aload_n (q := 6) hC dX7_isPrinted_5 rfl rfl ?_
  refine gf_RX7_78 (q := 9) hC dX7_isPrinted_6 rfl ?_
  refine G_icmp_ge (tgt := 47) (q := 12) hC dX7_isPrinted_9 (by decide) rfl (fun c0 => ?_) (fun c0 => ?_)
  · have hf := (if_pos c0).symm.trans hf
    refine G_iload_n (q := 48) hC dX7_isPrinted_47 rfl rfl ?_
    obtain ⟨g1, hf⟩ := gd_ok hf
    exact G_iret hC hf rfl (b01_narrow g1) dX7_isPrinted_48
  · have hf := (if_neg c0).symm.trans hf
    refine G_iload_n (q := 13) hC dX7_isPrinted_12 rfl rfl ?_
    refine G_if_ne (tgt := 35) (q := 16) hC dX7_isPrinted_13 (by decide) rfl (fun c1 => ?_) (fun c1 => ?_)
    · have hf := (if_neg c1).symm.trans hf
      refine G_lv (lv' := [(0, .ref (eB E + 583)), (1, .int x1), (3, .int x3)]) [0, 1, 3] rfl ?_
      exact t_X7_isPrinted_b35 hC hk4  hf
    · have hf := (if_pos c1).symm.trans hf
      refine G_aload_n (q := 17) hC dX7_isPrinted_16 rfl rfl ?_
      refine gf_RX7_22 (q := 20) hC dX7_isPrinted_17 rfl ?_
      refine G_iload_n (q := 21) hC dX7_isPrinted_20 rfl rfl ?_
      obtain ⟨g2, hf⟩ := gd_ok hf
      refine G_iald (q := 22) hC dX7_isPrinted_21 rfl (ok_186 g2) ?_
      refine G_iconst (q := 23) hC dX7_isPrinted_22 rfl ic_3 ?_
      refine G_icmp_ne (tgt := 39) (q := 26) hC dX7_isPrinted_23 (by decide) rfl (fun c2 => ?_) (fun c2 => ?_)
      · have hf := (if_neg c2).symm.trans hf
        refine G_lv (lv' := [(0, .ref (eB E + 583)), (1, .int x1), (3, .int x3)]) [0, 1, 3] rfl ?_
        exact t_X7_isPrinted_b39 hC hk4  hf
      · have hf := (if_pos c2).symm.trans hf
        refine G_aload_n (q := 27) hC dX7_isPrinted_26 rfl rfl ?_
        refine G_iload_n (q := 28) hC dX7_isPrinted_27 rfl rfl ?_
        refine G_iload_n (q := 29) hC dX7_isPrinted_28 rfl rfl ?_
        obtain ⟨v4, σ4, hm4, hf⟩ := bd_ok hf
        refine cl_RX7_126 (q := 32) hC dX7_isPrinted_29 rfl (m_X7_order hm4) ⟨Nat.le_of_ble_eq_true rfl, Nat.le_of_ble_eq_true rfl⟩ (Nat.le_of_ble_eq_true rfl) ⟨Nat.le_of_ble_eq_true rfl, Nat.le_of_ble_eq_true rfl⟩ ?_
        refine G_if_ne (tgt := 39) (q := 35) hC dX7_isPrinted_32 (by decide) rfl (fun c4 => ?_) (fun c4 => ?_)
        · have hf := (if_neg c4).symm.trans hf
          refine G_lv (lv' := [(0, .ref (eB E + 583)), (1, .int x1), (3, .int x3)]) [0, 1, 3] rfl ?_
          exact t_X7_isPrinted_b39 hC hk4  hf
        · have hf := (if_pos c4).symm.trans hf
          refine G_lv (lv' := [(0, .ref (eB E + 583)), (1, .int x1), (3, .int x3)]) [0, 1, 3] rfl ?_
          exact t_X7_isPrinted_b35 hC hk4  hf

theorem t_X7_isPrinted_b4 {fu : Nat}  {r : Int32 × gSt} (hC : gCx p s m args meth c cX7_isPrinted 4 RX7 (some .boolean) E)  (n : Nat) : ∀ (σ : gSt) (x1 : Int32) (x2 : Int32) (x3 : Int32), f_X7_isPrinted_b4 fu  n σ x1 x2 x3 = some r → G p l e rm_X7_isPrinted s m args below meth c 4 0 0 (MQ below (gQ E w 1 r) args s 0 0 (fun q => eB E ≤ q)) E w σ 4 [(0, .ref (eB E + 583)), (1, .int x1), (2, .int x2), (3, .int x3)] [] := by
  induction n with
  | zero => intro σ x1 x2 x3  hf; cases hf
  | succ n ih => intro σ x1 x2 x3  hf; exact t_X7_isPrinted_b4_B hC  ih  hf
def f_X7_isPrinted (fu : Nat)  (σ : gSt) (x1 : Int32) : Option (Int32 × gSt) :=
  f_X7_isPrinted_b4 fu  fu σ x1 (0 : Int32) (0 : Int32)
set_option maxRecDepth 100000 in
theorem t_X7_isPrinted {fu : Nat}  {r : Int32 × gSt} (hC : gCx p s m args meth c cX7_isPrinted 4 RX7 (some .boolean) E)  {σ : gSt} {x1 : Int32}  (hf : f_X7_isPrinted fu  σ x1 = some r) : G p l e rm_X7_isPrinted s m args below meth c 4 0 0 (MQ below (gQ E w 1 r) args s 0 0 (fun q => eB E ≤ q)) E w σ 0 [(0, .ref (eB E + 583)), (1, .int x1)] [] := by
  unfold f_X7_isPrinted at hf
  refine G_iconst (q := 1) hC dX7_isPrinted_0 rfl ic_0 ?_
  refine G_istore_n (q := 2) (lv' := [(2, .int (0 : Int32)), (0, .ref (eB E + 583)), (1, .int x1)]) hC dX7_isPrinted_1 rfl (by decide) rfl ?_
  refine G_iconst (q := 3) hC dX7_isPrinted_2 rfl ic_0 ?_
  refine G_istore_n (q := 4) (lv' := [(3, .int (0 : Int32)), (2, .int (0 : Int32)), (0, .ref (eB E + 583)), (1, .int x1)]) hC dX7_isPrinted_3 rfl (by decide) rfl ?_
  refine G_lv (lv' := [(0, .ref (eB E + 583)), (1, .int x1), (2, .int (0 : Int32)), (3, .int (0 : Int32))]) [2, 3, 1, 0] rfl ?_
  exact t_X7_isPrinted_b4 hC  fu _ _ _ _  hf

theorem m_X7_isPrinted {l : Launch} {fu : Nat} {E : gE} {w : Nat → Int64} {σ : gSt} {x1 : Int32} {r : Int32 × gSt}  (hf : f_X7_isPrinted fu σ x1 = some r) : gM l yX7_isPrinted cX7_isPrinted 4 (some .boolean) rm_X7_isPrinted 1 E w σ [.ref (eB E + 583), .int x1] r :=
  gM_of (by decide +kernel) (Nat.le_of_ble_eq_true rfl) (fun p e s m args below meth c hC => t_X7_isPrinted hC  hf)
def f_X7_isPromise_b24 (fu : Nat)  (σ : gSt) (xs0 : Int32) : Option (Int32 × gSt) :=
  gd (b01 xs0) (some (xs0, σ))
set_option maxRecDepth 100000 in
theorem t_X7_isPromise_b24 {fu : Nat}  {r : Int32 × gSt} (hC : gCx p s m args meth c cX7_isPromise 3 RX7 (some .boolean) E)  {σ : gSt} {xs0 : Int32}  (hf : f_X7_isPromise_b24 fu  σ xs0 = some r) : G p l e rm_X7_isPromise s m args below meth c 3 0 0 (MQ below (gQ E w 1 r) args s 0 0 (fun q => eB E ≤ q)) E w σ 24 [] [.int xs0] := by
  unfold f_X7_isPromise_b24 at hf
  obtain ⟨g1, hf⟩ := gd_ok hf
  exact G_iret hC hf rfl (b01_narrow g1) dX7_isPromise_24

def f_X7_isPromise_b19 (fu : Nat)  (σ : gSt)  : Option (Int32 × gSt) :=
  f_X7_isPromise_b24 fu  σ (1 : Int32)
set_option maxRecDepth 100000 in
theorem t_X7_isPromise_b19 {fu : Nat}  {r : Int32 × gSt} (hC : gCx p s m args meth c cX7_isPromise 3 RX7 (some .boolean) E)  {σ : gSt}   (hf : f_X7_isPromise_b19 fu  σ  = some r) : G p l e rm_X7_isPromise s m args below meth c 3 0 0 (MQ below (gQ E w 1 r) args s 0 0 (fun q => eB E ≤ q)) E w σ 19 [] [] := by
  unfold f_X7_isPromise_b19 at hf
  refine G_iconst (q := 20) hC dX7_isPromise_19 rfl ic_1 ?_
  refine G_goto (tgt := 24) hC dX7_isPromise_20 (by decide) ?_
  exact t_X7_isPromise_b24 hC   hf

def f_X7_isPromise (fu : Nat)  (σ : gSt) (x1 : Int32) : Option (Int32 × gSt) :=
  bd (f_X7_volumeOf fu σ x1) (fun v1 σ1 => if v1 = (-1 : Int32) then (f_X7_isPromise_b19 fu  σ1) else (if v1 < (σ1 200 0 0) then (f_X7_isPromise_b24 fu  σ1 (0 : Int32)) else (f_X7_isPromise_b19 fu  σ1)))
set_option maxRecDepth 100000 in
theorem t_X7_isPromise {fu : Nat}  {r : Int32 × gSt} (hC : gCx p s m args meth c cX7_isPromise 3 RX7 (some .boolean) E)  {σ : gSt} {x1 : Int32}  (hf : f_X7_isPromise fu  σ x1 = some r) : G p l e rm_X7_isPromise s m args below meth c 3 0 0 (MQ below (gQ E w 1 r) args s 0 0 (fun q => eB E ≤ q)) E w σ 0 [(0, .ref (eB E + 583)), (1, .int x1)] [] := by
  unfold f_X7_isPromise at hf
  refine G_aload_n (q := 1) hC dX7_isPromise_0 rfl rfl ?_
  refine G_iload_n (q := 2) hC dX7_isPromise_1 rfl rfl ?_
  obtain ⟨v1, σ1, hm1, hf⟩ := bd_ok hf
  refine cl_RX7_129 (q := 5) hC dX7_isPromise_2 rfl (m_X7_volumeOf hm1) ⟨Nat.le_of_ble_eq_true rfl, Nat.le_of_ble_eq_true rfl⟩ (Nat.le_of_ble_eq_true rfl) ⟨Nat.le_of_ble_eq_true rfl, Nat.le_of_ble_eq_true rfl⟩ ?_
  refine G_istore_n (q := 6) (lv' := [(2, .int v1), (0, .ref (eB E + 583)), (1, .int x1)]) hC dX7_isPromise_5 rfl (by decide) rfl ?_
  refine G_iload_n (q := 7) hC dX7_isPromise_6 rfl rfl ?_
  refine G_iconst (q := 8) hC dX7_isPromise_7 rfl ic_m1 ?_
  refine G_icmp_eq (tgt := 19) (q := 11) hC dX7_isPromise_8 (by decide) rfl (fun c1 => ?_) (fun c1 => ?_)
  · have hf := (if_pos c1).symm.trans hf
    refine G_lv (lv' := []) [] rfl ?_
    exact t_X7_isPromise_b19 hC   hf
  · have hf := (if_neg c1).symm.trans hf
    refine G_iload_n (q := 12) hC dX7_isPromise_11 rfl rfl ?_
    refine G_aload_n (q := 13) hC dX7_isPromise_12 rfl rfl ?_
    refine gf_RX7_107 (q := 16) hC dX7_isPromise_13 rfl ?_
    refine G_icmp_lt (tgt := 23) (q := 19) hC dX7_isPromise_16 (by decide) rfl (fun c2 => ?_) (fun c2 => ?_)
    · have hf := (if_pos c2).symm.trans hf
      refine G_iconst (q := 24) hC dX7_isPromise_23 rfl ic_0 ?_
      refine G_lv (lv' := []) [] rfl ?_
      exact t_X7_isPromise_b24 hC   hf
    · have hf := (if_neg c2).symm.trans hf
      refine G_lv (lv' := []) [] rfl ?_
      exact t_X7_isPromise_b19 hC   hf

theorem m_X7_isPromise {l : Launch} {fu : Nat} {E : gE} {w : Nat → Int64} {σ : gSt} {x1 : Int32} {r : Int32 × gSt}  (hf : f_X7_isPromise fu σ x1 = some r) : gM l yX7_isPromise cX7_isPromise 3 (some .boolean) rm_X7_isPromise 1 E w σ [.ref (eB E + 583), .int x1] r :=
  gM_of (by decide +kernel) (Nat.le_of_ble_eq_true rfl) (fun p e s m args below meth c hC => t_X7_isPromise hC  hf)
def f_X7_prints_b164 (fu : Nat) (k8 : gSt → Int32 → Int32 → Int32 → Int32 → Int32 → Option (Int32 × gSt)) (σ : gSt) (x1 : Int32) (x2 : Int32) (x3 : Int32) (x4 : Int32) (x5 : Int32) : Option (Int32 × gSt) :=
  k8 σ x1 x2 x3 x4 (x5 + (1))
set_option maxRecDepth 100000 in
theorem t_X7_prints_b164 {fu : Nat} {k8 : gSt → Int32 → Int32 → Int32 → Int32 → Int32 → Option (Int32 × gSt)} {r : Int32 × gSt} (hC : gCx p s m args meth c cX7_prints 8 RX7 (some .int) E) (hk8 : ∀ (σ : gSt) (x1 : Int32) (x2 : Int32) (x3 : Int32) (x4 : Int32) (x5 : Int32), k8 σ x1 x2 x3 x4 x5 = some r → G p l e rm_X7_prints s m args below meth c 8 0 0 (MQ below (gQ E w 1 r) args s 0 0 (fun q => eB E ≤ q)) E w σ 8 [(0, .ref (eB E + 583)), (1, .int x1), (2, .int x2), (3, .int x3), (4, .int x4), (5, .int x5)] []) {σ : gSt} {x1 : Int32} {x2 : Int32} {x3 : Int32} {x4 : Int32} {x5 : Int32}  (hf : f_X7_prints_b164 fu k8 σ x1 x2 x3 x4 x5 = some r) : G p l e rm_X7_prints s m args below meth c 8 0 0 (MQ below (gQ E w 1 r) args s 0 0 (fun q => eB E ≤ q)) E w σ 164 [(0, .ref (eB E + 583)), (1, .int x1), (2, .int x2), (3, .int x3), (4, .int x4), (5, .int x5)] [] := by
  unfold f_X7_prints_b164 at hf
  refine G_iinc (q := 167) (n := 5) (lv' := [(5, .int (x5 + (1))), (0, .ref (eB E + 583)), (1, .int x1), (2, .int x2), (3, .int x3), (4, .int x4)]) hC dX7_prints_164 rfl rfl (ii_1 _) (by decide) rfl ?_
  refine G_goto (tgt := 8) hC dX7_prints_167 (by decide) ?_
  refine G_lv (lv' := [(0, .ref (eB E + 583)), (1, .int x1), (2, .int x2), (3, .int x3), (4, .int x4), (5, .int (x5 + (1)))]) [1, 2, 3, 4, 5, 0] rfl ?_
  exact hk8 _ _ _ _ _ _  hf

def f_X7_prints_b126_B (fu : Nat) (k8 : gSt → Int32 → Int32 → Int32 → Int32 → Int32 → Option (Int32 × gSt)) (k126 : gSt → Int32 → Int32 → Int32 → Int32 → Int32 → Int32 → Int32 → Option (Int32 × gSt)) (σ : gSt) (x1 : Int32) (x2 : Int32) (x3 : Int32) (x4 : Int32) (x5 : Int32) (x6 : Int32) (x7 : Int32) : Option (Int32 × gSt) :=
  if (8 : Int32) ≤ x7 then (f_X7_prints_b164 fu k8 σ x1 x2 x3 x4 x5) else (if x6 = 0 then (f_X7_prints_b164 fu k8 σ x1 x2 x3 x4 x5) else (gd (inb x7 8) (gd (inb (((8 : Int32) * x5) + x7) 192) (k126 (gU σ 194 0 (((8 : Int32) * x5) + x7).toNatClampNeg (σ 196 0 x7.toNatClampNeg)) x1 x2 x3 x4 x5 x6 (x7 + (1))))))
def f_X7_prints_b126 (fu : Nat) (k8 : gSt → Int32 → Int32 → Int32 → Int32 → Int32 → Option (Int32 × gSt)) : Nat → gSt → Int32 → Int32 → Int32 → Int32 → Int32 → Int32 → Int32 → Option (Int32 × gSt)
  | 0 => fun _ _ _ _ _ _ _ _ => none
  | n + 1 => f_X7_prints_b126_B fu k8 (f_X7_prints_b126 fu k8 n)
set_option maxRecDepth 100000 in
theorem t_X7_prints_b126_B {fu : Nat} {k8 : gSt → Int32 → Int32 → Int32 → Int32 → Int32 → Option (Int32 × gSt)} {k126 : gSt → Int32 → Int32 → Int32 → Int32 → Int32 → Int32 → Int32 → Option (Int32 × gSt)} {r : Int32 × gSt} (hC : gCx p s m args meth c cX7_prints 8 RX7 (some .int) E) (hk8 : ∀ (σ : gSt) (x1 : Int32) (x2 : Int32) (x3 : Int32) (x4 : Int32) (x5 : Int32), k8 σ x1 x2 x3 x4 x5 = some r → G p l e rm_X7_prints s m args below meth c 8 0 0 (MQ below (gQ E w 1 r) args s 0 0 (fun q => eB E ≤ q)) E w σ 8 [(0, .ref (eB E + 583)), (1, .int x1), (2, .int x2), (3, .int x3), (4, .int x4), (5, .int x5)] []) (hk126 : ∀ (σ : gSt) (x1 : Int32) (x2 : Int32) (x3 : Int32) (x4 : Int32) (x5 : Int32) (x6 : Int32) (x7 : Int32), k126 σ x1 x2 x3 x4 x5 x6 x7 = some r → G p l e rm_X7_prints s m args below meth c 8 0 0 (MQ below (gQ E w 1 r) args s 0 0 (fun q => eB E ≤ q)) E w σ 126 [(0, .ref (eB E + 583)), (1, .int x1), (2, .int x2), (3, .int x3), (4, .int x4), (5, .int x5), (6, .int x6), (7, .int x7)] []) {σ : gSt} {x1 : Int32} {x2 : Int32} {x3 : Int32} {x4 : Int32} {x5 : Int32} {x6 : Int32} {x7 : Int32}  (hf : f_X7_prints_b126_B fu k8 k126 σ x1 x2 x3 x4 x5 x6 x7 = some r) : G p l e rm_X7_prints s m args below meth c 8 0 0 (MQ below (gQ E w 1 r) args s 0 0 (fun q => eB E ≤ q)) E w σ 126 [(0, .ref (eB E + 583)), (1, .int x1), (2, .int x2), (3, .int x3), (4, .int x4), (5, .int x5), (6, .int x6), (7, .int x7)] [] := by
  unfold f_X7_prints_b126_B at hf
  refine G_iload (q := 128) hC dX7_prints_126 rfl rfl ?_
  refine G_bipush (q := 130) hC dX7_prints_128 rfl bp_8 ?_
  refine G_icmp_ge (tgt := 164) (q := 133) hC dX7_prints_130 (by decide) rfl (fun c0 => ?_) (fun c0 => ?_)
  · have hf := (if_pos c0).symm.trans hf
    refine G_lv (lv' := [(0, .ref (eB E + 583)), (1, .int x1), (2, .int x2), (3, .int x3), (4, .int x4), (5, .int x5)]) [0, 1, 2, 3, 4, 5] rfl ?_
    exact t_X7_prints_b164 hC hk8  hf
  · have hf := (if_neg c0).symm.trans hf
    refine G_iload (q := 135) hC dX7_prints_133 rfl rfl ?_
    refine G_if_eq (tgt := 164) (q := 138) hC dX7_prints_135 (by decide) rfl (fun c1 => ?_) (fun c1 => ?_)
    · have hf := (if_pos c1).symm.trans hf
      refine G_lv (lv' := [(0, .ref (eB E + 583)), (1, .int x1), (2, .int x2), (3, .int x3), (4, .int x4), (5, .int x5)]) [0, 1, 2, 3, 4, 5] rfl ?_
      exact t_X7_prints_b164 hC hk8  hf
    · have hf := (if_neg c1).symm.trans hf
      refine G_aload_n (q := 139) hC dX7_prints_138 rfl rfl ?_
      refine gf_RX7_47 (q := 142) hC dX7_prints_139 rfl ?_
      refine G_bipush (q := 144) hC dX7_prints_142 rfl bp_8 ?_
      refine G_iload (q := 146) hC dX7_prints_144 rfl rfl ?_
      refine G_imul (q := 147) hC dX7_prints_146 rfl ?_
      refine G_iload (q := 149) hC dX7_prints_147 rfl rfl ?_
      refine G_iadd (q := 150) hC dX7_prints_149 rfl ?_
      refine G_aload_n (q := 151) hC dX7_prints_150 rfl rfl ?_
      refine gf_RX7_53 (q := 154) hC dX7_prints_151 rfl ?_
      refine G_iload (q := 156) hC dX7_prints_154 rfl rfl ?_
      obtain ⟨g1, hf⟩ := gd_ok hf
      refine G_iald (q := 157) hC dX7_prints_156 rfl (ok_196 g1) ?_
      obtain ⟨g2, hf⟩ := gd_ok hf
      refine G_iast (q := 158) hC dX7_prints_157 rfl (ok_194 g2) ?_
      refine G_iinc (q := 161) (n := 7) (lv' := [(7, .int (x7 + (1))), (0, .ref (eB E + 583)), (1, .int x1), (2, .int x2), (3, .int x3), (4, .int x4), (5, .int x5), (6, .int x6)]) hC dX7_prints_158 rfl rfl (ii_1 _) (by decide) rfl ?_
      refine G_goto (tgt := 126) hC dX7_prints_161 (by decide) ?_
      refine G_lv (lv' := [(0, .ref (eB E + 583)), (1, .int x1), (2, .int x2), (3, .int x3), (4, .int x4), (5, .int x5), (6, .int x6), (7, .int (x7 + (1)))]) [1, 2, 3, 4, 5, 6, 7, 0] rfl ?_
      exact hk126 _ _ _ _ _ _ _ _  hf

theorem t_X7_prints_b126 {fu : Nat} {k8 : gSt → Int32 → Int32 → Int32 → Int32 → Int32 → Option (Int32 × gSt)} {r : Int32 × gSt} (hC : gCx p s m args meth c cX7_prints 8 RX7 (some .int) E) (hk8 : ∀ (σ : gSt) (x1 : Int32) (x2 : Int32) (x3 : Int32) (x4 : Int32) (x5 : Int32), k8 σ x1 x2 x3 x4 x5 = some r → G p l e rm_X7_prints s m args below meth c 8 0 0 (MQ below (gQ E w 1 r) args s 0 0 (fun q => eB E ≤ q)) E w σ 8 [(0, .ref (eB E + 583)), (1, .int x1), (2, .int x2), (3, .int x3), (4, .int x4), (5, .int x5)] []) (n : Nat) : ∀ (σ : gSt) (x1 : Int32) (x2 : Int32) (x3 : Int32) (x4 : Int32) (x5 : Int32) (x6 : Int32) (x7 : Int32), f_X7_prints_b126 fu k8 n σ x1 x2 x3 x4 x5 x6 x7 = some r → G p l e rm_X7_prints s m args below meth c 8 0 0 (MQ below (gQ E w 1 r) args s 0 0 (fun q => eB E ≤ q)) E w σ 126 [(0, .ref (eB E + 583)), (1, .int x1), (2, .int x2), (3, .int x3), (4, .int x4), (5, .int x5), (6, .int x6), (7, .int x7)] [] := by
  induction n with
  | zero => intro σ x1 x2 x3 x4 x5 x6 x7  hf; cases hf
  | succ n ih => intro σ x1 x2 x3 x4 x5 x6 x7  hf; exact t_X7_prints_b126_B hC hk8 ih  hf
def f_X7_prints_b122 (fu : Nat) (k8 : gSt → Int32 → Int32 → Int32 → Int32 → Int32 → Option (Int32 × gSt)) (σ : gSt) (x1 : Int32) (x2 : Int32) (x3 : Int32) (x4 : Int32) (x5 : Int32) (x6 : Int32) (fs0 : Nat) (is0 : Nat) (xs1 : Int32) (xs2 : Int32) : Option (Int32 × gSt) :=
  gd (okA 1 fs0 is0 xs1) (f_X7_prints_b126 fu k8 fu (gU σ fs0 is0 xs1.toNatClampNeg xs2) x1 x2 x3 x4 x5 x6 (0 : Int32))
set_option maxRecDepth 100000 in
theorem t_X7_prints_b122 {fu : Nat} {k8 : gSt → Int32 → Int32 → Int32 → Int32 → Int32 → Option (Int32 × gSt)} {r : Int32 × gSt} (hC : gCx p s m args meth c cX7_prints 8 RX7 (some .int) E) (hk8 : ∀ (σ : gSt) (x1 : Int32) (x2 : Int32) (x3 : Int32) (x4 : Int32) (x5 : Int32), k8 σ x1 x2 x3 x4 x5 = some r → G p l e rm_X7_prints s m args below meth c 8 0 0 (MQ below (gQ E w 1 r) args s 0 0 (fun q => eB E ≤ q)) E w σ 8 [(0, .ref (eB E + 583)), (1, .int x1), (2, .int x2), (3, .int x3), (4, .int x4), (5, .int x5)] []) {σ : gSt} {x1 : Int32} {x2 : Int32} {x3 : Int32} {x4 : Int32} {x5 : Int32} {x6 : Int32} {fs0 : Nat} {is0 : Nat} {xs1 : Int32} {xs2 : Int32}  (hf : f_X7_prints_b122 fu k8 σ x1 x2 x3 x4 x5 x6 fs0 is0 xs1 xs2 = some r) : G p l e rm_X7_prints s m args below meth c 8 0 0 (MQ below (gQ E w 1 r) args s 0 0 (fun q => eB E ≤ q)) E w σ 122 [(0, .ref (eB E + 583)), (1, .int x1), (2, .int x2), (3, .int x3), (4, .int x4), (5, .int x5), (6, .int x6)] [.int xs2, .int xs1, .ref (eB E + oA fs0 is0)] := by
  unfold f_X7_prints_b122 at hf
  obtain ⟨g1, hf⟩ := gd_ok hf
  refine G_iast (q := 123) hC dX7_prints_122 rfl g1 ?_
  refine G_iconst (q := 124) hC dX7_prints_123 rfl ic_0 ?_
  refine G_istore (q := 126) (lv' := [(7, .int (0 : Int32)), (0, .ref (eB E + 583)), (1, .int x1), (2, .int x2), (3, .int x3), (4, .int x4), (5, .int x5), (6, .int x6)]) hC dX7_prints_124 rfl (by decide) rfl ?_
  refine G_lv (lv' := [(0, .ref (eB E + 583)), (1, .int x1), (2, .int x2), (3, .int x3), (4, .int x4), (5, .int x5), (6, .int x6), (7, .int (0 : Int32))]) [1, 2, 3, 4, 5, 6, 7, 0] rfl ?_
  exact t_X7_prints_b126 hC hk8 fu _ _ _ _ _ _ _ _  hf

def f_X7_prints_b98 (fu : Nat) (k8 : gSt → Int32 → Int32 → Int32 → Int32 → Int32 → Option (Int32 × gSt)) (σ : gSt) (x1 : Int32) (x2 : Int32) (x4 : Int32) (x5 : Int32) (x6 : Int32) (xs0 : Int32) (xs1 : Int32) : Option (Int32 × gSt) :=
  if x6 = 0 then (gd (inb x5 24) (f_X7_prints_b122 fu k8 σ x1 x2 (xs0 + xs1) x4 x5 x6 186 0 x5 (σ 186 0 x5.toNatClampNeg))) else (f_X7_prints_b122 fu k8 σ x1 x2 (xs0 + xs1) x4 x5 x6 186 0 x5 (3 : Int32))
set_option maxRecDepth 100000 in
theorem t_X7_prints_b98 {fu : Nat} {k8 : gSt → Int32 → Int32 → Int32 → Int32 → Int32 → Option (Int32 × gSt)} {r : Int32 × gSt} (hC : gCx p s m args meth c cX7_prints 8 RX7 (some .int) E) (hk8 : ∀ (σ : gSt) (x1 : Int32) (x2 : Int32) (x3 : Int32) (x4 : Int32) (x5 : Int32), k8 σ x1 x2 x3 x4 x5 = some r → G p l e rm_X7_prints s m args below meth c 8 0 0 (MQ below (gQ E w 1 r) args s 0 0 (fun q => eB E ≤ q)) E w σ 8 [(0, .ref (eB E + 583)), (1, .int x1), (2, .int x2), (3, .int x3), (4, .int x4), (5, .int x5)] []) {σ : gSt} {x1 : Int32} {x2 : Int32} {x4 : Int32} {x5 : Int32} {x6 : Int32} {xs0 : Int32} {xs1 : Int32}  (hf : f_X7_prints_b98 fu k8 σ x1 x2 x4 x5 x6 xs0 xs1 = some r) : G p l e rm_X7_prints s m args below meth c 8 0 0 (MQ below (gQ E w 1 r) args s 0 0 (fun q => eB E ≤ q)) E w σ 98 [(0, .ref (eB E + 583)), (1, .int x1), (2, .int x2), (4, .int x4), (5, .int x5), (6, .int x6)] [.int xs1, .int xs0] := by
  unfold f_X7_prints_b98 at hf
  refine G_iadd (q := 99) hC dX7_prints_98 rfl ?_
  refine G_istore_n (q := 100) (lv' := [(3, .int (xs0 + xs1)), (0, .ref (eB E + 583)), (1, .int x1), (2, .int x2), (4, .int x4), (5, .int x5), (6, .int x6)]) hC dX7_prints_99 rfl (by decide) rfl ?_
  refine G_aload_n (q := 101) hC dX7_prints_100 rfl rfl ?_
  refine gf_RX7_22 (q := 104) hC dX7_prints_101 rfl ?_
  refine G_iload (q := 106) hC dX7_prints_104 rfl rfl ?_
  refine G_iload (q := 108) hC dX7_prints_106 rfl rfl ?_
  refine G_if_eq (tgt := 115) (q := 111) hC dX7_prints_108 (by decide) rfl (fun c0 => ?_) (fun c0 => ?_)
  · have hf := (if_pos c0).symm.trans hf
    refine G_aload_n (q := 116) hC dX7_prints_115 rfl rfl ?_
    refine gf_RX7_22 (q := 119) hC dX7_prints_116 rfl ?_
    refine G_iload (q := 121) hC dX7_prints_119 rfl rfl ?_
    obtain ⟨g1, hf⟩ := gd_ok hf
    refine G_iald (q := 122) hC dX7_prints_121 rfl (ok_186 g1) ?_
    refine G_lv (lv' := [(0, .ref (eB E + 583)), (1, .int x1), (2, .int x2), (3, .int (xs0 + xs1)), (4, .int x4), (5, .int x5), (6, .int x6)]) [1, 2, 3, 0, 4, 5, 6] rfl ?_
    exact t_X7_prints_b122 hC hk8  hf
  · have hf := (if_neg c0).symm.trans hf
    refine G_iconst (q := 112) hC dX7_prints_111 rfl ic_3 ?_
    refine G_goto (tgt := 122) hC dX7_prints_112 (by decide) ?_
    refine G_lv (lv' := [(0, .ref (eB E + 583)), (1, .int x1), (2, .int x2), (3, .int (xs0 + xs1)), (4, .int x4), (5, .int x5), (6, .int x6)]) [1, 2, 3, 0, 4, 5, 6] rfl ?_
    exact t_X7_prints_b122 hC hk8  hf

def f_X7_prints_b84 (fu : Nat) (k8 : gSt → Int32 → Int32 → Int32 → Int32 → Int32 → Option (Int32 × gSt)) (σ : gSt) (x1 : Int32) (x2 : Int32) (x3 : Int32) (x5 : Int32) (x6 : Int32) (xs0 : Int32) (xs1 : Int32) : Option (Int32 × gSt) :=
  if x6 = 0 then (f_X7_prints_b98 fu k8 σ x1 x2 (xs0 ||| xs1) x5 x6 x3 (0 : Int32)) else (f_X7_prints_b98 fu k8 σ x1 x2 (xs0 ||| xs1) x5 x6 x3 (1 : Int32))
set_option maxRecDepth 100000 in
theorem t_X7_prints_b84 {fu : Nat} {k8 : gSt → Int32 → Int32 → Int32 → Int32 → Int32 → Option (Int32 × gSt)} {r : Int32 × gSt} (hC : gCx p s m args meth c cX7_prints 8 RX7 (some .int) E) (hk8 : ∀ (σ : gSt) (x1 : Int32) (x2 : Int32) (x3 : Int32) (x4 : Int32) (x5 : Int32), k8 σ x1 x2 x3 x4 x5 = some r → G p l e rm_X7_prints s m args below meth c 8 0 0 (MQ below (gQ E w 1 r) args s 0 0 (fun q => eB E ≤ q)) E w σ 8 [(0, .ref (eB E + 583)), (1, .int x1), (2, .int x2), (3, .int x3), (4, .int x4), (5, .int x5)] []) {σ : gSt} {x1 : Int32} {x2 : Int32} {x3 : Int32} {x5 : Int32} {x6 : Int32} {xs0 : Int32} {xs1 : Int32}  (hf : f_X7_prints_b84 fu k8 σ x1 x2 x3 x5 x6 xs0 xs1 = some r) : G p l e rm_X7_prints s m args below meth c 8 0 0 (MQ below (gQ E w 1 r) args s 0 0 (fun q => eB E ≤ q)) E w σ 84 [(0, .ref (eB E + 583)), (1, .int x1), (2, .int x2), (3, .int x3), (5, .int x5), (6, .int x6)] [.int xs1, .int xs0] := by
  unfold f_X7_prints_b84 at hf
  refine G_ior (q := 85) hC dX7_prints_84 rfl ?_
  refine G_istore (q := 87) (lv' := [(4, .int (xs0 ||| xs1)), (0, .ref (eB E + 583)), (1, .int x1), (2, .int x2), (3, .int x3), (5, .int x5), (6, .int x6)]) hC dX7_prints_85 rfl (by decide) rfl ?_
  refine G_iload_n (q := 88) hC dX7_prints_87 rfl rfl ?_
  refine G_iload (q := 90) hC dX7_prints_88 rfl rfl ?_
  refine G_if_eq (tgt := 97) (q := 93) hC dX7_prints_90 (by decide) rfl (fun c0 => ?_) (fun c0 => ?_)
  · have hf := (if_pos c0).symm.trans hf
    refine G_iconst (q := 98) hC dX7_prints_97 rfl ic_0 ?_
    refine G_lv (lv' := [(0, .ref (eB E + 583)), (1, .int x1), (2, .int x2), (4, .int (xs0 ||| xs1)), (5, .int x5), (6, .int x6)]) [1, 2, 3, 0, 5, 6] rfl ?_
    exact t_X7_prints_b98 hC hk8  hf
  · have hf := (if_neg c0).symm.trans hf
    refine G_iconst (q := 94) hC dX7_prints_93 rfl ic_1 ?_
    refine G_goto (tgt := 98) hC dX7_prints_94 (by decide) ?_
    refine G_lv (lv' := [(0, .ref (eB E + 583)), (1, .int x1), (2, .int x2), (4, .int (xs0 ||| xs1)), (5, .int x5), (6, .int x6)]) [1, 2, 3, 0, 5, 6] rfl ?_
    exact t_X7_prints_b98 hC hk8  hf

def f_X7_prints_b67 (fu : Nat) (k8 : gSt → Int32 → Int32 → Int32 → Int32 → Int32 → Option (Int32 × gSt)) (σ : gSt) (x1 : Int32) (x2 : Int32) (x3 : Int32) (x4 : Int32) (x5 : Int32) (xs0 : Int32) : Option (Int32 × gSt) :=
  if xs0 = 0 then (f_X7_prints_b84 fu k8 σ x1 x2 x3 x5 xs0 x4 (0 : Int32)) else (f_X7_prints_b84 fu k8 σ x1 x2 x3 x5 xs0 x4 ((1 : Int32) <<< (x5 &&& 31)))
set_option maxRecDepth 100000 in
theorem t_X7_prints_b67 {fu : Nat} {k8 : gSt → Int32 → Int32 → Int32 → Int32 → Int32 → Option (Int32 × gSt)} {r : Int32 × gSt} (hC : gCx p s m args meth c cX7_prints 8 RX7 (some .int) E) (hk8 : ∀ (σ : gSt) (x1 : Int32) (x2 : Int32) (x3 : Int32) (x4 : Int32) (x5 : Int32), k8 σ x1 x2 x3 x4 x5 = some r → G p l e rm_X7_prints s m args below meth c 8 0 0 (MQ below (gQ E w 1 r) args s 0 0 (fun q => eB E ≤ q)) E w σ 8 [(0, .ref (eB E + 583)), (1, .int x1), (2, .int x2), (3, .int x3), (4, .int x4), (5, .int x5)] []) {σ : gSt} {x1 : Int32} {x2 : Int32} {x3 : Int32} {x4 : Int32} {x5 : Int32} {xs0 : Int32}  (hf : f_X7_prints_b67 fu k8 σ x1 x2 x3 x4 x5 xs0 = some r) : G p l e rm_X7_prints s m args below meth c 8 0 0 (MQ below (gQ E w 1 r) args s 0 0 (fun q => eB E ≤ q)) E w σ 67 [(0, .ref (eB E + 583)), (1, .int x1), (2, .int x2), (3, .int x3), (4, .int x4), (5, .int x5)] [.int xs0] := by
  unfold f_X7_prints_b67 at hf
  refine G_istore (q := 69) (lv' := [(6, .int xs0), (0, .ref (eB E + 583)), (1, .int x1), (2, .int x2), (3, .int x3), (4, .int x4), (5, .int x5)]) hC dX7_prints_67 rfl (by decide) rfl ?_
  refine G_iload (q := 71) hC dX7_prints_69 rfl rfl ?_
  refine G_iload (q := 73) hC dX7_prints_71 rfl rfl ?_
  refine G_if_eq (tgt := 83) (q := 76) hC dX7_prints_73 (by decide) rfl (fun c0 => ?_) (fun c0 => ?_)
  · have hf := (if_pos c0).symm.trans hf
    refine G_iconst (q := 84) hC dX7_prints_83 rfl ic_0 ?_
    refine G_lv (lv' := [(0, .ref (eB E + 583)), (1, .int x1), (2, .int x2), (3, .int x3), (5, .int x5), (6, .int xs0)]) [1, 2, 3, 4, 6, 0] rfl ?_
    exact t_X7_prints_b84 hC hk8  hf
  · have hf := (if_neg c0).symm.trans hf
    refine G_iconst (q := 77) hC dX7_prints_76 rfl ic_1 ?_
    refine G_iload (q := 79) hC dX7_prints_77 rfl rfl ?_
    refine G_ishl (q := 80) hC dX7_prints_79 rfl ?_
    refine G_goto (tgt := 84) hC dX7_prints_80 (by decide) ?_
    refine G_lv (lv' := [(0, .ref (eB E + 583)), (1, .int x1), (2, .int x2), (3, .int x3), (5, .int x5), (6, .int xs0)]) [1, 2, 3, 4, 6, 0] rfl ?_
    exact t_X7_prints_b84 hC hk8  hf

def f_X7_prints_b66 (fu : Nat) (k8 : gSt → Int32 → Int32 → Int32 → Int32 → Int32 → Option (Int32 × gSt)) (σ : gSt) (x1 : Int32) (x2 : Int32) (x3 : Int32) (x4 : Int32) (x5 : Int32) : Option (Int32 × gSt) :=
  f_X7_prints_b67 fu k8 σ x1 x2 x3 x4 x5 (0 : Int32)
set_option maxRecDepth 100000 in
theorem t_X7_prints_b66 {fu : Nat} {k8 : gSt → Int32 → Int32 → Int32 → Int32 → Int32 → Option (Int32 × gSt)} {r : Int32 × gSt} (hC : gCx p s m args meth c cX7_prints 8 RX7 (some .int) E) (hk8 : ∀ (σ : gSt) (x1 : Int32) (x2 : Int32) (x3 : Int32) (x4 : Int32) (x5 : Int32), k8 σ x1 x2 x3 x4 x5 = some r → G p l e rm_X7_prints s m args below meth c 8 0 0 (MQ below (gQ E w 1 r) args s 0 0 (fun q => eB E ≤ q)) E w σ 8 [(0, .ref (eB E + 583)), (1, .int x1), (2, .int x2), (3, .int x3), (4, .int x4), (5, .int x5)] []) {σ : gSt} {x1 : Int32} {x2 : Int32} {x3 : Int32} {x4 : Int32} {x5 : Int32}  (hf : f_X7_prints_b66 fu k8 σ x1 x2 x3 x4 x5 = some r) : G p l e rm_X7_prints s m args below meth c 8 0 0 (MQ below (gQ E w 1 r) args s 0 0 (fun q => eB E ≤ q)) E w σ 66 [(0, .ref (eB E + 583)), (1, .int x1), (2, .int x2), (3, .int x3), (4, .int x4), (5, .int x5)] [] := by
  unfold f_X7_prints_b66 at hf
  refine G_iconst (q := 67) hC dX7_prints_66 rfl ic_0 ?_
  exact t_X7_prints_b67 hC hk8  hf

def f_X7_prints_b62 (fu : Nat) (k8 : gSt → Int32 → Int32 → Int32 → Int32 → Int32 → Option (Int32 × gSt)) (σ : gSt) (x1 : Int32) (x2 : Int32) (x3 : Int32) (x4 : Int32) (x5 : Int32) : Option (Int32 × gSt) :=
  f_X7_prints_b67 fu k8 σ x1 x2 x3 x4 x5 (1 : Int32)
set_option maxRecDepth 100000 in
theorem t_X7_prints_b62 {fu : Nat} {k8 : gSt → Int32 → Int32 → Int32 → Int32 → Int32 → Option (Int32 × gSt)} {r : Int32 × gSt} (hC : gCx p s m args meth c cX7_prints 8 RX7 (some .int) E) (hk8 : ∀ (σ : gSt) (x1 : Int32) (x2 : Int32) (x3 : Int32) (x4 : Int32) (x5 : Int32), k8 σ x1 x2 x3 x4 x5 = some r → G p l e rm_X7_prints s m args below meth c 8 0 0 (MQ below (gQ E w 1 r) args s 0 0 (fun q => eB E ≤ q)) E w σ 8 [(0, .ref (eB E + 583)), (1, .int x1), (2, .int x2), (3, .int x3), (4, .int x4), (5, .int x5)] []) {σ : gSt} {x1 : Int32} {x2 : Int32} {x3 : Int32} {x4 : Int32} {x5 : Int32}  (hf : f_X7_prints_b62 fu k8 σ x1 x2 x3 x4 x5 = some r) : G p l e rm_X7_prints s m args below meth c 8 0 0 (MQ below (gQ E w 1 r) args s 0 0 (fun q => eB E ≤ q)) E w σ 62 [(0, .ref (eB E + 583)), (1, .int x1), (2, .int x2), (3, .int x3), (4, .int x4), (5, .int x5)] [] := by
  unfold f_X7_prints_b62 at hf
  refine G_iconst (q := 63) hC dX7_prints_62 rfl ic_1 ?_
  refine G_goto (tgt := 67) hC dX7_prints_63 (by decide) ?_
  exact t_X7_prints_b67 hC hk8  hf

def f_X7_prints_b292 (fu : Nat) (k173 : gSt → Int32 → Int32 → Int32 → Option (Int32 × gSt)) (σ : gSt) (x3 : Int32) (x4 : Int32) (x5 : Int32) : Option (Int32 × gSt) :=
  k173 σ x3 x4 (x5 + (1))
set_option maxRecDepth 100000 in
theorem t_X7_prints_b292 {fu : Nat} {k173 : gSt → Int32 → Int32 → Int32 → Option (Int32 × gSt)} {r : Int32 × gSt} (hC : gCx p s m args meth c cX7_prints 8 RX7 (some .int) E) (hk173 : ∀ (σ : gSt) (x3 : Int32) (x4 : Int32) (x5 : Int32), k173 σ x3 x4 x5 = some r → G p l e rm_X7_prints s m args below meth c 8 0 0 (MQ below (gQ E w 1 r) args s 0 0 (fun q => eB E ≤ q)) E w σ 173 [(0, .ref (eB E + 583)), (3, .int x3), (4, .int x4), (5, .int x5)] []) {σ : gSt} {x3 : Int32} {x4 : Int32} {x5 : Int32}  (hf : f_X7_prints_b292 fu k173 σ x3 x4 x5 = some r) : G p l e rm_X7_prints s m args below meth c 8 0 0 (MQ below (gQ E w 1 r) args s 0 0 (fun q => eB E ≤ q)) E w σ 292 [(0, .ref (eB E + 583)), (3, .int x3), (4, .int x4), (5, .int x5)] [] := by
  unfold f_X7_prints_b292 at hf
  refine G_iinc (q := 295) (n := 3) (lv' := [(5, .int (x5 + (1))), (0, .ref (eB E + 583)), (3, .int x3), (4, .int x4)]) hC dX7_prints_292 rfl rfl (ii_1 _) (by decide) rfl ?_
  refine G_goto (tgt := 173) hC dX7_prints_295 (by decide) ?_
  refine G_lv (lv' := [(0, .ref (eB E + 583)), (3, .int x3), (4, .int x4), (5, .int (x5 + (1)))]) [1, 2, 3, 0] rfl ?_
  exact hk173 _ _ _ _  hf

def f_X7_prints_b282 (fu : Nat) (k173 : gSt → Int32 → Int32 → Int32 → Option (Int32 × gSt)) (k185 : gSt → Int32 → Int32 → Int32 → Int32 → Option (Int32 × gSt)) (σ : gSt) (x3 : Int32) (x4 : Int32) (x5 : Int32) (x6 : Int32) (xs1 : Int32) (xs2 : Int32) : Option (Int32 × gSt) :=
  k185 (gU σ 208 0 0 (xs1 + xs2)) x3 x4 x5 (x6 + (1))
set_option maxRecDepth 100000 in
theorem t_X7_prints_b282 {fu : Nat} {k173 : gSt → Int32 → Int32 → Int32 → Option (Int32 × gSt)} {k185 : gSt → Int32 → Int32 → Int32 → Int32 → Option (Int32 × gSt)} {r : Int32 × gSt} (hC : gCx p s m args meth c cX7_prints 8 RX7 (some .int) E) (hk173 : ∀ (σ : gSt) (x3 : Int32) (x4 : Int32) (x5 : Int32), k173 σ x3 x4 x5 = some r → G p l e rm_X7_prints s m args below meth c 8 0 0 (MQ below (gQ E w 1 r) args s 0 0 (fun q => eB E ≤ q)) E w σ 173 [(0, .ref (eB E + 583)), (3, .int x3), (4, .int x4), (5, .int x5)] []) (hk185 : ∀ (σ : gSt) (x3 : Int32) (x4 : Int32) (x5 : Int32) (x6 : Int32), k185 σ x3 x4 x5 x6 = some r → G p l e rm_X7_prints s m args below meth c 8 0 0 (MQ below (gQ E w 1 r) args s 0 0 (fun q => eB E ≤ q)) E w σ 185 [(0, .ref (eB E + 583)), (3, .int x3), (4, .int x4), (5, .int x5), (6, .int x6)] []) {σ : gSt} {x3 : Int32} {x4 : Int32} {x5 : Int32} {x6 : Int32} {xs1 : Int32} {xs2 : Int32}  (hf : f_X7_prints_b282 fu k173 k185 σ x3 x4 x5 x6 xs1 xs2 = some r) : G p l e rm_X7_prints s m args below meth c 8 0 0 (MQ below (gQ E w 1 r) args s 0 0 (fun q => eB E ≤ q)) E w σ 282 [(0, .ref (eB E + 583)), (3, .int x3), (4, .int x4), (5, .int x5), (6, .int x6)] [.int xs2, .int xs1, .ref (eB E + 583)] := by
  unfold f_X7_prints_b282 at hf
  refine G_iadd (q := 283) hC dX7_prints_282 rfl ?_
  refine pf_RX7_173 (q := 286) hC dX7_prints_283 rfl ?_
  refine G_iinc (q := 289) (n := 4) (lv' := [(6, .int (x6 + (1))), (0, .ref (eB E + 583)), (3, .int x3), (4, .int x4), (5, .int x5)]) hC dX7_prints_286 rfl rfl (ii_1 _) (by decide) rfl ?_
  refine G_goto (tgt := 185) hC dX7_prints_289 (by decide) ?_
  refine G_lv (lv' := [(0, .ref (eB E + 583)), (3, .int x3), (4, .int x4), (5, .int x5), (6, .int (x6 + (1)))]) [1, 2, 3, 4, 0] rfl ?_
  exact hk185 _ _ _ _ _  hf

def f_X7_prints_b255 (fu : Nat) (k173 : gSt → Int32 → Int32 → Int32 → Option (Int32 × gSt)) (k185 : gSt → Int32 → Int32 → Int32 → Int32 → Option (Int32 × gSt)) (σ : gSt) (x3 : Int32) (x4 : Int32) (x5 : Int32) (x6 : Int32) (fs0 : Nat) (is0 : Nat) (xs1 : Int32) (xs2 : Int32) : Option (Int32 × gSt) :=
  gd (okA 1 fs0 is0 xs1) (gd (inb (((4 : Int32) * x5) + x6) 96) (if ((gU σ fs0 is0 xs1.toNatClampNeg xs2) 192 0 (((4 : Int32) * x5) + x6).toNatClampNeg) = (3 : Int32) then (f_X7_prints_b282 fu k173 k185 (gU σ fs0 is0 xs1.toNatClampNeg xs2) x3 x4 x5 x6 ((gU σ fs0 is0 xs1.toNatClampNeg xs2) 208 0 0) (1 : Int32)) else (f_X7_prints_b282 fu k173 k185 (gU σ fs0 is0 xs1.toNatClampNeg xs2) x3 x4 x5 x6 ((gU σ fs0 is0 xs1.toNatClampNeg xs2) 208 0 0) (0 : Int32))))
set_option maxRecDepth 100000 in
theorem t_X7_prints_b255 {fu : Nat} {k173 : gSt → Int32 → Int32 → Int32 → Option (Int32 × gSt)} {k185 : gSt → Int32 → Int32 → Int32 → Int32 → Option (Int32 × gSt)} {r : Int32 × gSt} (hC : gCx p s m args meth c cX7_prints 8 RX7 (some .int) E) (hk173 : ∀ (σ : gSt) (x3 : Int32) (x4 : Int32) (x5 : Int32), k173 σ x3 x4 x5 = some r → G p l e rm_X7_prints s m args below meth c 8 0 0 (MQ below (gQ E w 1 r) args s 0 0 (fun q => eB E ≤ q)) E w σ 173 [(0, .ref (eB E + 583)), (3, .int x3), (4, .int x4), (5, .int x5)] []) (hk185 : ∀ (σ : gSt) (x3 : Int32) (x4 : Int32) (x5 : Int32) (x6 : Int32), k185 σ x3 x4 x5 x6 = some r → G p l e rm_X7_prints s m args below meth c 8 0 0 (MQ below (gQ E w 1 r) args s 0 0 (fun q => eB E ≤ q)) E w σ 185 [(0, .ref (eB E + 583)), (3, .int x3), (4, .int x4), (5, .int x5), (6, .int x6)] []) {σ : gSt} {x3 : Int32} {x4 : Int32} {x5 : Int32} {x6 : Int32} {fs0 : Nat} {is0 : Nat} {xs1 : Int32} {xs2 : Int32}  (hf : f_X7_prints_b255 fu k173 k185 σ x3 x4 x5 x6 fs0 is0 xs1 xs2 = some r) : G p l e rm_X7_prints s m args below meth c 8 0 0 (MQ below (gQ E w 1 r) args s 0 0 (fun q => eB E ≤ q)) E w σ 255 [(0, .ref (eB E + 583)), (3, .int x3), (4, .int x4), (5, .int x5), (6, .int x6)] [.int xs2, .int xs1, .ref (eB E + oA fs0 is0)] := by
  unfold f_X7_prints_b255 at hf
  obtain ⟨g1, hf⟩ := gd_ok hf
  refine G_iast (q := 256) hC dX7_prints_255 rfl g1 ?_
  refine G_aload_n (q := 257) hC dX7_prints_256 rfl rfl ?_
  refine G_dup (q := 258) hC dX7_prints_257 rfl rfl ?_
  refine gf_RX7_173 (q := 261) hC dX7_prints_258 rfl ?_
  refine G_aload_n (q := 262) hC dX7_prints_261 rfl rfl ?_
  refine gf_RX7_41 (q := 265) hC dX7_prints_262 rfl ?_
  refine G_iconst (q := 266) hC dX7_prints_265 rfl ic_4 ?_
  refine G_iload (q := 268) hC dX7_prints_266 rfl rfl ?_
  refine G_imul (q := 269) hC dX7_prints_268 rfl ?_
  refine G_iload (q := 271) hC dX7_prints_269 rfl rfl ?_
  refine G_iadd (q := 272) hC dX7_prints_271 rfl ?_
  obtain ⟨g2, hf⟩ := gd_ok hf
  refine G_iald (q := 273) hC dX7_prints_272 rfl (ok_192 g2) ?_
  refine G_iconst (q := 274) hC dX7_prints_273 rfl ic_3 ?_
  refine G_icmp_ne (tgt := 281) (q := 277) hC dX7_prints_274 (by decide) rfl (fun c0 => ?_) (fun c0 => ?_)
  · have hf := (if_neg c0).symm.trans hf
    refine G_iconst (q := 282) hC dX7_prints_281 rfl ic_0 ?_
    exact t_X7_prints_b282 hC hk173 hk185  hf
  · have hf := (if_pos c0).symm.trans hf
    refine G_iconst (q := 278) hC dX7_prints_277 rfl ic_1 ?_
    refine G_goto (tgt := 282) hC dX7_prints_278 (by decide) ?_
    exact t_X7_prints_b282 hC hk173 hk185  hf

def f_X7_prints_b185_B (fu : Nat) (k173 : gSt → Int32 → Int32 → Int32 → Option (Int32 × gSt)) (k185 : gSt → Int32 → Int32 → Int32 → Int32 → Option (Int32 × gSt)) (σ : gSt) (x3 : Int32) (x4 : Int32) (x5 : Int32) (x6 : Int32) : Option (Int32 × gSt) :=
  gd (inb x5 24) (if (σ 191 0 x5.toNatClampNeg) ≤ x6 then (f_X7_prints_b292 fu k173 σ x3 x4 x5) else (if ((x4 >>> (x5 &&& 31)) &&& (1 : Int32)) = (1 : Int32) then (bd (f_X7_reference fu σ x5 x6) (fun v3 σ3 => bd (f_X7_isPrinted fu σ3 v3) (fun v4 σ4 => if v4 = 0 then (bd (f_X7_isPromise fu σ4 v3) (fun v6 σ6 => if v6 = 0 then (f_X7_prints_b255 fu k173 k185 σ6 x3 x4 x5 x6 192 0 (((4 : Int32) * x5) + x6) (3 : Int32)) else (f_X7_prints_b255 fu k173 k185 σ6 x3 x4 x5 x6 192 0 (((4 : Int32) * x5) + x6) (2 : Int32)))) else (f_X7_prints_b255 fu k173 k185 σ4 x3 x4 x5 x6 192 0 (((4 : Int32) * x5) + x6) (1 : Int32))))) else (f_X7_prints_b292 fu k173 σ x3 x4 x5)))
def f_X7_prints_b185 (fu : Nat) (k173 : gSt → Int32 → Int32 → Int32 → Option (Int32 × gSt)) : Nat → gSt → Int32 → Int32 → Int32 → Int32 → Option (Int32 × gSt)
  | 0 => fun _ _ _ _ _ => none
  | n + 1 => f_X7_prints_b185_B fu k173 (f_X7_prints_b185 fu k173 n)
set_option maxRecDepth 100000 in
theorem t_X7_prints_b185_B {fu : Nat} {k173 : gSt → Int32 → Int32 → Int32 → Option (Int32 × gSt)} {k185 : gSt → Int32 → Int32 → Int32 → Int32 → Option (Int32 × gSt)} {r : Int32 × gSt} (hC : gCx p s m args meth c cX7_prints 8 RX7 (some .int) E) (hk173 : ∀ (σ : gSt) (x3 : Int32) (x4 : Int32) (x5 : Int32), k173 σ x3 x4 x5 = some r → G p l e rm_X7_prints s m args below meth c 8 0 0 (MQ below (gQ E w 1 r) args s 0 0 (fun q => eB E ≤ q)) E w σ 173 [(0, .ref (eB E + 583)), (3, .int x3), (4, .int x4), (5, .int x5)] []) (hk185 : ∀ (σ : gSt) (x3 : Int32) (x4 : Int32) (x5 : Int32) (x6 : Int32), k185 σ x3 x4 x5 x6 = some r → G p l e rm_X7_prints s m args below meth c 8 0 0 (MQ below (gQ E w 1 r) args s 0 0 (fun q => eB E ≤ q)) E w σ 185 [(0, .ref (eB E + 583)), (3, .int x3), (4, .int x4), (5, .int x5), (6, .int x6)] []) {σ : gSt} {x3 : Int32} {x4 : Int32} {x5 : Int32} {x6 : Int32}  (hf : f_X7_prints_b185_B fu k173 k185 σ x3 x4 x5 x6 = some r) : G p l e rm_X7_prints s m args below meth c 8 0 0 (MQ below (gQ E w 1 r) args s 0 0 (fun q => eB E ≤ q)) E w σ 185 [(0, .ref (eB E + 583)), (3, .int x3), (4, .int x4), (5, .int x5), (6, .int x6)] [] := by
  unfold f_X7_prints_b185_B at hf
  refine G_iload (q := 187) hC dX7_prints_185 rfl rfl ?_
  refine G_aload_n (q := 188) hC dX7_prints_187 rfl rfl ?_
  refine gf_RX7_38 (q := 191) hC dX7_prints_188 rfl ?_
  refine G_iload (q := 193) hC dX7_prints_191 rfl rfl ?_
  obtain ⟨g1, hf⟩ := gd_ok hf
  refine G_iald (q := 194) hC dX7_prints_193 rfl (ok_191 g1) ?_
  refine G_icmp_ge (tgt := 292) (q := 197) hC dX7_prints_194 (by decide) rfl (fun c0 => ?_) (fun c0 => ?_)
  · have hf := (if_pos c0).symm.trans hf
    refine G_lv (lv' := [(0, .ref (eB E + 583)), (3, .int x3), (4, .int x4), (5, .int x5)]) [0, 1, 2, 3] rfl ?_
    exact t_X7_prints_b292 hC hk173  hf
  · have hf := (if_neg c0).symm.trans hf
    refine G_iload (q := 199) hC dX7_prints_197 rfl rfl ?_
    refine G_iload (q := 201) hC dX7_prints_199 rfl rfl ?_
    refine G_ishr (q := 202) hC dX7_prints_201 rfl ?_
    refine G_iconst (q := 203) hC dX7_prints_202 rfl ic_1 ?_
    refine G_iand (q := 204) hC dX7_prints_203 rfl ?_
    refine G_iconst (q := 205) hC dX7_prints_204 rfl ic_1 ?_
    refine G_icmp_ne (tgt := 292) (q := 208) hC dX7_prints_205 (by decide) rfl (fun c1 => ?_) (fun c1 => ?_)
    · have hf := (if_neg c1).symm.trans hf
      refine G_lv (lv' := [(0, .ref (eB E + 583)), (3, .int x3), (4, .int x4), (5, .int x5)]) [0, 1, 2, 3] rfl ?_
      exact t_X7_prints_b292 hC hk173  hf
    · have hf := (if_pos c1).symm.trans hf
      refine G_iload (q := 210) hC dX7_prints_208 rfl rfl ?_
      refine G_iload (q := 212) hC dX7_prints_210 rfl rfl ?_
      obtain ⟨v3, σ3, hm3, hf⟩ := bd_ok hf
      refine cl_RX7_120 (q := 215) hC dX7_prints_212 rfl (m_X7_reference hm3) ⟨Nat.le_of_ble_eq_true rfl, Nat.le_of_ble_eq_true rfl⟩ (Nat.le_of_ble_eq_true rfl) ⟨Nat.le_of_ble_eq_true rfl, Nat.le_of_ble_eq_true rfl⟩ ?_
      refine G_istore (q := 217) (lv' := [(7, .int v3), (0, .ref (eB E + 583)), (3, .int x3), (4, .int x4), (5, .int x5), (6, .int x6)]) hC dX7_prints_215 rfl (by decide) rfl ?_
      refine G_aload_n (q := 218) hC dX7_prints_217 rfl rfl ?_
      refine gf_RX7_41 (q := 221) hC dX7_prints_218 rfl ?_
      refine G_iconst (q := 222) hC dX7_prints_221 rfl ic_4 ?_
      refine G_iload (q := 224) hC dX7_prints_222 rfl rfl ?_
      refine G_imul (q := 225) hC dX7_prints_224 rfl ?_
      refine G_iload (q := 227) hC dX7_prints_225 rfl rfl ?_
      refine G_iadd (q := 228) hC dX7_prints_227 rfl ?_
      refine G_aload_n (q := 229) hC dX7_prints_228 rfl rfl ?_
      refine G_iload (q := 231) hC dX7_prints_229 rfl rfl ?_
      obtain ⟨v4, σ4, hm4, hf⟩ := bd_ok hf
      refine cl_RX7_167 (q := 234) hC dX7_prints_231 rfl (m_X7_isPrinted hm4) ⟨Nat.le_of_ble_eq_true rfl, Nat.le_of_ble_eq_true rfl⟩ (Nat.le_of_ble_eq_true rfl) ⟨Nat.le_of_ble_eq_true rfl, Nat.le_of_ble_eq_true rfl⟩ ?_
      refine G_if_eq (tgt := 241) (q := 237) hC dX7_prints_234 (by decide) rfl (fun c4 => ?_) (fun c4 => ?_)
      · have hf := (if_pos c4).symm.trans hf
        refine G_aload_n (q := 242) hC dX7_prints_241 rfl rfl ?_
        refine G_iload (q := 244) hC dX7_prints_242 rfl rfl ?_
        obtain ⟨v6, σ6, hm6, hf⟩ := bd_ok hf
        refine cl_RX7_170 (q := 247) hC dX7_prints_244 rfl (m_X7_isPromise hm6) ⟨Nat.le_of_ble_eq_true rfl, Nat.le_of_ble_eq_true rfl⟩ (Nat.le_of_ble_eq_true rfl) ⟨Nat.le_of_ble_eq_true rfl, Nat.le_of_ble_eq_true rfl⟩ ?_
        refine G_if_eq (tgt := 254) (q := 250) hC dX7_prints_247 (by decide) rfl (fun c6 => ?_) (fun c6 => ?_)
        · have hf := (if_pos c6).symm.trans hf
          refine G_iconst (q := 255) hC dX7_prints_254 rfl ic_3 ?_
          refine G_lv (lv' := [(0, .ref (eB E + 583)), (3, .int x3), (4, .int x4), (5, .int x5), (6, .int x6)]) [1, 2, 3, 4, 5] rfl ?_
          exact t_X7_prints_b255 hC hk173 hk185  hf
        · have hf := (if_neg c6).symm.trans hf
          refine G_iconst (q := 251) hC dX7_prints_250 rfl ic_2 ?_
          refine G_goto (tgt := 255) hC dX7_prints_251 (by decide) ?_
          refine G_lv (lv' := [(0, .ref (eB E + 583)), (3, .int x3), (4, .int x4), (5, .int x5), (6, .int x6)]) [1, 2, 3, 4, 5] rfl ?_
          exact t_X7_prints_b255 hC hk173 hk185  hf
      · have hf := (if_neg c4).symm.trans hf
        refine G_iconst (q := 238) hC dX7_prints_237 rfl ic_1 ?_
        refine G_goto (tgt := 255) hC dX7_prints_238 (by decide) ?_
        refine G_lv (lv' := [(0, .ref (eB E + 583)), (3, .int x3), (4, .int x4), (5, .int x5), (6, .int x6)]) [1, 2, 3, 4, 5] rfl ?_
        exact t_X7_prints_b255 hC hk173 hk185  hf

theorem t_X7_prints_b185 {fu : Nat} {k173 : gSt → Int32 → Int32 → Int32 → Option (Int32 × gSt)} {r : Int32 × gSt} (hC : gCx p s m args meth c cX7_prints 8 RX7 (some .int) E) (hk173 : ∀ (σ : gSt) (x3 : Int32) (x4 : Int32) (x5 : Int32), k173 σ x3 x4 x5 = some r → G p l e rm_X7_prints s m args below meth c 8 0 0 (MQ below (gQ E w 1 r) args s 0 0 (fun q => eB E ≤ q)) E w σ 173 [(0, .ref (eB E + 583)), (3, .int x3), (4, .int x4), (5, .int x5)] []) (n : Nat) : ∀ (σ : gSt) (x3 : Int32) (x4 : Int32) (x5 : Int32) (x6 : Int32), f_X7_prints_b185 fu k173 n σ x3 x4 x5 x6 = some r → G p l e rm_X7_prints s m args below meth c 8 0 0 (MQ below (gQ E w 1 r) args s 0 0 (fun q => eB E ≤ q)) E w σ 185 [(0, .ref (eB E + 583)), (3, .int x3), (4, .int x4), (5, .int x5), (6, .int x6)] [] := by
  induction n with
  | zero => intro σ x3 x4 x5 x6  hf; cases hf
  | succ n ih => intro σ x3 x4 x5 x6  hf; exact t_X7_prints_b185_B hC hk173 ih  hf
def f_X7_prints_b173_B (fu : Nat) (k173 : gSt → Int32 → Int32 → Int32 → Option (Int32 × gSt)) (σ : gSt) (x3 : Int32) (x4 : Int32) (x5 : Int32) : Option (Int32 × gSt) :=
  if (σ 183 0 0) ≤ x5 then (some (x3, σ)) else (f_X7_prints_b185 fu k173 fu σ x3 x4 x5 (0 : Int32))
def f_X7_prints_b173 (fu : Nat)  : Nat → gSt → Int32 → Int32 → Int32 → Option (Int32 × gSt)
  | 0 => fun _ _ _ _ => none
  | n + 1 => f_X7_prints_b173_B fu  (f_X7_prints_b173 fu  n)
set_option maxRecDepth 100000 in
theorem t_X7_prints_b173_B {fu : Nat} {k173 : gSt → Int32 → Int32 → Int32 → Option (Int32 × gSt)} {r : Int32 × gSt} (hC : gCx p s m args meth c cX7_prints 8 RX7 (some .int) E) (hk173 : ∀ (σ : gSt) (x3 : Int32) (x4 : Int32) (x5 : Int32), k173 σ x3 x4 x5 = some r → G p l e rm_X7_prints s m args below meth c 8 0 0 (MQ below (gQ E w 1 r) args s 0 0 (fun q => eB E ≤ q)) E w σ 173 [(0, .ref (eB E + 583)), (3, .int x3), (4, .int x4), (5, .int x5)] []) {σ : gSt} {x3 : Int32} {x4 : Int32} {x5 : Int32}  (hf : f_X7_prints_b173_B fu k173 σ x3 x4 x5 = some r) : G p l e rm_X7_prints s m args below meth c 8 0 0 (MQ below (gQ E w 1 r) args s 0 0 (fun q => eB E ≤ q)) E w σ 173 [(0, .ref (eB E + 583)), (3, .int x3), (4, .int x4), (5, .int x5)] [] := by
  unfold f_X7_prints_b173_B at hf
  refine G_iload (q := 175) hC dX7_prints_173 rfl rfl ?_
  refine G_aload_n (q := 176) hC dX7_prints_175 rfl rfl ?_
  refine gf_RX7_78 (q := 179) hC dX7_prints_176 rfl ?_
  refine G_icmp_ge (tgt := 298) (q := 182) hC dX7_prints_179 (by decide) rfl (fun c0 => ?_) (fun c0 => ?_)
  · have hf := (if_pos c0).symm.trans hf
    refine G_iload_n (q := 299) hC dX7_prints_298 rfl rfl ?_
    exact G_iret hC hf rfl rfl dX7_prints_299
  · have hf := (if_neg c0).symm.trans hf
    refine G_iconst (q := 183) hC dX7_prints_182 rfl ic_0 ?_
    refine G_istore (q := 185) (lv' := [(6, .int (0 : Int32)), (0, .ref (eB E + 583)), (3, .int x3), (4, .int x4), (5, .int x5)]) hC dX7_prints_183 rfl (by decide) rfl ?_
    refine G_lv (lv' := [(0, .ref (eB E + 583)), (3, .int x3), (4, .int x4), (5, .int x5), (6, .int (0 : Int32))]) [1, 2, 3, 4, 0] rfl ?_
    exact t_X7_prints_b185 hC hk173 fu _ _ _ _ _  hf

theorem t_X7_prints_b173 {fu : Nat}  {r : Int32 × gSt} (hC : gCx p s m args meth c cX7_prints 8 RX7 (some .int) E)  (n : Nat) : ∀ (σ : gSt) (x3 : Int32) (x4 : Int32) (x5 : Int32), f_X7_prints_b173 fu  n σ x3 x4 x5 = some r → G p l e rm_X7_prints s m args below meth c 8 0 0 (MQ below (gQ E w 1 r) args s 0 0 (fun q => eB E ≤ q)) E w σ 173 [(0, .ref (eB E + 583)), (3, .int x3), (4, .int x4), (5, .int x5)] [] := by
  induction n with
  | zero => intro σ x3 x4 x5  hf; cases hf
  | succ n ih => intro σ x3 x4 x5  hf; exact t_X7_prints_b173_B hC  ih  hf
def f_X7_prints_b8_B (fu : Nat) (k8 : gSt → Int32 → Int32 → Int32 → Int32 → Int32 → Option (Int32 × gSt)) (σ : gSt) (x1 : Int32) (x2 : Int32) (x3 : Int32) (x4 : Int32) (x5 : Int32) : Option (Int32 × gSt) :=
  if (σ 183 0 0) ≤ x5 then (f_X7_prints_b173 fu  fu σ x3 x4 (0 : Int32)) else (bd (f_X7_volumeOf fu σ x5) (fun v2 σ2 => bd (f_X7_isIn fu σ2 v2 x1 x2) (fun v3 σ3 => if v3 = 0 then (f_X7_prints_b66 fu k8 σ3 x1 x2 x3 x4 x5) else (gd (inb x5 24) (if (σ3 186 0 x5.toNatClampNeg) = (2 : Int32) then (f_X7_prints_b62 fu k8 σ3 x1 x2 x3 x4 x5) else (gd (inb x5 24) (if (σ3 185 0 x5.toNatClampNeg) = 0 then (gd (inb x5 24) (if (σ3 186 0 x5.toNatClampNeg) = 0 then (f_X7_prints_b62 fu k8 σ3 x1 x2 x3 x4 x5) else (f_X7_prints_b66 fu k8 σ3 x1 x2 x3 x4 x5))) else (f_X7_prints_b66 fu k8 σ3 x1 x2 x3 x4 x5))))))))
def f_X7_prints_b8 (fu : Nat)  : Nat → gSt → Int32 → Int32 → Int32 → Int32 → Int32 → Option (Int32 × gSt)
  | 0 => fun _ _ _ _ _ _ => none
  | n + 1 => f_X7_prints_b8_B fu  (f_X7_prints_b8 fu  n)
set_option maxRecDepth 100000 in
theorem t_X7_prints_b8_B {fu : Nat} {k8 : gSt → Int32 → Int32 → Int32 → Int32 → Int32 → Option (Int32 × gSt)} {r : Int32 × gSt} (hC : gCx p s m args meth c cX7_prints 8 RX7 (some .int) E) (hk8 : ∀ (σ : gSt) (x1 : Int32) (x2 : Int32) (x3 : Int32) (x4 : Int32) (x5 : Int32), k8 σ x1 x2 x3 x4 x5 = some r → G p l e rm_X7_prints s m args below meth c 8 0 0 (MQ below (gQ E w 1 r) args s 0 0 (fun q => eB E ≤ q)) E w σ 8 [(0, .ref (eB E + 583)), (1, .int x1), (2, .int x2), (3, .int x3), (4, .int x4), (5, .int x5)] []) {σ : gSt} {x1 : Int32} {x2 : Int32} {x3 : Int32} {x4 : Int32} {x5 : Int32}  (hf : f_X7_prints_b8_B fu k8 σ x1 x2 x3 x4 x5 = some r) : G p l e rm_X7_prints s m args below meth c 8 0 0 (MQ below (gQ E w 1 r) args s 0 0 (fun q => eB E ≤ q)) E w σ 8 [(0, .ref (eB E + 583)), (1, .int x1), (2, .int x2), (3, .int x3), (4, .int x4), (5, .int x5)] [] := by
  unfold f_X7_prints_b8_B at hf
  refine G_iload (q := 10) hC dX7_prints_8 rfl rfl ?_
  refine G_aload_n (q := 11) hC dX7_prints_10 rfl rfl ?_
  refine gf_RX7_78 (q := 14) hC dX7_prints_11 rfl ?_
  refine G_icmp_ge (tgt := 170) (q := 17) hC dX7_prints_14 (by decide) rfl (fun c0 => ?_) (fun c0 => ?_)
  · have hf := (if_pos c0).symm.trans hf
    refine G_iconst (q := 171) hC dX7_prints_170 rfl ic_0 ?_
    refine G_istore (q := 173) (lv' := [(5, .int (0 : Int32)), (0, .ref (eB E + 583)), (1, .int x1), (2, .int x2), (3, .int x3), (4, .int x4)]) hC dX7_prints_171 rfl (by decide) rfl ?_
    refine G_lv (lv' := [(0, .ref (eB E + 583)), (3, .int x3), (4, .int x4), (5, .int (0 : Int32))]) [1, 4, 5, 0] rfl ?_
    exact t_X7_prints_b173 hC  fu _ _ _ _  hf
  · have hf := (if_neg c0).symm.trans hf
    refine G_aload_n (q := 18) hC dX7_prints_17 rfl rfl ?_
    refine G_iload (q := 20) hC dX7_prints_18 rfl rfl ?_
    obtain ⟨v2, σ2, hm2, hf⟩ := bd_ok hf
    refine cl_RX7_129 (q := 23) hC dX7_prints_20 rfl (m_X7_volumeOf hm2) ⟨Nat.le_of_ble_eq_true rfl, Nat.le_of_ble_eq_true rfl⟩ (Nat.le_of_ble_eq_true rfl) ⟨Nat.le_of_ble_eq_true rfl, Nat.le_of_ble_eq_true rfl⟩ ?_
    refine G_iload_n (q := 24) hC dX7_prints_23 rfl rfl ?_
    refine G_iload_n (q := 25) hC dX7_prints_24 rfl rfl ?_
    obtain ⟨v3, σ3, hm3, hf⟩ := bd_ok hf
    refine cl_RX7_81 (q := 28) hC dX7_prints_25 rfl (m_X7_isIn hm3) ⟨Nat.le_of_ble_eq_true rfl, Nat.le_of_ble_eq_true rfl⟩ (Nat.le_of_ble_eq_true rfl) ⟨Nat.le_of_ble_eq_true rfl, Nat.le_of_ble_eq_true rfl⟩ ?_
    refine G_if_eq (tgt := 66) (q := 31) hC dX7_prints_28 (by decide) rfl (fun c3 => ?_) (fun c3 => ?_)
    · have hf := (if_pos c3).symm.trans hf
      exact t_X7_prints_b66 hC hk8  hf
    · have hf := (if_neg c3).symm.trans hf
      refine G_aload_n (q := 32) hC dX7_prints_31 rfl rfl ?_
      refine gf_RX7_22 (q := 35) hC dX7_prints_32 rfl ?_
      refine G_iload (q := 37) hC dX7_prints_35 rfl rfl ?_
      obtain ⟨g1, hf⟩ := gd_ok hf
      refine G_iald (q := 38) hC dX7_prints_37 rfl (ok_186 g1) ?_
      refine G_iconst (q := 39) hC dX7_prints_38 rfl ic_2 ?_
      refine G_icmp_eq (tgt := 62) (q := 42) hC dX7_prints_39 (by decide) rfl (fun c4 => ?_) (fun c4 => ?_)
      · have hf := (if_pos c4).symm.trans hf
        exact t_X7_prints_b62 hC hk8  hf
      · have hf := (if_neg c4).symm.trans hf
        refine G_aload_n (q := 43) hC dX7_prints_42 rfl rfl ?_
        refine gf_RX7_19 (q := 46) hC dX7_prints_43 rfl ?_
        refine G_iload (q := 48) hC dX7_prints_46 rfl rfl ?_
        obtain ⟨g2, hf⟩ := gd_ok hf
        refine G_iald (q := 49) hC dX7_prints_48 rfl (ok_185 g2) ?_
        refine G_if_ne (tgt := 66) (q := 52) hC dX7_prints_49 (by decide) rfl (fun c5 => ?_) (fun c5 => ?_)
        · have hf := (if_neg c5).symm.trans hf
          exact t_X7_prints_b66 hC hk8  hf
        · have hf := (if_pos c5).symm.trans hf
          refine G_aload_n (q := 53) hC dX7_prints_52 rfl rfl ?_
          refine gf_RX7_22 (q := 56) hC dX7_prints_53 rfl ?_
          refine G_iload (q := 58) hC dX7_prints_56 rfl rfl ?_
          obtain ⟨g3, hf⟩ := gd_ok hf
          refine G_iald (q := 59) hC dX7_prints_58 rfl (ok_186 g3) ?_
          refine G_if_ne (tgt := 66) (q := 62) hC dX7_prints_59 (by decide) rfl (fun c6 => ?_) (fun c6 => ?_)
          · have hf := (if_neg c6).symm.trans hf
            exact t_X7_prints_b66 hC hk8  hf
          · have hf := (if_pos c6).symm.trans hf
            exact t_X7_prints_b62 hC hk8  hf

theorem t_X7_prints_b8 {fu : Nat}  {r : Int32 × gSt} (hC : gCx p s m args meth c cX7_prints 8 RX7 (some .int) E)  (n : Nat) : ∀ (σ : gSt) (x1 : Int32) (x2 : Int32) (x3 : Int32) (x4 : Int32) (x5 : Int32), f_X7_prints_b8 fu  n σ x1 x2 x3 x4 x5 = some r → G p l e rm_X7_prints s m args below meth c 8 0 0 (MQ below (gQ E w 1 r) args s 0 0 (fun q => eB E ≤ q)) E w σ 8 [(0, .ref (eB E + 583)), (1, .int x1), (2, .int x2), (3, .int x3), (4, .int x4), (5, .int x5)] [] := by
  induction n with
  | zero => intro σ x1 x2 x3 x4 x5  hf; cases hf
  | succ n ih => intro σ x1 x2 x3 x4 x5  hf; exact t_X7_prints_b8_B hC  ih  hf
def f_X7_prints (fu : Nat)  (σ : gSt) (x1 : Int32) (x2 : Int32) : Option (Int32 × gSt) :=
  f_X7_prints_b8 fu  fu σ x1 x2 (0 : Int32) (0 : Int32) (0 : Int32)
set_option maxRecDepth 100000 in
theorem t_X7_prints {fu : Nat}  {r : Int32 × gSt} (hC : gCx p s m args meth c cX7_prints 8 RX7 (some .int) E)  {σ : gSt} {x1 : Int32} {x2 : Int32}  (hf : f_X7_prints fu  σ x1 x2 = some r) : G p l e rm_X7_prints s m args below meth c 8 0 0 (MQ below (gQ E w 1 r) args s 0 0 (fun q => eB E ≤ q)) E w σ 0 [(0, .ref (eB E + 583)), (1, .int x1), (2, .int x2)] [] := by
  unfold f_X7_prints at hf
  refine G_iconst (q := 1) hC dX7_prints_0 rfl ic_0 ?_
  refine G_istore_n (q := 2) (lv' := [(3, .int (0 : Int32)), (0, .ref (eB E + 583)), (1, .int x1), (2, .int x2)]) hC dX7_prints_1 rfl (by decide) rfl ?_
  refine G_iconst (q := 3) hC dX7_prints_2 rfl ic_0 ?_
  refine G_istore (q := 5) (lv' := [(4, .int (0 : Int32)), (3, .int (0 : Int32)), (0, .ref (eB E + 583)), (1, .int x1), (2, .int x2)]) hC dX7_prints_3 rfl (by decide) rfl ?_
  refine G_iconst (q := 6) hC dX7_prints_5 rfl ic_0 ?_
  refine G_istore (q := 8) (lv' := [(5, .int (0 : Int32)), (4, .int (0 : Int32)), (3, .int (0 : Int32)), (0, .ref (eB E + 583)), (1, .int x1), (2, .int x2)]) hC dX7_prints_6 rfl (by decide) rfl ?_
  refine G_lv (lv' := [(0, .ref (eB E + 583)), (1, .int x1), (2, .int x2), (3, .int (0 : Int32)), (4, .int (0 : Int32)), (5, .int (0 : Int32))]) [3, 4, 5, 2, 1, 0] rfl ?_
  exact t_X7_prints_b8 hC  fu _ _ _ _ _ _  hf

theorem m_X7_prints {l : Launch} {fu : Nat} {E : gE} {w : Nat → Int64} {σ : gSt} {x1 : Int32} {x2 : Int32} {r : Int32 × gSt}  (hf : f_X7_prints fu σ x1 x2 = some r) : gM l yX7_prints cX7_prints 8 (some .int) rm_X7_prints 1 E w σ [.ref (eB E + 583), .int x1, .int x2] r :=
  gM_of (by decide +kernel) (Nat.le_of_ble_eq_true rfl) (fun p e s m args below meth c hC => t_X7_prints hC  hf)
def f_X7_print_b32 (fu : Nat)  (σ : gSt) (x1 : Int32) (xs1 : Int32) : Option (Int32 × gSt) :=
  bd (f_X7_goes fu σ xs1) (fun v1 σ1 => if v1 = 0 then (some ((0 : Int32), σ1)) else (bd (f_X7_prints fu (gU σ1 200 0 0 ((σ1 200 0 0) + (1 : Int32))) x1 x1) (fun v3 σ3 => some (v3, σ3))))
set_option maxRecDepth 100000 in
theorem t_X7_print_b32 {fu : Nat}  {r : Int32 × gSt} (hC : gCx p s m args meth c cX7_print 2 RX7 (some .int) E)  {σ : gSt} {x1 : Int32} {xs1 : Int32}  (hf : f_X7_print_b32 fu  σ x1 xs1 = some r) : G p l e rm_X7_print s m args below meth c 2 0 0 (MQ below (gQ E w 1 r) args s 0 0 (fun q => eB E ≤ q)) E w σ 32 [(0, .ref (eB E + 583)), (1, .int x1)] [.int xs1, .ref (eB E + 583)] := by
  unfold f_X7_print_b32 at hf
  obtain ⟨v1, σ1, hm1, hf⟩ := bd_ok hf
  refine cl_RX7_103 (q := 35) hC dX7_print_32 rfl (m_X7_goes hm1) ⟨Nat.le_of_ble_eq_true rfl, Nat.le_of_ble_eq_true rfl⟩ (Nat.le_of_ble_eq_true rfl) ⟨Nat.le_of_ble_eq_true rfl, Nat.le_of_ble_eq_true rfl⟩ ?_
  refine G_if_ne (tgt := 40) (q := 38) hC dX7_print_35 (by decide) rfl (fun c1 => ?_) (fun c1 => ?_)
  · have hf := (if_neg c1).symm.trans hf
    refine G_aload_n (q := 41) hC dX7_print_40 rfl rfl ?_
    refine G_dup (q := 42) hC dX7_print_41 rfl rfl ?_
    refine gf_RX7_107 (q := 45) hC dX7_print_42 rfl ?_
    refine G_iconst (q := 46) hC dX7_print_45 rfl ic_1 ?_
    refine G_iadd (q := 47) hC dX7_print_46 rfl ?_
    refine pf_RX7_107 (q := 50) hC dX7_print_47 rfl ?_
    refine G_aload_n (q := 51) hC dX7_print_50 rfl rfl ?_
    refine G_iload_n (q := 52) hC dX7_print_51 rfl rfl ?_
    refine G_iload_n (q := 53) hC dX7_print_52 rfl rfl ?_
    obtain ⟨v3, σ3, hm3, hf⟩ := bd_ok hf
    refine cl_RX7_176 (q := 56) hC dX7_print_53 rfl (m_X7_prints hm3) ⟨Nat.le_of_ble_eq_true rfl, Nat.le_of_ble_eq_true rfl⟩ (Nat.le_of_ble_eq_true rfl) ⟨Nat.le_of_ble_eq_true rfl, Nat.le_of_ble_eq_true rfl⟩ ?_
    exact G_iret hC hf rfl rfl dX7_print_56
  · have hf := (if_pos c1).symm.trans hf
    refine G_iconst (q := 39) hC dX7_print_38 rfl ic_0 ?_
    exact G_iret hC hf rfl rfl dX7_print_39

def f_X7_print (fu : Nat)  (σ : gSt) (x1 : Int32) : Option (Int32 × gSt) :=
  bd (f_X7_isIn fu σ x1 (0 : Int32) ((σ 197 0 0) - (1 : Int32))) (fun v1 σ1 => if v1 = 0 then (f_X7_print_b32 fu  σ1 x1 (1 : Int32)) else (if x1 = (σ1 200 0 0) then (f_X7_print_b32 fu  σ1 x1 (0 : Int32)) else (f_X7_print_b32 fu  σ1 x1 (2 : Int32))))
set_option maxRecDepth 100000 in
theorem t_X7_print {fu : Nat}  {r : Int32 × gSt} (hC : gCx p s m args meth c cX7_print 2 RX7 (some .int) E)  {σ : gSt} {x1 : Int32}  (hf : f_X7_print fu  σ x1 = some r) : G p l e rm_X7_print s m args below meth c 2 0 0 (MQ below (gQ E w 1 r) args s 0 0 (fun q => eB E ≤ q)) E w σ 0 [(0, .ref (eB E + 583)), (1, .int x1)] [] := by
  unfold f_X7_print at hf
  refine G_aload_n (q := 1) hC dX7_print_0 rfl rfl ?_
  refine G_iload_n (q := 2) hC dX7_print_1 rfl rfl ?_
  refine G_iconst (q := 3) hC dX7_print_2 rfl ic_0 ?_
  refine G_aload_n (q := 4) hC dX7_print_3 rfl rfl ?_
  refine gf_RX7_96 (q := 7) hC dX7_print_4 rfl ?_
  refine G_iconst (q := 8) hC dX7_print_7 rfl ic_1 ?_
  refine G_isub (q := 9) hC dX7_print_8 rfl ?_
  obtain ⟨v1, σ1, hm1, hf⟩ := bd_ok hf
  refine cl_RX7_81 (q := 12) hC dX7_print_9 rfl (m_X7_isIn hm1) ⟨Nat.le_of_ble_eq_true rfl, Nat.le_of_ble_eq_true rfl⟩ (Nat.le_of_ble_eq_true rfl) ⟨Nat.le_of_ble_eq_true rfl, Nat.le_of_ble_eq_true rfl⟩ ?_
  refine G_if_ne (tgt := 19) (q := 15) hC dX7_print_12 (by decide) rfl (fun c1 => ?_) (fun c1 => ?_)
  · have hf := (if_neg c1).symm.trans hf
    refine G_iload_n (q := 20) hC dX7_print_19 rfl rfl ?_
    refine G_aload_n (q := 21) hC dX7_print_20 rfl rfl ?_
    refine gf_RX7_107 (q := 24) hC dX7_print_21 rfl ?_
    refine G_icmp_ne (tgt := 31) (q := 27) hC dX7_print_24 (by decide) rfl (fun c2 => ?_) (fun c2 => ?_)
    · have hf := (if_neg c2).symm.trans hf
      refine G_iconst (q := 32) hC dX7_print_31 rfl ic_2 ?_
      exact t_X7_print_b32 hC   hf
    · have hf := (if_pos c2).symm.trans hf
      refine G_iconst (q := 28) hC dX7_print_27 rfl ic_0 ?_
      refine G_goto (tgt := 32) hC dX7_print_28 (by decide) ?_
      exact t_X7_print_b32 hC   hf
  · have hf := (if_pos c1).symm.trans hf
    refine G_iconst (q := 16) hC dX7_print_15 rfl ic_1 ?_
    refine G_goto (tgt := 32) hC dX7_print_16 (by decide) ?_
    exact t_X7_print_b32 hC   hf

theorem m_X7_print {l : Launch} {fu : Nat} {E : gE} {w : Nat → Int64} {σ : gSt} {x1 : Int32} {r : Int32 × gSt}  (hf : f_X7_print fu σ x1 = some r) : gM l yX7_print cX7_print 2 (some .int) rm_X7_print 1 E w σ [.ref (eB E + 583), .int x1] r :=
  gM_of (by decide +kernel) (Nat.le_of_ble_eq_true rfl) (fun p e s m args below meth c hC => t_X7_print hC  hf)
def f_X7_isOpen_b41 (fu : Nat)  (σ : gSt) (xs0 : Int32) : Option (Int32 × gSt) :=
  gd (b01 xs0) (some (xs0, σ))
set_option maxRecDepth 100000 in
theorem t_X7_isOpen_b41 {fu : Nat}  {r : Int32 × gSt} (hC : gCx p s m args meth c cX7_isOpen 4 RX7 (some .boolean) E)  {σ : gSt} {xs0 : Int32}  (hf : f_X7_isOpen_b41 fu  σ xs0 = some r) : G p l e rm_X7_isOpen s m args below meth c 4 0 0 (MQ below (gQ E w 1 r) args s 0 0 (fun q => eB E ≤ q)) E w σ 41 [] [.int xs0] := by
  unfold f_X7_isOpen_b41 at hf
  obtain ⟨g1, hf⟩ := gd_ok hf
  exact G_iret hC hf rfl (b01_narrow g1) dX7_isOpen_41

def f_X7_isOpen_b40 (fu : Nat)  (σ : gSt)  : Option (Int32 × gSt) :=
  f_X7_isOpen_b41 fu  σ (0 : Int32)
set_option maxRecDepth 100000 in
theorem t_X7_isOpen_b40 {fu : Nat}  {r : Int32 × gSt} (hC : gCx p s m args meth c cX7_isOpen 4 RX7 (some .boolean) E)  {σ : gSt}   (hf : f_X7_isOpen_b40 fu  σ  = some r) : G p l e rm_X7_isOpen s m args below meth c 4 0 0 (MQ below (gQ E w 1 r) args s 0 0 (fun q => eB E ≤ q)) E w σ 40 [] [] := by
  unfold f_X7_isOpen_b40 at hf
  refine G_iconst (q := 41) hC dX7_isOpen_40 rfl ic_0 ?_
  exact t_X7_isOpen_b41 hC   hf

def f_X7_isOpen (fu : Nat)  (σ : gSt) (x1 : Int32) (x2 : Int32) : Option (Int32 × gSt) :=
  bd (f_X7_reference fu σ x1 x2) (fun v1 σ1 => gd (inb (((4 : Int32) * x1) + x2) 96) (if (σ1 192 0 (((4 : Int32) * x1) + x2).toNatClampNeg) = (2 : Int32) then (bd (f_X7_isPromise fu σ1 v1) (fun v3 σ3 => if v3 = 0 then (bd (f_X7_isPrinted fu σ3 v1) (fun v5 σ5 => if v5 = 0 then (f_X7_isOpen_b41 fu  σ5 (1 : Int32)) else (f_X7_isOpen_b40 fu  σ5))) else (f_X7_isOpen_b40 fu  σ3))) else (f_X7_isOpen_b40 fu  σ1)))
set_option maxRecDepth 100000 in
theorem t_X7_isOpen {fu : Nat}  {r : Int32 × gSt} (hC : gCx p s m args meth c cX7_isOpen 4 RX7 (some .boolean) E)  {σ : gSt} {x1 : Int32} {x2 : Int32}  (hf : f_X7_isOpen fu  σ x1 x2 = some r) : G p l e rm_X7_isOpen s m args below meth c 4 0 0 (MQ below (gQ E w 1 r) args s 0 0 (fun q => eB E ≤ q)) E w σ 0 [(0, .ref (eB E + 583)), (1, .int x1), (2, .int x2)] [] := by
  unfold f_X7_isOpen at hf
  refine G_iload_n (q := 1) hC dX7_isOpen_0 rfl rfl ?_
  refine G_iload_n (q := 2) hC dX7_isOpen_1 rfl rfl ?_
  obtain ⟨v1, σ1, hm1, hf⟩ := bd_ok hf
  refine cl_RX7_120 (q := 5) hC dX7_isOpen_2 rfl (m_X7_reference hm1) ⟨Nat.le_of_ble_eq_true rfl, Nat.le_of_ble_eq_true rfl⟩ (Nat.le_of_ble_eq_true rfl) ⟨Nat.le_of_ble_eq_true rfl, Nat.le_of_ble_eq_true rfl⟩ ?_
  refine G_istore_n (q := 6) (lv' := [(3, .int v1), (0, .ref (eB E + 583)), (1, .int x1), (2, .int x2)]) hC dX7_isOpen_5 rfl (by decide) rfl ?_
  refine G_aload_n (q := 7) hC dX7_isOpen_6 rfl rfl ?_
  refine gf_RX7_41 (q := 10) hC dX7_isOpen_7 rfl ?_
  refine G_iconst (q := 11) hC dX7_isOpen_10 rfl ic_4 ?_
  refine G_iload_n (q := 12) hC dX7_isOpen_11 rfl rfl ?_
  refine G_imul (q := 13) hC dX7_isOpen_12 rfl ?_
  refine G_iload_n (q := 14) hC dX7_isOpen_13 rfl rfl ?_
  refine G_iadd (q := 15) hC dX7_isOpen_14 rfl ?_
  obtain ⟨g1, hf⟩ := gd_ok hf
  refine G_iald (q := 16) hC dX7_isOpen_15 rfl (ok_192 g1) ?_
  refine G_iconst (q := 17) hC dX7_isOpen_16 rfl ic_2 ?_
  refine G_icmp_ne (tgt := 40) (q := 20) hC dX7_isOpen_17 (by decide) rfl (fun c1 => ?_) (fun c1 => ?_)
  · have hf := (if_neg c1).symm.trans hf
    refine G_lv (lv' := []) [] rfl ?_
    exact t_X7_isOpen_b40 hC   hf
  · have hf := (if_pos c1).symm.trans hf
    refine G_aload_n (q := 21) hC dX7_isOpen_20 rfl rfl ?_
    refine G_iload_n (q := 22) hC dX7_isOpen_21 rfl rfl ?_
    obtain ⟨v3, σ3, hm3, hf⟩ := bd_ok hf
    refine cl_RX7_170 (q := 25) hC dX7_isOpen_22 rfl (m_X7_isPromise hm3) ⟨Nat.le_of_ble_eq_true rfl, Nat.le_of_ble_eq_true rfl⟩ (Nat.le_of_ble_eq_true rfl) ⟨Nat.le_of_ble_eq_true rfl, Nat.le_of_ble_eq_true rfl⟩ ?_
    refine G_if_ne (tgt := 40) (q := 28) hC dX7_isOpen_25 (by decide) rfl (fun c3 => ?_) (fun c3 => ?_)
    · have hf := (if_neg c3).symm.trans hf
      refine G_lv (lv' := []) [] rfl ?_
      exact t_X7_isOpen_b40 hC   hf
    · have hf := (if_pos c3).symm.trans hf
      refine G_aload_n (q := 29) hC dX7_isOpen_28 rfl rfl ?_
      refine G_iload_n (q := 30) hC dX7_isOpen_29 rfl rfl ?_
      obtain ⟨v5, σ5, hm5, hf⟩ := bd_ok hf
      refine cl_RX7_167 (q := 33) hC dX7_isOpen_30 rfl (m_X7_isPrinted hm5) ⟨Nat.le_of_ble_eq_true rfl, Nat.le_of_ble_eq_true rfl⟩ (Nat.le_of_ble_eq_true rfl) ⟨Nat.le_of_ble_eq_true rfl, Nat.le_of_ble_eq_true rfl⟩ ?_
      refine G_if_ne (tgt := 40) (q := 36) hC dX7_isOpen_33 (by decide) rfl (fun c5 => ?_) (fun c5 => ?_)
      · have hf := (if_neg c5).symm.trans hf
        refine G_lv (lv' := []) [] rfl ?_
        exact t_X7_isOpen_b40 hC   hf
      · have hf := (if_pos c5).symm.trans hf
        refine G_iconst (q := 37) hC dX7_isOpen_36 rfl ic_1 ?_
        refine G_goto (tgt := 41) hC dX7_isOpen_37 (by decide) ?_
        refine G_lv (lv' := []) [] rfl ?_
        exact t_X7_isOpen_b41 hC   hf

theorem m_X7_isOpen {l : Launch} {fu : Nat} {E : gE} {w : Nat → Int64} {σ : gSt} {x1 : Int32} {x2 : Int32} {r : Int32 × gSt}  (hf : f_X7_isOpen fu σ x1 x2 = some r) : gM l yX7_isOpen cX7_isOpen 4 (some .boolean) rm_X7_isOpen 1 E w σ [.ref (eB E + 583), .int x1, .int x2] r :=
  gM_of (by decide +kernel) (Nat.le_of_ble_eq_true rfl) (fun p e s m args below meth c hC => t_X7_isOpen hC  hf)
def f_X7_supplement_b194 (fu : Nat) (k37 : gSt → Int32 → Int32 → Int32 → Option (Int32 × gSt)) (k158 : gSt → Int32 → Int32 → Int32 → Int32 → Option (Int32 × gSt)) (σ : gSt) (x1 : Int32) (x2 : Int32) (x3 : Int32) (x4 : Int32) : Option (Int32 × gSt) :=
  k158 σ x1 x2 x3 (x4 + (1))
set_option maxRecDepth 100000 in
theorem t_X7_supplement_b194 {fu : Nat} {k37 : gSt → Int32 → Int32 → Int32 → Option (Int32 × gSt)} {k158 : gSt → Int32 → Int32 → Int32 → Int32 → Option (Int32 × gSt)} {r : Int32 × gSt} (hC : gCx p s m args meth c cX7_supplement 5 RX7 (some .int) E) (hk37 : ∀ (σ : gSt) (x1 : Int32) (x2 : Int32) (x3 : Int32), k37 σ x1 x2 x3 = some r → G p l e rm_X7_supplement s m args below meth c 5 0 0 (MQ below (gQ E w 1 r) args s 0 0 (fun q => eB E ≤ q)) E w σ 37 [(0, .ref (eB E + 583)), (1, .int x1), (2, .int x2), (3, .int x3)] []) (hk158 : ∀ (σ : gSt) (x1 : Int32) (x2 : Int32) (x3 : Int32) (x4 : Int32), k158 σ x1 x2 x3 x4 = some r → G p l e rm_X7_supplement s m args below meth c 5 0 0 (MQ below (gQ E w 1 r) args s 0 0 (fun q => eB E ≤ q)) E w σ 158 [(0, .ref (eB E + 583)), (1, .int x1), (2, .int x2), (3, .int x3), (4, .int x4)] []) {σ : gSt} {x1 : Int32} {x2 : Int32} {x3 : Int32} {x4 : Int32}  (hf : f_X7_supplement_b194 fu k37 k158 σ x1 x2 x3 x4 = some r) : G p l e rm_X7_supplement s m args below meth c 5 0 0 (MQ below (gQ E w 1 r) args s 0 0 (fun q => eB E ≤ q)) E w σ 194 [(0, .ref (eB E + 583)), (1, .int x1), (2, .int x2), (3, .int x3), (4, .int x4)] [] := by
  unfold f_X7_supplement_b194 at hf
  refine G_iinc (q := 197) (n := 4) (lv' := [(4, .int (x4 + (1))), (0, .ref (eB E + 583)), (1, .int x1), (2, .int x2), (3, .int x3)]) hC dX7_supplement_194 rfl rfl (ii_1 _) (by decide) rfl ?_
  refine G_goto (tgt := 158) hC dX7_supplement_197 (by decide) ?_
  refine G_lv (lv' := [(0, .ref (eB E + 583)), (1, .int x1), (2, .int x2), (3, .int x3), (4, .int (x4 + (1)))]) [1, 2, 3, 4, 0] rfl ?_
  exact hk158 _ _ _ _ _  hf

def f_X7_supplement_b158_B (fu : Nat) (k37 : gSt → Int32 → Int32 → Int32 → Option (Int32 × gSt)) (k158 : gSt → Int32 → Int32 → Int32 → Int32 → Option (Int32 × gSt)) (σ : gSt) (x1 : Int32) (x2 : Int32) (x3 : Int32) (x4 : Int32) : Option (Int32 × gSt) :=
  gd (inb x3 24) (if (σ 191 0 x3.toNatClampNeg) ≤ x4 then (k37 σ x1 x2 (x3 + (1))) else (bd (f_X7_isOpen fu σ x3 x4) (fun v2 σ2 => if v2 = 0 then (f_X7_supplement_b194 fu k37 k158 σ2 x1 x2 x3 x4) else (gd (inb (((4 : Int32) * x3) + x4) 96) (f_X7_supplement_b194 fu k37 k158 (gU σ2 192 0 (((4 : Int32) * x3) + x4).toNatClampNeg (4 : Int32)) x1 (x2 + (1)) x3 x4)))))
def f_X7_supplement_b158 (fu : Nat) (k37 : gSt → Int32 → Int32 → Int32 → Option (Int32 × gSt)) : Nat → gSt → Int32 → Int32 → Int32 → Int32 → Option (Int32 × gSt)
  | 0 => fun _ _ _ _ _ => none
  | n + 1 => f_X7_supplement_b158_B fu k37 (f_X7_supplement_b158 fu k37 n)
set_option maxRecDepth 100000 in
theorem t_X7_supplement_b158_B {fu : Nat} {k37 : gSt → Int32 → Int32 → Int32 → Option (Int32 × gSt)} {k158 : gSt → Int32 → Int32 → Int32 → Int32 → Option (Int32 × gSt)} {r : Int32 × gSt} (hC : gCx p s m args meth c cX7_supplement 5 RX7 (some .int) E) (hk37 : ∀ (σ : gSt) (x1 : Int32) (x2 : Int32) (x3 : Int32), k37 σ x1 x2 x3 = some r → G p l e rm_X7_supplement s m args below meth c 5 0 0 (MQ below (gQ E w 1 r) args s 0 0 (fun q => eB E ≤ q)) E w σ 37 [(0, .ref (eB E + 583)), (1, .int x1), (2, .int x2), (3, .int x3)] []) (hk158 : ∀ (σ : gSt) (x1 : Int32) (x2 : Int32) (x3 : Int32) (x4 : Int32), k158 σ x1 x2 x3 x4 = some r → G p l e rm_X7_supplement s m args below meth c 5 0 0 (MQ below (gQ E w 1 r) args s 0 0 (fun q => eB E ≤ q)) E w σ 158 [(0, .ref (eB E + 583)), (1, .int x1), (2, .int x2), (3, .int x3), (4, .int x4)] []) {σ : gSt} {x1 : Int32} {x2 : Int32} {x3 : Int32} {x4 : Int32}  (hf : f_X7_supplement_b158_B fu k37 k158 σ x1 x2 x3 x4 = some r) : G p l e rm_X7_supplement s m args below meth c 5 0 0 (MQ below (gQ E w 1 r) args s 0 0 (fun q => eB E ≤ q)) E w σ 158 [(0, .ref (eB E + 583)), (1, .int x1), (2, .int x2), (3, .int x3), (4, .int x4)] [] := by
  unfold f_X7_supplement_b158_B at hf
  refine G_iload (q := 160) hC dX7_supplement_158 rfl rfl ?_
  refine G_aload_n (q := 161) hC dX7_supplement_160 rfl rfl ?_
  refine gf_RX7_38 (q := 164) hC dX7_supplement_161 rfl ?_
  refine G_iload_n (q := 165) hC dX7_supplement_164 rfl rfl ?_
  obtain ⟨g1, hf⟩ := gd_ok hf
  refine G_iald (q := 166) hC dX7_supplement_165 rfl (ok_191 g1) ?_
  refine G_icmp_ge (tgt := 200) (q := 169) hC dX7_supplement_166 (by decide) rfl (fun c0 => ?_) (fun c0 => ?_)
  · have hf := (if_pos c0).symm.trans hf
    refine G_iinc (q := 203) (n := 3) (lv' := [(3, .int (x3 + (1))), (0, .ref (eB E + 583)), (1, .int x1), (2, .int x2), (4, .int x4)]) hC dX7_supplement_200 rfl rfl (ii_1 _) (by decide) rfl ?_
    refine G_goto (tgt := 37) hC dX7_supplement_203 (by decide) ?_
    refine G_lv (lv' := [(0, .ref (eB E + 583)), (1, .int x1), (2, .int x2), (3, .int (x3 + (1)))]) [1, 2, 3, 0] rfl ?_
    exact hk37 _ _ _ _  hf
  · have hf := (if_neg c0).symm.trans hf
    refine G_aload_n (q := 170) hC dX7_supplement_169 rfl rfl ?_
    refine G_iload_n (q := 171) hC dX7_supplement_170 rfl rfl ?_
    refine G_iload (q := 173) hC dX7_supplement_171 rfl rfl ?_
    obtain ⟨v2, σ2, hm2, hf⟩ := bd_ok hf
    refine cl_RX7_179 (q := 176) hC dX7_supplement_173 rfl (m_X7_isOpen hm2) ⟨Nat.le_of_ble_eq_true rfl, Nat.le_of_ble_eq_true rfl⟩ (Nat.le_of_ble_eq_true rfl) ⟨Nat.le_of_ble_eq_true rfl, Nat.le_of_ble_eq_true rfl⟩ ?_
    refine G_if_eq (tgt := 194) (q := 179) hC dX7_supplement_176 (by decide) rfl (fun c2 => ?_) (fun c2 => ?_)
    · have hf := (if_pos c2).symm.trans hf
      exact t_X7_supplement_b194 hC hk37 hk158  hf
    · have hf := (if_neg c2).symm.trans hf
      refine G_aload_n (q := 180) hC dX7_supplement_179 rfl rfl ?_
      refine gf_RX7_41 (q := 183) hC dX7_supplement_180 rfl ?_
      refine G_iconst (q := 184) hC dX7_supplement_183 rfl ic_4 ?_
      refine G_iload_n (q := 185) hC dX7_supplement_184 rfl rfl ?_
      refine G_imul (q := 186) hC dX7_supplement_185 rfl ?_
      refine G_iload (q := 188) hC dX7_supplement_186 rfl rfl ?_
      refine G_iadd (q := 189) hC dX7_supplement_188 rfl ?_
      refine G_iconst (q := 190) hC dX7_supplement_189 rfl ic_4 ?_
      obtain ⟨g2, hf⟩ := gd_ok hf
      refine G_iast (q := 191) hC dX7_supplement_190 rfl (ok_192 g2) ?_
      refine G_iinc (q := 194) (n := 2) (lv' := [(2, .int (x2 + (1))), (0, .ref (eB E + 583)), (1, .int x1), (3, .int x3), (4, .int x4)]) hC dX7_supplement_191 rfl rfl (ii_1 _) (by decide) rfl ?_
      refine G_lv (lv' := [(0, .ref (eB E + 583)), (1, .int x1), (2, .int (x2 + (1))), (3, .int x3), (4, .int x4)]) [1, 2, 0, 3, 4] rfl ?_
      exact t_X7_supplement_b194 hC hk37 hk158  hf

theorem t_X7_supplement_b158 {fu : Nat} {k37 : gSt → Int32 → Int32 → Int32 → Option (Int32 × gSt)} {r : Int32 × gSt} (hC : gCx p s m args meth c cX7_supplement 5 RX7 (some .int) E) (hk37 : ∀ (σ : gSt) (x1 : Int32) (x2 : Int32) (x3 : Int32), k37 σ x1 x2 x3 = some r → G p l e rm_X7_supplement s m args below meth c 5 0 0 (MQ below (gQ E w 1 r) args s 0 0 (fun q => eB E ≤ q)) E w σ 37 [(0, .ref (eB E + 583)), (1, .int x1), (2, .int x2), (3, .int x3)] []) (n : Nat) : ∀ (σ : gSt) (x1 : Int32) (x2 : Int32) (x3 : Int32) (x4 : Int32), f_X7_supplement_b158 fu k37 n σ x1 x2 x3 x4 = some r → G p l e rm_X7_supplement s m args below meth c 5 0 0 (MQ below (gQ E w 1 r) args s 0 0 (fun q => eB E ≤ q)) E w σ 158 [(0, .ref (eB E + 583)), (1, .int x1), (2, .int x2), (3, .int x3), (4, .int x4)] [] := by
  induction n with
  | zero => intro σ x1 x2 x3 x4  hf; cases hf
  | succ n ih => intro σ x1 x2 x3 x4  hf; exact t_X7_supplement_b158_B hC hk37 ih  hf
def f_X7_supplement_b155 (fu : Nat) (k37 : gSt → Int32 → Int32 → Int32 → Option (Int32 × gSt)) (σ : gSt) (x1 : Int32) (x2 : Int32) (x3 : Int32) : Option (Int32 × gSt) :=
  f_X7_supplement_b158 fu k37 fu σ x1 x2 x3 (0 : Int32)
set_option maxRecDepth 100000 in
theorem t_X7_supplement_b155 {fu : Nat} {k37 : gSt → Int32 → Int32 → Int32 → Option (Int32 × gSt)} {r : Int32 × gSt} (hC : gCx p s m args meth c cX7_supplement 5 RX7 (some .int) E) (hk37 : ∀ (σ : gSt) (x1 : Int32) (x2 : Int32) (x3 : Int32), k37 σ x1 x2 x3 = some r → G p l e rm_X7_supplement s m args below meth c 5 0 0 (MQ below (gQ E w 1 r) args s 0 0 (fun q => eB E ≤ q)) E w σ 37 [(0, .ref (eB E + 583)), (1, .int x1), (2, .int x2), (3, .int x3)] []) {σ : gSt} {x1 : Int32} {x2 : Int32} {x3 : Int32}  (hf : f_X7_supplement_b155 fu k37 σ x1 x2 x3 = some r) : G p l e rm_X7_supplement s m args below meth c 5 0 0 (MQ below (gQ E w 1 r) args s 0 0 (fun q => eB E ≤ q)) E w σ 155 [(0, .ref (eB E + 583)), (1, .int x1), (2, .int x2), (3, .int x3)] [] := by
  unfold f_X7_supplement_b155 at hf
  refine G_iconst (q := 156) hC dX7_supplement_155 rfl ic_0 ?_
  refine G_istore (q := 158) (lv' := [(4, .int (0 : Int32)), (0, .ref (eB E + 583)), (1, .int x1), (2, .int x2), (3, .int x3)]) hC dX7_supplement_156 rfl (by decide) rfl ?_
  refine G_lv (lv' := [(0, .ref (eB E + 583)), (1, .int x1), (2, .int x2), (3, .int x3), (4, .int (0 : Int32))]) [1, 2, 3, 4, 0] rfl ?_
  exact t_X7_supplement_b158 hC hk37 fu _ _ _ _ _  hf

def f_X7_supplement_b149 (fu : Nat) (k37 : gSt → Int32 → Int32 → Int32 → Option (Int32 × gSt)) (k48 : gSt → Int32 → Int32 → Int32 → Int32 → Option (Int32 × gSt)) (σ : gSt) (x1 : Int32) (x2 : Int32) (x3 : Int32) (x4 : Int32) : Option (Int32 × gSt) :=
  k48 σ x1 x2 x3 (x4 + (1))
set_option maxRecDepth 100000 in
theorem t_X7_supplement_b149 {fu : Nat} {k37 : gSt → Int32 → Int32 → Int32 → Option (Int32 × gSt)} {k48 : gSt → Int32 → Int32 → Int32 → Int32 → Option (Int32 × gSt)} {r : Int32 × gSt} (hC : gCx p s m args meth c cX7_supplement 5 RX7 (some .int) E) (hk37 : ∀ (σ : gSt) (x1 : Int32) (x2 : Int32) (x3 : Int32), k37 σ x1 x2 x3 = some r → G p l e rm_X7_supplement s m args below meth c 5 0 0 (MQ below (gQ E w 1 r) args s 0 0 (fun q => eB E ≤ q)) E w σ 37 [(0, .ref (eB E + 583)), (1, .int x1), (2, .int x2), (3, .int x3)] []) (hk48 : ∀ (σ : gSt) (x1 : Int32) (x2 : Int32) (x3 : Int32) (x4 : Int32), k48 σ x1 x2 x3 x4 = some r → G p l e rm_X7_supplement s m args below meth c 5 0 0 (MQ below (gQ E w 1 r) args s 0 0 (fun q => eB E ≤ q)) E w σ 48 [(0, .ref (eB E + 583)), (1, .int x1), (2, .int x2), (3, .int x3), (4, .int x4)] []) {σ : gSt} {x1 : Int32} {x2 : Int32} {x3 : Int32} {x4 : Int32}  (hf : f_X7_supplement_b149 fu k37 k48 σ x1 x2 x3 x4 = some r) : G p l e rm_X7_supplement s m args below meth c 5 0 0 (MQ below (gQ E w 1 r) args s 0 0 (fun q => eB E ≤ q)) E w σ 149 [(0, .ref (eB E + 583)), (1, .int x1), (2, .int x2), (3, .int x3), (4, .int x4)] [] := by
  unfold f_X7_supplement_b149 at hf
  refine G_iinc (q := 152) (n := 4) (lv' := [(4, .int (x4 + (1))), (0, .ref (eB E + 583)), (1, .int x1), (2, .int x2), (3, .int x3)]) hC dX7_supplement_149 rfl rfl (ii_1 _) (by decide) rfl ?_
  refine G_goto (tgt := 48) hC dX7_supplement_152 (by decide) ?_
  refine G_lv (lv' := [(0, .ref (eB E + 583)), (1, .int x1), (2, .int x2), (3, .int x3), (4, .int (x4 + (1)))]) [1, 2, 3, 4, 0] rfl ?_
  exact hk48 _ _ _ _ _  hf

def f_X7_supplement_b48_B (fu : Nat) (k37 : gSt → Int32 → Int32 → Int32 → Option (Int32 × gSt)) (k48 : gSt → Int32 → Int32 → Int32 → Int32 → Option (Int32 × gSt)) (σ : gSt) (x1 : Int32) (x2 : Int32) (x3 : Int32) (x4 : Int32) : Option (Int32 × gSt) :=
  if (8 : Int32) ≤ x4 then (f_X7_supplement_b155 fu k37 σ x1 x2 x3) else (gd (inb x3 24) (if (σ 186 0 x3.toNatClampNeg) = (3 : Int32) then (gd (inb (((8 : Int32) * x3) + x4) 192) (if (σ 193 0 (((8 : Int32) * x3) + x4).toNatClampNeg) = 0 then (f_X7_supplement_b149 fu k37 k48 σ x1 x2 x3 x4) else (gd (inb (((8 : Int32) * x3) + x4) 192) (gd (inb x4 8) (if (σ 194 0 (((8 : Int32) * x3) + x4).toNatClampNeg) = (σ 196 0 x4.toNatClampNeg) then (f_X7_supplement_b149 fu k37 k48 σ x1 x2 x3 x4) else (gd (inb x4 8) (gd (inb (((8 : Int32) * x3) + x4) 192) (gd (inb x3 24) (if ((gU σ 194 0 (((8 : Int32) * x3) + x4).toNatClampNeg (σ 196 0 x4.toNatClampNeg)) 187 0 x3.toNatClampNeg) = (-1 : Int32) then (f_X7_supplement_b149 fu k37 k48 (gU σ 194 0 (((8 : Int32) * x3) + x4).toNatClampNeg (σ 196 0 x4.toNatClampNeg)) x1 (x2 + (1)) x3 x4) else (gd (inb x3 24) (gd (inb ((gU σ 194 0 (((8 : Int32) * x3) + x4).toNatClampNeg (σ 196 0 x4.toNatClampNeg)) 187 0 x3.toNatClampNeg) 6) (gd (inb ((gU σ 194 0 (((8 : Int32) * x3) + x4).toNatClampNeg (σ 196 0 x4.toNatClampNeg)) 187 0 x3.toNatClampNeg) 6) (f_X7_supplement_b149 fu k37 k48 (gU (gU σ 194 0 (((8 : Int32) * x3) + x4).toNatClampNeg (σ 196 0 x4.toNatClampNeg)) 205 0 ((gU σ 194 0 (((8 : Int32) * x3) + x4).toNatClampNeg (σ 196 0 x4.toNatClampNeg)) 187 0 x3.toNatClampNeg).toNatClampNeg (((gU σ 194 0 (((8 : Int32) * x3) + x4).toNatClampNeg (σ 196 0 x4.toNatClampNeg)) 205 0 ((gU σ 194 0 (((8 : Int32) * x3) + x4).toNatClampNeg (σ 196 0 x4.toNatClampNeg)) 187 0 x3.toNatClampNeg).toNatClampNeg) + (1 : Int32))) x1 (x2 + (1)) x3 x4))))))))))))) else (f_X7_supplement_b155 fu k37 σ x1 x2 x3)))
def f_X7_supplement_b48 (fu : Nat) (k37 : gSt → Int32 → Int32 → Int32 → Option (Int32 × gSt)) : Nat → gSt → Int32 → Int32 → Int32 → Int32 → Option (Int32 × gSt)
  | 0 => fun _ _ _ _ _ => none
  | n + 1 => f_X7_supplement_b48_B fu k37 (f_X7_supplement_b48 fu k37 n)
set_option maxRecDepth 100000 in
theorem t_X7_supplement_b48_B {fu : Nat} {k37 : gSt → Int32 → Int32 → Int32 → Option (Int32 × gSt)} {k48 : gSt → Int32 → Int32 → Int32 → Int32 → Option (Int32 × gSt)} {r : Int32 × gSt} (hC : gCx p s m args meth c cX7_supplement 5 RX7 (some .int) E) (hk37 : ∀ (σ : gSt) (x1 : Int32) (x2 : Int32) (x3 : Int32), k37 σ x1 x2 x3 = some r → G p l e rm_X7_supplement s m args below meth c 5 0 0 (MQ below (gQ E w 1 r) args s 0 0 (fun q => eB E ≤ q)) E w σ 37 [(0, .ref (eB E + 583)), (1, .int x1), (2, .int x2), (3, .int x3)] []) (hk48 : ∀ (σ : gSt) (x1 : Int32) (x2 : Int32) (x3 : Int32) (x4 : Int32), k48 σ x1 x2 x3 x4 = some r → G p l e rm_X7_supplement s m args below meth c 5 0 0 (MQ below (gQ E w 1 r) args s 0 0 (fun q => eB E ≤ q)) E w σ 48 [(0, .ref (eB E + 583)), (1, .int x1), (2, .int x2), (3, .int x3), (4, .int x4)] []) {σ : gSt} {x1 : Int32} {x2 : Int32} {x3 : Int32} {x4 : Int32}  (hf : f_X7_supplement_b48_B fu k37 k48 σ x1 x2 x3 x4 = some r) : G p l e rm_X7_supplement s m args below meth c 5 0 0 (MQ below (gQ E w 1 r) args s 0 0 (fun q => eB E ≤ q)) E w σ 48 [(0, .ref (eB E + 583)), (1, .int x1), (2, .int x2), (3, .int x3), (4, .int x4)] [] := by
  unfold f_X7_supplement_b48_B at hf
  refine G_iload (q := 50) hC dX7_supplement_48 rfl rfl ?_
  refine G_bipush (q := 52) hC dX7_supplement_50 rfl bp_8 ?_
  refine G_icmp_ge (tgt := 155) (q := 55) hC dX7_supplement_52 (by decide) rfl (fun c0 => ?_) (fun c0 => ?_)
  · have hf := (if_pos c0).symm.trans hf
    refine G_lv (lv' := [(0, .ref (eB E + 583)), (1, .int x1), (2, .int x2), (3, .int x3)]) [0, 1, 2, 3] rfl ?_
    exact t_X7_supplement_b155 hC hk37  hf
  · have hf := (if_neg c0).symm.trans hf
    refine G_aload_n (q := 56) hC dX7_supplement_55 rfl rfl ?_
    refine gf_RX7_22 (q := 59) hC dX7_supplement_56 rfl ?_
    refine G_iload_n (q := 60) hC dX7_supplement_59 rfl rfl ?_
    obtain ⟨g1, hf⟩ := gd_ok hf
    refine G_iald (q := 61) hC dX7_supplement_60 rfl (ok_186 g1) ?_
    refine G_iconst (q := 62) hC dX7_supplement_61 rfl ic_3 ?_
    refine G_icmp_ne (tgt := 155) (q := 65) hC dX7_supplement_62 (by decide) rfl (fun c1 => ?_) (fun c1 => ?_)
    · have hf := (if_neg c1).symm.trans hf
      refine G_lv (lv' := [(0, .ref (eB E + 583)), (1, .int x1), (2, .int x2), (3, .int x3)]) [0, 1, 2, 3] rfl ?_
      exact t_X7_supplement_b155 hC hk37  hf
    · have hf := (if_pos c1).symm.trans hf
      refine G_aload_n (q := 66) hC dX7_supplement_65 rfl rfl ?_
      refine gf_RX7_44 (q := 69) hC dX7_supplement_66 rfl ?_
      refine G_bipush (q := 71) hC dX7_supplement_69 rfl bp_8 ?_
      refine G_iload_n (q := 72) hC dX7_supplement_71 rfl rfl ?_
      refine G_imul (q := 73) hC dX7_supplement_72 rfl ?_
      refine G_iload (q := 75) hC dX7_supplement_73 rfl rfl ?_
      refine G_iadd (q := 76) hC dX7_supplement_75 rfl ?_
      obtain ⟨g2, hf⟩ := gd_ok hf
      refine G_zald (q := 77) hC dX7_supplement_76 rfl (ok_193 g2) ?_
      refine G_if_eq (tgt := 149) (q := 80) hC dX7_supplement_77 (by decide) rfl (fun c2 => ?_) (fun c2 => ?_)
      · have hf := (if_pos c2).symm.trans hf
        exact t_X7_supplement_b149 hC hk37 hk48  hf
      · have hf := (if_neg c2).symm.trans hf
        refine G_aload_n (q := 81) hC dX7_supplement_80 rfl rfl ?_
        refine gf_RX7_47 (q := 84) hC dX7_supplement_81 rfl ?_
        refine G_bipush (q := 86) hC dX7_supplement_84 rfl bp_8 ?_
        refine G_iload_n (q := 87) hC dX7_supplement_86 rfl rfl ?_
        refine G_imul (q := 88) hC dX7_supplement_87 rfl ?_
        refine G_iload (q := 90) hC dX7_supplement_88 rfl rfl ?_
        refine G_iadd (q := 91) hC dX7_supplement_90 rfl ?_
        obtain ⟨g3, hf⟩ := gd_ok hf
        refine G_iald (q := 92) hC dX7_supplement_91 rfl (ok_194 g3) ?_
        refine G_aload_n (q := 93) hC dX7_supplement_92 rfl rfl ?_
        refine gf_RX7_53 (q := 96) hC dX7_supplement_93 rfl ?_
        refine G_iload (q := 98) hC dX7_supplement_96 rfl rfl ?_
        obtain ⟨g4, hf⟩ := gd_ok hf
        refine G_iald (q := 99) hC dX7_supplement_98 rfl (ok_196 g4) ?_
        refine G_icmp_eq (tgt := 149) (q := 102) hC dX7_supplement_99 (by decide) rfl (fun c3 => ?_) (fun c3 => ?_)
        · have hf := (if_pos c3).symm.trans hf
          exact t_X7_supplement_b149 hC hk37 hk48  hf
        · have hf := (if_neg c3).symm.trans hf
          refine G_aload_n (q := 103) hC dX7_supplement_102 rfl rfl ?_
          refine gf_RX7_47 (q := 106) hC dX7_supplement_103 rfl ?_
          refine G_bipush (q := 108) hC dX7_supplement_106 rfl bp_8 ?_
          refine G_iload_n (q := 109) hC dX7_supplement_108 rfl rfl ?_
          refine G_imul (q := 110) hC dX7_supplement_109 rfl ?_
          refine G_iload (q := 112) hC dX7_supplement_110 rfl rfl ?_
          refine G_iadd (q := 113) hC dX7_supplement_112 rfl ?_
          refine G_aload_n (q := 114) hC dX7_supplement_113 rfl rfl ?_
          refine gf_RX7_53 (q := 117) hC dX7_supplement_114 rfl ?_
          refine G_iload (q := 119) hC dX7_supplement_117 rfl rfl ?_
          obtain ⟨g5, hf⟩ := gd_ok hf
          refine G_iald (q := 120) hC dX7_supplement_119 rfl (ok_196 g5) ?_
          obtain ⟨g6, hf⟩ := gd_ok hf
          refine G_iast (q := 121) hC dX7_supplement_120 rfl (ok_194 g6) ?_
          refine G_iinc (q := 124) (n := 2) (lv' := [(2, .int (x2 + (1))), (0, .ref (eB E + 583)), (1, .int x1), (3, .int x3), (4, .int x4)]) hC dX7_supplement_121 rfl rfl (ii_1 _) (by decide) rfl ?_
          refine G_aload_n (q := 125) hC dX7_supplement_124 rfl rfl ?_
          refine gf_RX7_25 (q := 128) hC dX7_supplement_125 rfl ?_
          refine G_iload_n (q := 129) hC dX7_supplement_128 rfl rfl ?_
          obtain ⟨g7, hf⟩ := gd_ok hf
          refine G_iald (q := 130) hC dX7_supplement_129 rfl (ok_187 g7) ?_
          refine G_iconst (q := 131) hC dX7_supplement_130 rfl ic_m1 ?_
          refine G_icmp_eq (tgt := 149) (q := 134) hC dX7_supplement_131 (by decide) rfl (fun c4 => ?_) (fun c4 => ?_)
          · have hf := (if_pos c4).symm.trans hf
            refine G_lv (lv' := [(0, .ref (eB E + 583)), (1, .int x1), (2, .int (x2 + (1))), (3, .int x3), (4, .int x4)]) [1, 2, 0, 3, 4] rfl ?_
            exact t_X7_supplement_b149 hC hk37 hk48  hf
          · have hf := (if_neg c4).symm.trans hf
            refine G_aload_n (q := 135) hC dX7_supplement_134 rfl rfl ?_
            refine gf_RX7_71 (q := 138) hC dX7_supplement_135 rfl ?_
            refine G_aload_n (q := 139) hC dX7_supplement_138 rfl rfl ?_
            refine gf_RX7_25 (q := 142) hC dX7_supplement_139 rfl ?_
            refine G_iload_n (q := 143) hC dX7_supplement_142 rfl rfl ?_
            obtain ⟨g8, hf⟩ := gd_ok hf
            refine G_iald (q := 144) hC dX7_supplement_143 rfl (ok_187 g8) ?_
            refine G_dup2 (q := 145) hC dX7_supplement_144 rfl rfl rfl ?_
            obtain ⟨g9, hf⟩ := gd_ok hf
            refine G_iald (q := 146) hC dX7_supplement_145 rfl (ok_205 g9) ?_
            refine G_iconst (q := 147) hC dX7_supplement_146 rfl ic_1 ?_
            refine G_iadd (q := 148) hC dX7_supplement_147 rfl ?_
            obtain ⟨g10, hf⟩ := gd_ok hf
            refine G_iast (q := 149) hC dX7_supplement_148 rfl (ok_205 g10) ?_
            refine G_lv (lv' := [(0, .ref (eB E + 583)), (1, .int x1), (2, .int (x2 + (1))), (3, .int x3), (4, .int x4)]) [1, 2, 0, 3, 4] rfl ?_
            exact t_X7_supplement_b149 hC hk37 hk48  hf

theorem t_X7_supplement_b48 {fu : Nat} {k37 : gSt → Int32 → Int32 → Int32 → Option (Int32 × gSt)} {r : Int32 × gSt} (hC : gCx p s m args meth c cX7_supplement 5 RX7 (some .int) E) (hk37 : ∀ (σ : gSt) (x1 : Int32) (x2 : Int32) (x3 : Int32), k37 σ x1 x2 x3 = some r → G p l e rm_X7_supplement s m args below meth c 5 0 0 (MQ below (gQ E w 1 r) args s 0 0 (fun q => eB E ≤ q)) E w σ 37 [(0, .ref (eB E + 583)), (1, .int x1), (2, .int x2), (3, .int x3)] []) (n : Nat) : ∀ (σ : gSt) (x1 : Int32) (x2 : Int32) (x3 : Int32) (x4 : Int32), f_X7_supplement_b48 fu k37 n σ x1 x2 x3 x4 = some r → G p l e rm_X7_supplement s m args below meth c 5 0 0 (MQ below (gQ E w 1 r) args s 0 0 (fun q => eB E ≤ q)) E w σ 48 [(0, .ref (eB E + 583)), (1, .int x1), (2, .int x2), (3, .int x3), (4, .int x4)] [] := by
  induction n with
  | zero => intro σ x1 x2 x3 x4  hf; cases hf
  | succ n ih => intro σ x1 x2 x3 x4  hf; exact t_X7_supplement_b48_B hC hk37 ih  hf
def f_X7_supplement_b37_B (fu : Nat) (k37 : gSt → Int32 → Int32 → Int32 → Option (Int32 × gSt)) (σ : gSt) (x1 : Int32) (x2 : Int32) (x3 : Int32) : Option (Int32 × gSt) :=
  if (σ 183 0 0) ≤ x3 then (some ((((100 : Int32) * x1) + x2), σ)) else (f_X7_supplement_b48 fu k37 fu σ x1 x2 x3 (0 : Int32))
def f_X7_supplement_b37 (fu : Nat)  : Nat → gSt → Int32 → Int32 → Int32 → Option (Int32 × gSt)
  | 0 => fun _ _ _ _ => none
  | n + 1 => f_X7_supplement_b37_B fu  (f_X7_supplement_b37 fu  n)
set_option maxRecDepth 100000 in
theorem t_X7_supplement_b37_B {fu : Nat} {k37 : gSt → Int32 → Int32 → Int32 → Option (Int32 × gSt)} {r : Int32 × gSt} (hC : gCx p s m args meth c cX7_supplement 5 RX7 (some .int) E) (hk37 : ∀ (σ : gSt) (x1 : Int32) (x2 : Int32) (x3 : Int32), k37 σ x1 x2 x3 = some r → G p l e rm_X7_supplement s m args below meth c 5 0 0 (MQ below (gQ E w 1 r) args s 0 0 (fun q => eB E ≤ q)) E w σ 37 [(0, .ref (eB E + 583)), (1, .int x1), (2, .int x2), (3, .int x3)] []) {σ : gSt} {x1 : Int32} {x2 : Int32} {x3 : Int32}  (hf : f_X7_supplement_b37_B fu k37 σ x1 x2 x3 = some r) : G p l e rm_X7_supplement s m args below meth c 5 0 0 (MQ below (gQ E w 1 r) args s 0 0 (fun q => eB E ≤ q)) E w σ 37 [(0, .ref (eB E + 583)), (1, .int x1), (2, .int x2), (3, .int x3)] [] := by
  unfold f_X7_supplement_b37_B at hf
  refine G_iload_n (q := 38) hC dX7_supplement_37 rfl rfl ?_
  refine G_aload_n (q := 39) hC dX7_supplement_38 rfl rfl ?_
  refine gf_RX7_78 (q := 42) hC dX7_supplement_39 rfl ?_
  refine G_icmp_ge (tgt := 206) (q := 45) hC dX7_supplement_42 (by decide) rfl (fun c0 => ?_) (fun c0 => ?_)
  · have hf := (if_pos c0).symm.trans hf
    refine G_bipush (q := 208) hC dX7_supplement_206 rfl bp_100 ?_
    refine G_iload_n (q := 209) hC dX7_supplement_208 rfl rfl ?_
    refine G_imul (q := 210) hC dX7_supplement_209 rfl ?_
    refine G_iload_n (q := 211) hC dX7_supplement_210 rfl rfl ?_
    refine G_iadd (q := 212) hC dX7_supplement_211 rfl ?_
    exact G_iret hC hf rfl rfl dX7_supplement_212
  · have hf := (if_neg c0).symm.trans hf
    refine G_iconst (q := 46) hC dX7_supplement_45 rfl ic_0 ?_
    refine G_istore (q := 48) (lv' := [(4, .int (0 : Int32)), (0, .ref (eB E + 583)), (1, .int x1), (2, .int x2), (3, .int x3)]) hC dX7_supplement_46 rfl (by decide) rfl ?_
    refine G_lv (lv' := [(0, .ref (eB E + 583)), (1, .int x1), (2, .int x2), (3, .int x3), (4, .int (0 : Int32))]) [1, 2, 3, 4, 0] rfl ?_
    exact t_X7_supplement_b48 hC hk37 fu _ _ _ _ _  hf

theorem t_X7_supplement_b37 {fu : Nat}  {r : Int32 × gSt} (hC : gCx p s m args meth c cX7_supplement 5 RX7 (some .int) E)  (n : Nat) : ∀ (σ : gSt) (x1 : Int32) (x2 : Int32) (x3 : Int32), f_X7_supplement_b37 fu  n σ x1 x2 x3 = some r → G p l e rm_X7_supplement s m args below meth c 5 0 0 (MQ below (gQ E w 1 r) args s 0 0 (fun q => eB E ≤ q)) E w σ 37 [(0, .ref (eB E + 583)), (1, .int x1), (2, .int x2), (3, .int x3)] [] := by
  induction n with
  | zero => intro σ x1 x2 x3  hf; cases hf
  | succ n ih => intro σ x1 x2 x3  hf; exact t_X7_supplement_b37_B hC  ih  hf
def f_X7_supplement_b13 (fu : Nat)  (σ : gSt) (xs1 : Int32) : Option (Int32 × gSt) :=
  bd (f_X7_goes fu σ xs1) (fun v1 σ1 => if v1 = 0 then (some ((0 : Int32), σ1)) else (bd (f_X7_prints fu σ1 (0 : Int32) ((σ1 200 0 0) - (1 : Int32))) (fun v3 σ3 => f_X7_supplement_b37 fu  fu σ3 v3 (0 : Int32) (0 : Int32))))
set_option maxRecDepth 100000 in
theorem t_X7_supplement_b13 {fu : Nat}  {r : Int32 × gSt} (hC : gCx p s m args meth c cX7_supplement 5 RX7 (some .int) E)  {σ : gSt} {xs1 : Int32}  (hf : f_X7_supplement_b13 fu  σ xs1 = some r) : G p l e rm_X7_supplement s m args below meth c 5 0 0 (MQ below (gQ E w 1 r) args s 0 0 (fun q => eB E ≤ q)) E w σ 13 [(0, .ref (eB E + 583))] [.int xs1, .ref (eB E + 583)] := by
  unfold f_X7_supplement_b13 at hf
  obtain ⟨v1, σ1, hm1, hf⟩ := bd_ok hf
  refine cl_RX7_103 (q := 16) hC dX7_supplement_13 rfl (m_X7_goes hm1) ⟨Nat.le_of_ble_eq_true rfl, Nat.le_of_ble_eq_true rfl⟩ (Nat.le_of_ble_eq_true rfl) ⟨Nat.le_of_ble_eq_true rfl, Nat.le_of_ble_eq_true rfl⟩ ?_
  refine G_if_ne (tgt := 21) (q := 19) hC dX7_supplement_16 (by decide) rfl (fun c1 => ?_) (fun c1 => ?_)
  · have hf := (if_neg c1).symm.trans hf
    refine G_aload_n (q := 22) hC dX7_supplement_21 rfl rfl ?_
    refine G_iconst (q := 23) hC dX7_supplement_22 rfl ic_0 ?_
    refine G_aload_n (q := 24) hC dX7_supplement_23 rfl rfl ?_
    refine gf_RX7_107 (q := 27) hC dX7_supplement_24 rfl ?_
    refine G_iconst (q := 28) hC dX7_supplement_27 rfl ic_1 ?_
    refine G_isub (q := 29) hC dX7_supplement_28 rfl ?_
    obtain ⟨v3, σ3, hm3, hf⟩ := bd_ok hf
    refine cl_RX7_176 (q := 32) hC dX7_supplement_29 rfl (m_X7_prints hm3) ⟨Nat.le_of_ble_eq_true rfl, Nat.le_of_ble_eq_true rfl⟩ (Nat.le_of_ble_eq_true rfl) ⟨Nat.le_of_ble_eq_true rfl, Nat.le_of_ble_eq_true rfl⟩ ?_
    refine G_istore_n (q := 33) (lv' := [(1, .int v3), (0, .ref (eB E + 583))]) hC dX7_supplement_32 rfl (by decide) rfl ?_
    refine G_iconst (q := 34) hC dX7_supplement_33 rfl ic_0 ?_
    refine G_istore_n (q := 35) (lv' := [(2, .int (0 : Int32)), (1, .int v3), (0, .ref (eB E + 583))]) hC dX7_supplement_34 rfl (by decide) rfl ?_
    refine G_iconst (q := 36) hC dX7_supplement_35 rfl ic_0 ?_
    refine G_istore_n (q := 37) (lv' := [(3, .int (0 : Int32)), (2, .int (0 : Int32)), (1, .int v3), (0, .ref (eB E + 583))]) hC dX7_supplement_36 rfl (by decide) rfl ?_
    refine G_lv (lv' := [(0, .ref (eB E + 583)), (1, .int v3), (2, .int (0 : Int32)), (3, .int (0 : Int32))]) [3, 2, 1, 0] rfl ?_
    exact t_X7_supplement_b37 hC  fu _ _ _ _  hf
  · have hf := (if_pos c1).symm.trans hf
    refine G_iconst (q := 20) hC dX7_supplement_19 rfl ic_0 ?_
    exact G_iret hC hf rfl rfl dX7_supplement_20

def f_X7_supplement (fu : Nat)  (σ : gSt)  : Option (Int32 × gSt) :=
  if (σ 200 0 0) = 0 then (f_X7_supplement_b13 fu  σ (1 : Int32)) else (f_X7_supplement_b13 fu  σ (0 : Int32))
set_option maxRecDepth 100000 in
theorem t_X7_supplement {fu : Nat}  {r : Int32 × gSt} (hC : gCx p s m args meth c cX7_supplement 5 RX7 (some .int) E)  {σ : gSt}   (hf : f_X7_supplement fu  σ  = some r) : G p l e rm_X7_supplement s m args below meth c 5 0 0 (MQ below (gQ E w 1 r) args s 0 0 (fun q => eB E ≤ q)) E w σ 0 [(0, .ref (eB E + 583))] [] := by
  unfold f_X7_supplement at hf
  refine G_aload_n (q := 1) hC dX7_supplement_0 rfl rfl ?_
  refine G_aload_n (q := 2) hC dX7_supplement_1 rfl rfl ?_
  refine gf_RX7_107 (q := 5) hC dX7_supplement_2 rfl ?_
  refine G_if_ne (tgt := 12) (q := 8) hC dX7_supplement_5 (by decide) rfl (fun c0 => ?_) (fun c0 => ?_)
  · have hf := (if_neg c0).symm.trans hf
    refine G_iconst (q := 13) hC dX7_supplement_12 rfl ic_0 ?_
    exact t_X7_supplement_b13 hC   hf
  · have hf := (if_pos c0).symm.trans hf
    refine G_iconst (q := 9) hC dX7_supplement_8 rfl ic_1 ?_
    refine G_goto (tgt := 13) hC dX7_supplement_9 (by decide) ?_
    exact t_X7_supplement_b13 hC   hf

theorem m_X7_supplement {l : Launch} {fu : Nat} {E : gE} {w : Nat → Int64} {σ : gSt}  {r : Int32 × gSt}  (hf : f_X7_supplement fu σ  = some r) : gM l yX7_supplement cX7_supplement 5 (some .int) rm_X7_supplement 1 E w σ [.ref (eB E + 583)] r :=
  gM_of (by decide +kernel) (Nat.le_of_ble_eq_true rfl) (fun p e s m args below meth c hC => t_X7_supplement hC  hf)
def f_X7_month (fu : Nat)  (σ : gSt)  : Option (Int32 × gSt) :=
  some (((gU σ 209 0 0 (0 : Int32)) 207 0 0), (gU σ 209 0 0 (0 : Int32)))
set_option maxRecDepth 100000 in
theorem t_X7_month {fu : Nat}  {r : Int32 × gSt} (hC : gCx p s m args meth c cX7_month 1 RX7 (some .int) E)  {σ : gSt}   (hf : f_X7_month fu  σ  = some r) : G p l e rm_X7_month s m args below meth c 1 0 0 (MQ below (gQ E w 1 r) args s 0 0 (fun q => eB E ≤ q)) E w σ 0 [(0, .ref (eB E + 583))] [] := by
  unfold f_X7_month at hf
  refine G_aload_n (q := 1) hC dX7_month_0 rfl rfl ?_
  refine G_iconst (q := 2) hC dX7_month_1 rfl ic_0 ?_
  refine pf_RX7_74 (q := 5) hC dX7_month_2 rfl ?_
  refine G_aload_n (q := 6) hC dX7_month_5 rfl rfl ?_
  refine gf_RX7_148 (q := 9) hC dX7_month_6 rfl ?_
  exact G_iret hC hf rfl rfl dX7_month_9

theorem m_X7_month {l : Launch} {fu : Nat} {E : gE} {w : Nat → Int64} {σ : gSt}  {r : Int32 × gSt}  (hf : f_X7_month fu σ  = some r) : gM l yX7_month cX7_month 1 (some .int) rm_X7_month 1 E w σ [.ref (eB E + 583)] r :=
  gM_of (by decide +kernel) (Nat.le_of_ble_eq_true rfl) (fun p e s m args below meth c hC => t_X7_month hC  hf)
def f_X7_at_b64 (fu : Nat) (k20 : gSt → Int32 → Int32 → Option (Int32 × gSt)) (k33 : gSt → Int32 → Int32 → Int32 → Int32 → Option (Int32 × gSt)) (σ : gSt) (x1 : Int32) (x2 : Int32) (x4 : Int32) (xs0 : Int32) (xs1 : Int32) : Option (Int32 × gSt) :=
  k33 σ x1 x2 (xs0 + xs1) (x4 + (1))
set_option maxRecDepth 100000 in
theorem t_X7_at_b64 {fu : Nat} {k20 : gSt → Int32 → Int32 → Option (Int32 × gSt)} {k33 : gSt → Int32 → Int32 → Int32 → Int32 → Option (Int32 × gSt)} {r : Int32 × gSt} (hC : gCx p s m args meth c cX7_at 5 RX7 (some .int) E) (hk20 : ∀ (σ : gSt) (x1 : Int32) (x2 : Int32), k20 σ x1 x2 = some r → G p l e rm_X7_at s m args below meth c 5 0 0 (MQ below (gQ E w 1 r) args s 0 0 (fun q => eB E ≤ q)) E w σ 20 [(0, .ref (eB E + 583)), (1, .int x1), (2, .int x2)] []) (hk33 : ∀ (σ : gSt) (x1 : Int32) (x2 : Int32) (x3 : Int32) (x4 : Int32), k33 σ x1 x2 x3 x4 = some r → G p l e rm_X7_at s m args below meth c 5 0 0 (MQ below (gQ E w 1 r) args s 0 0 (fun q => eB E ≤ q)) E w σ 33 [(0, .ref (eB E + 583)), (1, .int x1), (2, .int x2), (3, .int x3), (4, .int x4)] []) {σ : gSt} {x1 : Int32} {x2 : Int32} {x4 : Int32} {xs0 : Int32} {xs1 : Int32}  (hf : f_X7_at_b64 fu k20 k33 σ x1 x2 x4 xs0 xs1 = some r) : G p l e rm_X7_at s m args below meth c 5 0 0 (MQ below (gQ E w 1 r) args s 0 0 (fun q => eB E ≤ q)) E w σ 64 [(0, .ref (eB E + 583)), (1, .int x1), (2, .int x2), (4, .int x4)] [.int xs1, .int xs0] := by
  unfold f_X7_at_b64 at hf
  refine G_iadd (q := 65) hC dX7_at_64 rfl ?_
  refine G_istore_n (q := 66) (lv' := [(3, .int (xs0 + xs1)), (0, .ref (eB E + 583)), (1, .int x1), (2, .int x2), (4, .int x4)]) hC dX7_at_65 rfl (by decide) rfl ?_
  refine G_iinc (q := 69) (n := 4) (lv' := [(4, .int (x4 + (1))), (3, .int (xs0 + xs1)), (0, .ref (eB E + 583)), (1, .int x1), (2, .int x2)]) hC dX7_at_66 rfl rfl (ii_1 _) (by decide) rfl ?_
  refine G_goto (tgt := 33) hC dX7_at_69 (by decide) ?_
  refine G_lv (lv' := [(0, .ref (eB E + 583)), (1, .int x1), (2, .int x2), (3, .int (xs0 + xs1)), (4, .int (x4 + (1)))]) [2, 3, 4, 1, 0] rfl ?_
  exact hk33 _ _ _ _ _  hf

def f_X7_at_b63 (fu : Nat) (k20 : gSt → Int32 → Int32 → Option (Int32 × gSt)) (k33 : gSt → Int32 → Int32 → Int32 → Int32 → Option (Int32 × gSt)) (σ : gSt) (x1 : Int32) (x2 : Int32) (x4 : Int32) (xs0 : Int32) : Option (Int32 × gSt) :=
  f_X7_at_b64 fu k20 k33 σ x1 x2 x4 xs0 (0 : Int32)
set_option maxRecDepth 100000 in
theorem t_X7_at_b63 {fu : Nat} {k20 : gSt → Int32 → Int32 → Option (Int32 × gSt)} {k33 : gSt → Int32 → Int32 → Int32 → Int32 → Option (Int32 × gSt)} {r : Int32 × gSt} (hC : gCx p s m args meth c cX7_at 5 RX7 (some .int) E) (hk20 : ∀ (σ : gSt) (x1 : Int32) (x2 : Int32), k20 σ x1 x2 = some r → G p l e rm_X7_at s m args below meth c 5 0 0 (MQ below (gQ E w 1 r) args s 0 0 (fun q => eB E ≤ q)) E w σ 20 [(0, .ref (eB E + 583)), (1, .int x1), (2, .int x2)] []) (hk33 : ∀ (σ : gSt) (x1 : Int32) (x2 : Int32) (x3 : Int32) (x4 : Int32), k33 σ x1 x2 x3 x4 = some r → G p l e rm_X7_at s m args below meth c 5 0 0 (MQ below (gQ E w 1 r) args s 0 0 (fun q => eB E ≤ q)) E w σ 33 [(0, .ref (eB E + 583)), (1, .int x1), (2, .int x2), (3, .int x3), (4, .int x4)] []) {σ : gSt} {x1 : Int32} {x2 : Int32} {x4 : Int32} {xs0 : Int32}  (hf : f_X7_at_b63 fu k20 k33 σ x1 x2 x4 xs0 = some r) : G p l e rm_X7_at s m args below meth c 5 0 0 (MQ below (gQ E w 1 r) args s 0 0 (fun q => eB E ≤ q)) E w σ 63 [(0, .ref (eB E + 583)), (1, .int x1), (2, .int x2), (4, .int x4)] [.int xs0] := by
  unfold f_X7_at_b63 at hf
  refine G_iconst (q := 64) hC dX7_at_63 rfl ic_0 ?_
  exact t_X7_at_b64 hC hk20 hk33  hf

def f_X7_at_b33_B (fu : Nat) (k20 : gSt → Int32 → Int32 → Option (Int32 × gSt)) (k33 : gSt → Int32 → Int32 → Int32 → Int32 → Option (Int32 × gSt)) (σ : gSt) (x1 : Int32) (x2 : Int32) (x3 : Int32) (x4 : Int32) : Option (Int32 × gSt) :=
  if (σ 183 0 0) ≤ x4 then (if x3 = x1 then (some (x2, σ)) else (k20 σ x1 (x2 + (1)))) else (if x4 = x2 then (f_X7_at_b63 fu k20 k33 σ x1 x2 x4 x3) else (bd (f_X7_isAhead fu σ x4 x2) (fun v4 σ4 => if v4 = 0 then (f_X7_at_b63 fu k20 k33 σ4 x1 x2 x4 x3) else (f_X7_at_b64 fu k20 k33 σ4 x1 x2 x4 x3 (1 : Int32)))))
def f_X7_at_b33 (fu : Nat) (k20 : gSt → Int32 → Int32 → Option (Int32 × gSt)) : Nat → gSt → Int32 → Int32 → Int32 → Int32 → Option (Int32 × gSt)
  | 0 => fun _ _ _ _ _ => none
  | n + 1 => f_X7_at_b33_B fu k20 (f_X7_at_b33 fu k20 n)
set_option maxRecDepth 100000 in
theorem t_X7_at_b33_B {fu : Nat} {k20 : gSt → Int32 → Int32 → Option (Int32 × gSt)} {k33 : gSt → Int32 → Int32 → Int32 → Int32 → Option (Int32 × gSt)} {r : Int32 × gSt} (hC : gCx p s m args meth c cX7_at 5 RX7 (some .int) E) (hk20 : ∀ (σ : gSt) (x1 : Int32) (x2 : Int32), k20 σ x1 x2 = some r → G p l e rm_X7_at s m args below meth c 5 0 0 (MQ below (gQ E w 1 r) args s 0 0 (fun q => eB E ≤ q)) E w σ 20 [(0, .ref (eB E + 583)), (1, .int x1), (2, .int x2)] []) (hk33 : ∀ (σ : gSt) (x1 : Int32) (x2 : Int32) (x3 : Int32) (x4 : Int32), k33 σ x1 x2 x3 x4 = some r → G p l e rm_X7_at s m args below meth c 5 0 0 (MQ below (gQ E w 1 r) args s 0 0 (fun q => eB E ≤ q)) E w σ 33 [(0, .ref (eB E + 583)), (1, .int x1), (2, .int x2), (3, .int x3), (4, .int x4)] []) {σ : gSt} {x1 : Int32} {x2 : Int32} {x3 : Int32} {x4 : Int32}  (hf : f_X7_at_b33_B fu k20 k33 σ x1 x2 x3 x4 = some r) : G p l e rm_X7_at s m args below meth c 5 0 0 (MQ below (gQ E w 1 r) args s 0 0 (fun q => eB E ≤ q)) E w σ 33 [(0, .ref (eB E + 583)), (1, .int x1), (2, .int x2), (3, .int x3), (4, .int x4)] [] := by
  unfold f_X7_at_b33_B at hf
  refine G_iload (q := 35) hC dX7_at_33 rfl rfl ?_
  refine G_aload_n (q := 36) hC dX7_at_35 rfl rfl ?_
  refine gf_RX7_78 (q := 39) hC dX7_at_36 rfl ?_
  refine G_icmp_ge (tgt := 72) (q := 42) hC dX7_at_39 (by decide) rfl (fun c0 => ?_) (fun c0 => ?_)
  · have hf := (if_pos c0).symm.trans hf
    refine G_iload_n (q := 73) hC dX7_at_72 rfl rfl ?_
    refine G_iload_n (q := 74) hC dX7_at_73 rfl rfl ?_
    refine G_icmp_ne (tgt := 79) (q := 77) hC dX7_at_74 (by decide) rfl (fun c1 => ?_) (fun c1 => ?_)
    · have hf := (if_neg c1).symm.trans hf
      refine G_iinc (q := 82) (n := 2) (lv' := [(2, .int (x2 + (1))), (0, .ref (eB E + 583)), (1, .int x1), (3, .int x3), (4, .int x4)]) hC dX7_at_79 rfl rfl (ii_1 _) (by decide) rfl ?_
      refine G_goto (tgt := 20) hC dX7_at_82 (by decide) ?_
      refine G_lv (lv' := [(0, .ref (eB E + 583)), (1, .int x1), (2, .int (x2 + (1)))]) [1, 2, 0] rfl ?_
      exact hk20 _ _ _  hf
    · have hf := (if_pos c1).symm.trans hf
      refine G_iload_n (q := 78) hC dX7_at_77 rfl rfl ?_
      exact G_iret hC hf rfl rfl dX7_at_78
  · have hf := (if_neg c0).symm.trans hf
    refine G_iload_n (q := 43) hC dX7_at_42 rfl rfl ?_
    refine G_iload (q := 45) hC dX7_at_43 rfl rfl ?_
    refine G_iload_n (q := 46) hC dX7_at_45 rfl rfl ?_
    refine G_icmp_eq (tgt := 63) (q := 49) hC dX7_at_46 (by decide) rfl (fun c2 => ?_) (fun c2 => ?_)
    · have hf := (if_pos c2).symm.trans hf
      refine G_lv (lv' := [(0, .ref (eB E + 583)), (1, .int x1), (2, .int x2), (4, .int x4)]) [0, 1, 2, 4] rfl ?_
      exact t_X7_at_b63 hC hk20 hk33  hf
    · have hf := (if_neg c2).symm.trans hf
      refine G_aload_n (q := 50) hC dX7_at_49 rfl rfl ?_
      refine G_iload (q := 52) hC dX7_at_50 rfl rfl ?_
      refine G_iload_n (q := 53) hC dX7_at_52 rfl rfl ?_
      obtain ⟨v4, σ4, hm4, hf⟩ := bd_ok hf
      refine cl_RX7_132 (q := 56) hC dX7_at_53 rfl (m_X7_isAhead hm4) ⟨Nat.le_of_ble_eq_true rfl, Nat.le_of_ble_eq_true rfl⟩ (Nat.le_of_ble_eq_true rfl) ⟨Nat.le_of_ble_eq_true rfl, Nat.le_of_ble_eq_true rfl⟩ ?_
      refine G_if_eq (tgt := 63) (q := 59) hC dX7_at_56 (by decide) rfl (fun c4 => ?_) (fun c4 => ?_)
      · have hf := (if_pos c4).symm.trans hf
        refine G_lv (lv' := [(0, .ref (eB E + 583)), (1, .int x1), (2, .int x2), (4, .int x4)]) [0, 1, 2, 4] rfl ?_
        exact t_X7_at_b63 hC hk20 hk33  hf
      · have hf := (if_neg c4).symm.trans hf
        refine G_iconst (q := 60) hC dX7_at_59 rfl ic_1 ?_
        refine G_goto (tgt := 64) hC dX7_at_60 (by decide) ?_
        refine G_lv (lv' := [(0, .ref (eB E + 583)), (1, .int x1), (2, .int x2), (4, .int x4)]) [0, 1, 2, 4] rfl ?_
        exact t_X7_at_b64 hC hk20 hk33  hf

theorem t_X7_at_b33 {fu : Nat} {k20 : gSt → Int32 → Int32 → Option (Int32 × gSt)} {r : Int32 × gSt} (hC : gCx p s m args meth c cX7_at 5 RX7 (some .int) E) (hk20 : ∀ (σ : gSt) (x1 : Int32) (x2 : Int32), k20 σ x1 x2 = some r → G p l e rm_X7_at s m args below meth c 5 0 0 (MQ below (gQ E w 1 r) args s 0 0 (fun q => eB E ≤ q)) E w σ 20 [(0, .ref (eB E + 583)), (1, .int x1), (2, .int x2)] []) (n : Nat) : ∀ (σ : gSt) (x1 : Int32) (x2 : Int32) (x3 : Int32) (x4 : Int32), f_X7_at_b33 fu k20 n σ x1 x2 x3 x4 = some r → G p l e rm_X7_at s m args below meth c 5 0 0 (MQ below (gQ E w 1 r) args s 0 0 (fun q => eB E ≤ q)) E w σ 33 [(0, .ref (eB E + 583)), (1, .int x1), (2, .int x2), (3, .int x3), (4, .int x4)] [] := by
  induction n with
  | zero => intro σ x1 x2 x3 x4  hf; cases hf
  | succ n ih => intro σ x1 x2 x3 x4  hf; exact t_X7_at_b33_B hC hk20 ih  hf
def f_X7_at_b20_B (fu : Nat) (k20 : gSt → Int32 → Int32 → Option (Int32 × gSt)) (σ : gSt) (x1 : Int32) (x2 : Int32) : Option (Int32 × gSt) :=
  if (σ 183 0 0) ≤ x2 then (some ((-1 : Int32), σ)) else (f_X7_at_b33 fu k20 fu σ x1 x2 (0 : Int32) (0 : Int32))
def f_X7_at_b20 (fu : Nat)  : Nat → gSt → Int32 → Int32 → Option (Int32 × gSt)
  | 0 => fun _ _ _ => none
  | n + 1 => f_X7_at_b20_B fu  (f_X7_at_b20 fu  n)
set_option maxRecDepth 100000 in
theorem t_X7_at_b20_B {fu : Nat} {k20 : gSt → Int32 → Int32 → Option (Int32 × gSt)} {r : Int32 × gSt} (hC : gCx p s m args meth c cX7_at 5 RX7 (some .int) E) (hk20 : ∀ (σ : gSt) (x1 : Int32) (x2 : Int32), k20 σ x1 x2 = some r → G p l e rm_X7_at s m args below meth c 5 0 0 (MQ below (gQ E w 1 r) args s 0 0 (fun q => eB E ≤ q)) E w σ 20 [(0, .ref (eB E + 583)), (1, .int x1), (2, .int x2)] []) {σ : gSt} {x1 : Int32} {x2 : Int32}  (hf : f_X7_at_b20_B fu k20 σ x1 x2 = some r) : G p l e rm_X7_at s m args below meth c 5 0 0 (MQ below (gQ E w 1 r) args s 0 0 (fun q => eB E ≤ q)) E w σ 20 [(0, .ref (eB E + 583)), (1, .int x1), (2, .int x2)] [] := by
  unfold f_X7_at_b20_B at hf
  refine G_iload_n (q := 21) hC dX7_at_20 rfl rfl ?_
  refine G_aload_n (q := 22) hC dX7_at_21 rfl rfl ?_
  refine gf_RX7_78 (q := 25) hC dX7_at_22 rfl ?_
  refine G_icmp_ge (tgt := 85) (q := 28) hC dX7_at_25 (by decide) rfl (fun c0 => ?_) (fun c0 => ?_)
  · have hf := (if_pos c0).symm.trans hf
    refine G_iconst (q := 86) hC dX7_at_85 rfl ic_m1 ?_
    exact G_iret hC hf rfl rfl dX7_at_86
  · have hf := (if_neg c0).symm.trans hf
    refine G_iconst (q := 29) hC dX7_at_28 rfl ic_0 ?_
    refine G_istore_n (q := 30) (lv' := [(3, .int (0 : Int32)), (0, .ref (eB E + 583)), (1, .int x1), (2, .int x2)]) hC dX7_at_29 rfl (by decide) rfl ?_
    refine G_iconst (q := 31) hC dX7_at_30 rfl ic_0 ?_
    refine G_istore (q := 33) (lv' := [(4, .int (0 : Int32)), (3, .int (0 : Int32)), (0, .ref (eB E + 583)), (1, .int x1), (2, .int x2)]) hC dX7_at_31 rfl (by decide) rfl ?_
    refine G_lv (lv' := [(0, .ref (eB E + 583)), (1, .int x1), (2, .int x2), (3, .int (0 : Int32)), (4, .int (0 : Int32))]) [2, 3, 4, 1, 0] rfl ?_
    exact t_X7_at_b33 hC hk20 fu _ _ _ _ _  hf

theorem t_X7_at_b20 {fu : Nat}  {r : Int32 × gSt} (hC : gCx p s m args meth c cX7_at 5 RX7 (some .int) E)  (n : Nat) : ∀ (σ : gSt) (x1 : Int32) (x2 : Int32), f_X7_at_b20 fu  n σ x1 x2 = some r → G p l e rm_X7_at s m args below meth c 5 0 0 (MQ below (gQ E w 1 r) args s 0 0 (fun q => eB E ≤ q)) E w σ 20 [(0, .ref (eB E + 583)), (1, .int x1), (2, .int x2)] [] := by
  induction n with
  | zero => intro σ x1 x2  hf; cases hf
  | succ n ih => intro σ x1 x2  hf; exact t_X7_at_b20_B hC  ih  hf
def f_X7_at_b10 (fu : Nat)  (σ : gSt) (x1 : Int32) (xs1 : Int32) : Option (Int32 × gSt) :=
  bd (f_X7_goes fu σ xs1) (fun v1 σ1 => if v1 = 0 then (some ((0 : Int32), σ1)) else (f_X7_at_b20 fu  fu σ1 x1 (0 : Int32)))
set_option maxRecDepth 100000 in
theorem t_X7_at_b10 {fu : Nat}  {r : Int32 × gSt} (hC : gCx p s m args meth c cX7_at 5 RX7 (some .int) E)  {σ : gSt} {x1 : Int32} {xs1 : Int32}  (hf : f_X7_at_b10 fu  σ x1 xs1 = some r) : G p l e rm_X7_at s m args below meth c 5 0 0 (MQ below (gQ E w 1 r) args s 0 0 (fun q => eB E ≤ q)) E w σ 10 [(0, .ref (eB E + 583)), (1, .int x1)] [.int xs1, .ref (eB E + 583)] := by
  unfold f_X7_at_b10 at hf
  obtain ⟨v1, σ1, hm1, hf⟩ := bd_ok hf
  refine cl_RX7_103 (q := 13) hC dX7_at_10 rfl (m_X7_goes hm1) ⟨Nat.le_of_ble_eq_true rfl, Nat.le_of_ble_eq_true rfl⟩ (Nat.le_of_ble_eq_true rfl) ⟨Nat.le_of_ble_eq_true rfl, Nat.le_of_ble_eq_true rfl⟩ ?_
  refine G_if_ne (tgt := 18) (q := 16) hC dX7_at_13 (by decide) rfl (fun c1 => ?_) (fun c1 => ?_)
  · have hf := (if_neg c1).symm.trans hf
    refine G_iconst (q := 19) hC dX7_at_18 rfl ic_0 ?_
    refine G_istore_n (q := 20) (lv' := [(2, .int (0 : Int32)), (0, .ref (eB E + 583)), (1, .int x1)]) hC dX7_at_19 rfl (by decide) rfl ?_
    refine G_lv (lv' := [(0, .ref (eB E + 583)), (1, .int x1), (2, .int (0 : Int32))]) [1, 2, 0] rfl ?_
    exact t_X7_at_b20 hC  fu _ _ _  hf
  · have hf := (if_pos c1).symm.trans hf
    refine G_iconst (q := 17) hC dX7_at_16 rfl ic_0 ?_
    exact G_iret hC hf rfl rfl dX7_at_17

def f_X7_at (fu : Nat)  (σ : gSt) (x1 : Int32) : Option (Int32 × gSt) :=
  if 0 ≤ x1 then (f_X7_at_b10 fu  σ x1 (0 : Int32)) else (f_X7_at_b10 fu  σ x1 (1 : Int32))
set_option maxRecDepth 100000 in
theorem t_X7_at {fu : Nat}  {r : Int32 × gSt} (hC : gCx p s m args meth c cX7_at 5 RX7 (some .int) E)  {σ : gSt} {x1 : Int32}  (hf : f_X7_at fu  σ x1 = some r) : G p l e rm_X7_at s m args below meth c 5 0 0 (MQ below (gQ E w 1 r) args s 0 0 (fun q => eB E ≤ q)) E w σ 0 [(0, .ref (eB E + 583)), (1, .int x1)] [] := by
  unfold f_X7_at at hf
  refine G_aload_n (q := 1) hC dX7_at_0 rfl rfl ?_
  refine G_iload_n (q := 2) hC dX7_at_1 rfl rfl ?_
  refine G_if_ge (tgt := 9) (q := 5) hC dX7_at_2 (by decide) rfl (fun c0 => ?_) (fun c0 => ?_)
  · have hf := (if_pos c0).symm.trans hf
    refine G_iconst (q := 10) hC dX7_at_9 rfl ic_0 ?_
    exact t_X7_at_b10 hC   hf
  · have hf := (if_neg c0).symm.trans hf
    refine G_iconst (q := 6) hC dX7_at_5 rfl ic_1 ?_
    refine G_goto (tgt := 10) hC dX7_at_6 (by decide) ?_
    exact t_X7_at_b10 hC   hf

theorem m_X7_at {l : Launch} {fu : Nat} {E : gE} {w : Nat → Int64} {σ : gSt} {x1 : Int32} {r : Int32 × gSt}  (hf : f_X7_at fu σ x1 = some r) : gM l yX7_at cX7_at 5 (some .int) rm_X7_at 1 E w σ [.ref (eB E + 583), .int x1] r :=
  gM_of (by decide +kernel) (Nat.le_of_ble_eq_true rfl) (fun p e s m args below meth c hC => t_X7_at hC  hf)
def f_X7_about_b94 (fu : Nat)  (σ : gSt) (xs0 : Int32) : Option (Int32 × gSt) :=
  some (xs0, σ)
set_option maxRecDepth 100000 in
theorem t_X7_about_b94 {fu : Nat}  {r : Int32 × gSt} (hC : gCx p s m args meth c cX7_about 3 RX7 (some .int) E)  {σ : gSt} {xs0 : Int32}  (hf : f_X7_about_b94 fu  σ xs0 = some r) : G p l e rm_X7_about s m args below meth c 3 0 0 (MQ below (gQ E w 1 r) args s 0 0 (fun q => eB E ≤ q)) E w σ 94 [] [.int xs0] := by
  unfold f_X7_about_b94 at hf
  exact G_iret hC hf rfl rfl dX7_about_94

def f_X7_about_b27 (fu : Nat)  (σ : gSt) (x1 : Int32) (x2 : Int32) (xs1 : Int32) : Option (Int32 × gSt) :=
  bd (f_X7_goes fu σ xs1) (fun v1 σ1 => if v1 = 0 then (some ((0 : Int32), σ1)) else (if x2 = 0 then (gd (inb x1 24) (f_X7_about_b94 fu  σ1 (σ1 186 0 x1.toNatClampNeg))) else (if x2 = (1 : Int32) then (bd (f_X7_volumeOf fu σ1 x1) (fun v8 σ8 => f_X7_about_b94 fu  σ8 v8)) else (if x2 = (2 : Int32) then (bd (f_X7_columns fu σ1 x1) (fun v7 σ7 => f_X7_about_b94 fu  σ7 v7)) else (if x2 = (3 : Int32) then (gd (inb x1 24) (f_X7_about_b94 fu  σ1 (σ1 187 0 x1.toNatClampNeg))) else (gd (inb x1 24) (f_X7_about_b94 fu  σ1 (σ1 188 0 x1.toNatClampNeg))))))))
set_option maxRecDepth 100000 in
theorem t_X7_about_b27 {fu : Nat}  {r : Int32 × gSt} (hC : gCx p s m args meth c cX7_about 3 RX7 (some .int) E)  {σ : gSt} {x1 : Int32} {x2 : Int32} {xs1 : Int32}  (hf : f_X7_about_b27 fu  σ x1 x2 xs1 = some r) : G p l e rm_X7_about s m args below meth c 3 0 0 (MQ below (gQ E w 1 r) args s 0 0 (fun q => eB E ≤ q)) E w σ 27 [(0, .ref (eB E + 583)), (1, .int x1), (2, .int x2)] [.int xs1, .ref (eB E + 583)] := by
  unfold f_X7_about_b27 at hf
  obtain ⟨v1, σ1, hm1, hf⟩ := bd_ok hf
  refine cl_RX7_103 (q := 30) hC dX7_about_27 rfl (m_X7_goes hm1) ⟨Nat.le_of_ble_eq_true rfl, Nat.le_of_ble_eq_true rfl⟩ (Nat.le_of_ble_eq_true rfl) ⟨Nat.le_of_ble_eq_true rfl, Nat.le_of_ble_eq_true rfl⟩ ?_
  refine G_if_ne (tgt := 35) (q := 33) hC dX7_about_30 (by decide) rfl (fun c1 => ?_) (fun c1 => ?_)
  · have hf := (if_neg c1).symm.trans hf
    refine G_iload_n (q := 36) hC dX7_about_35 rfl rfl ?_
    refine G_if_ne (tgt := 48) (q := 39) hC dX7_about_36 (by decide) rfl (fun c2 => ?_) (fun c2 => ?_)
    · have hf := (if_neg c2).symm.trans hf
      refine G_iload_n (q := 49) hC dX7_about_48 rfl rfl ?_
      refine G_iconst (q := 50) hC dX7_about_49 rfl ic_1 ?_
      refine G_icmp_ne (tgt := 61) (q := 53) hC dX7_about_50 (by decide) rfl (fun c3 => ?_) (fun c3 => ?_)
      · have hf := (if_neg c3).symm.trans hf
        refine G_iload_n (q := 62) hC dX7_about_61 rfl rfl ?_
        refine G_iconst (q := 63) hC dX7_about_62 rfl ic_2 ?_
        refine G_icmp_ne (tgt := 74) (q := 66) hC dX7_about_63 (by decide) rfl (fun c4 => ?_) (fun c4 => ?_)
        · have hf := (if_neg c4).symm.trans hf
          refine G_iload_n (q := 75) hC dX7_about_74 rfl rfl ?_
          refine G_iconst (q := 76) hC dX7_about_75 rfl ic_3 ?_
          refine G_icmp_ne (tgt := 88) (q := 79) hC dX7_about_76 (by decide) rfl (fun c5 => ?_) (fun c5 => ?_)
          · have hf := (if_neg c5).symm.trans hf
            refine G_aload_n (q := 89) hC dX7_about_88 rfl rfl ?_
            refine gf_RX7_28 (q := 92) hC dX7_about_89 rfl ?_
            refine G_iload_n (q := 93) hC dX7_about_92 rfl rfl ?_
            obtain ⟨g1, hf⟩ := gd_ok hf
            refine G_iald (q := 94) hC dX7_about_93 rfl (ok_188 g1) ?_
            refine G_lv (lv' := []) [] rfl ?_
            exact t_X7_about_b94 hC   hf
          · have hf := (if_pos c5).symm.trans hf
            refine G_aload_n (q := 80) hC dX7_about_79 rfl rfl ?_
            refine gf_RX7_25 (q := 83) hC dX7_about_80 rfl ?_
            refine G_iload_n (q := 84) hC dX7_about_83 rfl rfl ?_
            obtain ⟨g2, hf⟩ := gd_ok hf
            refine G_iald (q := 85) hC dX7_about_84 rfl (ok_187 g2) ?_
            refine G_goto (tgt := 94) hC dX7_about_85 (by decide) ?_
            refine G_lv (lv' := []) [] rfl ?_
            exact t_X7_about_b94 hC   hf
        · have hf := (if_pos c4).symm.trans hf
          refine G_aload_n (q := 67) hC dX7_about_66 rfl rfl ?_
          refine G_iload_n (q := 68) hC dX7_about_67 rfl rfl ?_
          obtain ⟨v7, σ7, hm7, hf⟩ := bd_ok hf
          refine cl_RX7_145 (q := 71) hC dX7_about_68 rfl (m_X7_columns hm7) ⟨Nat.le_of_ble_eq_true rfl, Nat.le_of_ble_eq_true rfl⟩ (Nat.le_of_ble_eq_true rfl) ⟨Nat.le_of_ble_eq_true rfl, Nat.le_of_ble_eq_true rfl⟩ ?_
          refine G_goto (tgt := 94) hC dX7_about_71 (by decide) ?_
          refine G_lv (lv' := []) [] rfl ?_
          exact t_X7_about_b94 hC   hf
      · have hf := (if_pos c3).symm.trans hf
        refine G_aload_n (q := 54) hC dX7_about_53 rfl rfl ?_
        refine G_iload_n (q := 55) hC dX7_about_54 rfl rfl ?_
        obtain ⟨v8, σ8, hm8, hf⟩ := bd_ok hf
        refine cl_RX7_129 (q := 58) hC dX7_about_55 rfl (m_X7_volumeOf hm8) ⟨Nat.le_of_ble_eq_true rfl, Nat.le_of_ble_eq_true rfl⟩ (Nat.le_of_ble_eq_true rfl) ⟨Nat.le_of_ble_eq_true rfl, Nat.le_of_ble_eq_true rfl⟩ ?_
        refine G_goto (tgt := 94) hC dX7_about_58 (by decide) ?_
        refine G_lv (lv' := []) [] rfl ?_
        exact t_X7_about_b94 hC   hf
    · have hf := (if_pos c2).symm.trans hf
      refine G_aload_n (q := 40) hC dX7_about_39 rfl rfl ?_
      refine gf_RX7_22 (q := 43) hC dX7_about_40 rfl ?_
      refine G_iload_n (q := 44) hC dX7_about_43 rfl rfl ?_
      obtain ⟨g3, hf⟩ := gd_ok hf
      refine G_iald (q := 45) hC dX7_about_44 rfl (ok_186 g3) ?_
      refine G_goto (tgt := 94) hC dX7_about_45 (by decide) ?_
      refine G_lv (lv' := []) [] rfl ?_
      exact t_X7_about_b94 hC   hf
  · have hf := (if_pos c1).symm.trans hf
    refine G_iconst (q := 34) hC dX7_about_33 rfl ic_0 ?_
    exact G_iret hC hf rfl rfl dX7_about_34

def f_X7_about (fu : Nat)  (σ : gSt) (x1 : Int32) (x2 : Int32) : Option (Int32 × gSt) :=
  bd (f_X7_isArticle fu σ x1) (fun v1 σ1 => if v1 = 0 then (f_X7_about_b27 fu  σ1 x1 x2 (1 : Int32)) else (bd (f_X7_isIn fu σ1 x2 (0 : Int32) (4 : Int32)) (fun v3 σ3 => if v3 = 0 then (f_X7_about_b27 fu  σ3 x1 x2 (2 : Int32)) else (f_X7_about_b27 fu  σ3 x1 x2 (0 : Int32)))))
set_option maxRecDepth 100000 in
theorem t_X7_about {fu : Nat}  {r : Int32 × gSt} (hC : gCx p s m args meth c cX7_about 3 RX7 (some .int) E)  {σ : gSt} {x1 : Int32} {x2 : Int32}  (hf : f_X7_about fu  σ x1 x2 = some r) : G p l e rm_X7_about s m args below meth c 3 0 0 (MQ below (gQ E w 1 r) args s 0 0 (fun q => eB E ≤ q)) E w σ 0 [(0, .ref (eB E + 583)), (1, .int x1), (2, .int x2)] [] := by
  unfold f_X7_about at hf
  refine G_aload_n (q := 1) hC dX7_about_0 rfl rfl ?_
  refine G_aload_n (q := 2) hC dX7_about_1 rfl rfl ?_
  refine G_iload_n (q := 3) hC dX7_about_2 rfl rfl ?_
  obtain ⟨v1, σ1, hm1, hf⟩ := bd_ok hf
  refine cl_RX7_117 (q := 6) hC dX7_about_3 rfl (m_X7_isArticle hm1) ⟨Nat.le_of_ble_eq_true rfl, Nat.le_of_ble_eq_true rfl⟩ (Nat.le_of_ble_eq_true rfl) ⟨Nat.le_of_ble_eq_true rfl, Nat.le_of_ble_eq_true rfl⟩ ?_
  refine G_if_ne (tgt := 13) (q := 9) hC dX7_about_6 (by decide) rfl (fun c1 => ?_) (fun c1 => ?_)
  · have hf := (if_neg c1).symm.trans hf
    refine G_iload_n (q := 14) hC dX7_about_13 rfl rfl ?_
    refine G_iconst (q := 15) hC dX7_about_14 rfl ic_0 ?_
    refine G_iconst (q := 16) hC dX7_about_15 rfl ic_4 ?_
    obtain ⟨v3, σ3, hm3, hf⟩ := bd_ok hf
    refine cl_RX7_81 (q := 19) hC dX7_about_16 rfl (m_X7_isIn hm3) ⟨Nat.le_of_ble_eq_true rfl, Nat.le_of_ble_eq_true rfl⟩ (Nat.le_of_ble_eq_true rfl) ⟨Nat.le_of_ble_eq_true rfl, Nat.le_of_ble_eq_true rfl⟩ ?_
    refine G_if_eq (tgt := 26) (q := 22) hC dX7_about_19 (by decide) rfl (fun c3 => ?_) (fun c3 => ?_)
    · have hf := (if_pos c3).symm.trans hf
      refine G_iconst (q := 27) hC dX7_about_26 rfl ic_2 ?_
      exact t_X7_about_b27 hC   hf
    · have hf := (if_neg c3).symm.trans hf
      refine G_iconst (q := 23) hC dX7_about_22 rfl ic_0 ?_
      refine G_goto (tgt := 27) hC dX7_about_23 (by decide) ?_
      exact t_X7_about_b27 hC   hf
  · have hf := (if_pos c1).symm.trans hf
    refine G_iconst (q := 10) hC dX7_about_9 rfl ic_1 ?_
    refine G_goto (tgt := 27) hC dX7_about_10 (by decide) ?_
    exact t_X7_about_b27 hC   hf

theorem m_X7_about {l : Launch} {fu : Nat} {E : gE} {w : Nat → Int64} {σ : gSt} {x1 : Int32} {x2 : Int32} {r : Int32 × gSt}  (hf : f_X7_about fu σ x1 x2 = some r) : gM l yX7_about cX7_about 3 (some .int) rm_X7_about 1 E w σ [.ref (eB E + 583), .int x1, .int x2] r :=
  gM_of (by decide +kernel) (Nat.le_of_ble_eq_true rfl) (fun p e s m args below meth c hC => t_X7_about hC  hf)
def f_X7_struck (fu : Nat)  (σ : gSt)  : Option (Int32 × gSt) :=
  some (((gU σ 209 0 0 (0 : Int32)) 208 0 0), (gU σ 209 0 0 (0 : Int32)))
set_option maxRecDepth 100000 in
theorem t_X7_struck {fu : Nat}  {r : Int32 × gSt} (hC : gCx p s m args meth c cX7_struck 1 RX7 (some .int) E)  {σ : gSt}   (hf : f_X7_struck fu  σ  = some r) : G p l e rm_X7_struck s m args below meth c 1 0 0 (MQ below (gQ E w 1 r) args s 0 0 (fun q => eB E ≤ q)) E w σ 0 [(0, .ref (eB E + 583))] [] := by
  unfold f_X7_struck at hf
  refine G_aload_n (q := 1) hC dX7_struck_0 rfl rfl ?_
  refine G_iconst (q := 2) hC dX7_struck_1 rfl ic_0 ?_
  refine pf_RX7_74 (q := 5) hC dX7_struck_2 rfl ?_
  refine G_aload_n (q := 6) hC dX7_struck_5 rfl rfl ?_
  refine gf_RX7_173 (q := 9) hC dX7_struck_6 rfl ?_
  exact G_iret hC hf rfl rfl dX7_struck_9

theorem m_X7_struck {l : Launch} {fu : Nat} {E : gE} {w : Nat → Int64} {σ : gSt}  {r : Int32 × gSt}  (hf : f_X7_struck fu σ  = some r) : gM l yX7_struck cX7_struck 1 (some .int) rm_X7_struck 1 E w σ [.ref (eB E + 583)] r :=
  gM_of (by decide +kernel) (Nat.le_of_ble_eq_true rfl) (fun p e s m args below meth c hC => t_X7_struck hC  hf)
def f_X7_errata_b30 (fu : Nat)  (σ : gSt) (xs0 : Int32) : Option (Int32 × gSt) :=
  some (xs0, σ)
set_option maxRecDepth 100000 in
theorem t_X7_errata_b30 {fu : Nat}  {r : Int32 × gSt} (hC : gCx p s m args meth c cX7_errata 2 RX7 (some .int) E)  {σ : gSt} {xs0 : Int32}  (hf : f_X7_errata_b30 fu  σ xs0 = some r) : G p l e rm_X7_errata s m args below meth c 2 0 0 (MQ below (gQ E w 1 r) args s 0 0 (fun q => eB E ≤ q)) E w σ 30 [] [.int xs0] := by
  unfold f_X7_errata_b30 at hf
  exact G_iret hC hf rfl rfl dX7_errata_30

def f_X7_errata_b14 (fu : Nat)  (σ : gSt) (x1 : Int32) (xs1 : Int32) : Option (Int32 × gSt) :=
  bd (f_X7_goes fu σ xs1) (fun v1 σ1 => if v1 = 0 then (f_X7_errata_b30 fu  σ1 (0 : Int32)) else (gd (inb x1 6) (f_X7_errata_b30 fu  σ1 (σ1 205 0 x1.toNatClampNeg))))
set_option maxRecDepth 100000 in
theorem t_X7_errata_b14 {fu : Nat}  {r : Int32 × gSt} (hC : gCx p s m args meth c cX7_errata 2 RX7 (some .int) E)  {σ : gSt} {x1 : Int32} {xs1 : Int32}  (hf : f_X7_errata_b14 fu  σ x1 xs1 = some r) : G p l e rm_X7_errata s m args below meth c 2 0 0 (MQ below (gQ E w 1 r) args s 0 0 (fun q => eB E ≤ q)) E w σ 14 [(0, .ref (eB E + 583)), (1, .int x1)] [.int xs1, .ref (eB E + 583)] := by
  unfold f_X7_errata_b14 at hf
  obtain ⟨v1, σ1, hm1, hf⟩ := bd_ok hf
  refine cl_RX7_103 (q := 17) hC dX7_errata_14 rfl (m_X7_goes hm1) ⟨Nat.le_of_ble_eq_true rfl, Nat.le_of_ble_eq_true rfl⟩ (Nat.le_of_ble_eq_true rfl) ⟨Nat.le_of_ble_eq_true rfl, Nat.le_of_ble_eq_true rfl⟩ ?_
  refine G_if_eq (tgt := 29) (q := 20) hC dX7_errata_17 (by decide) rfl (fun c1 => ?_) (fun c1 => ?_)
  · have hf := (if_pos c1).symm.trans hf
    refine G_iconst (q := 30) hC dX7_errata_29 rfl ic_0 ?_
    refine G_lv (lv' := []) [] rfl ?_
    exact t_X7_errata_b30 hC   hf
  · have hf := (if_neg c1).symm.trans hf
    refine G_aload_n (q := 21) hC dX7_errata_20 rfl rfl ?_
    refine gf_RX7_71 (q := 24) hC dX7_errata_21 rfl ?_
    refine G_iload_n (q := 25) hC dX7_errata_24 rfl rfl ?_
    obtain ⟨g1, hf⟩ := gd_ok hf
    refine G_iald (q := 26) hC dX7_errata_25 rfl (ok_205 g1) ?_
    refine G_goto (tgt := 30) hC dX7_errata_26 (by decide) ?_
    refine G_lv (lv' := []) [] rfl ?_
    exact t_X7_errata_b30 hC   hf

def f_X7_errata (fu : Nat)  (σ : gSt) (x1 : Int32) : Option (Int32 × gSt) :=
  bd (f_X7_isContributor fu σ x1) (fun v1 σ1 => if v1 = 0 then (f_X7_errata_b14 fu  σ1 x1 (1 : Int32)) else (f_X7_errata_b14 fu  σ1 x1 (0 : Int32)))
set_option maxRecDepth 100000 in
theorem t_X7_errata {fu : Nat}  {r : Int32 × gSt} (hC : gCx p s m args meth c cX7_errata 2 RX7 (some .int) E)  {σ : gSt} {x1 : Int32}  (hf : f_X7_errata fu  σ x1 = some r) : G p l e rm_X7_errata s m args below meth c 2 0 0 (MQ below (gQ E w 1 r) args s 0 0 (fun q => eB E ≤ q)) E w σ 0 [(0, .ref (eB E + 583)), (1, .int x1)] [] := by
  unfold f_X7_errata at hf
  refine G_aload_n (q := 1) hC dX7_errata_0 rfl rfl ?_
  refine G_aload_n (q := 2) hC dX7_errata_1 rfl rfl ?_
  refine G_iload_n (q := 3) hC dX7_errata_2 rfl rfl ?_
  obtain ⟨v1, σ1, hm1, hf⟩ := bd_ok hf
  refine cl_RX7_136 (q := 6) hC dX7_errata_3 rfl (m_X7_isContributor hm1) ⟨Nat.le_of_ble_eq_true rfl, Nat.le_of_ble_eq_true rfl⟩ (Nat.le_of_ble_eq_true rfl) ⟨Nat.le_of_ble_eq_true rfl, Nat.le_of_ble_eq_true rfl⟩ ?_
  refine G_if_eq (tgt := 13) (q := 9) hC dX7_errata_6 (by decide) rfl (fun c1 => ?_) (fun c1 => ?_)
  · have hf := (if_pos c1).symm.trans hf
    refine G_iconst (q := 14) hC dX7_errata_13 rfl ic_1 ?_
    exact t_X7_errata_b14 hC   hf
  · have hf := (if_neg c1).symm.trans hf
    refine G_iconst (q := 10) hC dX7_errata_9 rfl ic_0 ?_
    refine G_goto (tgt := 14) hC dX7_errata_10 (by decide) ?_
    exact t_X7_errata_b14 hC   hf

theorem m_X7_errata {l : Launch} {fu : Nat} {E : gE} {w : Nat → Int64} {σ : gSt} {x1 : Int32} {r : Int32 × gSt}  (hf : f_X7_errata fu σ x1 = some r) : gM l yX7_errata cX7_errata 2 (some .int) rm_X7_errata 1 E w σ [.ref (eB E + 583), .int x1] r :=
  gM_of (by decide +kernel) (Nat.le_of_ble_eq_true rfl) (fun p e s m args below meth c hC => t_X7_errata hC  hf)
def f_X7_opens_b63 (fu : Nat) (k4 : gSt → Int32 → Int32 → Int32 → Option (Int32 × gSt)) (σ : gSt) (x1 : Int32) (x2 : Int32) (x3 : Int32) : Option (Int32 × gSt) :=
  k4 σ x1 x2 (x3 + (1))
set_option maxRecDepth 100000 in
theorem t_X7_opens_b63 {fu : Nat} {k4 : gSt → Int32 → Int32 → Int32 → Option (Int32 × gSt)} {r : Int32 × gSt} (hC : gCx p s m args meth c cX7_opens 5 RX7 (some .int) E) (hk4 : ∀ (σ : gSt) (x1 : Int32) (x2 : Int32) (x3 : Int32), k4 σ x1 x2 x3 = some r → G p l e rm_X7_opens s m args below meth c 5 0 0 (MQ below (gQ E w 1 r) args s 0 0 (fun q => eB E ≤ q)) E w σ 4 [(0, .ref (eB E + 583)), (1, .int x1), (2, .int x2), (3, .int x3)] []) {σ : gSt} {x1 : Int32} {x2 : Int32} {x3 : Int32}  (hf : f_X7_opens_b63 fu k4 σ x1 x2 x3 = some r) : G p l e rm_X7_opens s m args below meth c 5 0 0 (MQ below (gQ E w 1 r) args s 0 0 (fun q => eB E ≤ q)) E w σ 63 [(0, .ref (eB E + 583)), (1, .int x1), (2, .int x2), (3, .int x3)] [] := by
  unfold f_X7_opens_b63 at hf
  refine G_iinc (q := 66) (n := 3) (lv' := [(3, .int (x3 + (1))), (0, .ref (eB E + 583)), (1, .int x1), (2, .int x2)]) hC dX7_opens_63 rfl rfl (ii_1 _) (by decide) rfl ?_
  refine G_goto (tgt := 4) hC dX7_opens_66 (by decide) ?_
  refine G_lv (lv' := [(0, .ref (eB E + 583)), (1, .int x1), (2, .int x2), (3, .int (x3 + (1)))]) [1, 2, 3, 0] rfl ?_
  exact hk4 _ _ _ _  hf

def f_X7_opens_b55 (fu : Nat) (k4 : gSt → Int32 → Int32 → Int32 → Option (Int32 × gSt)) (k15 : gSt → Int32 → Int32 → Int32 → Int32 → Option (Int32 × gSt)) (σ : gSt) (x1 : Int32) (x3 : Int32) (x4 : Int32) (xs0 : Int32) (xs1 : Int32) : Option (Int32 × gSt) :=
  k15 σ x1 (xs0 + xs1) x3 (x4 + (1))
set_option maxRecDepth 100000 in
theorem t_X7_opens_b55 {fu : Nat} {k4 : gSt → Int32 → Int32 → Int32 → Option (Int32 × gSt)} {k15 : gSt → Int32 → Int32 → Int32 → Int32 → Option (Int32 × gSt)} {r : Int32 × gSt} (hC : gCx p s m args meth c cX7_opens 5 RX7 (some .int) E) (hk4 : ∀ (σ : gSt) (x1 : Int32) (x2 : Int32) (x3 : Int32), k4 σ x1 x2 x3 = some r → G p l e rm_X7_opens s m args below meth c 5 0 0 (MQ below (gQ E w 1 r) args s 0 0 (fun q => eB E ≤ q)) E w σ 4 [(0, .ref (eB E + 583)), (1, .int x1), (2, .int x2), (3, .int x3)] []) (hk15 : ∀ (σ : gSt) (x1 : Int32) (x2 : Int32) (x3 : Int32) (x4 : Int32), k15 σ x1 x2 x3 x4 = some r → G p l e rm_X7_opens s m args below meth c 5 0 0 (MQ below (gQ E w 1 r) args s 0 0 (fun q => eB E ≤ q)) E w σ 15 [(0, .ref (eB E + 583)), (1, .int x1), (2, .int x2), (3, .int x3), (4, .int x4)] []) {σ : gSt} {x1 : Int32} {x3 : Int32} {x4 : Int32} {xs0 : Int32} {xs1 : Int32}  (hf : f_X7_opens_b55 fu k4 k15 σ x1 x3 x4 xs0 xs1 = some r) : G p l e rm_X7_opens s m args below meth c 5 0 0 (MQ below (gQ E w 1 r) args s 0 0 (fun q => eB E ≤ q)) E w σ 55 [(0, .ref (eB E + 583)), (1, .int x1), (3, .int x3), (4, .int x4)] [.int xs1, .int xs0] := by
  unfold f_X7_opens_b55 at hf
  refine G_iadd (q := 56) hC dX7_opens_55 rfl ?_
  refine G_istore_n (q := 57) (lv' := [(2, .int (xs0 + xs1)), (0, .ref (eB E + 583)), (1, .int x1), (3, .int x3), (4, .int x4)]) hC dX7_opens_56 rfl (by decide) rfl ?_
  refine G_iinc (q := 60) (n := 4) (lv' := [(4, .int (x4 + (1))), (2, .int (xs0 + xs1)), (0, .ref (eB E + 583)), (1, .int x1), (3, .int x3)]) hC dX7_opens_57 rfl rfl (ii_1 _) (by decide) rfl ?_
  refine G_goto (tgt := 15) hC dX7_opens_60 (by decide) ?_
  refine G_lv (lv' := [(0, .ref (eB E + 583)), (1, .int x1), (2, .int (xs0 + xs1)), (3, .int x3), (4, .int (x4 + (1)))]) [2, 3, 1, 4, 0] rfl ?_
  exact hk15 _ _ _ _ _  hf

def f_X7_opens_b39 (fu : Nat) (k4 : gSt → Int32 → Int32 → Int32 → Option (Int32 × gSt)) (k15 : gSt → Int32 → Int32 → Int32 → Int32 → Option (Int32 × gSt)) (σ : gSt) (x1 : Int32) (x2 : Int32) (x3 : Int32) (x4 : Int32) : Option (Int32 × gSt) :=
  bd (f_X7_isOpen fu σ x3 x4) (fun v1 σ1 => if v1 = 0 then (f_X7_opens_b55 fu k4 k15 σ1 x1 x3 x4 x2 (0 : Int32)) else (f_X7_opens_b55 fu k4 k15 σ1 x1 x3 x4 x2 (1 : Int32)))
set_option maxRecDepth 100000 in
theorem t_X7_opens_b39 {fu : Nat} {k4 : gSt → Int32 → Int32 → Int32 → Option (Int32 × gSt)} {k15 : gSt → Int32 → Int32 → Int32 → Int32 → Option (Int32 × gSt)} {r : Int32 × gSt} (hC : gCx p s m args meth c cX7_opens 5 RX7 (some .int) E) (hk4 : ∀ (σ : gSt) (x1 : Int32) (x2 : Int32) (x3 : Int32), k4 σ x1 x2 x3 = some r → G p l e rm_X7_opens s m args below meth c 5 0 0 (MQ below (gQ E w 1 r) args s 0 0 (fun q => eB E ≤ q)) E w σ 4 [(0, .ref (eB E + 583)), (1, .int x1), (2, .int x2), (3, .int x3)] []) (hk15 : ∀ (σ : gSt) (x1 : Int32) (x2 : Int32) (x3 : Int32) (x4 : Int32), k15 σ x1 x2 x3 x4 = some r → G p l e rm_X7_opens s m args below meth c 5 0 0 (MQ below (gQ E w 1 r) args s 0 0 (fun q => eB E ≤ q)) E w σ 15 [(0, .ref (eB E + 583)), (1, .int x1), (2, .int x2), (3, .int x3), (4, .int x4)] []) {σ : gSt} {x1 : Int32} {x2 : Int32} {x3 : Int32} {x4 : Int32}  (hf : f_X7_opens_b39 fu k4 k15 σ x1 x2 x3 x4 = some r) : G p l e rm_X7_opens s m args below meth c 5 0 0 (MQ below (gQ E w 1 r) args s 0 0 (fun q => eB E ≤ q)) E w σ 39 [(0, .ref (eB E + 583)), (1, .int x1), (2, .int x2), (3, .int x3), (4, .int x4)] [] := by
  unfold f_X7_opens_b39 at hf
  refine G_iload_n (q := 40) hC dX7_opens_39 rfl rfl ?_
  refine G_aload_n (q := 41) hC dX7_opens_40 rfl rfl ?_
  refine G_iload_n (q := 42) hC dX7_opens_41 rfl rfl ?_
  refine G_iload (q := 44) hC dX7_opens_42 rfl rfl ?_
  obtain ⟨v1, σ1, hm1, hf⟩ := bd_ok hf
  refine cl_RX7_179 (q := 47) hC dX7_opens_44 rfl (m_X7_isOpen hm1) ⟨Nat.le_of_ble_eq_true rfl, Nat.le_of_ble_eq_true rfl⟩ (Nat.le_of_ble_eq_true rfl) ⟨Nat.le_of_ble_eq_true rfl, Nat.le_of_ble_eq_true rfl⟩ ?_
  refine G_if_eq (tgt := 54) (q := 50) hC dX7_opens_47 (by decide) rfl (fun c1 => ?_) (fun c1 => ?_)
  · have hf := (if_pos c1).symm.trans hf
    refine G_iconst (q := 55) hC dX7_opens_54 rfl ic_0 ?_
    refine G_lv (lv' := [(0, .ref (eB E + 583)), (1, .int x1), (3, .int x3), (4, .int x4)]) [0, 1, 3, 4] rfl ?_
    exact t_X7_opens_b55 hC hk4 hk15  hf
  · have hf := (if_neg c1).symm.trans hf
    refine G_iconst (q := 51) hC dX7_opens_50 rfl ic_1 ?_
    refine G_goto (tgt := 55) hC dX7_opens_51 (by decide) ?_
    refine G_lv (lv' := [(0, .ref (eB E + 583)), (1, .int x1), (3, .int x3), (4, .int x4)]) [0, 1, 3, 4] rfl ?_
    exact t_X7_opens_b55 hC hk4 hk15  hf

def f_X7_opens_b15_B (fu : Nat) (k4 : gSt → Int32 → Int32 → Int32 → Option (Int32 × gSt)) (k15 : gSt → Int32 → Int32 → Int32 → Int32 → Option (Int32 × gSt)) (σ : gSt) (x1 : Int32) (x2 : Int32) (x3 : Int32) (x4 : Int32) : Option (Int32 × gSt) :=
  gd (inb x3 24) (if (σ 191 0 x3.toNatClampNeg) ≤ x4 then (f_X7_opens_b63 fu k4 σ x1 x2 x3) else (if x1 = 0 then (gd (inb x3 24) (if (σ 190 0 x3.toNatClampNeg) = 0 then (f_X7_opens_b39 fu k4 k15 σ x1 x2 x3 x4) else (f_X7_opens_b63 fu k4 σ x1 x2 x3))) else (f_X7_opens_b39 fu k4 k15 σ x1 x2 x3 x4)))
def f_X7_opens_b15 (fu : Nat) (k4 : gSt → Int32 → Int32 → Int32 → Option (Int32 × gSt)) : Nat → gSt → Int32 → Int32 → Int32 → Int32 → Option (Int32 × gSt)
  | 0 => fun _ _ _ _ _ => none
  | n + 1 => f_X7_opens_b15_B fu k4 (f_X7_opens_b15 fu k4 n)
set_option maxRecDepth 100000 in
theorem t_X7_opens_b15_B {fu : Nat} {k4 : gSt → Int32 → Int32 → Int32 → Option (Int32 × gSt)} {k15 : gSt → Int32 → Int32 → Int32 → Int32 → Option (Int32 × gSt)} {r : Int32 × gSt} (hC : gCx p s m args meth c cX7_opens 5 RX7 (some .int) E) (hk4 : ∀ (σ : gSt) (x1 : Int32) (x2 : Int32) (x3 : Int32), k4 σ x1 x2 x3 = some r → G p l e rm_X7_opens s m args below meth c 5 0 0 (MQ below (gQ E w 1 r) args s 0 0 (fun q => eB E ≤ q)) E w σ 4 [(0, .ref (eB E + 583)), (1, .int x1), (2, .int x2), (3, .int x3)] []) (hk15 : ∀ (σ : gSt) (x1 : Int32) (x2 : Int32) (x3 : Int32) (x4 : Int32), k15 σ x1 x2 x3 x4 = some r → G p l e rm_X7_opens s m args below meth c 5 0 0 (MQ below (gQ E w 1 r) args s 0 0 (fun q => eB E ≤ q)) E w σ 15 [(0, .ref (eB E + 583)), (1, .int x1), (2, .int x2), (3, .int x3), (4, .int x4)] []) {σ : gSt} {x1 : Int32} {x2 : Int32} {x3 : Int32} {x4 : Int32}  (hf : f_X7_opens_b15_B fu k4 k15 σ x1 x2 x3 x4 = some r) : G p l e rm_X7_opens s m args below meth c 5 0 0 (MQ below (gQ E w 1 r) args s 0 0 (fun q => eB E ≤ q)) E w σ 15 [(0, .ref (eB E + 583)), (1, .int x1), (2, .int x2), (3, .int x3), (4, .int x4)] [] := by
  unfold f_X7_opens_b15_B at hf
  refine G_iload (q := 17) hC dX7_opens_15 rfl rfl ?_
  refine G_aload_n (q := 18) hC dX7_opens_17 rfl rfl ?_
  refine gf_RX7_38 (q := 21) hC dX7_opens_18 rfl ?_
  refine G_iload_n (q := 22) hC dX7_opens_21 rfl rfl ?_
  obtain ⟨g1, hf⟩ := gd_ok hf
  refine G_iald (q := 23) hC dX7_opens_22 rfl (ok_191 g1) ?_
  refine G_icmp_ge (tgt := 63) (q := 26) hC dX7_opens_23 (by decide) rfl (fun c0 => ?_) (fun c0 => ?_)
  · have hf := (if_pos c0).symm.trans hf
    refine G_lv (lv' := [(0, .ref (eB E + 583)), (1, .int x1), (2, .int x2), (3, .int x3)]) [0, 1, 2, 3] rfl ?_
    exact t_X7_opens_b63 hC hk4  hf
  · have hf := (if_neg c0).symm.trans hf
    refine G_iload_n (q := 27) hC dX7_opens_26 rfl rfl ?_
    refine G_if_ne (tgt := 39) (q := 30) hC dX7_opens_27 (by decide) rfl (fun c1 => ?_) (fun c1 => ?_)
    · have hf := (if_neg c1).symm.trans hf
      exact t_X7_opens_b39 hC hk4 hk15  hf
    · have hf := (if_pos c1).symm.trans hf
      refine G_aload_n (q := 31) hC dX7_opens_30 rfl rfl ?_
      refine gf_RX7_34 (q := 34) hC dX7_opens_31 rfl ?_
      refine G_iload_n (q := 35) hC dX7_opens_34 rfl rfl ?_
      obtain ⟨g2, hf⟩ := gd_ok hf
      refine G_zald (q := 36) hC dX7_opens_35 rfl (ok_190 g2) ?_
      refine G_if_ne (tgt := 63) (q := 39) hC dX7_opens_36 (by decide) rfl (fun c2 => ?_) (fun c2 => ?_)
      · have hf := (if_neg c2).symm.trans hf
        refine G_lv (lv' := [(0, .ref (eB E + 583)), (1, .int x1), (2, .int x2), (3, .int x3)]) [0, 1, 2, 3] rfl ?_
        exact t_X7_opens_b63 hC hk4  hf
      · have hf := (if_pos c2).symm.trans hf
        exact t_X7_opens_b39 hC hk4 hk15  hf

theorem t_X7_opens_b15 {fu : Nat} {k4 : gSt → Int32 → Int32 → Int32 → Option (Int32 × gSt)} {r : Int32 × gSt} (hC : gCx p s m args meth c cX7_opens 5 RX7 (some .int) E) (hk4 : ∀ (σ : gSt) (x1 : Int32) (x2 : Int32) (x3 : Int32), k4 σ x1 x2 x3 = some r → G p l e rm_X7_opens s m args below meth c 5 0 0 (MQ below (gQ E w 1 r) args s 0 0 (fun q => eB E ≤ q)) E w σ 4 [(0, .ref (eB E + 583)), (1, .int x1), (2, .int x2), (3, .int x3)] []) (n : Nat) : ∀ (σ : gSt) (x1 : Int32) (x2 : Int32) (x3 : Int32) (x4 : Int32), f_X7_opens_b15 fu k4 n σ x1 x2 x3 x4 = some r → G p l e rm_X7_opens s m args below meth c 5 0 0 (MQ below (gQ E w 1 r) args s 0 0 (fun q => eB E ≤ q)) E w σ 15 [(0, .ref (eB E + 583)), (1, .int x1), (2, .int x2), (3, .int x3), (4, .int x4)] [] := by
  induction n with
  | zero => intro σ x1 x2 x3 x4  hf; cases hf
  | succ n ih => intro σ x1 x2 x3 x4  hf; exact t_X7_opens_b15_B hC hk4 ih  hf
def f_X7_opens_b4_B (fu : Nat) (k4 : gSt → Int32 → Int32 → Int32 → Option (Int32 × gSt)) (σ : gSt) (x1 : Int32) (x2 : Int32) (x3 : Int32) : Option (Int32 × gSt) :=
  if (σ 183 0 0) ≤ x3 then (some (x2, σ)) else (f_X7_opens_b15 fu k4 fu σ x1 x2 x3 (0 : Int32))
def f_X7_opens_b4 (fu : Nat)  : Nat → gSt → Int32 → Int32 → Int32 → Option (Int32 × gSt)
  | 0 => fun _ _ _ _ => none
  | n + 1 => f_X7_opens_b4_B fu  (f_X7_opens_b4 fu  n)
set_option maxRecDepth 100000 in
theorem t_X7_opens_b4_B {fu : Nat} {k4 : gSt → Int32 → Int32 → Int32 → Option (Int32 × gSt)} {r : Int32 × gSt} (hC : gCx p s m args meth c cX7_opens 5 RX7 (some .int) E) (hk4 : ∀ (σ : gSt) (x1 : Int32) (x2 : Int32) (x3 : Int32), k4 σ x1 x2 x3 = some r → G p l e rm_X7_opens s m args below meth c 5 0 0 (MQ below (gQ E w 1 r) args s 0 0 (fun q => eB E ≤ q)) E w σ 4 [(0, .ref (eB E + 583)), (1, .int x1), (2, .int x2), (3, .int x3)] []) {σ : gSt} {x1 : Int32} {x2 : Int32} {x3 : Int32}  (hf : f_X7_opens_b4_B fu k4 σ x1 x2 x3 = some r) : G p l e rm_X7_opens s m args below meth c 5 0 0 (MQ below (gQ E w 1 r) args s 0 0 (fun q => eB E ≤ q)) E w σ 4 [(0, .ref (eB E + 583)), (1, .int x1), (2, .int x2), (3, .int x3)] [] := by
  unfold f_X7_opens_b4_B at hf
  refine G_iload_n (q := 5) hC dX7_opens_4 rfl rfl ?_
  refine G_aload_n (q := 6) hC dX7_opens_5 rfl rfl ?_
  refine gf_RX7_78 (q := 9) hC dX7_opens_6 rfl ?_
  refine G_icmp_ge (tgt := 69) (q := 12) hC dX7_opens_9 (by decide) rfl (fun c0 => ?_) (fun c0 => ?_)
  · have hf := (if_pos c0).symm.trans hf
    refine G_iload_n (q := 70) hC dX7_opens_69 rfl rfl ?_
    exact G_iret hC hf rfl rfl dX7_opens_70
  · have hf := (if_neg c0).symm.trans hf
    refine G_iconst (q := 13) hC dX7_opens_12 rfl ic_0 ?_
    refine G_istore (q := 15) (lv' := [(4, .int (0 : Int32)), (0, .ref (eB E + 583)), (1, .int x1), (2, .int x2), (3, .int x3)]) hC dX7_opens_13 rfl (by decide) rfl ?_
    refine G_lv (lv' := [(0, .ref (eB E + 583)), (1, .int x1), (2, .int x2), (3, .int x3), (4, .int (0 : Int32))]) [1, 2, 3, 4, 0] rfl ?_
    exact t_X7_opens_b15 hC hk4 fu _ _ _ _ _  hf

theorem t_X7_opens_b4 {fu : Nat}  {r : Int32 × gSt} (hC : gCx p s m args meth c cX7_opens 5 RX7 (some .int) E)  (n : Nat) : ∀ (σ : gSt) (x1 : Int32) (x2 : Int32) (x3 : Int32), f_X7_opens_b4 fu  n σ x1 x2 x3 = some r → G p l e rm_X7_opens s m args below meth c 5 0 0 (MQ below (gQ E w 1 r) args s 0 0 (fun q => eB E ≤ q)) E w σ 4 [(0, .ref (eB E + 583)), (1, .int x1), (2, .int x2), (3, .int x3)] [] := by
  induction n with
  | zero => intro σ x1 x2 x3  hf; cases hf
  | succ n ih => intro σ x1 x2 x3  hf; exact t_X7_opens_b4_B hC  ih  hf
def f_X7_opens (fu : Nat)  (σ : gSt) (x1 : Int32) : Option (Int32 × gSt) :=
  f_X7_opens_b4 fu  fu σ x1 (0 : Int32) (0 : Int32)
set_option maxRecDepth 100000 in
theorem t_X7_opens {fu : Nat}  {r : Int32 × gSt} (hC : gCx p s m args meth c cX7_opens 5 RX7 (some .int) E)  {σ : gSt} {x1 : Int32}  (hf : f_X7_opens fu  σ x1 = some r) : G p l e rm_X7_opens s m args below meth c 5 0 0 (MQ below (gQ E w 1 r) args s 0 0 (fun q => eB E ≤ q)) E w σ 0 [(0, .ref (eB E + 583)), (1, .int x1)] [] := by
  unfold f_X7_opens at hf
  refine G_iconst (q := 1) hC dX7_opens_0 rfl ic_0 ?_
  refine G_istore_n (q := 2) (lv' := [(2, .int (0 : Int32)), (0, .ref (eB E + 583)), (1, .int x1)]) hC dX7_opens_1 rfl (by decide) rfl ?_
  refine G_iconst (q := 3) hC dX7_opens_2 rfl ic_0 ?_
  refine G_istore_n (q := 4) (lv' := [(3, .int (0 : Int32)), (2, .int (0 : Int32)), (0, .ref (eB E + 583)), (1, .int x1)]) hC dX7_opens_3 rfl (by decide) rfl ?_
  refine G_lv (lv' := [(0, .ref (eB E + 583)), (1, .int x1), (2, .int (0 : Int32)), (3, .int (0 : Int32))]) [2, 3, 1, 0] rfl ?_
  exact t_X7_opens_b4 hC  fu _ _ _ _  hf

theorem m_X7_opens {l : Launch} {fu : Nat} {E : gE} {w : Nat → Int64} {σ : gSt} {x1 : Int32} {r : Int32 × gSt}  (hf : f_X7_opens fu σ x1 = some r) : gM l yX7_opens cX7_opens 5 (some .int) rm_X7_opens 1 E w σ [.ref (eB E + 583), .int x1] r :=
  gM_of (by decide +kernel) (Nat.le_of_ble_eq_true rfl) (fun p e s m args below meth c hC => t_X7_opens hC  hf)
def f_X7_open (fu : Nat)  (σ : gSt) (x1 : Int32) : Option (Int32 × gSt) :=
  bd (f_X7_opens fu (gU σ 209 0 0 (0 : Int32)) x1) (fun v1 σ1 => some (v1, σ1))
set_option maxRecDepth 100000 in
theorem t_X7_open {fu : Nat}  {r : Int32 × gSt} (hC : gCx p s m args meth c cX7_open 2 RX7 (some .int) E)  {σ : gSt} {x1 : Int32}  (hf : f_X7_open fu  σ x1 = some r) : G p l e rm_X7_open s m args below meth c 2 0 0 (MQ below (gQ E w 1 r) args s 0 0 (fun q => eB E ≤ q)) E w σ 0 [(0, .ref (eB E + 583)), (1, .int x1)] [] := by
  unfold f_X7_open at hf
  refine G_aload_n (q := 1) hC dX7_open_0 rfl rfl ?_
  refine G_iconst (q := 2) hC dX7_open_1 rfl ic_0 ?_
  refine pf_RX7_74 (q := 5) hC dX7_open_2 rfl ?_
  refine G_aload_n (q := 6) hC dX7_open_5 rfl rfl ?_
  refine G_iload_n (q := 7) hC dX7_open_6 rfl rfl ?_
  obtain ⟨v1, σ1, hm1, hf⟩ := bd_ok hf
  refine cl_RX7_182 (q := 10) hC dX7_open_7 rfl (m_X7_opens hm1) ⟨Nat.le_of_ble_eq_true rfl, Nat.le_of_ble_eq_true rfl⟩ (Nat.le_of_ble_eq_true rfl) ⟨Nat.le_of_ble_eq_true rfl, Nat.le_of_ble_eq_true rfl⟩ ?_
  exact G_iret hC hf rfl rfl dX7_open_10

theorem m_X7_open {l : Launch} {fu : Nat} {E : gE} {w : Nat → Int64} {σ : gSt} {x1 : Int32} {r : Int32 × gSt}  (hf : f_X7_open fu σ x1 = some r) : gM l yX7_open cX7_open 2 (some .int) rm_X7_open 1 E w σ [.ref (eB E + 583), .int x1] r :=
  gM_of (by decide +kernel) (Nat.le_of_ble_eq_true rfl) (fun p e s m args below meth c hC => t_X7_open hC  hf)
def f_X7_contradicts_b116 (fu : Nat) (k4 : gSt → Int32 → Int32 → Int32 → Option (Int32 × gSt)) (k22 : gSt → Int32 → Int32 → Int32 → Int32 → Int32 → Int32 → Int32 → Option (Int32 × gSt)) (σ : gSt) (x1 : Int32) (x2 : Int32) (x3 : Int32) (x4 : Int32) (x5 : Int32) (x6 : Int32) (x7 : Int32) : Option (Int32 × gSt) :=
  k22 σ x1 x2 x3 x4 x5 x6 (x7 + (1))
set_option maxRecDepth 100000 in
theorem t_X7_contradicts_b116 {fu : Nat} {k4 : gSt → Int32 → Int32 → Int32 → Option (Int32 × gSt)} {k22 : gSt → Int32 → Int32 → Int32 → Int32 → Int32 → Int32 → Int32 → Option (Int32 × gSt)} {r : Int32 × gSt} (hC : gCx p s m args meth c cX7_contradicts 9 RX7 (some .int) E) (hk4 : ∀ (σ : gSt) (x1 : Int32) (x2 : Int32) (x3 : Int32), k4 σ x1 x2 x3 = some r → G p l e rm_X7_contradicts s m args below meth c 9 0 0 (MQ below (gQ E w 1 r) args s 0 0 (fun q => eB E ≤ q)) E w σ 4 [(0, .ref (eB E + 583)), (1, .int x1), (2, .int x2), (3, .int x3)] []) (hk22 : ∀ (σ : gSt) (x1 : Int32) (x2 : Int32) (x3 : Int32) (x4 : Int32) (x5 : Int32) (x6 : Int32) (x7 : Int32), k22 σ x1 x2 x3 x4 x5 x6 x7 = some r → G p l e rm_X7_contradicts s m args below meth c 9 0 0 (MQ below (gQ E w 1 r) args s 0 0 (fun q => eB E ≤ q)) E w σ 22 [(0, .ref (eB E + 583)), (1, .int x1), (2, .int x2), (3, .int x3), (4, .int x4), (5, .int x5), (6, .int x6), (7, .int x7)] []) {σ : gSt} {x1 : Int32} {x2 : Int32} {x3 : Int32} {x4 : Int32} {x5 : Int32} {x6 : Int32} {x7 : Int32}  (hf : f_X7_contradicts_b116 fu k4 k22 σ x1 x2 x3 x4 x5 x6 x7 = some r) : G p l e rm_X7_contradicts s m args below meth c 9 0 0 (MQ below (gQ E w 1 r) args s 0 0 (fun q => eB E ≤ q)) E w σ 116 [(0, .ref (eB E + 583)), (1, .int x1), (2, .int x2), (3, .int x3), (4, .int x4), (5, .int x5), (6, .int x6), (7, .int x7)] [] := by
  unfold f_X7_contradicts_b116 at hf
  refine G_iinc (q := 119) (n := 7) (lv' := [(7, .int (x7 + (1))), (0, .ref (eB E + 583)), (1, .int x1), (2, .int x2), (3, .int x3), (4, .int x4), (5, .int x5), (6, .int x6)]) hC dX7_contradicts_116 rfl rfl (ii_1 _) (by decide) rfl ?_
  refine G_goto (tgt := 22) hC dX7_contradicts_119 (by decide) ?_
  refine G_lv (lv' := [(0, .ref (eB E + 583)), (1, .int x1), (2, .int x2), (3, .int x3), (4, .int x4), (5, .int x5), (6, .int x6), (7, .int (x7 + (1)))]) [1, 2, 3, 4, 5, 6, 7, 0] rfl ?_
  exact hk22 _ _ _ _ _ _ _ _  hf

def f_X7_contradicts_b102 (fu : Nat) (k4 : gSt → Int32 → Int32 → Int32 → Option (Int32 × gSt)) (k22 : gSt → Int32 → Int32 → Int32 → Int32 → Int32 → Int32 → Int32 → Option (Int32 × gSt)) (σ : gSt) (x1 : Int32) (x2 : Int32) (x3 : Int32) (x7 : Int32) (x8 : Int32) (xs0 : Int32) : Option (Int32 × gSt) :=
  gd (inb x8 192) (f_X7_contradicts_b116 fu k4 k22 σ x1 x2 x3 (1 : Int32) xs0 (σ 194 0 x8.toNatClampNeg) x7)
set_option maxRecDepth 100000 in
theorem t_X7_contradicts_b102 {fu : Nat} {k4 : gSt → Int32 → Int32 → Int32 → Option (Int32 × gSt)} {k22 : gSt → Int32 → Int32 → Int32 → Int32 → Int32 → Int32 → Int32 → Option (Int32 × gSt)} {r : Int32 × gSt} (hC : gCx p s m args meth c cX7_contradicts 9 RX7 (some .int) E) (hk4 : ∀ (σ : gSt) (x1 : Int32) (x2 : Int32) (x3 : Int32), k4 σ x1 x2 x3 = some r → G p l e rm_X7_contradicts s m args below meth c 9 0 0 (MQ below (gQ E w 1 r) args s 0 0 (fun q => eB E ≤ q)) E w σ 4 [(0, .ref (eB E + 583)), (1, .int x1), (2, .int x2), (3, .int x3)] []) (hk22 : ∀ (σ : gSt) (x1 : Int32) (x2 : Int32) (x3 : Int32) (x4 : Int32) (x5 : Int32) (x6 : Int32) (x7 : Int32), k22 σ x1 x2 x3 x4 x5 x6 x7 = some r → G p l e rm_X7_contradicts s m args below meth c 9 0 0 (MQ below (gQ E w 1 r) args s 0 0 (fun q => eB E ≤ q)) E w σ 22 [(0, .ref (eB E + 583)), (1, .int x1), (2, .int x2), (3, .int x3), (4, .int x4), (5, .int x5), (6, .int x6), (7, .int x7)] []) {σ : gSt} {x1 : Int32} {x2 : Int32} {x3 : Int32} {x7 : Int32} {x8 : Int32} {xs0 : Int32}  (hf : f_X7_contradicts_b102 fu k4 k22 σ x1 x2 x3 x7 x8 xs0 = some r) : G p l e rm_X7_contradicts s m args below meth c 9 0 0 (MQ below (gQ E w 1 r) args s 0 0 (fun q => eB E ≤ q)) E w σ 102 [(0, .ref (eB E + 583)), (1, .int x1), (2, .int x2), (3, .int x3), (7, .int x7), (8, .int x8)] [.int xs0] := by
  unfold f_X7_contradicts_b102 at hf
  refine G_istore (q := 104) (lv' := [(5, .int xs0), (0, .ref (eB E + 583)), (1, .int x1), (2, .int x2), (3, .int x3), (7, .int x7), (8, .int x8)]) hC dX7_contradicts_102 rfl (by decide) rfl ?_
  refine G_aload_n (q := 105) hC dX7_contradicts_104 rfl rfl ?_
  refine gf_RX7_47 (q := 108) hC dX7_contradicts_105 rfl ?_
  refine G_iload (q := 110) hC dX7_contradicts_108 rfl rfl ?_
  obtain ⟨g1, hf⟩ := gd_ok hf
  refine G_iald (q := 111) hC dX7_contradicts_110 rfl (ok_194 g1) ?_
  refine G_istore (q := 113) (lv' := [(6, .int (σ 194 0 x8.toNatClampNeg)), (5, .int xs0), (0, .ref (eB E + 583)), (1, .int x1), (2, .int x2), (3, .int x3), (7, .int x7), (8, .int x8)]) hC dX7_contradicts_111 rfl (by decide) rfl ?_
  refine G_iconst (q := 114) hC dX7_contradicts_113 rfl ic_1 ?_
  refine G_istore (q := 116) (lv' := [(4, .int (1 : Int32)), (6, .int (σ 194 0 x8.toNatClampNeg)), (5, .int xs0), (0, .ref (eB E + 583)), (1, .int x1), (2, .int x2), (3, .int x3), (7, .int x7), (8, .int x8)]) hC dX7_contradicts_114 rfl (by decide) rfl ?_
  refine G_lv (lv' := [(0, .ref (eB E + 583)), (1, .int x1), (2, .int x2), (3, .int x3), (4, .int (1 : Int32)), (5, .int xs0), (6, .int (σ 194 0 x8.toNatClampNeg)), (7, .int x7)]) [3, 4, 5, 6, 0, 2, 1, 7] rfl ?_
  exact t_X7_contradicts_b116 hC hk4 hk22  hf

def f_X7_contradicts_b97 (fu : Nat) (k4 : gSt → Int32 → Int32 → Int32 → Option (Int32 × gSt)) (k22 : gSt → Int32 → Int32 → Int32 → Int32 → Int32 → Int32 → Int32 → Option (Int32 × gSt)) (σ : gSt) (x1 : Int32) (x2 : Int32) (x3 : Int32) (x7 : Int32) (x8 : Int32) : Option (Int32 × gSt) :=
  f_X7_contradicts_b102 fu k4 k22 σ x1 x2 x3 x7 x8 (1 : Int32)
set_option maxRecDepth 100000 in
theorem t_X7_contradicts_b97 {fu : Nat} {k4 : gSt → Int32 → Int32 → Int32 → Option (Int32 × gSt)} {k22 : gSt → Int32 → Int32 → Int32 → Int32 → Int32 → Int32 → Int32 → Option (Int32 × gSt)} {r : Int32 × gSt} (hC : gCx p s m args meth c cX7_contradicts 9 RX7 (some .int) E) (hk4 : ∀ (σ : gSt) (x1 : Int32) (x2 : Int32) (x3 : Int32), k4 σ x1 x2 x3 = some r → G p l e rm_X7_contradicts s m args below meth c 9 0 0 (MQ below (gQ E w 1 r) args s 0 0 (fun q => eB E ≤ q)) E w σ 4 [(0, .ref (eB E + 583)), (1, .int x1), (2, .int x2), (3, .int x3)] []) (hk22 : ∀ (σ : gSt) (x1 : Int32) (x2 : Int32) (x3 : Int32) (x4 : Int32) (x5 : Int32) (x6 : Int32) (x7 : Int32), k22 σ x1 x2 x3 x4 x5 x6 x7 = some r → G p l e rm_X7_contradicts s m args below meth c 9 0 0 (MQ below (gQ E w 1 r) args s 0 0 (fun q => eB E ≤ q)) E w σ 22 [(0, .ref (eB E + 583)), (1, .int x1), (2, .int x2), (3, .int x3), (4, .int x4), (5, .int x5), (6, .int x6), (7, .int x7)] []) {σ : gSt} {x1 : Int32} {x2 : Int32} {x3 : Int32} {x7 : Int32} {x8 : Int32}  (hf : f_X7_contradicts_b97 fu k4 k22 σ x1 x2 x3 x7 x8 = some r) : G p l e rm_X7_contradicts s m args below meth c 9 0 0 (MQ below (gQ E w 1 r) args s 0 0 (fun q => eB E ≤ q)) E w σ 97 [(0, .ref (eB E + 583)), (1, .int x1), (2, .int x2), (3, .int x3), (7, .int x7), (8, .int x8)] [] := by
  unfold f_X7_contradicts_b97 at hf
  refine G_iconst (q := 98) hC dX7_contradicts_97 rfl ic_1 ?_
  refine G_goto (tgt := 102) hC dX7_contradicts_98 (by decide) ?_
  exact t_X7_contradicts_b102 hC hk4 hk22  hf

def f_X7_contradicts_b101 (fu : Nat) (k4 : gSt → Int32 → Int32 → Int32 → Option (Int32 × gSt)) (k22 : gSt → Int32 → Int32 → Int32 → Int32 → Int32 → Int32 → Int32 → Option (Int32 × gSt)) (σ : gSt) (x1 : Int32) (x2 : Int32) (x3 : Int32) (x7 : Int32) (x8 : Int32) : Option (Int32 × gSt) :=
  f_X7_contradicts_b102 fu k4 k22 σ x1 x2 x3 x7 x8 (0 : Int32)
set_option maxRecDepth 100000 in
theorem t_X7_contradicts_b101 {fu : Nat} {k4 : gSt → Int32 → Int32 → Int32 → Option (Int32 × gSt)} {k22 : gSt → Int32 → Int32 → Int32 → Int32 → Int32 → Int32 → Int32 → Option (Int32 × gSt)} {r : Int32 × gSt} (hC : gCx p s m args meth c cX7_contradicts 9 RX7 (some .int) E) (hk4 : ∀ (σ : gSt) (x1 : Int32) (x2 : Int32) (x3 : Int32), k4 σ x1 x2 x3 = some r → G p l e rm_X7_contradicts s m args below meth c 9 0 0 (MQ below (gQ E w 1 r) args s 0 0 (fun q => eB E ≤ q)) E w σ 4 [(0, .ref (eB E + 583)), (1, .int x1), (2, .int x2), (3, .int x3)] []) (hk22 : ∀ (σ : gSt) (x1 : Int32) (x2 : Int32) (x3 : Int32) (x4 : Int32) (x5 : Int32) (x6 : Int32) (x7 : Int32), k22 σ x1 x2 x3 x4 x5 x6 x7 = some r → G p l e rm_X7_contradicts s m args below meth c 9 0 0 (MQ below (gQ E w 1 r) args s 0 0 (fun q => eB E ≤ q)) E w σ 22 [(0, .ref (eB E + 583)), (1, .int x1), (2, .int x2), (3, .int x3), (4, .int x4), (5, .int x5), (6, .int x6), (7, .int x7)] []) {σ : gSt} {x1 : Int32} {x2 : Int32} {x3 : Int32} {x7 : Int32} {x8 : Int32}  (hf : f_X7_contradicts_b101 fu k4 k22 σ x1 x2 x3 x7 x8 = some r) : G p l e rm_X7_contradicts s m args below meth c 9 0 0 (MQ below (gQ E w 1 r) args s 0 0 (fun q => eB E ≤ q)) E w σ 101 [(0, .ref (eB E + 583)), (1, .int x1), (2, .int x2), (3, .int x3), (7, .int x7), (8, .int x8)] [] := by
  unfold f_X7_contradicts_b101 at hf
  refine G_iconst (q := 102) hC dX7_contradicts_101 rfl ic_0 ?_
  exact t_X7_contradicts_b102 hC hk4 hk22  hf

def f_X7_contradicts_b75 (fu : Nat) (k4 : gSt → Int32 → Int32 → Int32 → Option (Int32 × gSt)) (k22 : gSt → Int32 → Int32 → Int32 → Int32 → Int32 → Int32 → Int32 → Option (Int32 × gSt)) (σ : gSt) (x1 : Int32) (x2 : Int32) (x3 : Int32) (x4 : Int32) (x5 : Int32) (x6 : Int32) (x7 : Int32) (x8 : Int32) : Option (Int32 × gSt) :=
  if x5 = 0 then (if x4 = 0 then (f_X7_contradicts_b101 fu k4 k22 σ x1 x2 x3 x7 x8) else (gd (inb x8 192) (if (σ 194 0 x8.toNatClampNeg) = x6 then (f_X7_contradicts_b101 fu k4 k22 σ x1 x2 x3 x7 x8) else (f_X7_contradicts_b97 fu k4 k22 σ x1 x2 x3 x7 x8)))) else (f_X7_contradicts_b97 fu k4 k22 σ x1 x2 x3 x7 x8)
set_option maxRecDepth 100000 in
theorem t_X7_contradicts_b75 {fu : Nat} {k4 : gSt → Int32 → Int32 → Int32 → Option (Int32 × gSt)} {k22 : gSt → Int32 → Int32 → Int32 → Int32 → Int32 → Int32 → Int32 → Option (Int32 × gSt)} {r : Int32 × gSt} (hC : gCx p s m args meth c cX7_contradicts 9 RX7 (some .int) E) (hk4 : ∀ (σ : gSt) (x1 : Int32) (x2 : Int32) (x3 : Int32), k4 σ x1 x2 x3 = some r → G p l e rm_X7_contradicts s m args below meth c 9 0 0 (MQ below (gQ E w 1 r) args s 0 0 (fun q => eB E ≤ q)) E w σ 4 [(0, .ref (eB E + 583)), (1, .int x1), (2, .int x2), (3, .int x3)] []) (hk22 : ∀ (σ : gSt) (x1 : Int32) (x2 : Int32) (x3 : Int32) (x4 : Int32) (x5 : Int32) (x6 : Int32) (x7 : Int32), k22 σ x1 x2 x3 x4 x5 x6 x7 = some r → G p l e rm_X7_contradicts s m args below meth c 9 0 0 (MQ below (gQ E w 1 r) args s 0 0 (fun q => eB E ≤ q)) E w σ 22 [(0, .ref (eB E + 583)), (1, .int x1), (2, .int x2), (3, .int x3), (4, .int x4), (5, .int x5), (6, .int x6), (7, .int x7)] []) {σ : gSt} {x1 : Int32} {x2 : Int32} {x3 : Int32} {x4 : Int32} {x5 : Int32} {x6 : Int32} {x7 : Int32} {x8 : Int32}  (hf : f_X7_contradicts_b75 fu k4 k22 σ x1 x2 x3 x4 x5 x6 x7 x8 = some r) : G p l e rm_X7_contradicts s m args below meth c 9 0 0 (MQ below (gQ E w 1 r) args s 0 0 (fun q => eB E ≤ q)) E w σ 75 [(0, .ref (eB E + 583)), (1, .int x1), (2, .int x2), (3, .int x3), (4, .int x4), (5, .int x5), (6, .int x6), (7, .int x7), (8, .int x8)] [] := by
  unfold f_X7_contradicts_b75 at hf
  refine G_iload (q := 77) hC dX7_contradicts_75 rfl rfl ?_
  refine G_if_ne (tgt := 97) (q := 80) hC dX7_contradicts_77 (by decide) rfl (fun c0 => ?_) (fun c0 => ?_)
  · have hf := (if_neg c0).symm.trans hf
    refine G_lv (lv' := [(0, .ref (eB E + 583)), (1, .int x1), (2, .int x2), (3, .int x3), (7, .int x7), (8, .int x8)]) [0, 1, 2, 3, 7, 8] rfl ?_
    exact t_X7_contradicts_b97 hC hk4 hk22  hf
  · have hf := (if_pos c0).symm.trans hf
    refine G_iload (q := 82) hC dX7_contradicts_80 rfl rfl ?_
    refine G_if_eq (tgt := 101) (q := 85) hC dX7_contradicts_82 (by decide) rfl (fun c1 => ?_) (fun c1 => ?_)
    · have hf := (if_pos c1).symm.trans hf
      refine G_lv (lv' := [(0, .ref (eB E + 583)), (1, .int x1), (2, .int x2), (3, .int x3), (7, .int x7), (8, .int x8)]) [0, 1, 2, 3, 7, 8] rfl ?_
      exact t_X7_contradicts_b101 hC hk4 hk22  hf
    · have hf := (if_neg c1).symm.trans hf
      refine G_aload_n (q := 86) hC dX7_contradicts_85 rfl rfl ?_
      refine gf_RX7_47 (q := 89) hC dX7_contradicts_86 rfl ?_
      refine G_iload (q := 91) hC dX7_contradicts_89 rfl rfl ?_
      obtain ⟨g1, hf⟩ := gd_ok hf
      refine G_iald (q := 92) hC dX7_contradicts_91 rfl (ok_194 g1) ?_
      refine G_iload (q := 94) hC dX7_contradicts_92 rfl rfl ?_
      refine G_icmp_eq (tgt := 101) (q := 97) hC dX7_contradicts_94 (by decide) rfl (fun c2 => ?_) (fun c2 => ?_)
      · have hf := (if_pos c2).symm.trans hf
        refine G_lv (lv' := [(0, .ref (eB E + 583)), (1, .int x1), (2, .int x2), (3, .int x3), (7, .int x7), (8, .int x8)]) [0, 1, 2, 3, 7, 8] rfl ?_
        exact t_X7_contradicts_b101 hC hk4 hk22  hf
      · have hf := (if_neg c2).symm.trans hf
        refine G_lv (lv' := [(0, .ref (eB E + 583)), (1, .int x1), (2, .int x2), (3, .int x3), (7, .int x7), (8, .int x8)]) [0, 1, 2, 3, 7, 8] rfl ?_
        exact t_X7_contradicts_b97 hC hk4 hk22  hf

def f_X7_contradicts_b133 (fu : Nat) (k4 : gSt → Int32 → Int32 → Int32 → Option (Int32 × gSt)) (σ : gSt) (x1 : Int32) (x3 : Int32) (xs0 : Int32) (xs1 : Int32) : Option (Int32 × gSt) :=
  k4 σ x1 (xs0 + xs1) (x3 + (1))
set_option maxRecDepth 100000 in
theorem t_X7_contradicts_b133 {fu : Nat} {k4 : gSt → Int32 → Int32 → Int32 → Option (Int32 × gSt)} {r : Int32 × gSt} (hC : gCx p s m args meth c cX7_contradicts 9 RX7 (some .int) E) (hk4 : ∀ (σ : gSt) (x1 : Int32) (x2 : Int32) (x3 : Int32), k4 σ x1 x2 x3 = some r → G p l e rm_X7_contradicts s m args below meth c 9 0 0 (MQ below (gQ E w 1 r) args s 0 0 (fun q => eB E ≤ q)) E w σ 4 [(0, .ref (eB E + 583)), (1, .int x1), (2, .int x2), (3, .int x3)] []) {σ : gSt} {x1 : Int32} {x3 : Int32} {xs0 : Int32} {xs1 : Int32}  (hf : f_X7_contradicts_b133 fu k4 σ x1 x3 xs0 xs1 = some r) : G p l e rm_X7_contradicts s m args below meth c 9 0 0 (MQ below (gQ E w 1 r) args s 0 0 (fun q => eB E ≤ q)) E w σ 133 [(0, .ref (eB E + 583)), (1, .int x1), (3, .int x3)] [.int xs1, .int xs0] := by
  unfold f_X7_contradicts_b133 at hf
  refine G_iadd (q := 134) hC dX7_contradicts_133 rfl ?_
  refine G_istore_n (q := 135) (lv' := [(2, .int (xs0 + xs1)), (0, .ref (eB E + 583)), (1, .int x1), (3, .int x3)]) hC dX7_contradicts_134 rfl (by decide) rfl ?_
  refine G_iinc (q := 138) (n := 3) (lv' := [(3, .int (x3 + (1))), (2, .int (xs0 + xs1)), (0, .ref (eB E + 583)), (1, .int x1)]) hC dX7_contradicts_135 rfl rfl (ii_1 _) (by decide) rfl ?_
  refine G_goto (tgt := 4) hC dX7_contradicts_138 (by decide) ?_
  refine G_lv (lv' := [(0, .ref (eB E + 583)), (1, .int x1), (2, .int (xs0 + xs1)), (3, .int (x3 + (1)))]) [2, 3, 1, 0] rfl ?_
  exact hk4 _ _ _ _  hf

def f_X7_contradicts_b22_B (fu : Nat) (k4 : gSt → Int32 → Int32 → Int32 → Option (Int32 × gSt)) (k22 : gSt → Int32 → Int32 → Int32 → Int32 → Int32 → Int32 → Int32 → Option (Int32 × gSt)) (σ : gSt) (x1 : Int32) (x2 : Int32) (x3 : Int32) (x4 : Int32) (x5 : Int32) (x6 : Int32) (x7 : Int32) : Option (Int32 × gSt) :=
  if (σ 183 0 0) ≤ x7 then (if x5 = 0 then (f_X7_contradicts_b133 fu k4 σ x1 x3 x2 (0 : Int32)) else (f_X7_contradicts_b133 fu k4 σ x1 x3 x2 (1 : Int32))) else (gd (inb x7 24) (if (σ 186 0 x7.toNatClampNeg) = (3 : Int32) then (gd (inb (((8 : Int32) * x7) + x3) 192) (if (σ 193 0 (((8 : Int32) * x7) + x3).toNatClampNeg) = 0 then (f_X7_contradicts_b116 fu k4 k22 σ x1 x2 x3 x4 x5 x6 x7) else (if x1 = 0 then (gd (inb x7 24) (if (σ 190 0 x7.toNatClampNeg) = 0 then (f_X7_contradicts_b75 fu k4 k22 σ x1 x2 x3 x4 x5 x6 x7 (((8 : Int32) * x7) + x3)) else (f_X7_contradicts_b116 fu k4 k22 σ x1 x2 x3 x4 x5 x6 x7))) else (f_X7_contradicts_b75 fu k4 k22 σ x1 x2 x3 x4 x5 x6 x7 (((8 : Int32) * x7) + x3))))) else (f_X7_contradicts_b116 fu k4 k22 σ x1 x2 x3 x4 x5 x6 x7)))
def f_X7_contradicts_b22 (fu : Nat) (k4 : gSt → Int32 → Int32 → Int32 → Option (Int32 × gSt)) : Nat → gSt → Int32 → Int32 → Int32 → Int32 → Int32 → Int32 → Int32 → Option (Int32 × gSt)
  | 0 => fun _ _ _ _ _ _ _ _ => none
  | n + 1 => f_X7_contradicts_b22_B fu k4 (f_X7_contradicts_b22 fu k4 n)
set_option maxRecDepth 100000 in
theorem t_X7_contradicts_b22_B {fu : Nat} {k4 : gSt → Int32 → Int32 → Int32 → Option (Int32 × gSt)} {k22 : gSt → Int32 → Int32 → Int32 → Int32 → Int32 → Int32 → Int32 → Option (Int32 × gSt)} {r : Int32 × gSt} (hC : gCx p s m args meth c cX7_contradicts 9 RX7 (some .int) E) (hk4 : ∀ (σ : gSt) (x1 : Int32) (x2 : Int32) (x3 : Int32), k4 σ x1 x2 x3 = some r → G p l e rm_X7_contradicts s m args below meth c 9 0 0 (MQ below (gQ E w 1 r) args s 0 0 (fun q => eB E ≤ q)) E w σ 4 [(0, .ref (eB E + 583)), (1, .int x1), (2, .int x2), (3, .int x3)] []) (hk22 : ∀ (σ : gSt) (x1 : Int32) (x2 : Int32) (x3 : Int32) (x4 : Int32) (x5 : Int32) (x6 : Int32) (x7 : Int32), k22 σ x1 x2 x3 x4 x5 x6 x7 = some r → G p l e rm_X7_contradicts s m args below meth c 9 0 0 (MQ below (gQ E w 1 r) args s 0 0 (fun q => eB E ≤ q)) E w σ 22 [(0, .ref (eB E + 583)), (1, .int x1), (2, .int x2), (3, .int x3), (4, .int x4), (5, .int x5), (6, .int x6), (7, .int x7)] []) {σ : gSt} {x1 : Int32} {x2 : Int32} {x3 : Int32} {x4 : Int32} {x5 : Int32} {x6 : Int32} {x7 : Int32}  (hf : f_X7_contradicts_b22_B fu k4 k22 σ x1 x2 x3 x4 x5 x6 x7 = some r) : G p l e rm_X7_contradicts s m args below meth c 9 0 0 (MQ below (gQ E w 1 r) args s 0 0 (fun q => eB E ≤ q)) E w σ 22 [(0, .ref (eB E + 583)), (1, .int x1), (2, .int x2), (3, .int x3), (4, .int x4), (5, .int x5), (6, .int x6), (7, .int x7)] [] := by
  unfold f_X7_contradicts_b22_B at hf
  refine G_iload (q := 24) hC dX7_contradicts_22 rfl rfl ?_
  refine G_aload_n (q := 25) hC dX7_contradicts_24 rfl rfl ?_
  refine gf_RX7_78 (q := 28) hC dX7_contradicts_25 rfl ?_
  refine G_icmp_ge (tgt := 122) (q := 31) hC dX7_contradicts_28 (by decide) rfl (fun c0 => ?_) (fun c0 => ?_)
  · have hf := (if_pos c0).symm.trans hf
    refine G_iload_n (q := 123) hC dX7_contradicts_122 rfl rfl ?_
    refine G_iload (q := 125) hC dX7_contradicts_123 rfl rfl ?_
    refine G_if_eq (tgt := 132) (q := 128) hC dX7_contradicts_125 (by decide) rfl (fun c1 => ?_) (fun c1 => ?_)
    · have hf := (if_pos c1).symm.trans hf
      refine G_iconst (q := 133) hC dX7_contradicts_132 rfl ic_0 ?_
      refine G_lv (lv' := [(0, .ref (eB E + 583)), (1, .int x1), (3, .int x3)]) [0, 1, 3] rfl ?_
      exact t_X7_contradicts_b133 hC hk4  hf
    · have hf := (if_neg c1).symm.trans hf
      refine G_iconst (q := 129) hC dX7_contradicts_128 rfl ic_1 ?_
      refine G_goto (tgt := 133) hC dX7_contradicts_129 (by decide) ?_
      refine G_lv (lv' := [(0, .ref (eB E + 583)), (1, .int x1), (3, .int x3)]) [0, 1, 3] rfl ?_
      exact t_X7_contradicts_b133 hC hk4  hf
  · have hf := (if_neg c0).symm.trans hf
    refine G_bipush (q := 33) hC dX7_contradicts_31 rfl bp_8 ?_
    refine G_iload (q := 35) hC dX7_contradicts_33 rfl rfl ?_
    refine G_imul (q := 36) hC dX7_contradicts_35 rfl ?_
    refine G_iload_n (q := 37) hC dX7_contradicts_36 rfl rfl ?_
    refine G_iadd (q := 38) hC dX7_contradicts_37 rfl ?_
    refine G_istore (q := 40) (lv' := [(8, .int (((8 : Int32) * x7) + x3)), (0, .ref (eB E + 583)), (1, .int x1), (2, .int x2), (3, .int x3), (4, .int x4), (5, .int x5), (6, .int x6), (7, .int x7)]) hC dX7_contradicts_38 rfl (by decide) rfl ?_
    refine G_aload_n (q := 41) hC dX7_contradicts_40 rfl rfl ?_
    refine gf_RX7_22 (q := 44) hC dX7_contradicts_41 rfl ?_
    refine G_iload (q := 46) hC dX7_contradicts_44 rfl rfl ?_
    obtain ⟨g1, hf⟩ := gd_ok hf
    refine G_iald (q := 47) hC dX7_contradicts_46 rfl (ok_186 g1) ?_
    refine G_iconst (q := 48) hC dX7_contradicts_47 rfl ic_3 ?_
    refine G_icmp_ne (tgt := 116) (q := 51) hC dX7_contradicts_48 (by decide) rfl (fun c2 => ?_) (fun c2 => ?_)
    · have hf := (if_neg c2).symm.trans hf
      refine G_lv (lv' := [(0, .ref (eB E + 583)), (1, .int x1), (2, .int x2), (3, .int x3), (4, .int x4), (5, .int x5), (6, .int x6), (7, .int x7)]) [1, 2, 3, 4, 5, 6, 7, 8] rfl ?_
      exact t_X7_contradicts_b116 hC hk4 hk22  hf
    · have hf := (if_pos c2).symm.trans hf
      refine G_aload_n (q := 52) hC dX7_contradicts_51 rfl rfl ?_
      refine gf_RX7_44 (q := 55) hC dX7_contradicts_52 rfl ?_
      refine G_iload (q := 57) hC dX7_contradicts_55 rfl rfl ?_
      obtain ⟨g2, hf⟩ := gd_ok hf
      refine G_zald (q := 58) hC dX7_contradicts_57 rfl (ok_193 g2) ?_
      refine G_if_eq (tgt := 116) (q := 61) hC dX7_contradicts_58 (by decide) rfl (fun c3 => ?_) (fun c3 => ?_)
      · have hf := (if_pos c3).symm.trans hf
        refine G_lv (lv' := [(0, .ref (eB E + 583)), (1, .int x1), (2, .int x2), (3, .int x3), (4, .int x4), (5, .int x5), (6, .int x6), (7, .int x7)]) [1, 2, 3, 4, 5, 6, 7, 8] rfl ?_
        exact t_X7_contradicts_b116 hC hk4 hk22  hf
      · have hf := (if_neg c3).symm.trans hf
        refine G_iload_n (q := 62) hC dX7_contradicts_61 rfl rfl ?_
        refine G_if_ne (tgt := 75) (q := 65) hC dX7_contradicts_62 (by decide) rfl (fun c4 => ?_) (fun c4 => ?_)
        · have hf := (if_neg c4).symm.trans hf
          refine G_lv (lv' := [(0, .ref (eB E + 583)), (1, .int x1), (2, .int x2), (3, .int x3), (4, .int x4), (5, .int x5), (6, .int x6), (7, .int x7), (8, .int (((8 : Int32) * x7) + x3))]) [1, 2, 3, 4, 5, 6, 7, 8, 0] rfl ?_
          exact t_X7_contradicts_b75 hC hk4 hk22  hf
        · have hf := (if_pos c4).symm.trans hf
          refine G_aload_n (q := 66) hC dX7_contradicts_65 rfl rfl ?_
          refine gf_RX7_34 (q := 69) hC dX7_contradicts_66 rfl ?_
          refine G_iload (q := 71) hC dX7_contradicts_69 rfl rfl ?_
          obtain ⟨g3, hf⟩ := gd_ok hf
          refine G_zald (q := 72) hC dX7_contradicts_71 rfl (ok_190 g3) ?_
          refine G_if_ne (tgt := 116) (q := 75) hC dX7_contradicts_72 (by decide) rfl (fun c5 => ?_) (fun c5 => ?_)
          · have hf := (if_neg c5).symm.trans hf
            refine G_lv (lv' := [(0, .ref (eB E + 583)), (1, .int x1), (2, .int x2), (3, .int x3), (4, .int x4), (5, .int x5), (6, .int x6), (7, .int x7)]) [1, 2, 3, 4, 5, 6, 7, 8] rfl ?_
            exact t_X7_contradicts_b116 hC hk4 hk22  hf
          · have hf := (if_pos c5).symm.trans hf
            refine G_lv (lv' := [(0, .ref (eB E + 583)), (1, .int x1), (2, .int x2), (3, .int x3), (4, .int x4), (5, .int x5), (6, .int x6), (7, .int x7), (8, .int (((8 : Int32) * x7) + x3))]) [1, 2, 3, 4, 5, 6, 7, 8, 0] rfl ?_
            exact t_X7_contradicts_b75 hC hk4 hk22  hf

theorem t_X7_contradicts_b22 {fu : Nat} {k4 : gSt → Int32 → Int32 → Int32 → Option (Int32 × gSt)} {r : Int32 × gSt} (hC : gCx p s m args meth c cX7_contradicts 9 RX7 (some .int) E) (hk4 : ∀ (σ : gSt) (x1 : Int32) (x2 : Int32) (x3 : Int32), k4 σ x1 x2 x3 = some r → G p l e rm_X7_contradicts s m args below meth c 9 0 0 (MQ below (gQ E w 1 r) args s 0 0 (fun q => eB E ≤ q)) E w σ 4 [(0, .ref (eB E + 583)), (1, .int x1), (2, .int x2), (3, .int x3)] []) (n : Nat) : ∀ (σ : gSt) (x1 : Int32) (x2 : Int32) (x3 : Int32) (x4 : Int32) (x5 : Int32) (x6 : Int32) (x7 : Int32), f_X7_contradicts_b22 fu k4 n σ x1 x2 x3 x4 x5 x6 x7 = some r → G p l e rm_X7_contradicts s m args below meth c 9 0 0 (MQ below (gQ E w 1 r) args s 0 0 (fun q => eB E ≤ q)) E w σ 22 [(0, .ref (eB E + 583)), (1, .int x1), (2, .int x2), (3, .int x3), (4, .int x4), (5, .int x5), (6, .int x6), (7, .int x7)] [] := by
  induction n with
  | zero => intro σ x1 x2 x3 x4 x5 x6 x7  hf; cases hf
  | succ n ih => intro σ x1 x2 x3 x4 x5 x6 x7  hf; exact t_X7_contradicts_b22_B hC hk4 ih  hf
def f_X7_contradicts_b4_B (fu : Nat) (k4 : gSt → Int32 → Int32 → Int32 → Option (Int32 × gSt)) (σ : gSt) (x1 : Int32) (x2 : Int32) (x3 : Int32) : Option (Int32 × gSt) :=
  if (8 : Int32) ≤ x3 then (some (x2, σ)) else (f_X7_contradicts_b22 fu k4 fu σ x1 x2 x3 (0 : Int32) (0 : Int32) (0 : Int32) (0 : Int32))
def f_X7_contradicts_b4 (fu : Nat)  : Nat → gSt → Int32 → Int32 → Int32 → Option (Int32 × gSt)
  | 0 => fun _ _ _ _ => none
  | n + 1 => f_X7_contradicts_b4_B fu  (f_X7_contradicts_b4 fu  n)
set_option maxRecDepth 100000 in
theorem t_X7_contradicts_b4_B {fu : Nat} {k4 : gSt → Int32 → Int32 → Int32 → Option (Int32 × gSt)} {r : Int32 × gSt} (hC : gCx p s m args meth c cX7_contradicts 9 RX7 (some .int) E) (hk4 : ∀ (σ : gSt) (x1 : Int32) (x2 : Int32) (x3 : Int32), k4 σ x1 x2 x3 = some r → G p l e rm_X7_contradicts s m args below meth c 9 0 0 (MQ below (gQ E w 1 r) args s 0 0 (fun q => eB E ≤ q)) E w σ 4 [(0, .ref (eB E + 583)), (1, .int x1), (2, .int x2), (3, .int x3)] []) {σ : gSt} {x1 : Int32} {x2 : Int32} {x3 : Int32}  (hf : f_X7_contradicts_b4_B fu k4 σ x1 x2 x3 = some r) : G p l e rm_X7_contradicts s m args below meth c 9 0 0 (MQ below (gQ E w 1 r) args s 0 0 (fun q => eB E ≤ q)) E w σ 4 [(0, .ref (eB E + 583)), (1, .int x1), (2, .int x2), (3, .int x3)] [] := by
  unfold f_X7_contradicts_b4_B at hf
  refine G_iload_n (q := 5) hC dX7_contradicts_4 rfl rfl ?_
  refine G_bipush (q := 7) hC dX7_contradicts_5 rfl bp_8 ?_
  refine G_icmp_ge (tgt := 141) (q := 10) hC dX7_contradicts_7 (by decide) rfl (fun c0 => ?_) (fun c0 => ?_)
  · have hf := (if_pos c0).symm.trans hf
    refine G_iload_n (q := 142) hC dX7_contradicts_141 rfl rfl ?_
    exact G_iret hC hf rfl rfl dX7_contradicts_142
  · have hf := (if_neg c0).symm.trans hf
    refine G_iconst (q := 11) hC dX7_contradicts_10 rfl ic_0 ?_
    refine G_istore (q := 13) (lv' := [(4, .int (0 : Int32)), (0, .ref (eB E + 583)), (1, .int x1), (2, .int x2), (3, .int x3)]) hC dX7_contradicts_11 rfl (by decide) rfl ?_
    refine G_iconst (q := 14) hC dX7_contradicts_13 rfl ic_0 ?_
    refine G_istore (q := 16) (lv' := [(5, .int (0 : Int32)), (4, .int (0 : Int32)), (0, .ref (eB E + 583)), (1, .int x1), (2, .int x2), (3, .int x3)]) hC dX7_contradicts_14 rfl (by decide) rfl ?_
    refine G_iconst (q := 17) hC dX7_contradicts_16 rfl ic_0 ?_
    refine G_istore (q := 19) (lv' := [(6, .int (0 : Int32)), (5, .int (0 : Int32)), (4, .int (0 : Int32)), (0, .ref (eB E + 583)), (1, .int x1), (2, .int x2), (3, .int x3)]) hC dX7_contradicts_17 rfl (by decide) rfl ?_
    refine G_iconst (q := 20) hC dX7_contradicts_19 rfl ic_0 ?_
    refine G_istore (q := 22) (lv' := [(7, .int (0 : Int32)), (6, .int (0 : Int32)), (5, .int (0 : Int32)), (4, .int (0 : Int32)), (0, .ref (eB E + 583)), (1, .int x1), (2, .int x2), (3, .int x3)]) hC dX7_contradicts_20 rfl (by decide) rfl ?_
    refine G_lv (lv' := [(0, .ref (eB E + 583)), (1, .int x1), (2, .int x2), (3, .int x3), (4, .int (0 : Int32)), (5, .int (0 : Int32)), (6, .int (0 : Int32)), (7, .int (0 : Int32))]) [4, 5, 6, 7, 3, 2, 1, 0] rfl ?_
    exact t_X7_contradicts_b22 hC hk4 fu _ _ _ _ _ _ _ _  hf

theorem t_X7_contradicts_b4 {fu : Nat}  {r : Int32 × gSt} (hC : gCx p s m args meth c cX7_contradicts 9 RX7 (some .int) E)  (n : Nat) : ∀ (σ : gSt) (x1 : Int32) (x2 : Int32) (x3 : Int32), f_X7_contradicts_b4 fu  n σ x1 x2 x3 = some r → G p l e rm_X7_contradicts s m args below meth c 9 0 0 (MQ below (gQ E w 1 r) args s 0 0 (fun q => eB E ≤ q)) E w σ 4 [(0, .ref (eB E + 583)), (1, .int x1), (2, .int x2), (3, .int x3)] [] := by
  induction n with
  | zero => intro σ x1 x2 x3  hf; cases hf
  | succ n ih => intro σ x1 x2 x3  hf; exact t_X7_contradicts_b4_B hC  ih  hf
def f_X7_contradicts (fu : Nat)  (σ : gSt) (x1 : Int32) : Option (Int32 × gSt) :=
  f_X7_contradicts_b4 fu  fu σ x1 (0 : Int32) (0 : Int32)
set_option maxRecDepth 100000 in
theorem t_X7_contradicts {fu : Nat}  {r : Int32 × gSt} (hC : gCx p s m args meth c cX7_contradicts 9 RX7 (some .int) E)  {σ : gSt} {x1 : Int32}  (hf : f_X7_contradicts fu  σ x1 = some r) : G p l e rm_X7_contradicts s m args below meth c 9 0 0 (MQ below (gQ E w 1 r) args s 0 0 (fun q => eB E ≤ q)) E w σ 0 [(0, .ref (eB E + 583)), (1, .int x1)] [] := by
  unfold f_X7_contradicts at hf
  refine G_iconst (q := 1) hC dX7_contradicts_0 rfl ic_0 ?_
  refine G_istore_n (q := 2) (lv' := [(2, .int (0 : Int32)), (0, .ref (eB E + 583)), (1, .int x1)]) hC dX7_contradicts_1 rfl (by decide) rfl ?_
  refine G_iconst (q := 3) hC dX7_contradicts_2 rfl ic_0 ?_
  refine G_istore_n (q := 4) (lv' := [(3, .int (0 : Int32)), (2, .int (0 : Int32)), (0, .ref (eB E + 583)), (1, .int x1)]) hC dX7_contradicts_3 rfl (by decide) rfl ?_
  refine G_lv (lv' := [(0, .ref (eB E + 583)), (1, .int x1), (2, .int (0 : Int32)), (3, .int (0 : Int32))]) [2, 3, 1, 0] rfl ?_
  exact t_X7_contradicts_b4 hC  fu _ _ _ _  hf

theorem m_X7_contradicts {l : Launch} {fu : Nat} {E : gE} {w : Nat → Int64} {σ : gSt} {x1 : Int32} {r : Int32 × gSt}  (hf : f_X7_contradicts fu σ x1 = some r) : gM l yX7_contradicts cX7_contradicts 9 (some .int) rm_X7_contradicts 1 E w σ [.ref (eB E + 583), .int x1] r :=
  gM_of (by decide +kernel) (Nat.le_of_ble_eq_true rfl) (fun p e s m args below meth c hC => t_X7_contradicts hC  hf)
def f_X7_contradictions (fu : Nat)  (σ : gSt) (x1 : Int32) : Option (Int32 × gSt) :=
  bd (f_X7_contradicts fu (gU σ 209 0 0 (0 : Int32)) x1) (fun v1 σ1 => some (v1, σ1))
set_option maxRecDepth 100000 in
theorem t_X7_contradictions {fu : Nat}  {r : Int32 × gSt} (hC : gCx p s m args meth c cX7_contradictions 2 RX7 (some .int) E)  {σ : gSt} {x1 : Int32}  (hf : f_X7_contradictions fu  σ x1 = some r) : G p l e rm_X7_contradictions s m args below meth c 2 0 0 (MQ below (gQ E w 1 r) args s 0 0 (fun q => eB E ≤ q)) E w σ 0 [(0, .ref (eB E + 583)), (1, .int x1)] [] := by
  unfold f_X7_contradictions at hf
  refine G_aload_n (q := 1) hC dX7_contradictions_0 rfl rfl ?_
  refine G_iconst (q := 2) hC dX7_contradictions_1 rfl ic_0 ?_
  refine pf_RX7_74 (q := 5) hC dX7_contradictions_2 rfl ?_
  refine G_aload_n (q := 6) hC dX7_contradictions_5 rfl rfl ?_
  refine G_iload_n (q := 7) hC dX7_contradictions_6 rfl rfl ?_
  obtain ⟨v1, σ1, hm1, hf⟩ := bd_ok hf
  refine cl_RX7_186 (q := 10) hC dX7_contradictions_7 rfl (m_X7_contradicts hm1) ⟨Nat.le_of_ble_eq_true rfl, Nat.le_of_ble_eq_true rfl⟩ (Nat.le_of_ble_eq_true rfl) ⟨Nat.le_of_ble_eq_true rfl, Nat.le_of_ble_eq_true rfl⟩ ?_
  exact G_iret hC hf rfl rfl dX7_contradictions_10

theorem m_X7_contradictions {l : Launch} {fu : Nat} {E : gE} {w : Nat → Int64} {σ : gSt} {x1 : Int32} {r : Int32 × gSt}  (hf : f_X7_contradictions fu σ x1 = some r) : gM l yX7_contradictions cX7_contradictions 2 (some .int) rm_X7_contradictions 1 E w σ [.ref (eB E + 583), .int x1] r :=
  gM_of (by decide +kernel) (Nat.le_of_ble_eq_true rfl) (fun p e s m args below meth c hC => t_X7_contradictions hC  hf)
def f_X7_readAnew (fu : Nat)  (σ : gSt) (x1 : Int32) : Option (Int32 × gSt) :=
  bd (f_X7_opens fu (gU σ 209 0 0 (0 : Int32)) x1) (fun v1 σ1 => bd (f_X7_contradicts fu σ1 x1) (fun v2 σ2 => some ((((100 : Int32) * v1) + v2), σ2)))
set_option maxRecDepth 100000 in
theorem t_X7_readAnew {fu : Nat}  {r : Int32 × gSt} (hC : gCx p s m args meth c cX7_readAnew 2 RX7 (some .int) E)  {σ : gSt} {x1 : Int32}  (hf : f_X7_readAnew fu  σ x1 = some r) : G p l e rm_X7_readAnew s m args below meth c 2 0 0 (MQ below (gQ E w 1 r) args s 0 0 (fun q => eB E ≤ q)) E w σ 0 [(0, .ref (eB E + 583)), (1, .int x1)] [] := by
  unfold f_X7_readAnew at hf
  refine G_aload_n (q := 1) hC dX7_readAnew_0 rfl rfl ?_
  refine G_iconst (q := 2) hC dX7_readAnew_1 rfl ic_0 ?_
  refine pf_RX7_74 (q := 5) hC dX7_readAnew_2 rfl ?_
  refine G_bipush (q := 7) hC dX7_readAnew_5 rfl bp_100 ?_
  refine G_aload_n (q := 8) hC dX7_readAnew_7 rfl rfl ?_
  refine G_iload_n (q := 9) hC dX7_readAnew_8 rfl rfl ?_
  obtain ⟨v1, σ1, hm1, hf⟩ := bd_ok hf
  refine cl_RX7_182 (q := 12) hC dX7_readAnew_9 rfl (m_X7_opens hm1) ⟨Nat.le_of_ble_eq_true rfl, Nat.le_of_ble_eq_true rfl⟩ (Nat.le_of_ble_eq_true rfl) ⟨Nat.le_of_ble_eq_true rfl, Nat.le_of_ble_eq_true rfl⟩ ?_
  refine G_imul (q := 13) hC dX7_readAnew_12 rfl ?_
  refine G_aload_n (q := 14) hC dX7_readAnew_13 rfl rfl ?_
  refine G_iload_n (q := 15) hC dX7_readAnew_14 rfl rfl ?_
  obtain ⟨v2, σ2, hm2, hf⟩ := bd_ok hf
  refine cl_RX7_186 (q := 18) hC dX7_readAnew_15 rfl (m_X7_contradicts hm2) ⟨Nat.le_of_ble_eq_true rfl, Nat.le_of_ble_eq_true rfl⟩ (Nat.le_of_ble_eq_true rfl) ⟨Nat.le_of_ble_eq_true rfl, Nat.le_of_ble_eq_true rfl⟩ ?_
  refine G_iadd (q := 19) hC dX7_readAnew_18 rfl ?_
  exact G_iret hC hf rfl rfl dX7_readAnew_19

theorem m_X7_readAnew {l : Launch} {fu : Nat} {E : gE} {w : Nat → Int64} {σ : gSt} {x1 : Int32} {r : Int32 × gSt}  (hf : f_X7_readAnew fu σ x1 = some r) : gM l yX7_readAnew cX7_readAnew 2 (some .int) rm_X7_readAnew 1 E w σ [.ref (eB E + 583), .int x1] r :=
  gM_of (by decide +kernel) (Nat.le_of_ble_eq_true rfl) (fun p e s m args below meth c hC => t_X7_readAnew hC  hf)
def f_X7_synopsis_b87 (fu : Nat) (k25 : gSt → Int32 → Int32 → Int32 → Option (Int32 × gSt)) (σ : gSt) (x1 : Int32) (x3 : Int32) (xs0 : Int32) (xs1 : Int32) : Option (Int32 × gSt) :=
  k25 σ x1 (xs0 + xs1) (x3 + (1))
set_option maxRecDepth 100000 in
theorem t_X7_synopsis_b87 {fu : Nat} {k25 : gSt → Int32 → Int32 → Int32 → Option (Int32 × gSt)} {r : Int32 × gSt} (hC : gCx p s m args meth c cX7_synopsis 5 RX7 (some .int) E) (hk25 : ∀ (σ : gSt) (x1 : Int32) (x2 : Int32) (x3 : Int32), k25 σ x1 x2 x3 = some r → G p l e rm_X7_synopsis s m args below meth c 5 0 0 (MQ below (gQ E w 1 r) args s 0 0 (fun q => eB E ≤ q)) E w σ 25 [(0, .ref (eB E + 583)), (1, .int x1), (2, .int x2), (3, .int x3)] []) {σ : gSt} {x1 : Int32} {x3 : Int32} {xs0 : Int32} {xs1 : Int32}  (hf : f_X7_synopsis_b87 fu k25 σ x1 x3 xs0 xs1 = some r) : G p l e rm_X7_synopsis s m args below meth c 5 0 0 (MQ below (gQ E w 1 r) args s 0 0 (fun q => eB E ≤ q)) E w σ 87 [(0, .ref (eB E + 583)), (1, .int x1), (3, .int x3)] [.int xs1, .int xs0] := by
  unfold f_X7_synopsis_b87 at hf
  refine G_iadd (q := 88) hC dX7_synopsis_87 rfl ?_
  refine G_istore_n (q := 89) (lv' := [(2, .int (xs0 + xs1)), (0, .ref (eB E + 583)), (1, .int x1), (3, .int x3)]) hC dX7_synopsis_88 rfl (by decide) rfl ?_
  refine G_iinc (q := 92) (n := 3) (lv' := [(3, .int (x3 + (1))), (2, .int (xs0 + xs1)), (0, .ref (eB E + 583)), (1, .int x1)]) hC dX7_synopsis_89 rfl rfl (ii_1 _) (by decide) rfl ?_
  refine G_goto (tgt := 25) hC dX7_synopsis_92 (by decide) ?_
  refine G_lv (lv' := [(0, .ref (eB E + 583)), (1, .int x1), (2, .int (xs0 + xs1)), (3, .int (x3 + (1)))]) [2, 3, 1, 0] rfl ?_
  exact hk25 _ _ _ _  hf

def f_X7_synopsis_b86 (fu : Nat) (k25 : gSt → Int32 → Int32 → Int32 → Option (Int32 × gSt)) (σ : gSt) (x1 : Int32) (x3 : Int32) (xs0 : Int32) : Option (Int32 × gSt) :=
  f_X7_synopsis_b87 fu k25 σ x1 x3 xs0 (0 : Int32)
set_option maxRecDepth 100000 in
theorem t_X7_synopsis_b86 {fu : Nat} {k25 : gSt → Int32 → Int32 → Int32 → Option (Int32 × gSt)} {r : Int32 × gSt} (hC : gCx p s m args meth c cX7_synopsis 5 RX7 (some .int) E) (hk25 : ∀ (σ : gSt) (x1 : Int32) (x2 : Int32) (x3 : Int32), k25 σ x1 x2 x3 = some r → G p l e rm_X7_synopsis s m args below meth c 5 0 0 (MQ below (gQ E w 1 r) args s 0 0 (fun q => eB E ≤ q)) E w σ 25 [(0, .ref (eB E + 583)), (1, .int x1), (2, .int x2), (3, .int x3)] []) {σ : gSt} {x1 : Int32} {x3 : Int32} {xs0 : Int32}  (hf : f_X7_synopsis_b86 fu k25 σ x1 x3 xs0 = some r) : G p l e rm_X7_synopsis s m args below meth c 5 0 0 (MQ below (gQ E w 1 r) args s 0 0 (fun q => eB E ≤ q)) E w σ 86 [(0, .ref (eB E + 583)), (1, .int x1), (3, .int x3)] [.int xs0] := by
  unfold f_X7_synopsis_b86 at hf
  refine G_iconst (q := 87) hC dX7_synopsis_86 rfl ic_0 ?_
  exact t_X7_synopsis_b87 hC hk25  hf

def f_X7_synopsis_b65 (fu : Nat) (k25 : gSt → Int32 → Int32 → Int32 → Option (Int32 × gSt)) (σ : gSt) (x1 : Int32) (x2 : Int32) (x3 : Int32) (x4 : Int32) : Option (Int32 × gSt) :=
  gd (inb x3 24) (if (σ 186 0 x3.toNatClampNeg) = (3 : Int32) then (if x4 = x1 then (f_X7_synopsis_b87 fu k25 σ x1 x3 x2 (1 : Int32)) else (f_X7_synopsis_b86 fu k25 σ x1 x3 x2)) else (f_X7_synopsis_b86 fu k25 σ x1 x3 x2))
set_option maxRecDepth 100000 in
theorem t_X7_synopsis_b65 {fu : Nat} {k25 : gSt → Int32 → Int32 → Int32 → Option (Int32 × gSt)} {r : Int32 × gSt} (hC : gCx p s m args meth c cX7_synopsis 5 RX7 (some .int) E) (hk25 : ∀ (σ : gSt) (x1 : Int32) (x2 : Int32) (x3 : Int32), k25 σ x1 x2 x3 = some r → G p l e rm_X7_synopsis s m args below meth c 5 0 0 (MQ below (gQ E w 1 r) args s 0 0 (fun q => eB E ≤ q)) E w σ 25 [(0, .ref (eB E + 583)), (1, .int x1), (2, .int x2), (3, .int x3)] []) {σ : gSt} {x1 : Int32} {x2 : Int32} {x3 : Int32} {x4 : Int32}  (hf : f_X7_synopsis_b65 fu k25 σ x1 x2 x3 x4 = some r) : G p l e rm_X7_synopsis s m args below meth c 5 0 0 (MQ below (gQ E w 1 r) args s 0 0 (fun q => eB E ≤ q)) E w σ 65 [(0, .ref (eB E + 583)), (1, .int x1), (2, .int x2), (3, .int x3), (4, .int x4)] [] := by
  unfold f_X7_synopsis_b65 at hf
  refine G_iload_n (q := 66) hC dX7_synopsis_65 rfl rfl ?_
  refine G_aload_n (q := 67) hC dX7_synopsis_66 rfl rfl ?_
  refine gf_RX7_22 (q := 70) hC dX7_synopsis_67 rfl ?_
  refine G_iload_n (q := 71) hC dX7_synopsis_70 rfl rfl ?_
  obtain ⟨g1, hf⟩ := gd_ok hf
  refine G_iald (q := 72) hC dX7_synopsis_71 rfl (ok_186 g1) ?_
  refine G_iconst (q := 73) hC dX7_synopsis_72 rfl ic_3 ?_
  refine G_icmp_ne (tgt := 86) (q := 76) hC dX7_synopsis_73 (by decide) rfl (fun c0 => ?_) (fun c0 => ?_)
  · have hf := (if_neg c0).symm.trans hf
    refine G_lv (lv' := [(0, .ref (eB E + 583)), (1, .int x1), (3, .int x3)]) [0, 1, 3] rfl ?_
    exact t_X7_synopsis_b86 hC hk25  hf
  · have hf := (if_pos c0).symm.trans hf
    refine G_iload (q := 78) hC dX7_synopsis_76 rfl rfl ?_
    refine G_iload_n (q := 79) hC dX7_synopsis_78 rfl rfl ?_
    refine G_icmp_ne (tgt := 86) (q := 82) hC dX7_synopsis_79 (by decide) rfl (fun c1 => ?_) (fun c1 => ?_)
    · have hf := (if_neg c1).symm.trans hf
      refine G_lv (lv' := [(0, .ref (eB E + 583)), (1, .int x1), (3, .int x3)]) [0, 1, 3] rfl ?_
      exact t_X7_synopsis_b86 hC hk25  hf
    · have hf := (if_pos c1).symm.trans hf
      refine G_iconst (q := 83) hC dX7_synopsis_82 rfl ic_1 ?_
      refine G_goto (tgt := 87) hC dX7_synopsis_83 (by decide) ?_
      refine G_lv (lv' := [(0, .ref (eB E + 583)), (1, .int x1), (3, .int x3)]) [0, 1, 3] rfl ?_
      exact t_X7_synopsis_b87 hC hk25  hf

def f_X7_synopsis_b41_B (fu : Nat) (k25 : gSt → Int32 → Int32 → Int32 → Option (Int32 × gSt)) (k41 : gSt → Int32 → Int32 → Int32 → Int32 → Option (Int32 × gSt)) (σ : gSt) (x1 : Int32) (x2 : Int32) (x3 : Int32) (x4 : Int32) : Option (Int32 × gSt) :=
  if x4 = (-1 : Int32) then (f_X7_synopsis_b65 fu k25 σ x1 x2 x3 x4) else (if x4 = x1 then (f_X7_synopsis_b65 fu k25 σ x1 x2 x3 x4) else (gd (inb x4 10) (k41 σ x1 x2 x3 (σ 195 0 x4.toNatClampNeg))))
def f_X7_synopsis_b41 (fu : Nat) (k25 : gSt → Int32 → Int32 → Int32 → Option (Int32 × gSt)) : Nat → gSt → Int32 → Int32 → Int32 → Int32 → Option (Int32 × gSt)
  | 0 => fun _ _ _ _ _ => none
  | n + 1 => f_X7_synopsis_b41_B fu k25 (f_X7_synopsis_b41 fu k25 n)
set_option maxRecDepth 100000 in
theorem t_X7_synopsis_b41_B {fu : Nat} {k25 : gSt → Int32 → Int32 → Int32 → Option (Int32 × gSt)} {k41 : gSt → Int32 → Int32 → Int32 → Int32 → Option (Int32 × gSt)} {r : Int32 × gSt} (hC : gCx p s m args meth c cX7_synopsis 5 RX7 (some .int) E) (hk25 : ∀ (σ : gSt) (x1 : Int32) (x2 : Int32) (x3 : Int32), k25 σ x1 x2 x3 = some r → G p l e rm_X7_synopsis s m args below meth c 5 0 0 (MQ below (gQ E w 1 r) args s 0 0 (fun q => eB E ≤ q)) E w σ 25 [(0, .ref (eB E + 583)), (1, .int x1), (2, .int x2), (3, .int x3)] []) (hk41 : ∀ (σ : gSt) (x1 : Int32) (x2 : Int32) (x3 : Int32) (x4 : Int32), k41 σ x1 x2 x3 x4 = some r → G p l e rm_X7_synopsis s m args below meth c 5 0 0 (MQ below (gQ E w 1 r) args s 0 0 (fun q => eB E ≤ q)) E w σ 41 [(0, .ref (eB E + 583)), (1, .int x1), (2, .int x2), (3, .int x3), (4, .int x4)] []) {σ : gSt} {x1 : Int32} {x2 : Int32} {x3 : Int32} {x4 : Int32}  (hf : f_X7_synopsis_b41_B fu k25 k41 σ x1 x2 x3 x4 = some r) : G p l e rm_X7_synopsis s m args below meth c 5 0 0 (MQ below (gQ E w 1 r) args s 0 0 (fun q => eB E ≤ q)) E w σ 41 [(0, .ref (eB E + 583)), (1, .int x1), (2, .int x2), (3, .int x3), (4, .int x4)] [] := by
  unfold f_X7_synopsis_b41_B at hf
  refine G_iload (q := 43) hC dX7_synopsis_41 rfl rfl ?_
  refine G_iconst (q := 44) hC dX7_synopsis_43 rfl ic_m1 ?_
  refine G_icmp_eq (tgt := 65) (q := 47) hC dX7_synopsis_44 (by decide) rfl (fun c0 => ?_) (fun c0 => ?_)
  · have hf := (if_pos c0).symm.trans hf
    exact t_X7_synopsis_b65 hC hk25  hf
  · have hf := (if_neg c0).symm.trans hf
    refine G_iload (q := 49) hC dX7_synopsis_47 rfl rfl ?_
    refine G_iload_n (q := 50) hC dX7_synopsis_49 rfl rfl ?_
    refine G_icmp_eq (tgt := 65) (q := 53) hC dX7_synopsis_50 (by decide) rfl (fun c1 => ?_) (fun c1 => ?_)
    · have hf := (if_pos c1).symm.trans hf
      exact t_X7_synopsis_b65 hC hk25  hf
    · have hf := (if_neg c1).symm.trans hf
      refine G_aload_n (q := 54) hC dX7_synopsis_53 rfl rfl ?_
      refine gf_RX7_50 (q := 57) hC dX7_synopsis_54 rfl ?_
      refine G_iload (q := 59) hC dX7_synopsis_57 rfl rfl ?_
      obtain ⟨g1, hf⟩ := gd_ok hf
      refine G_iald (q := 60) hC dX7_synopsis_59 rfl (ok_195 g1) ?_
      refine G_istore (q := 62) (lv' := [(4, .int (σ 195 0 x4.toNatClampNeg)), (0, .ref (eB E + 583)), (1, .int x1), (2, .int x2), (3, .int x3)]) hC dX7_synopsis_60 rfl (by decide) rfl ?_
      refine G_goto (tgt := 41) hC dX7_synopsis_62 (by decide) ?_
      refine G_lv (lv' := [(0, .ref (eB E + 583)), (1, .int x1), (2, .int x2), (3, .int x3), (4, .int (σ 195 0 x4.toNatClampNeg))]) [1, 2, 3, 4, 0] rfl ?_
      exact hk41 _ _ _ _ _  hf

theorem t_X7_synopsis_b41 {fu : Nat} {k25 : gSt → Int32 → Int32 → Int32 → Option (Int32 × gSt)} {r : Int32 × gSt} (hC : gCx p s m args meth c cX7_synopsis 5 RX7 (some .int) E) (hk25 : ∀ (σ : gSt) (x1 : Int32) (x2 : Int32) (x3 : Int32), k25 σ x1 x2 x3 = some r → G p l e rm_X7_synopsis s m args below meth c 5 0 0 (MQ below (gQ E w 1 r) args s 0 0 (fun q => eB E ≤ q)) E w σ 25 [(0, .ref (eB E + 583)), (1, .int x1), (2, .int x2), (3, .int x3)] []) (n : Nat) : ∀ (σ : gSt) (x1 : Int32) (x2 : Int32) (x3 : Int32) (x4 : Int32), f_X7_synopsis_b41 fu k25 n σ x1 x2 x3 x4 = some r → G p l e rm_X7_synopsis s m args below meth c 5 0 0 (MQ below (gQ E w 1 r) args s 0 0 (fun q => eB E ≤ q)) E w σ 41 [(0, .ref (eB E + 583)), (1, .int x1), (2, .int x2), (3, .int x3), (4, .int x4)] [] := by
  induction n with
  | zero => intro σ x1 x2 x3 x4  hf; cases hf
  | succ n ih => intro σ x1 x2 x3 x4  hf; exact t_X7_synopsis_b41_B hC hk25 ih  hf
def f_X7_synopsis_b25_B (fu : Nat) (k25 : gSt → Int32 → Int32 → Int32 → Option (Int32 × gSt)) (σ : gSt) (x1 : Int32) (x2 : Int32) (x3 : Int32) : Option (Int32 × gSt) :=
  if (σ 183 0 0) ≤ x3 then (some (x2, σ)) else (gd (inb x3 24) (f_X7_synopsis_b41 fu k25 fu σ x1 x2 x3 (σ 184 0 x3.toNatClampNeg)))
def f_X7_synopsis_b25 (fu : Nat)  : Nat → gSt → Int32 → Int32 → Int32 → Option (Int32 × gSt)
  | 0 => fun _ _ _ _ => none
  | n + 1 => f_X7_synopsis_b25_B fu  (f_X7_synopsis_b25 fu  n)
set_option maxRecDepth 100000 in
theorem t_X7_synopsis_b25_B {fu : Nat} {k25 : gSt → Int32 → Int32 → Int32 → Option (Int32 × gSt)} {r : Int32 × gSt} (hC : gCx p s m args meth c cX7_synopsis 5 RX7 (some .int) E) (hk25 : ∀ (σ : gSt) (x1 : Int32) (x2 : Int32) (x3 : Int32), k25 σ x1 x2 x3 = some r → G p l e rm_X7_synopsis s m args below meth c 5 0 0 (MQ below (gQ E w 1 r) args s 0 0 (fun q => eB E ≤ q)) E w σ 25 [(0, .ref (eB E + 583)), (1, .int x1), (2, .int x2), (3, .int x3)] []) {σ : gSt} {x1 : Int32} {x2 : Int32} {x3 : Int32}  (hf : f_X7_synopsis_b25_B fu k25 σ x1 x2 x3 = some r) : G p l e rm_X7_synopsis s m args below meth c 5 0 0 (MQ below (gQ E w 1 r) args s 0 0 (fun q => eB E ≤ q)) E w σ 25 [(0, .ref (eB E + 583)), (1, .int x1), (2, .int x2), (3, .int x3)] [] := by
  unfold f_X7_synopsis_b25_B at hf
  refine G_iload_n (q := 26) hC dX7_synopsis_25 rfl rfl ?_
  refine G_aload_n (q := 27) hC dX7_synopsis_26 rfl rfl ?_
  refine gf_RX7_78 (q := 30) hC dX7_synopsis_27 rfl ?_
  refine G_icmp_ge (tgt := 95) (q := 33) hC dX7_synopsis_30 (by decide) rfl (fun c0 => ?_) (fun c0 => ?_)
  · have hf := (if_pos c0).symm.trans hf
    refine G_iload_n (q := 96) hC dX7_synopsis_95 rfl rfl ?_
    exact G_iret hC hf rfl rfl dX7_synopsis_96
  · have hf := (if_neg c0).symm.trans hf
    refine G_aload_n (q := 34) hC dX7_synopsis_33 rfl rfl ?_
    refine gf_RX7_16 (q := 37) hC dX7_synopsis_34 rfl ?_
    refine G_iload_n (q := 38) hC dX7_synopsis_37 rfl rfl ?_
    obtain ⟨g1, hf⟩ := gd_ok hf
    refine G_iald (q := 39) hC dX7_synopsis_38 rfl (ok_184 g1) ?_
    refine G_istore (q := 41) (lv' := [(4, .int (σ 184 0 x3.toNatClampNeg)), (0, .ref (eB E + 583)), (1, .int x1), (2, .int x2), (3, .int x3)]) hC dX7_synopsis_39 rfl (by decide) rfl ?_
    refine G_lv (lv' := [(0, .ref (eB E + 583)), (1, .int x1), (2, .int x2), (3, .int x3), (4, .int (σ 184 0 x3.toNatClampNeg))]) [1, 2, 3, 4, 0] rfl ?_
    exact t_X7_synopsis_b41 hC hk25 fu _ _ _ _ _  hf

theorem t_X7_synopsis_b25 {fu : Nat}  {r : Int32 × gSt} (hC : gCx p s m args meth c cX7_synopsis 5 RX7 (some .int) E)  (n : Nat) : ∀ (σ : gSt) (x1 : Int32) (x2 : Int32) (x3 : Int32), f_X7_synopsis_b25 fu  n σ x1 x2 x3 = some r → G p l e rm_X7_synopsis s m args below meth c 5 0 0 (MQ below (gQ E w 1 r) args s 0 0 (fun q => eB E ≤ q)) E w σ 25 [(0, .ref (eB E + 583)), (1, .int x1), (2, .int x2), (3, .int x3)] [] := by
  induction n with
  | zero => intro σ x1 x2 x3  hf; cases hf
  | succ n ih => intro σ x1 x2 x3  hf; exact t_X7_synopsis_b25_B hC  ih  hf
def f_X7_synopsis_b13 (fu : Nat)  (σ : gSt) (x1 : Int32) (xs1 : Int32) : Option (Int32 × gSt) :=
  bd (f_X7_goes fu σ xs1) (fun v1 σ1 => if v1 = 0 then (some ((0 : Int32), σ1)) else (f_X7_synopsis_b25 fu  fu σ1 x1 (0 : Int32) (0 : Int32)))
set_option maxRecDepth 100000 in
theorem t_X7_synopsis_b13 {fu : Nat}  {r : Int32 × gSt} (hC : gCx p s m args meth c cX7_synopsis 5 RX7 (some .int) E)  {σ : gSt} {x1 : Int32} {xs1 : Int32}  (hf : f_X7_synopsis_b13 fu  σ x1 xs1 = some r) : G p l e rm_X7_synopsis s m args below meth c 5 0 0 (MQ below (gQ E w 1 r) args s 0 0 (fun q => eB E ≤ q)) E w σ 13 [(0, .ref (eB E + 583)), (1, .int x1)] [.int xs1, .ref (eB E + 583)] := by
  unfold f_X7_synopsis_b13 at hf
  obtain ⟨v1, σ1, hm1, hf⟩ := bd_ok hf
  refine cl_RX7_103 (q := 16) hC dX7_synopsis_13 rfl (m_X7_goes hm1) ⟨Nat.le_of_ble_eq_true rfl, Nat.le_of_ble_eq_true rfl⟩ (Nat.le_of_ble_eq_true rfl) ⟨Nat.le_of_ble_eq_true rfl, Nat.le_of_ble_eq_true rfl⟩ ?_
  refine G_if_ne (tgt := 21) (q := 19) hC dX7_synopsis_16 (by decide) rfl (fun c1 => ?_) (fun c1 => ?_)
  · have hf := (if_neg c1).symm.trans hf
    refine G_iconst (q := 22) hC dX7_synopsis_21 rfl ic_0 ?_
    refine G_istore_n (q := 23) (lv' := [(2, .int (0 : Int32)), (0, .ref (eB E + 583)), (1, .int x1)]) hC dX7_synopsis_22 rfl (by decide) rfl ?_
    refine G_iconst (q := 24) hC dX7_synopsis_23 rfl ic_0 ?_
    refine G_istore_n (q := 25) (lv' := [(3, .int (0 : Int32)), (2, .int (0 : Int32)), (0, .ref (eB E + 583)), (1, .int x1)]) hC dX7_synopsis_24 rfl (by decide) rfl ?_
    refine G_lv (lv' := [(0, .ref (eB E + 583)), (1, .int x1), (2, .int (0 : Int32)), (3, .int (0 : Int32))]) [2, 3, 1, 0] rfl ?_
    exact t_X7_synopsis_b25 hC  fu _ _ _ _  hf
  · have hf := (if_pos c1).symm.trans hf
    refine G_iconst (q := 20) hC dX7_synopsis_19 rfl ic_0 ?_
    exact G_iret hC hf rfl rfl dX7_synopsis_20

def f_X7_synopsis (fu : Nat)  (σ : gSt) (x1 : Int32) : Option (Int32 × gSt) :=
  bd (f_X7_isSubject fu σ x1) (fun v1 σ1 => if v1 = 0 then (f_X7_synopsis_b13 fu  σ1 x1 (1 : Int32)) else (f_X7_synopsis_b13 fu  σ1 x1 (0 : Int32)))
set_option maxRecDepth 100000 in
theorem t_X7_synopsis {fu : Nat}  {r : Int32 × gSt} (hC : gCx p s m args meth c cX7_synopsis 5 RX7 (some .int) E)  {σ : gSt} {x1 : Int32}  (hf : f_X7_synopsis fu  σ x1 = some r) : G p l e rm_X7_synopsis s m args below meth c 5 0 0 (MQ below (gQ E w 1 r) args s 0 0 (fun q => eB E ≤ q)) E w σ 0 [(0, .ref (eB E + 583)), (1, .int x1)] [] := by
  unfold f_X7_synopsis at hf
  refine G_aload_n (q := 1) hC dX7_synopsis_0 rfl rfl ?_
  refine G_iload_n (q := 2) hC dX7_synopsis_1 rfl rfl ?_
  obtain ⟨v1, σ1, hm1, hf⟩ := bd_ok hf
  refine cl_RX7_110 (q := 5) hC dX7_synopsis_2 rfl (m_X7_isSubject hm1) ⟨Nat.le_of_ble_eq_true rfl, Nat.le_of_ble_eq_true rfl⟩ (Nat.le_of_ble_eq_true rfl) ⟨Nat.le_of_ble_eq_true rfl, Nat.le_of_ble_eq_true rfl⟩ ?_
  refine G_if_eq (tgt := 12) (q := 8) hC dX7_synopsis_5 (by decide) rfl (fun c1 => ?_) (fun c1 => ?_)
  · have hf := (if_pos c1).symm.trans hf
    refine G_iconst (q := 13) hC dX7_synopsis_12 rfl ic_1 ?_
    exact t_X7_synopsis_b13 hC   hf
  · have hf := (if_neg c1).symm.trans hf
    refine G_iconst (q := 9) hC dX7_synopsis_8 rfl ic_0 ?_
    refine G_goto (tgt := 13) hC dX7_synopsis_9 (by decide) ?_
    exact t_X7_synopsis_b13 hC   hf

theorem m_X7_synopsis {l : Launch} {fu : Nat} {E : gE} {w : Nat → Int64} {σ : gSt} {x1 : Int32} {r : Int32 × gSt}  (hf : f_X7_synopsis fu σ x1 = some r) : gM l yX7_synopsis cX7_synopsis 5 (some .int) rm_X7_synopsis 1 E w σ [.ref (eB E + 583), .int x1] r :=
  gM_of (by decide +kernel) (Nat.le_of_ble_eq_true rfl) (fun p e s m args below meth c hC => t_X7_synopsis hC  hf)
end WK

/-! by program (wip/whole/gen_walk.py): the methods as functions over the store, and their walks -/
section WK
variable {p : Program} {l : Launch} {e : Env} {s : State} {m : MethodId} {args : Array Value} {below : List Frame} {meth : Method} {c : Code} {E : gE} {w : Nat → Int64}
def f_X0_isBlind_b12 (fu : Nat)  (σ : gSt) (xs0 : Int32) : Option (Int32 × gSt) :=
  gd (b01 xs0) (some (xs0, σ))
set_option maxRecDepth 100000 in
theorem t_X0_isBlind_b12 {fu : Nat}  {r : Int32 × gSt} (hC : gCx p s m args meth c cX0_isBlind 1 RX0 (some .boolean) E)  {σ : gSt} {xs0 : Int32}  (hf : f_X0_isBlind_b12 fu  σ xs0 = some r) : G p l e rm_X0_isBlind s m args below meth c 1 0 0 (MQ below (gQ E w 1 r) args s 0 0 (fun q => eB E ≤ q)) E w σ 12 [] [.int xs0] := by
  unfold f_X0_isBlind_b12 at hf
  obtain ⟨g1, hf⟩ := gd_ok hf
  exact G_iret hC hf rfl (b01_narrow g1) dX0_isBlind_12

def f_X0_isBlind (fu : Nat)  (σ : gSt) (i0 : Nat) : Option (Int32 × gSt) :=
  if (σ 6 i0 0) = 0 then (f_X0_isBlind_b12 fu  σ (1 : Int32)) else (f_X0_isBlind_b12 fu  σ (0 : Int32))
set_option maxRecDepth 100000 in
theorem t_X0_isBlind {fu : Nat}  {r : Int32 × gSt} (hC : gCx p s m args meth c cX0_isBlind 1 RX0 (some .boolean) E)  {σ : gSt} {i0 : Nat} (h0 : i0 < 24) (hf : f_X0_isBlind fu  σ i0 = some r) : G p l e rm_X0_isBlind s m args below meth c 1 0 0 (MQ below (gQ E w 1 r) args s 0 0 (fun q => eB E ≤ q)) E w σ 0 [(0, .ref (eB E + oArt i0))] [] := by
  unfold f_X0_isBlind at hf
  refine G_aload_n (q := 1) hC dX0_isBlind_0 rfl rfl ?_
  refine gf_RX0_40 (q := 4) hC dX0_isBlind_1 rfl h0 ?_
  refine G_if_ne (tgt := 11) (q := 7) hC dX0_isBlind_4 (by decide) rfl (fun c0 => ?_) (fun c0 => ?_)
  · have hf := (if_neg c0).symm.trans hf
    refine G_iconst (q := 12) hC dX0_isBlind_11 rfl ic_0 ?_
    refine G_lv (lv' := []) [] rfl ?_
    exact t_X0_isBlind_b12 hC   hf
  · have hf := (if_pos c0).symm.trans hf
    refine G_iconst (q := 8) hC dX0_isBlind_7 rfl ic_1 ?_
    refine G_goto (tgt := 12) hC dX0_isBlind_8 (by decide) ?_
    refine G_lv (lv' := []) [] rfl ?_
    exact t_X0_isBlind_b12 hC   hf

theorem m_X0_isBlind {l : Launch} {fu : Nat} {E : gE} {w : Nat → Int64} {σ : gSt} {i0 : Nat} {r : Int32 × gSt} (h0 : i0 < 24) (hf : f_X0_isBlind fu σ i0 = some r) : gM l yX0_isBlind cX0_isBlind 1 (some .boolean) rm_X0_isBlind 1 E w σ [.ref (eB E + oArt i0)] r :=
  gM_of (by decide +kernel) (Nat.le_of_ble_eq_true rfl) (fun p e s m args below meth c hC => t_X0_isBlind hC h0 hf)
def f_X0_isReady_b26 (fu : Nat)  (σ : gSt) (xs0 : Int32) : Option (Int32 × gSt) :=
  gd (b01 xs0) (some (xs0, σ))
set_option maxRecDepth 100000 in
theorem t_X0_isReady_b26 {fu : Nat}  {r : Int32 × gSt} (hC : gCx p s m args meth c cX0_isReady 1 RX0 (some .boolean) E)  {σ : gSt} {xs0 : Int32}  (hf : f_X0_isReady_b26 fu  σ xs0 = some r) : G p l e rm_X0_isReady s m args below meth c 1 0 0 (MQ below (gQ E w 1 r) args s 0 0 (fun q => eB E ≤ q)) E w σ 26 [] [.int xs0] := by
  unfold f_X0_isReady_b26 at hf
  obtain ⟨g1, hf⟩ := gd_ok hf
  exact G_iret hC hf rfl (b01_narrow g1) dX0_isReady_26

def f_X0_isReady_b25 (fu : Nat)  (σ : gSt)  : Option (Int32 × gSt) :=
  f_X0_isReady_b26 fu  σ (0 : Int32)
set_option maxRecDepth 100000 in
theorem t_X0_isReady_b25 {fu : Nat}  {r : Int32 × gSt} (hC : gCx p s m args meth c cX0_isReady 1 RX0 (some .boolean) E)  {σ : gSt}   (hf : f_X0_isReady_b25 fu  σ  = some r) : G p l e rm_X0_isReady s m args below meth c 1 0 0 (MQ below (gQ E w 1 r) args s 0 0 (fun q => eB E ≤ q)) E w σ 25 [] [] := by
  unfold f_X0_isReady_b25 at hf
  refine G_iconst (q := 26) hC dX0_isReady_25 rfl ic_0 ?_
  exact t_X0_isReady_b26 hC   hf

def f_X0_isReady_b21 (fu : Nat)  (σ : gSt)  : Option (Int32 × gSt) :=
  f_X0_isReady_b26 fu  σ (1 : Int32)
set_option maxRecDepth 100000 in
theorem t_X0_isReady_b21 {fu : Nat}  {r : Int32 × gSt} (hC : gCx p s m args meth c cX0_isReady 1 RX0 (some .boolean) E)  {σ : gSt}   (hf : f_X0_isReady_b21 fu  σ  = some r) : G p l e rm_X0_isReady s m args below meth c 1 0 0 (MQ below (gQ E w 1 r) args s 0 0 (fun q => eB E ≤ q)) E w σ 21 [] [] := by
  unfold f_X0_isReady_b21 at hf
  refine G_iconst (q := 22) hC dX0_isReady_21 rfl ic_1 ?_
  refine G_goto (tgt := 26) hC dX0_isReady_22 (by decide) ?_
  exact t_X0_isReady_b26 hC   hf

def f_X0_isReady (fu : Nat)  (σ : gSt) (i0 : Nat) : Option (Int32 × gSt) :=
  if (σ 11 i0 0) = 0 then (bd (f_X0_isBlind fu σ i0) (fun v2 σ2 => if v2 = 0 then (if (σ2 9 i0 0) = 0 then (f_X0_isReady_b25 fu  σ2) else (f_X0_isReady_b21 fu  σ2)) else (f_X0_isReady_b21 fu  σ2))) else (f_X0_isReady_b25 fu  σ)
set_option maxRecDepth 100000 in
theorem t_X0_isReady {fu : Nat}  {r : Int32 × gSt} (hC : gCx p s m args meth c cX0_isReady 1 RX0 (some .boolean) E)  {σ : gSt} {i0 : Nat} (h0 : i0 < 24) (hf : f_X0_isReady fu  σ i0 = some r) : G p l e rm_X0_isReady s m args below meth c 1 0 0 (MQ below (gQ E w 1 r) args s 0 0 (fun q => eB E ≤ q)) E w σ 0 [(0, .ref (eB E + oArt i0))] [] := by
  unfold f_X0_isReady at hf
  refine G_aload_n (q := 1) hC dX0_isReady_0 rfl rfl ?_
  refine gf_RX0_43 (q := 4) hC dX0_isReady_1 rfl h0 ?_
  refine G_if_ne (tgt := 25) (q := 7) hC dX0_isReady_4 (by decide) rfl (fun c0 => ?_) (fun c0 => ?_)
  · have hf := (if_neg c0).symm.trans hf
    refine G_lv (lv' := []) [] rfl ?_
    exact t_X0_isReady_b25 hC   hf
  · have hf := (if_pos c0).symm.trans hf
    refine G_aload_n (q := 8) hC dX0_isReady_7 rfl rfl ?_
    obtain ⟨v2, σ2, hm2, hf⟩ := bd_ok hf
    refine cl_RX0_47 (q := 11) hC dX0_isReady_8 rfl (m_X0_isBlind h0 hm2) h0 ⟨Nat.le_of_ble_eq_true rfl, Nat.le_of_ble_eq_true rfl⟩ (Nat.le_of_ble_eq_true rfl) ⟨Nat.le_of_ble_eq_true rfl, Nat.le_of_ble_eq_true rfl⟩ ?_
    refine G_if_ne (tgt := 21) (q := 14) hC dX0_isReady_11 (by decide) rfl (fun c2 => ?_) (fun c2 => ?_)
    · have hf := (if_neg c2).symm.trans hf
      refine G_lv (lv' := []) [] rfl ?_
      exact t_X0_isReady_b21 hC   hf
    · have hf := (if_pos c2).symm.trans hf
      refine G_aload_n (q := 15) hC dX0_isReady_14 rfl rfl ?_
      refine gf_RX0_51 (q := 18) hC dX0_isReady_15 rfl h0 ?_
      refine G_if_eq (tgt := 25) (q := 21) hC dX0_isReady_18 (by decide) rfl (fun c3 => ?_) (fun c3 => ?_)
      · have hf := (if_pos c3).symm.trans hf
        refine G_lv (lv' := []) [] rfl ?_
        exact t_X0_isReady_b25 hC   hf
      · have hf := (if_neg c3).symm.trans hf
        refine G_lv (lv' := []) [] rfl ?_
        exact t_X0_isReady_b21 hC   hf

theorem m_X0_isReady {l : Launch} {fu : Nat} {E : gE} {w : Nat → Int64} {σ : gSt} {i0 : Nat} {r : Int32 × gSt} (h0 : i0 < 24) (hf : f_X0_isReady fu σ i0 = some r) : gM l yX0_isReady cX0_isReady 1 (some .boolean) rm_X0_isReady 1 E w σ [.ref (eB E + oArt i0)] r :=
  gM_of (by decide +kernel) (Nat.le_of_ble_eq_true rfl) (fun p e s m args below meth c hC => t_X0_isReady hC h0 hf)
def f_X0_isReadIn_b23 (fu : Nat)  (σ : gSt) (xs0 : Int32) : Option (Int32 × gSt) :=
  gd (b01 xs0) (some (xs0, σ))
set_option maxRecDepth 100000 in
theorem t_X0_isReadIn_b23 {fu : Nat}  {r : Int32 × gSt} (hC : gCx p s m args meth c cX0_isReadIn 2 RX0 (some .boolean) E)  {σ : gSt} {xs0 : Int32}  (hf : f_X0_isReadIn_b23 fu  σ xs0 = some r) : G p l e rm_X0_isReadIn s m args below meth c 2 0 0 (MQ below (gQ E w 1 r) args s 0 0 (fun q => eB E ≤ q)) E w σ 23 [] [.int xs0] := by
  unfold f_X0_isReadIn_b23 at hf
  obtain ⟨g1, hf⟩ := gd_ok hf
  exact G_iret hC hf rfl (b01_narrow g1) dX0_isReadIn_23

def f_X0_isReadIn_b22 (fu : Nat)  (σ : gSt)  : Option (Int32 × gSt) :=
  f_X0_isReadIn_b23 fu  σ (0 : Int32)
set_option maxRecDepth 100000 in
theorem t_X0_isReadIn_b22 {fu : Nat}  {r : Int32 × gSt} (hC : gCx p s m args meth c cX0_isReadIn 2 RX0 (some .boolean) E)  {σ : gSt}   (hf : f_X0_isReadIn_b22 fu  σ  = some r) : G p l e rm_X0_isReadIn s m args below meth c 2 0 0 (MQ below (gQ E w 1 r) args s 0 0 (fun q => eB E ≤ q)) E w σ 22 [] [] := by
  unfold f_X0_isReadIn_b22 at hf
  refine G_iconst (q := 23) hC dX0_isReadIn_22 rfl ic_0 ?_
  exact t_X0_isReadIn_b23 hC   hf

def f_X0_isReadIn_b18 (fu : Nat)  (σ : gSt)  : Option (Int32 × gSt) :=
  f_X0_isReadIn_b23 fu  σ (1 : Int32)
set_option maxRecDepth 100000 in
theorem t_X0_isReadIn_b18 {fu : Nat}  {r : Int32 × gSt} (hC : gCx p s m args meth c cX0_isReadIn 2 RX0 (some .boolean) E)  {σ : gSt}   (hf : f_X0_isReadIn_b18 fu  σ  = some r) : G p l e rm_X0_isReadIn s m args below meth c 2 0 0 (MQ below (gQ E w 1 r) args s 0 0 (fun q => eB E ≤ q)) E w σ 18 [] [] := by
  unfold f_X0_isReadIn_b18 at hf
  refine G_iconst (q := 19) hC dX0_isReadIn_18 rfl ic_1 ?_
  refine G_goto (tgt := 23) hC dX0_isReadIn_19 (by decide) ?_
  exact t_X0_isReadIn_b23 hC   hf

def f_X0_isReadIn (fu : Nat)  (σ : gSt) (i0 : Nat) (x1 : Int32) : Option (Int32 × gSt) :=
  if (σ 11 i0 0) = 0 then (f_X0_isReadIn_b22 fu  σ) else (if x1 = 0 then (if (σ 10 i0 0) = 0 then (f_X0_isReadIn_b18 fu  σ) else (f_X0_isReadIn_b22 fu  σ)) else (f_X0_isReadIn_b18 fu  σ))
set_option maxRecDepth 100000 in
theorem t_X0_isReadIn {fu : Nat}  {r : Int32 × gSt} (hC : gCx p s m args meth c cX0_isReadIn 2 RX0 (some .boolean) E)  {σ : gSt} {i0 : Nat} {x1 : Int32} (h0 : i0 < 24) (hf : f_X0_isReadIn fu  σ i0 x1 = some r) : G p l e rm_X0_isReadIn s m args below meth c 2 0 0 (MQ below (gQ E w 1 r) args s 0 0 (fun q => eB E ≤ q)) E w σ 0 [(0, .ref (eB E + oArt i0)), (1, .int x1)] [] := by
  unfold f_X0_isReadIn at hf
  refine G_aload_n (q := 1) hC dX0_isReadIn_0 rfl rfl ?_
  refine gf_RX0_43 (q := 4) hC dX0_isReadIn_1 rfl h0 ?_
  refine G_if_eq (tgt := 22) (q := 7) hC dX0_isReadIn_4 (by decide) rfl (fun c0 => ?_) (fun c0 => ?_)
  · have hf := (if_pos c0).symm.trans hf
    refine G_lv (lv' := []) [] rfl ?_
    exact t_X0_isReadIn_b22 hC   hf
  · have hf := (if_neg c0).symm.trans hf
    refine G_iload_n (q := 8) hC dX0_isReadIn_7 rfl rfl ?_
    refine G_if_ne (tgt := 18) (q := 11) hC dX0_isReadIn_8 (by decide) rfl (fun c1 => ?_) (fun c1 => ?_)
    · have hf := (if_neg c1).symm.trans hf
      refine G_lv (lv' := []) [] rfl ?_
      exact t_X0_isReadIn_b18 hC   hf
    · have hf := (if_pos c1).symm.trans hf
      refine G_aload_n (q := 12) hC dX0_isReadIn_11 rfl rfl ?_
      refine gf_RX0_54 (q := 15) hC dX0_isReadIn_12 rfl h0 ?_
      refine G_if_ne (tgt := 22) (q := 18) hC dX0_isReadIn_15 (by decide) rfl (fun c2 => ?_) (fun c2 => ?_)
      · have hf := (if_neg c2).symm.trans hf
        refine G_lv (lv' := []) [] rfl ?_
        exact t_X0_isReadIn_b22 hC   hf
      · have hf := (if_pos c2).symm.trans hf
        refine G_lv (lv' := []) [] rfl ?_
        exact t_X0_isReadIn_b18 hC   hf

theorem m_X0_isReadIn {l : Launch} {fu : Nat} {E : gE} {w : Nat → Int64} {σ : gSt} {i0 : Nat} {x1 : Int32} {r : Int32 × gSt} (h0 : i0 < 24) (hf : f_X0_isReadIn fu σ i0 x1 = some r) : gM l yX0_isReadIn cX0_isReadIn 2 (some .boolean) rm_X0_isReadIn 1 E w σ [.ref (eB E + oArt i0), .int x1] r :=
  gM_of (by decide +kernel) (Nat.le_of_ble_eq_true rfl) (fun p e s m args below meth c hC => t_X0_isReadIn hC h0 hf)
def f_X0_state_b31 (fu : Nat)  (σ : gSt) (xs0 : Int32) : Option (Int32 × gSt) :=
  some (xs0, σ)
set_option maxRecDepth 100000 in
theorem t_X0_state_b31 {fu : Nat}  {r : Int32 × gSt} (hC : gCx p s m args meth c cX0_state 1 RX0 (some .int) E)  {σ : gSt} {xs0 : Int32}  (hf : f_X0_state_b31 fu  σ xs0 = some r) : G p l e rm_X0_state s m args below meth c 1 0 0 (MQ below (gQ E w 1 r) args s 0 0 (fun q => eB E ≤ q)) E w σ 31 [] [.int xs0] := by
  unfold f_X0_state_b31 at hf
  exact G_iret hC hf rfl rfl dX0_state_31

def f_X0_state (fu : Nat)  (σ : gSt) (i0 : Nat) : Option (Int32 × gSt) :=
  if (σ 11 i0 0) = 0 then (if (σ 9 i0 0) = 0 then (if (σ 7 i0 0) = (-1 : Int32) then (f_X0_state_b31 fu  σ (0 : Int32)) else (f_X0_state_b31 fu  σ (1 : Int32))) else (some ((2 : Int32), σ))) else (some ((3 : Int32), σ))
set_option maxRecDepth 100000 in
theorem t_X0_state {fu : Nat}  {r : Int32 × gSt} (hC : gCx p s m args meth c cX0_state 1 RX0 (some .int) E)  {σ : gSt} {i0 : Nat} (h0 : i0 < 24) (hf : f_X0_state fu  σ i0 = some r) : G p l e rm_X0_state s m args below meth c 1 0 0 (MQ below (gQ E w 1 r) args s 0 0 (fun q => eB E ≤ q)) E w σ 0 [(0, .ref (eB E + oArt i0))] [] := by
  unfold f_X0_state at hf
  refine G_aload_n (q := 1) hC dX0_state_0 rfl rfl ?_
  refine gf_RX0_43 (q := 4) hC dX0_state_1 rfl h0 ?_
  refine G_if_eq (tgt := 9) (q := 7) hC dX0_state_4 (by decide) rfl (fun c0 => ?_) (fun c0 => ?_)
  · have hf := (if_pos c0).symm.trans hf
    refine G_aload_n (q := 10) hC dX0_state_9 rfl rfl ?_
    refine gf_RX0_51 (q := 13) hC dX0_state_10 rfl h0 ?_
    refine G_if_eq (tgt := 18) (q := 16) hC dX0_state_13 (by decide) rfl (fun c1 => ?_) (fun c1 => ?_)
    · have hf := (if_pos c1).symm.trans hf
      refine G_aload_n (q := 19) hC dX0_state_18 rfl rfl ?_
      refine gf_RX0_32 (q := 22) hC dX0_state_19 rfl h0 ?_
      refine G_iconst (q := 23) hC dX0_state_22 rfl ic_m1 ?_
      refine G_icmp_ne (tgt := 30) (q := 26) hC dX0_state_23 (by decide) rfl (fun c2 => ?_) (fun c2 => ?_)
      · have hf := (if_neg c2).symm.trans hf
        refine G_iconst (q := 31) hC dX0_state_30 rfl ic_1 ?_
        refine G_lv (lv' := []) [] rfl ?_
        exact t_X0_state_b31 hC   hf
      · have hf := (if_pos c2).symm.trans hf
        refine G_iconst (q := 27) hC dX0_state_26 rfl ic_0 ?_
        refine G_goto (tgt := 31) hC dX0_state_27 (by decide) ?_
        refine G_lv (lv' := []) [] rfl ?_
        exact t_X0_state_b31 hC   hf
    · have hf := (if_neg c1).symm.trans hf
      refine G_iconst (q := 17) hC dX0_state_16 rfl ic_2 ?_
      exact G_iret hC hf rfl rfl dX0_state_17
  · have hf := (if_neg c0).symm.trans hf
    refine G_iconst (q := 8) hC dX0_state_7 rfl ic_3 ?_
    exact G_iret hC hf rfl rfl dX0_state_8

theorem m_X0_state {l : Launch} {fu : Nat} {E : gE} {w : Nat → Int64} {σ : gSt} {i0 : Nat} {r : Int32 × gSt} (h0 : i0 < 24) (hf : f_X0_state fu σ i0 = some r) : gM l yX0_state cX0_state 1 (some .int) rm_X0_state 1 E w σ [.ref (eB E + oArt i0)] r :=
  gM_of (by decide +kernel) (Nat.le_of_ble_eq_true rfl) (fun p e s m args below meth c hC => t_X0_state hC h0 hf)
def f_X0_putToPress (fu : Nat)  (σ : gSt) (i0 : Nat) (f1 : Nat) (i1 : Nat) : Option (Int32 × gSt) :=
  gd (okCp 1 f1 i1 3 i0 (0 : Int32) (0 : Int32) (8 : Int32) (fun k => (gU σ 11 i0 0 (1 : Int32)) f1 i1 k)) (some (0, (gR (gU σ 11 i0 0 (1 : Int32)) 3 i0 (va_cpy (fun k => (gU σ 11 i0 0 (1 : Int32)) f1 i1 k) (fun k => (gU σ 11 i0 0 (1 : Int32)) 3 i0 k) (0 : Int32).toNatClampNeg (0 : Int32).toNatClampNeg (8 : Int32).toNatClampNeg))))
set_option maxRecDepth 100000 in
theorem t_X0_putToPress {fu : Nat}  {r : Int32 × gSt} (hC : gCx p s m args meth c cX0_putToPress 2 RX0 none E)  {σ : gSt} {i0 : Nat} {f1 : Nat} {i1 : Nat} (h0 : i0 < 24) (hf : f_X0_putToPress fu  σ i0 f1 i1 = some r) : G p l e rm_X0_putToPress s m args below meth c 2 0 0 (MQ below (gQ E w 0 r) args s 0 0 (fun q => eB E ≤ q)) E w σ 0 [(0, .ref (eB E + oArt i0)), (1, .ref (eB E + oA f1 i1))] [] := by
  unfold f_X0_putToPress at hf
  refine G_aload_n (q := 1) hC dX0_putToPress_0 rfl rfl ?_
  refine G_iconst (q := 2) hC dX0_putToPress_1 rfl ic_1 ?_
  refine pf_RX0_43 (q := 5) hC dX0_putToPress_2 rfl h0 rfl ?_
  refine G_aload_n (q := 6) hC dX0_putToPress_5 rfl rfl ?_
  refine G_iconst (q := 7) hC dX0_putToPress_6 rfl ic_0 ?_
  refine G_aload_n (q := 8) hC dX0_putToPress_7 rfl rfl ?_
  refine gf_RX0_28 (q := 11) hC dX0_putToPress_8 rfl h0 ?_
  refine G_iconst (q := 12) hC dX0_putToPress_11 rfl ic_0 ?_
  refine G_bipush (q := 14) hC dX0_putToPress_12 rfl bp_8 ?_
  obtain ⟨g1, hf⟩ := gd_ok hf
  refine G_copy (q := 17) (t := 1) hC (Or.inr rfl) dX0_putToPress_14 rfl g1 (wall (by decide +kernel) rfl) (wall (by decide +kernel) rfl) (wall (by decide +kernel) rfl) (wall (by decide +kernel) rfl) (Nat.le_of_ble_eq_true rfl) (Nat.le_of_ble_eq_true rfl) ?_
  exact G_vret hC hf rfl dX0_putToPress_17

theorem m_X0_putToPress {l : Launch} {fu : Nat} {E : gE} {w : Nat → Int64} {σ : gSt} {i0 : Nat} {f1 : Nat} {i1 : Nat} {r : Int32 × gSt} (h0 : i0 < 24) (hf : f_X0_putToPress fu σ i0 f1 i1 = some r) : gM l yX0_putToPress cX0_putToPress 2 none rm_X0_putToPress 0 E w σ [.ref (eB E + oArt i0), .ref (eB E + oA f1 i1)] r :=
  gM_of (by decide +kernel) (Nat.le_of_ble_eq_true rfl) (fun p e s m args below meth c hC => t_X0_putToPress hC h0 hf)
def f_X0_countReferences_b28 (fu : Nat) (k4 : gSt → Nat → Int32 → Int32 → Int32 → Option (Int32 × gSt)) (σ : gSt) (i0 : Nat) (x1 : Int32) (x2 : Int32) (x3 : Int32) : Option (Int32 × gSt) :=
  k4 σ i0 x1 x2 (x3 + (1))
set_option maxRecDepth 100000 in
theorem t_X0_countReferences_b28 {fu : Nat} {k4 : gSt → Nat → Int32 → Int32 → Int32 → Option (Int32 × gSt)} {r : Int32 × gSt} (hC : gCx p s m args meth c cX0_countReferences 4 RX0 (some .int) E) (hk4 : ∀ (σ : gSt) (i0 : Nat) (x1 : Int32) (x2 : Int32) (x3 : Int32), i0 < 24 → k4 σ i0 x1 x2 x3 = some r → G p l e rm_X0_countReferences s m args below meth c 4 0 0 (MQ below (gQ E w 1 r) args s 0 0 (fun q => eB E ≤ q)) E w σ 4 [(0, .ref (eB E + oArt i0)), (1, .ref (eF E (x1).toNatClampNeg)), (2, .int x2), (3, .int x3)] []) {σ : gSt} {i0 : Nat} {x1 : Int32} {x2 : Int32} {x3 : Int32} (h0 : i0 < 24) (hf : f_X0_countReferences_b28 fu k4 σ i0 x1 x2 x3 = some r) : G p l e rm_X0_countReferences s m args below meth c 4 0 0 (MQ below (gQ E w 1 r) args s 0 0 (fun q => eB E ≤ q)) E w σ 28 [(0, .ref (eB E + oArt i0)), (1, .ref (eF E (x1).toNatClampNeg)), (2, .int x2), (3, .int x3)] [] := by
  unfold f_X0_countReferences_b28 at hf
  refine G_iinc (q := 31) (n := 3) (lv' := [(3, .int (x3 + (1))), (0, .ref (eB E + oArt i0)), (1, .ref (eF E (x1).toNatClampNeg)), (2, .int x2)]) hC dX0_countReferences_28 rfl rfl (ii_1 _) (by decide) rfl ?_
  refine G_goto (tgt := 4) hC dX0_countReferences_31 (by decide) ?_
  refine G_lv (lv' := [(0, .ref (eB E + oArt i0)), (1, .ref (eF E (x1).toNatClampNeg)), (2, .int x2), (3, .int (x3 + (1)))]) [1, 2, 3, 0] rfl ?_
  exact hk4 _ _ _ _ _ h0 hf

def f_X0_countReferences_b4_B (fu : Nat) (k4 : gSt → Nat → Int32 → Int32 → Int32 → Option (Int32 × gSt)) (σ : gSt) (i0 : Nat) (x1 : Int32) (x2 : Int32) (x3 : Int32) : Option (Int32 × gSt) :=
  if (σ 4 i0 0) ≤ x3 then (some (x2, σ)) else (gd (inb x3 4) (gd (okF (σ 91 (4 * i0 + x3.toNatClampNeg) 0)) (gd (okF x1) (if (σ 91 (4 * i0 + x3.toNatClampNeg) 0) = x1 then (f_X0_countReferences_b28 fu k4 σ i0 x1 (x2 + (1)) x3) else (f_X0_countReferences_b28 fu k4 σ i0 x1 x2 x3)))))
def f_X0_countReferences_b4 (fu : Nat)  : Nat → gSt → Nat → Int32 → Int32 → Int32 → Option (Int32 × gSt)
  | 0 => fun _ _ _ _ _ => none
  | n + 1 => f_X0_countReferences_b4_B fu  (f_X0_countReferences_b4 fu  n)
set_option maxRecDepth 100000 in
theorem t_X0_countReferences_b4_B {fu : Nat} {k4 : gSt → Nat → Int32 → Int32 → Int32 → Option (Int32 × gSt)} {r : Int32 × gSt} (hC : gCx p s m args meth c cX0_countReferences 4 RX0 (some .int) E) (hk4 : ∀ (σ : gSt) (i0 : Nat) (x1 : Int32) (x2 : Int32) (x3 : Int32), i0 < 24 → k4 σ i0 x1 x2 x3 = some r → G p l e rm_X0_countReferences s m args below meth c 4 0 0 (MQ below (gQ E w 1 r) args s 0 0 (fun q => eB E ≤ q)) E w σ 4 [(0, .ref (eB E + oArt i0)), (1, .ref (eF E (x1).toNatClampNeg)), (2, .int x2), (3, .int x3)] []) {σ : gSt} {i0 : Nat} {x1 : Int32} {x2 : Int32} {x3 : Int32} (h0 : i0 < 24) (hf : f_X0_countReferences_b4_B fu k4 σ i0 x1 x2 x3 = some r) : G p l e rm_X0_countReferences s m args below meth c 4 0 0 (MQ below (gQ E w 1 r) args s 0 0 (fun q => eB E ≤ q)) E w σ 4 [(0, .ref (eB E + oArt i0)), (1, .ref (eF E (x1).toNatClampNeg)), (2, .int x2), (3, .int x3)] [] := by
  unfold f_X0_countReferences_b4_B at hf
  refine G_iload_n (q := 5) hC dX0_countReferences_4 rfl rfl ?_
  refine G_aload_n (q := 6) hC dX0_countReferences_5 rfl rfl ?_
  refine gf_RX0_63 (q := 9) hC dX0_countReferences_6 rfl h0 ?_
  refine G_icmp_ge (tgt := 34) (q := 12) hC dX0_countReferences_9 (by decide) rfl (fun c0 => ?_) (fun c0 => ?_)
  · have hf := (if_pos c0).symm.trans hf
    refine G_iload_n (q := 35) hC dX0_countReferences_34 rfl rfl ?_
    exact G_iret hC hf rfl rfl dX0_countReferences_35
  · have hf := (if_neg c0).symm.trans hf
    refine G_aload_n (q := 13) hC dX0_countReferences_12 rfl rfl ?_
    refine gf_RX0_20 (q := 16) hC dX0_countReferences_13 rfl h0 ?_
    refine G_iload_n (q := 17) hC dX0_countReferences_16 rfl rfl ?_
    obtain ⟨g1, hf⟩ := gd_ok hf
    refine G_aldRef (q := 18) hC dX0_countReferences_17 rfl h0 g1 ?_
    refine gf_RX0_66 (q := 21) hC dX0_countReferences_18 rfl (refB h0 g1) ?_
    refine G_aload_n (q := 22) hC dX0_countReferences_21 rfl rfl ?_
    obtain ⟨g2, hf⟩ := gd_ok hf
    obtain ⟨g3, hf⟩ := gd_ok hf
    refine G_acmp_ne (tgt := 28) (q := 25) hC dX0_countReferences_22 (by decide) rfl g2 g3 (fun c1 => ?_) (fun c1 => ?_)
    · have hf := (if_neg c1).symm.trans hf
      exact t_X0_countReferences_b28 hC hk4 h0 hf
    · have hf := (if_pos c1).symm.trans hf
      refine G_iinc (q := 28) (n := 2) (lv' := [(2, .int (x2 + (1))), (0, .ref (eB E + oArt i0)), (1, .ref (eF E (x1).toNatClampNeg)), (3, .int x3)]) hC dX0_countReferences_25 rfl rfl (ii_1 _) (by decide) rfl ?_
      refine G_lv (lv' := [(0, .ref (eB E + oArt i0)), (1, .ref (eF E (x1).toNatClampNeg)), (2, .int (x2 + (1))), (3, .int x3)]) [1, 2, 0, 3] rfl ?_
      exact t_X0_countReferences_b28 hC hk4 h0 hf

theorem t_X0_countReferences_b4 {fu : Nat}  {r : Int32 × gSt} (hC : gCx p s m args meth c cX0_countReferences 4 RX0 (some .int) E)  (n : Nat) : ∀ (σ : gSt) (i0 : Nat) (x1 : Int32) (x2 : Int32) (x3 : Int32), i0 < 24 → f_X0_countReferences_b4 fu  n σ i0 x1 x2 x3 = some r → G p l e rm_X0_countReferences s m args below meth c 4 0 0 (MQ below (gQ E w 1 r) args s 0 0 (fun q => eB E ≤ q)) E w σ 4 [(0, .ref (eB E + oArt i0)), (1, .ref (eF E (x1).toNatClampNeg)), (2, .int x2), (3, .int x3)] [] := by
  induction n with
  | zero => intro σ i0 x1 x2 x3 h0 hf; cases hf
  | succ n ih => intro σ i0 x1 x2 x3 h0 hf; exact t_X0_countReferences_b4_B hC  ih h0 hf
def f_X0_countReferences (fu : Nat)  (σ : gSt) (i0 : Nat) (x1 : Int32) : Option (Int32 × gSt) :=
  f_X0_countReferences_b4 fu  fu σ i0 x1 (0 : Int32) (0 : Int32)
set_option maxRecDepth 100000 in
theorem t_X0_countReferences {fu : Nat}  {r : Int32 × gSt} (hC : gCx p s m args meth c cX0_countReferences 4 RX0 (some .int) E)  {σ : gSt} {i0 : Nat} {x1 : Int32} (h0 : i0 < 24) (hf : f_X0_countReferences fu  σ i0 x1 = some r) : G p l e rm_X0_countReferences s m args below meth c 4 0 0 (MQ below (gQ E w 1 r) args s 0 0 (fun q => eB E ≤ q)) E w σ 0 [(0, .ref (eB E + oArt i0)), (1, .ref (eF E (x1).toNatClampNeg))] [] := by
  unfold f_X0_countReferences at hf
  refine G_iconst (q := 1) hC dX0_countReferences_0 rfl ic_0 ?_
  refine G_istore_n (q := 2) (lv' := [(2, .int (0 : Int32)), (0, .ref (eB E + oArt i0)), (1, .ref (eF E (x1).toNatClampNeg))]) hC dX0_countReferences_1 rfl (by decide) rfl ?_
  refine G_iconst (q := 3) hC dX0_countReferences_2 rfl ic_0 ?_
  refine G_istore_n (q := 4) (lv' := [(3, .int (0 : Int32)), (2, .int (0 : Int32)), (0, .ref (eB E + oArt i0)), (1, .ref (eF E (x1).toNatClampNeg))]) hC dX0_countReferences_3 rfl (by decide) rfl ?_
  refine G_lv (lv' := [(0, .ref (eB E + oArt i0)), (1, .ref (eF E (x1).toNatClampNeg)), (2, .int (0 : Int32)), (3, .int (0 : Int32))]) [2, 3, 1, 0] rfl ?_
  exact t_X0_countReferences_b4 hC  fu _ _ _ _ _ h0 hf

theorem m_X0_countReferences {l : Launch} {fu : Nat} {E : gE} {w : Nat → Int64} {σ : gSt} {i0 : Nat} {x1 : Int32} {r : Int32 × gSt} (h0 : i0 < 24) (hf : f_X0_countReferences fu σ i0 x1 = some r) : gM l yX0_countReferences cX0_countReferences 4 (some .int) rm_X0_countReferences 1 E w σ [.ref (eB E + oArt i0), .ref (eF E (x1).toNatClampNeg)] r :=
  gM_of (by decide +kernel) (Nat.le_of_ble_eq_true rfl) (fun p e s m args below meth c hC => t_X0_countReferences hC h0 hf)
def f_X1_addToWrite_b29 (fu : Nat)  (σ : gSt)  : Option (Int32 × gSt) :=
  some (0, σ)
set_option maxRecDepth 100000 in
theorem t_X1_addToWrite_b29 {fu : Nat}  {r : Int32 × gSt} (hC : gCx p s m args meth c cX1_addToWrite 2 RX1 none E)  {σ : gSt}   (hf : f_X1_addToWrite_b29 fu  σ  = some r) : G p l e rm_X1_addToWrite s m args below meth c 2 0 0 (MQ below (gQ E w 0 r) args s 0 0 (fun q => eB E ≤ q)) E w σ 29 [] [] := by
  unfold f_X1_addToWrite_b29 at hf
  exact G_vret hC hf rfl dX1_addToWrite_29

def f_X1_addToWrite (fu : Nat)  (σ : gSt) (i0 : Nat) (x1 : Int32) : Option (Int32 × gSt) :=
  if (24 : Int32) ≤ (σ 32 i0 0) then (f_X1_addToWrite_b29 fu  σ) else (gd (inb (σ 32 i0 0) 24) (f_X1_addToWrite_b29 fu  (gU (gU σ 30 i0 (σ 32 i0 0).toNatClampNeg x1) 32 i0 0 (((gU σ 30 i0 (σ 32 i0 0).toNatClampNeg x1) 32 i0 0) + (1 : Int32)))))
set_option maxRecDepth 100000 in
theorem t_X1_addToWrite {fu : Nat}  {r : Int32 × gSt} (hC : gCx p s m args meth c cX1_addToWrite 2 RX1 none E)  {σ : gSt} {i0 : Nat} {x1 : Int32} (h0 : i0 < 6) (hf : f_X1_addToWrite fu  σ i0 x1 = some r) : G p l e rm_X1_addToWrite s m args below meth c 2 0 0 (MQ below (gQ E w 0 r) args s 0 0 (fun q => eB E ≤ q)) E w σ 0 [(0, .ref (eB E + oCon i0)), (1, .int x1)] [] := by
  unfold f_X1_addToWrite at hf
  refine G_aload_n (q := 1) hC dX1_addToWrite_0 rfl rfl ?_
  refine gf_RX1_23 (q := 4) hC dX1_addToWrite_1 rfl h0 ?_
  refine G_bipush (q := 6) hC dX1_addToWrite_4 rfl bp_24 ?_
  refine G_icmp_ge (tgt := 29) (q := 9) hC dX1_addToWrite_6 (by decide) rfl (fun c0 => ?_) (fun c0 => ?_)
  · have hf := (if_pos c0).symm.trans hf
    refine G_lv (lv' := []) [] rfl ?_
    exact t_X1_addToWrite_b29 hC   hf
  · have hf := (if_neg c0).symm.trans hf
    refine G_aload_n (q := 10) hC dX1_addToWrite_9 rfl rfl ?_
    refine gf_RX1_9 (q := 13) hC dX1_addToWrite_10 rfl h0 ?_
    refine G_aload_n (q := 14) hC dX1_addToWrite_13 rfl rfl ?_
    refine gf_RX1_23 (q := 17) hC dX1_addToWrite_14 rfl h0 ?_
    refine G_iload_n (q := 18) hC dX1_addToWrite_17 rfl rfl ?_
    obtain ⟨g1, hf⟩ := gd_ok hf
    refine G_iast (q := 19) hC dX1_addToWrite_18 rfl (ok_30 h0 g1) ?_
    refine G_aload_n (q := 20) hC dX1_addToWrite_19 rfl rfl ?_
    refine G_dup (q := 21) hC dX1_addToWrite_20 rfl rfl ?_
    refine gf_RX1_23 (q := 24) hC dX1_addToWrite_21 rfl h0 ?_
    refine G_iconst (q := 25) hC dX1_addToWrite_24 rfl ic_1 ?_
    refine G_iadd (q := 26) hC dX1_addToWrite_25 rfl ?_
    refine pf_RX1_23 (q := 29) hC dX1_addToWrite_26 rfl h0 ?_
    refine G_lv (lv' := []) [] rfl ?_
    exact t_X1_addToWrite_b29 hC   hf

theorem m_X1_addToWrite {l : Launch} {fu : Nat} {E : gE} {w : Nat → Int64} {σ : gSt} {i0 : Nat} {x1 : Int32} {r : Int32 × gSt} (h0 : i0 < 6) (hf : f_X1_addToWrite fu σ i0 x1 = some r) : gM l yX1_addToWrite cX1_addToWrite 2 none rm_X1_addToWrite 0 E w σ [.ref (eB E + oCon i0), .int x1] r :=
  gM_of (by decide +kernel) (Nat.le_of_ble_eq_true rfl) (fun p e s m args below meth c hC => t_X1_addToWrite hC h0 hf)
def f_X1_removeFirst_b34 (fu : Nat)  (σ : gSt)  : Option (Int32 × gSt) :=
  some (0, σ)
set_option maxRecDepth 100000 in
theorem t_X1_removeFirst_b34 {fu : Nat}  {r : Int32 × gSt} (hC : gCx p s m args meth c cX1_removeFirst 1 RX1 none E)  {σ : gSt}   (hf : f_X1_removeFirst_b34 fu  σ  = some r) : G p l e rm_X1_removeFirst s m args below meth c 1 0 0 (MQ below (gQ E w 0 r) args s 0 0 (fun q => eB E ≤ q)) E w σ 34 [] [] := by
  unfold f_X1_removeFirst_b34 at hf
  exact G_vret hC hf rfl dX1_removeFirst_34

def f_X1_removeFirst (fu : Nat)  (σ : gSt) (i0 : Nat) : Option (Int32 × gSt) :=
  if (σ 32 i0 0) ≤ 0 then (f_X1_removeFirst_b34 fu  σ) else (gd (okCp 1 30 i0 30 i0 (1 : Int32) (0 : Int32) ((gU σ 32 i0 0 ((σ 32 i0 0) - (1 : Int32))) 32 i0 0) (fun k => (gU σ 32 i0 0 ((σ 32 i0 0) - (1 : Int32))) 30 i0 k)) (f_X1_removeFirst_b34 fu  (gR (gU σ 32 i0 0 ((σ 32 i0 0) - (1 : Int32))) 30 i0 (va_cpy (fun k => (gU σ 32 i0 0 ((σ 32 i0 0) - (1 : Int32))) 30 i0 k) (fun k => (gU σ 32 i0 0 ((σ 32 i0 0) - (1 : Int32))) 30 i0 k) (1 : Int32).toNatClampNeg (0 : Int32).toNatClampNeg ((gU σ 32 i0 0 ((σ 32 i0 0) - (1 : Int32))) 32 i0 0).toNatClampNeg))))
set_option maxRecDepth 100000 in
theorem t_X1_removeFirst {fu : Nat}  {r : Int32 × gSt} (hC : gCx p s m args meth c cX1_removeFirst 1 RX1 none E)  {σ : gSt} {i0 : Nat} (h0 : i0 < 6) (hf : f_X1_removeFirst fu  σ i0 = some r) : G p l e rm_X1_removeFirst s m args below meth c 1 0 0 (MQ below (gQ E w 0 r) args s 0 0 (fun q => eB E ≤ q)) E w σ 0 [(0, .ref (eB E + oCon i0))] [] := by
  unfold f_X1_removeFirst at hf
  refine G_aload_n (q := 1) hC dX1_removeFirst_0 rfl rfl ?_
  refine gf_RX1_23 (q := 4) hC dX1_removeFirst_1 rfl h0 ?_
  refine G_if_le (tgt := 34) (q := 7) hC dX1_removeFirst_4 (by decide) rfl (fun c0 => ?_) (fun c0 => ?_)
  · have hf := (if_pos c0).symm.trans hf
    refine G_lv (lv' := []) [] rfl ?_
    exact t_X1_removeFirst_b34 hC   hf
  · have hf := (if_neg c0).symm.trans hf
    refine G_aload_n (q := 8) hC dX1_removeFirst_7 rfl rfl ?_
    refine G_dup (q := 9) hC dX1_removeFirst_8 rfl rfl ?_
    refine gf_RX1_23 (q := 12) hC dX1_removeFirst_9 rfl h0 ?_
    refine G_iconst (q := 13) hC dX1_removeFirst_12 rfl ic_1 ?_
    refine G_isub (q := 14) hC dX1_removeFirst_13 rfl ?_
    refine pf_RX1_23 (q := 17) hC dX1_removeFirst_14 rfl h0 ?_
    refine G_aload_n (q := 18) hC dX1_removeFirst_17 rfl rfl ?_
    refine gf_RX1_9 (q := 21) hC dX1_removeFirst_18 rfl h0 ?_
    refine G_iconst (q := 22) hC dX1_removeFirst_21 rfl ic_1 ?_
    refine G_aload_n (q := 23) hC dX1_removeFirst_22 rfl rfl ?_
    refine gf_RX1_9 (q := 26) hC dX1_removeFirst_23 rfl h0 ?_
    refine G_iconst (q := 27) hC dX1_removeFirst_26 rfl ic_0 ?_
    refine G_aload_n (q := 28) hC dX1_removeFirst_27 rfl rfl ?_
    refine gf_RX1_23 (q := 31) hC dX1_removeFirst_28 rfl h0 ?_
    obtain ⟨g1, hf⟩ := gd_ok hf
    refine G_copy (q := 34) (t := 1) hC (Or.inr rfl) dX1_removeFirst_31 rfl g1 (wall (by decide +kernel) rfl) (wall (by decide +kernel) rfl) (wall (by decide +kernel) rfl) (wall (by decide +kernel) rfl) (Nat.le_of_ble_eq_true rfl) (Nat.le_of_ble_eq_true rfl) ?_
    refine G_lv (lv' := []) [] rfl ?_
    exact t_X1_removeFirst_b34 hC   hf

theorem m_X1_removeFirst {l : Launch} {fu : Nat} {E : gE} {w : Nat → Int64} {σ : gSt} {i0 : Nat} {r : Int32 × gSt} (h0 : i0 < 6) (hf : f_X1_removeFirst fu σ i0 = some r) : gM l yX1_removeFirst cX1_removeFirst 1 none rm_X1_removeFirst 0 E w σ [.ref (eB E + oCon i0)] r :=
  gM_of (by decide +kernel) (Nat.le_of_ble_eq_true rfl) (fun p e s m args below meth c hC => t_X1_removeFirst hC h0 hf)
def f_X1_monthsFor (fu : Nat)  (σ : gSt) (i0 : Nat) (x1 : Int32) : Option (Int32 × gSt) :=
  gd (!decide ((σ 33 i0 0) = 0)) (some ((if (1 : Int32) < (((x1 + (σ 33 i0 0)) - (1 : Int32)) / (σ 33 i0 0)) then (((x1 + (σ 33 i0 0)) - (1 : Int32)) / (σ 33 i0 0)) else (1 : Int32)), σ))
set_option maxRecDepth 100000 in
theorem t_X1_monthsFor {fu : Nat}  {r : Int32 × gSt} (hC : gCx p s m args meth c cX1_monthsFor 2 RX1 (some .int) E)  {σ : gSt} {i0 : Nat} {x1 : Int32} (h0 : i0 < 6) (hf : f_X1_monthsFor fu  σ i0 x1 = some r) : G p l e rm_X1_monthsFor s m args below meth c 2 0 0 (MQ below (gQ E w 1 r) args s 0 0 (fun q => eB E ≤ q)) E w σ 0 [(0, .ref (eB E + oCon i0)), (1, .int x1)] [] := by
  unfold f_X1_monthsFor at hf
  refine G_iconst (q := 1) hC dX1_monthsFor_0 rfl ic_1 ?_
  refine G_iload_n (q := 2) hC dX1_monthsFor_1 rfl rfl ?_
  refine G_aload_n (q := 3) hC dX1_monthsFor_2 rfl rfl ?_
  refine gf_RX1_19 (q := 6) hC dX1_monthsFor_3 rfl h0 ?_
  refine G_iadd (q := 7) hC dX1_monthsFor_6 rfl ?_
  refine G_iconst (q := 8) hC dX1_monthsFor_7 rfl ic_1 ?_
  refine G_isub (q := 9) hC dX1_monthsFor_8 rfl ?_
  refine G_aload_n (q := 10) hC dX1_monthsFor_9 rfl rfl ?_
  refine gf_RX1_19 (q := 13) hC dX1_monthsFor_10 rfl h0 ?_
  obtain ⟨g1, hf⟩ := gd_ok hf
  refine G_idiv (q := 14) hC dX1_monthsFor_13 rfl (by simpa using g1) ?_
  refine G_max (q := 17) (v := (if (1 : Int32) < (((x1 + (σ 33 i0 0)) - (1 : Int32)) / (σ 33 i0 0)) then (((x1 + (σ 33 i0 0)) - (1 : Int32)) / (σ 33 i0 0)) else (1 : Int32))) hC dX1_monthsFor_14 rfl (wall (by decide +kernel) rfl) (wall (by decide +kernel) rfl) (wall (by decide +kernel) rfl) (wall (by decide +kernel) rfl) (Nat.le_of_ble_eq_true rfl) (Nat.le_of_ble_eq_true rfl) ⟨Nat.le_of_ble_eq_true rfl, Nat.le_of_ble_eq_true rfl⟩ rfl ?_
  exact G_iret hC hf rfl rfl dX1_monthsFor_17

theorem m_X1_monthsFor {l : Launch} {fu : Nat} {E : gE} {w : Nat → Int64} {σ : gSt} {i0 : Nat} {x1 : Int32} {r : Int32 × gSt} (h0 : i0 < 6) (hf : f_X1_monthsFor fu σ i0 x1 = some r) : gM l yX1_monthsFor cX1_monthsFor 2 (some .int) rm_X1_monthsFor 1 E w σ [.ref (eB E + oCon i0), .int x1] r :=
  gM_of (by decide +kernel) (Nat.le_of_ble_eq_true rfl) (fun p e s m args below meth c hC => t_X1_monthsFor hC h0 hf)
def f_X6_isGap_b17 (fu : Nat)  (σ : gSt) (xs0 : Int32) : Option (Int32 × gSt) :=
  gd (b01 xs0) (some (xs0, σ))
set_option maxRecDepth 100000 in
theorem t_X6_isGap_b17 {fu : Nat}  {r : Int32 × gSt} (hC : gCx p s m args meth c cX6_isGap 1 RX6 (some .boolean) E)  {σ : gSt} {xs0 : Int32}  (hf : f_X6_isGap_b17 fu  σ xs0 = some r) : G p l e rm_X6_isGap s m args below meth c 1 0 0 (MQ below (gQ E w 1 r) args s 0 0 (fun q => eB E ≤ q)) E w σ 17 [] [.int xs0] := by
  unfold f_X6_isGap_b17 at hf
  obtain ⟨g1, hf⟩ := gd_ok hf
  exact G_iret hC hf rfl (b01_narrow g1) dX6_isGap_17

def f_X6_isGap_b12 (fu : Nat)  (σ : gSt)  : Option (Int32 × gSt) :=
  f_X6_isGap_b17 fu  σ (1 : Int32)
set_option maxRecDepth 100000 in
theorem t_X6_isGap_b12 {fu : Nat}  {r : Int32 × gSt} (hC : gCx p s m args meth c cX6_isGap 1 RX6 (some .boolean) E)  {σ : gSt}   (hf : f_X6_isGap_b12 fu  σ  = some r) : G p l e rm_X6_isGap s m args below meth c 1 0 0 (MQ below (gQ E w 1 r) args s 0 0 (fun q => eB E ≤ q)) E w σ 12 [] [] := by
  unfold f_X6_isGap_b12 at hf
  refine G_iconst (q := 13) hC dX6_isGap_12 rfl ic_1 ?_
  refine G_goto (tgt := 17) hC dX6_isGap_13 (by decide) ?_
  exact t_X6_isGap_b17 hC   hf

def f_X6_isGap (fu : Nat)  (σ : gSt) (x0 : Int32) : Option (Int32 × gSt) :=
  if x0 = (32 : Int32) then (f_X6_isGap_b12 fu  σ) else (if x0 = (45 : Int32) then (f_X6_isGap_b12 fu  σ) else (f_X6_isGap_b17 fu  σ (0 : Int32)))
set_option maxRecDepth 100000 in
theorem t_X6_isGap {fu : Nat}  {r : Int32 × gSt} (hC : gCx p s m args meth c cX6_isGap 1 RX6 (some .boolean) E)  {σ : gSt} {x0 : Int32}  (hf : f_X6_isGap fu  σ x0 = some r) : G p l e rm_X6_isGap s m args below meth c 1 0 0 (MQ below (gQ E w 1 r) args s 0 0 (fun q => eB E ≤ q)) E w σ 0 [(0, .int x0)] [] := by
  unfold f_X6_isGap at hf
  refine G_iload_n (q := 1) hC dX6_isGap_0 rfl rfl ?_
  refine G_bipush (q := 3) hC dX6_isGap_1 rfl bp_32 ?_
  refine G_icmp_eq (tgt := 12) (q := 6) hC dX6_isGap_3 (by decide) rfl (fun c0 => ?_) (fun c0 => ?_)
  · have hf := (if_pos c0).symm.trans hf
    refine G_lv (lv' := []) [] rfl ?_
    exact t_X6_isGap_b12 hC   hf
  · have hf := (if_neg c0).symm.trans hf
    refine G_iload_n (q := 7) hC dX6_isGap_6 rfl rfl ?_
    refine G_bipush (q := 9) hC dX6_isGap_7 rfl bp_45 ?_
    refine G_icmp_ne (tgt := 16) (q := 12) hC dX6_isGap_9 (by decide) rfl (fun c1 => ?_) (fun c1 => ?_)
    · have hf := (if_neg c1).symm.trans hf
      refine G_iconst (q := 17) hC dX6_isGap_16 rfl ic_0 ?_
      refine G_lv (lv' := []) [] rfl ?_
      exact t_X6_isGap_b17 hC   hf
    · have hf := (if_pos c1).symm.trans hf
      refine G_lv (lv' := []) [] rfl ?_
      exact t_X6_isGap_b12 hC   hf

theorem m_X6_isGap {l : Launch} {fu : Nat} {E : gE} {w : Nat → Int64} {σ : gSt} {x0 : Int32} {r : Int32 × gSt}  (hf : f_X6_isGap fu σ x0 = some r) : gM l yX6_isGap cX6_isGap 1 (some .boolean) rm_X6_isGap 1 E w σ [.int x0] r :=
  gM_of (by decide +kernel) (Nat.le_of_ble_eq_true rfl) (fun p e s m args below meth c hC => t_X6_isGap hC  hf)
def f_X6_isLetter_b17 (fu : Nat)  (σ : gSt) (xs0 : Int32) : Option (Int32 × gSt) :=
  gd (b01 xs0) (some (xs0, σ))
set_option maxRecDepth 100000 in
theorem t_X6_isLetter_b17 {fu : Nat}  {r : Int32 × gSt} (hC : gCx p s m args meth c cX6_isLetter 1 RX6 (some .boolean) E)  {σ : gSt} {xs0 : Int32}  (hf : f_X6_isLetter_b17 fu  σ xs0 = some r) : G p l e rm_X6_isLetter s m args below meth c 1 0 0 (MQ below (gQ E w 1 r) args s 0 0 (fun q => eB E ≤ q)) E w σ 17 [] [.int xs0] := by
  unfold f_X6_isLetter_b17 at hf
  obtain ⟨g1, hf⟩ := gd_ok hf
  exact G_iret hC hf rfl (b01_narrow g1) dX6_isLetter_17

def f_X6_isLetter_b16 (fu : Nat)  (σ : gSt)  : Option (Int32 × gSt) :=
  f_X6_isLetter_b17 fu  σ (0 : Int32)
set_option maxRecDepth 100000 in
theorem t_X6_isLetter_b16 {fu : Nat}  {r : Int32 × gSt} (hC : gCx p s m args meth c cX6_isLetter 1 RX6 (some .boolean) E)  {σ : gSt}   (hf : f_X6_isLetter_b16 fu  σ  = some r) : G p l e rm_X6_isLetter s m args below meth c 1 0 0 (MQ below (gQ E w 1 r) args s 0 0 (fun q => eB E ≤ q)) E w σ 16 [] [] := by
  unfold f_X6_isLetter_b16 at hf
  refine G_iconst (q := 17) hC dX6_isLetter_16 rfl ic_0 ?_
  exact t_X6_isLetter_b17 hC   hf

def f_X6_isLetter (fu : Nat)  (σ : gSt) (x0 : Int32) : Option (Int32 × gSt) :=
  if x0 < (97 : Int32) then (f_X6_isLetter_b16 fu  σ) else (if (122 : Int32) < x0 then (f_X6_isLetter_b16 fu  σ) else (f_X6_isLetter_b17 fu  σ (1 : Int32)))
set_option maxRecDepth 100000 in
theorem t_X6_isLetter {fu : Nat}  {r : Int32 × gSt} (hC : gCx p s m args meth c cX6_isLetter 1 RX6 (some .boolean) E)  {σ : gSt} {x0 : Int32}  (hf : f_X6_isLetter fu  σ x0 = some r) : G p l e rm_X6_isLetter s m args below meth c 1 0 0 (MQ below (gQ E w 1 r) args s 0 0 (fun q => eB E ≤ q)) E w σ 0 [(0, .int x0)] [] := by
  unfold f_X6_isLetter at hf
  refine G_iload_n (q := 1) hC dX6_isLetter_0 rfl rfl ?_
  refine G_bipush (q := 3) hC dX6_isLetter_1 rfl bp_97 ?_
  refine G_icmp_lt (tgt := 16) (q := 6) hC dX6_isLetter_3 (by decide) rfl (fun c0 => ?_) (fun c0 => ?_)
  · have hf := (if_pos c0).symm.trans hf
    refine G_lv (lv' := []) [] rfl ?_
    exact t_X6_isLetter_b16 hC   hf
  · have hf := (if_neg c0).symm.trans hf
    refine G_iload_n (q := 7) hC dX6_isLetter_6 rfl rfl ?_
    refine G_bipush (q := 9) hC dX6_isLetter_7 rfl bp_122 ?_
    refine G_icmp_gt (tgt := 16) (q := 12) hC dX6_isLetter_9 (by decide) rfl (fun c1 => ?_) (fun c1 => ?_)
    · have hf := (if_pos c1).symm.trans hf
      refine G_lv (lv' := []) [] rfl ?_
      exact t_X6_isLetter_b16 hC   hf
    · have hf := (if_neg c1).symm.trans hf
      refine G_iconst (q := 13) hC dX6_isLetter_12 rfl ic_1 ?_
      refine G_goto (tgt := 17) hC dX6_isLetter_13 (by decide) ?_
      refine G_lv (lv' := []) [] rfl ?_
      exact t_X6_isLetter_b17 hC   hf

theorem m_X6_isLetter {l : Launch} {fu : Nat} {E : gE} {w : Nat → Int64} {σ : gSt} {x0 : Int32} {r : Int32 × gSt}  (hf : f_X6_isLetter fu σ x0 = some r) : gM l yX6_isLetter cX6_isLetter 1 (some .boolean) rm_X6_isLetter 1 E w σ [.int x0] r :=
  gM_of (by decide +kernel) (Nat.le_of_ble_eq_true rfl) (fun p e s m args below meth c hC => t_X6_isLetter hC  hf)
def f_X3_add_b77 (fu : Nat)  (σ : gSt)  : Option (Int32 × gSt) :=
  some (0, σ)
set_option maxRecDepth 100000 in
theorem t_X3_add_b77 {fu : Nat}  {r : Int32 × gSt} (hC : gCx p s m args meth c cX3_add 2 RX3 none E)  {σ : gSt}   (hf : f_X3_add_b77 fu  σ  = some r) : G p l e rm_X3_add s m args below meth c 2 0 0 (MQ below (gQ E w 0 r) args s 0 0 (fun q => eB E ≤ q)) E w σ 77 [] [] := by
  unfold f_X3_add_b77 at hf
  exact G_vret hC hf rfl dX3_add_77

def f_X3_add_b41 (fu : Nat)  (σ : gSt) (i0 : Nat) (x1 : Int32) : Option (Int32 × gSt) :=
  bd (f_X6_isLetter fu σ x1) (fun v1 σ1 => if v1 = 0 then (f_X3_add_b77 fu  σ1) else (if (8 : Int32) ≤ (σ1 63 i0 0) then (f_X3_add_b77 fu  σ1) else (gd (inb (σ1 63 i0 0) 8) (gd (isC x1) (f_X3_add_b77 fu  (gU (gU σ1 61 i0 (σ1 63 i0 0).toNatClampNeg x1) 63 i0 0 (((gU σ1 61 i0 (σ1 63 i0 0).toNatClampNeg x1) 63 i0 0) + (1 : Int32))))))))
set_option maxRecDepth 100000 in
theorem t_X3_add_b41 {fu : Nat}  {r : Int32 × gSt} (hC : gCx p s m args meth c cX3_add 2 RX3 none E)  {σ : gSt} {i0 : Nat} {x1 : Int32} (h0 : i0 < 121) (hf : f_X3_add_b41 fu  σ i0 x1 = some r) : G p l e rm_X3_add s m args below meth c 2 0 0 (MQ below (gQ E w 0 r) args s 0 0 (fun q => eB E ≤ q)) E w σ 41 [(0, .ref (eB E + oHw i0)), (1, .int x1)] [] := by
  unfold f_X3_add_b41 at hf
  refine G_iload_n (q := 42) hC dX3_add_41 rfl rfl ?_
  obtain ⟨v1, σ1, hm1, hf⟩ := bd_ok hf
  refine cl_RX3_26 (q := 45) hC dX3_add_42 rfl (m_X6_isLetter hm1) ⟨Nat.le_of_ble_eq_true rfl, Nat.le_of_ble_eq_true rfl⟩ (Nat.le_of_ble_eq_true rfl) ⟨Nat.le_of_ble_eq_true rfl, Nat.le_of_ble_eq_true rfl⟩ ?_
  refine G_if_eq (tgt := 77) (q := 48) hC dX3_add_45 (by decide) rfl (fun c1 => ?_) (fun c1 => ?_)
  · have hf := (if_pos c1).symm.trans hf
    refine G_lv (lv' := []) [] rfl ?_
    exact t_X3_add_b77 hC   hf
  · have hf := (if_neg c1).symm.trans hf
    refine G_aload_n (q := 49) hC dX3_add_48 rfl rfl ?_
    refine gf_RX3_29 (q := 52) hC dX3_add_49 rfl h0 ?_
    refine G_bipush (q := 54) hC dX3_add_52 rfl bp_8 ?_
    refine G_icmp_ge (tgt := 77) (q := 57) hC dX3_add_54 (by decide) rfl (fun c2 => ?_) (fun c2 => ?_)
    · have hf := (if_pos c2).symm.trans hf
      refine G_lv (lv' := []) [] rfl ?_
      exact t_X3_add_b77 hC   hf
    · have hf := (if_neg c2).symm.trans hf
      refine G_aload_n (q := 58) hC dX3_add_57 rfl rfl ?_
      refine gf_RX3_15 (q := 61) hC dX3_add_58 rfl h0 ?_
      refine G_aload_n (q := 62) hC dX3_add_61 rfl rfl ?_
      refine gf_RX3_29 (q := 65) hC dX3_add_62 rfl h0 ?_
      refine G_iload_n (q := 66) hC dX3_add_65 rfl rfl ?_
      obtain ⟨g1, hf⟩ := gd_ok hf
      obtain ⟨g2, hf⟩ := gd_ok hf
      refine G_cast (q := 67) hC dX3_add_66 rfl (ok_61 h0 g1) g2 ?_
      refine G_aload_n (q := 68) hC dX3_add_67 rfl rfl ?_
      refine G_dup (q := 69) hC dX3_add_68 rfl rfl ?_
      refine gf_RX3_29 (q := 72) hC dX3_add_69 rfl h0 ?_
      refine G_iconst (q := 73) hC dX3_add_72 rfl ic_1 ?_
      refine G_iadd (q := 74) hC dX3_add_73 rfl ?_
      refine pf_RX3_29 (q := 77) hC dX3_add_74 rfl h0 ?_
      refine G_lv (lv' := []) [] rfl ?_
      exact t_X3_add_b77 hC   hf

def f_X3_add_b30 (fu : Nat)  (σ : gSt) (i0 : Nat) (x1 : Int32) (fs0 : Nat) (is0 : Nat) (xs1 : Int32) (xs2 : Int32) : Option (Int32 × gSt) :=
  gd (okA 0 fs0 is0 xs1) (gd (isC xs2) (f_X3_add_b41 fu  (gU (gU σ fs0 is0 xs1.toNatClampNeg xs2) 62 i0 0 (((gU σ fs0 is0 xs1.toNatClampNeg xs2) 62 i0 0) + (1 : Int32))) i0 x1))
set_option maxRecDepth 100000 in
theorem t_X3_add_b30 {fu : Nat}  {r : Int32 × gSt} (hC : gCx p s m args meth c cX3_add 2 RX3 none E)  {σ : gSt} {i0 : Nat} {x1 : Int32} {fs0 : Nat} {is0 : Nat} {xs1 : Int32} {xs2 : Int32} (h0 : i0 < 121) (hf : f_X3_add_b30 fu  σ i0 x1 fs0 is0 xs1 xs2 = some r) : G p l e rm_X3_add s m args below meth c 2 0 0 (MQ below (gQ E w 0 r) args s 0 0 (fun q => eB E ≤ q)) E w σ 30 [(0, .ref (eB E + oHw i0)), (1, .int x1)] [.int xs2, .int xs1, .ref (eB E + oA fs0 is0)] := by
  unfold f_X3_add_b30 at hf
  obtain ⟨g1, hf⟩ := gd_ok hf
  obtain ⟨g2, hf⟩ := gd_ok hf
  refine G_cast (q := 31) hC dX3_add_30 rfl g1 g2 ?_
  refine G_aload_n (q := 32) hC dX3_add_31 rfl rfl ?_
  refine G_dup (q := 33) hC dX3_add_32 rfl rfl ?_
  refine gf_RX3_18 (q := 36) hC dX3_add_33 rfl h0 ?_
  refine G_iconst (q := 37) hC dX3_add_36 rfl ic_1 ?_
  refine G_iadd (q := 38) hC dX3_add_37 rfl ?_
  refine pf_RX3_18 (q := 41) hC dX3_add_38 rfl h0 ?_
  exact t_X3_add_b41 hC  h0 hf

def f_X3_add (fu : Nat)  (σ : gSt) (i0 : Nat) (x1 : Int32) : Option (Int32 × gSt) :=
  if (8 : Int32) ≤ (σ 62 i0 0) then (f_X3_add_b41 fu  σ i0 x1) else (bd (f_X6_isGap fu σ x1) (fun v2 σ2 => if v2 = 0 then (f_X3_add_b30 fu  σ2 i0 x1 60 i0 (σ 62 i0 0) x1) else (f_X3_add_b30 fu  σ2 i0 x1 60 i0 (σ 62 i0 0) (32 : Int32))))
set_option maxRecDepth 100000 in
theorem t_X3_add {fu : Nat}  {r : Int32 × gSt} (hC : gCx p s m args meth c cX3_add 2 RX3 none E)  {σ : gSt} {i0 : Nat} {x1 : Int32} (h0 : i0 < 121) (hf : f_X3_add fu  σ i0 x1 = some r) : G p l e rm_X3_add s m args below meth c 2 0 0 (MQ below (gQ E w 0 r) args s 0 0 (fun q => eB E ≤ q)) E w σ 0 [(0, .ref (eB E + oHw i0)), (1, .int x1)] [] := by
  unfold f_X3_add at hf
  refine G_aload_n (q := 1) hC dX3_add_0 rfl rfl ?_
  refine gf_RX3_18 (q := 4) hC dX3_add_1 rfl h0 ?_
  refine G_bipush (q := 6) hC dX3_add_4 rfl bp_8 ?_
  refine G_icmp_ge (tgt := 41) (q := 9) hC dX3_add_6 (by decide) rfl (fun c0 => ?_) (fun c0 => ?_)
  · have hf := (if_pos c0).symm.trans hf
    exact t_X3_add_b41 hC  h0 hf
  · have hf := (if_neg c0).symm.trans hf
    refine G_aload_n (q := 10) hC dX3_add_9 rfl rfl ?_
    refine gf_RX3_9 (q := 13) hC dX3_add_10 rfl h0 ?_
    refine G_aload_n (q := 14) hC dX3_add_13 rfl rfl ?_
    refine gf_RX3_18 (q := 17) hC dX3_add_14 rfl h0 ?_
    refine G_iload_n (q := 18) hC dX3_add_17 rfl rfl ?_
    obtain ⟨v2, σ2, hm2, hf⟩ := bd_ok hf
    refine cl_RX3_22 (q := 21) hC dX3_add_18 rfl (m_X6_isGap hm2) ⟨Nat.le_of_ble_eq_true rfl, Nat.le_of_ble_eq_true rfl⟩ (Nat.le_of_ble_eq_true rfl) ⟨Nat.le_of_ble_eq_true rfl, Nat.le_of_ble_eq_true rfl⟩ ?_
    refine G_if_eq (tgt := 29) (q := 24) hC dX3_add_21 (by decide) rfl (fun c2 => ?_) (fun c2 => ?_)
    · have hf := (if_pos c2).symm.trans hf
      refine G_iload_n (q := 30) hC dX3_add_29 rfl rfl ?_
      exact t_X3_add_b30 hC  h0 hf
    · have hf := (if_neg c2).symm.trans hf
      refine G_bipush (q := 26) hC dX3_add_24 rfl bp_32 ?_
      refine G_goto (tgt := 30) hC dX3_add_26 (by decide) ?_
      exact t_X3_add_b30 hC  h0 hf

theorem m_X3_add {l : Launch} {fu : Nat} {E : gE} {w : Nat → Int64} {σ : gSt} {i0 : Nat} {x1 : Int32} {r : Int32 × gSt} (h0 : i0 < 121) (hf : f_X3_add fu σ i0 x1 = some r) : gM l yX3_add cX3_add 2 none rm_X3_add 0 E w σ [.ref (eB E + oHw i0), .int x1] r :=
  gM_of (by decide +kernel) (Nat.le_of_ble_eq_true rfl) (fun p e s m args below meth c hC => t_X3_add hC h0 hf)
def f_X3_clear (fu : Nat)  (σ : gSt) (i0 : Nat) : Option (Int32 × gSt) :=
  some (0, (gU (gU σ 62 i0 0 (0 : Int32)) 63 i0 0 (0 : Int32)))
set_option maxRecDepth 100000 in
theorem t_X3_clear {fu : Nat}  {r : Int32 × gSt} (hC : gCx p s m args meth c cX3_clear 1 RX3 none E)  {σ : gSt} {i0 : Nat} (h0 : i0 < 121) (hf : f_X3_clear fu  σ i0 = some r) : G p l e rm_X3_clear s m args below meth c 1 0 0 (MQ below (gQ E w 0 r) args s 0 0 (fun q => eB E ≤ q)) E w σ 0 [(0, .ref (eB E + oHw i0))] [] := by
  unfold f_X3_clear at hf
  refine G_aload_n (q := 1) hC dX3_clear_0 rfl rfl ?_
  refine G_iconst (q := 2) hC dX3_clear_1 rfl ic_0 ?_
  refine pf_RX3_18 (q := 5) hC dX3_clear_2 rfl h0 ?_
  refine G_aload_n (q := 6) hC dX3_clear_5 rfl rfl ?_
  refine G_iconst (q := 7) hC dX3_clear_6 rfl ic_0 ?_
  refine pf_RX3_29 (q := 10) hC dX3_clear_7 rfl h0 ?_
  exact G_vret hC hf rfl dX3_clear_10

theorem m_X3_clear {l : Launch} {fu : Nat} {E : gE} {w : Nat → Int64} {σ : gSt} {i0 : Nat} {r : Int32 × gSt} (h0 : i0 < 121) (hf : f_X3_clear fu σ i0 = some r) : gM l yX3_clear cX3_clear 1 none rm_X3_clear 0 E w σ [.ref (eB E + oHw i0)] r :=
  gM_of (by decide +kernel) (Nat.le_of_ble_eq_true rfl) (fun p e s m args below meth c hC => t_X3_clear hC h0 hf)
def f_X3_take (fu : Nat)  (σ : gSt) (i0 : Nat) (i1 : Nat) : Option (Int32 × gSt) :=
  gd (okCp 0 60 i1 60 i0 (0 : Int32) (0 : Int32) (8 : Int32) (fun k => σ 60 i1 k)) (gd (okCp 0 61 i1 61 i0 (0 : Int32) (0 : Int32) (8 : Int32) (fun k => (gR σ 60 i0 (va_cpy (fun k => σ 60 i1 k) (fun k => σ 60 i0 k) (0 : Int32).toNatClampNeg (0 : Int32).toNatClampNeg (8 : Int32).toNatClampNeg)) 61 i1 k)) (bd (f_X3_clear fu (gU (gU (gR (gR σ 60 i0 (va_cpy (fun k => σ 60 i1 k) (fun k => σ 60 i0 k) (0 : Int32).toNatClampNeg (0 : Int32).toNatClampNeg (8 : Int32).toNatClampNeg)) 61 i0 (va_cpy (fun k => (gR σ 60 i0 (va_cpy (fun k => σ 60 i1 k) (fun k => σ 60 i0 k) (0 : Int32).toNatClampNeg (0 : Int32).toNatClampNeg (8 : Int32).toNatClampNeg)) 61 i1 k) (fun k => (gR σ 60 i0 (va_cpy (fun k => σ 60 i1 k) (fun k => σ 60 i0 k) (0 : Int32).toNatClampNeg (0 : Int32).toNatClampNeg (8 : Int32).toNatClampNeg)) 61 i0 k) (0 : Int32).toNatClampNeg (0 : Int32).toNatClampNeg (8 : Int32).toNatClampNeg)) 62 i0 0 ((gR (gR σ 60 i0 (va_cpy (fun k => σ 60 i1 k) (fun k => σ 60 i0 k) (0 : Int32).toNatClampNeg (0 : Int32).toNatClampNeg (8 : Int32).toNatClampNeg)) 61 i0 (va_cpy (fun k => (gR σ 60 i0 (va_cpy (fun k => σ 60 i1 k) (fun k => σ 60 i0 k) (0 : Int32).toNatClampNeg (0 : Int32).toNatClampNeg (8 : Int32).toNatClampNeg)) 61 i1 k) (fun k => (gR σ 60 i0 (va_cpy (fun k => σ 60 i1 k) (fun k => σ 60 i0 k) (0 : Int32).toNatClampNeg (0 : Int32).toNatClampNeg (8 : Int32).toNatClampNeg)) 61 i0 k) (0 : Int32).toNatClampNeg (0 : Int32).toNatClampNeg (8 : Int32).toNatClampNeg)) 62 i1 0)) 63 i0 0 ((gU (gR (gR σ 60 i0 (va_cpy (fun k => σ 60 i1 k) (fun k => σ 60 i0 k) (0 : Int32).toNatClampNeg (0 : Int32).toNatClampNeg (8 : Int32).toNatClampNeg)) 61 i0 (va_cpy (fun k => (gR σ 60 i0 (va_cpy (fun k => σ 60 i1 k) (fun k => σ 60 i0 k) (0 : Int32).toNatClampNeg (0 : Int32).toNatClampNeg (8 : Int32).toNatClampNeg)) 61 i1 k) (fun k => (gR σ 60 i0 (va_cpy (fun k => σ 60 i1 k) (fun k => σ 60 i0 k) (0 : Int32).toNatClampNeg (0 : Int32).toNatClampNeg (8 : Int32).toNatClampNeg)) 61 i0 k) (0 : Int32).toNatClampNeg (0 : Int32).toNatClampNeg (8 : Int32).toNatClampNeg)) 62 i0 0 ((gR (gR σ 60 i0 (va_cpy (fun k => σ 60 i1 k) (fun k => σ 60 i0 k) (0 : Int32).toNatClampNeg (0 : Int32).toNatClampNeg (8 : Int32).toNatClampNeg)) 61 i0 (va_cpy (fun k => (gR σ 60 i0 (va_cpy (fun k => σ 60 i1 k) (fun k => σ 60 i0 k) (0 : Int32).toNatClampNeg (0 : Int32).toNatClampNeg (8 : Int32).toNatClampNeg)) 61 i1 k) (fun k => (gR σ 60 i0 (va_cpy (fun k => σ 60 i1 k) (fun k => σ 60 i0 k) (0 : Int32).toNatClampNeg (0 : Int32).toNatClampNeg (8 : Int32).toNatClampNeg)) 61 i0 k) (0 : Int32).toNatClampNeg (0 : Int32).toNatClampNeg (8 : Int32).toNatClampNeg)) 62 i1 0)) 63 i1 0)) i1) (fun _ σ1 => some (0, σ1))))
set_option maxRecDepth 100000 in
theorem t_X3_take {fu : Nat}  {r : Int32 × gSt} (hC : gCx p s m args meth c cX3_take 2 RX3 none E)  {σ : gSt} {i0 : Nat} {i1 : Nat} (h0 : i0 < 121) (h1 : i1 < 121) (hf : f_X3_take fu  σ i0 i1 = some r) : G p l e rm_X3_take s m args below meth c 2 0 0 (MQ below (gQ E w 0 r) args s 0 0 (fun q => eB E ≤ q)) E w σ 0 [(0, .ref (eB E + oHw i0)), (1, .ref (eB E + oHw i1))] [] := by
  unfold f_X3_take at hf
  refine G_aload_n (q := 1) hC dX3_take_0 rfl rfl ?_
  refine gf_RX3_9 (q := 4) hC dX3_take_1 rfl h1 ?_
  refine G_iconst (q := 5) hC dX3_take_4 rfl ic_0 ?_
  refine G_aload_n (q := 6) hC dX3_take_5 rfl rfl ?_
  refine gf_RX3_9 (q := 9) hC dX3_take_6 rfl h0 ?_
  refine G_iconst (q := 10) hC dX3_take_9 rfl ic_0 ?_
  refine G_bipush (q := 12) hC dX3_take_10 rfl bp_8 ?_
  obtain ⟨g1, hf⟩ := gd_ok hf
  refine G_copy (q := 15) (t := 0) hC (Or.inl rfl) dX3_take_12 rfl g1 (wall (by decide +kernel) rfl) (wall (by decide +kernel) rfl) (wall (by decide +kernel) rfl) (wall (by decide +kernel) rfl) (Nat.le_of_ble_eq_true rfl) (Nat.le_of_ble_eq_true rfl) ?_
  refine G_aload_n (q := 16) hC dX3_take_15 rfl rfl ?_
  refine gf_RX3_15 (q := 19) hC dX3_take_16 rfl h1 ?_
  refine G_iconst (q := 20) hC dX3_take_19 rfl ic_0 ?_
  refine G_aload_n (q := 21) hC dX3_take_20 rfl rfl ?_
  refine gf_RX3_15 (q := 24) hC dX3_take_21 rfl h0 ?_
  refine G_iconst (q := 25) hC dX3_take_24 rfl ic_0 ?_
  refine G_bipush (q := 27) hC dX3_take_25 rfl bp_8 ?_
  obtain ⟨g2, hf⟩ := gd_ok hf
  refine G_copy (q := 30) (t := 0) hC (Or.inl rfl) dX3_take_27 rfl g2 (wall (by decide +kernel) rfl) (wall (by decide +kernel) rfl) (wall (by decide +kernel) rfl) (wall (by decide +kernel) rfl) (Nat.le_of_ble_eq_true rfl) (Nat.le_of_ble_eq_true rfl) ?_
  refine G_aload_n (q := 31) hC dX3_take_30 rfl rfl ?_
  refine G_aload_n (q := 32) hC dX3_take_31 rfl rfl ?_
  refine gf_RX3_18 (q := 35) hC dX3_take_32 rfl h1 ?_
  refine pf_RX3_18 (q := 38) hC dX3_take_35 rfl h0 ?_
  refine G_aload_n (q := 39) hC dX3_take_38 rfl rfl ?_
  refine G_aload_n (q := 40) hC dX3_take_39 rfl rfl ?_
  refine gf_RX3_29 (q := 43) hC dX3_take_40 rfl h1 ?_
  refine pf_RX3_29 (q := 46) hC dX3_take_43 rfl h0 ?_
  refine G_aload_n (q := 47) hC dX3_take_46 rfl rfl ?_
  obtain ⟨v1, σ1, hm1, hf⟩ := bd_ok hf
  refine cl_RX3_38 (q := 50) hC dX3_take_47 rfl (m_X3_clear h1 hm1) h1 ⟨Nat.le_of_ble_eq_true rfl, Nat.le_of_ble_eq_true rfl⟩ (Nat.le_of_ble_eq_true rfl) ⟨Nat.le_of_ble_eq_true rfl, Nat.le_of_ble_eq_true rfl⟩ ?_
  exact G_vret hC hf rfl dX3_take_50

theorem m_X3_take {l : Launch} {fu : Nat} {E : gE} {w : Nat → Int64} {σ : gSt} {i0 : Nat} {i1 : Nat} {r : Int32 × gSt} (h0 : i0 < 121) (h1 : i1 < 121) (hf : f_X3_take fu σ i0 i1 = some r) : gM l yX3_take cX3_take 2 none rm_X3_take 0 E w σ [.ref (eB E + oHw i0), .ref (eB E + oHw i1)] r :=
  gM_of (by decide +kernel) (Nat.le_of_ble_eq_true rfl) (fun p e s m args below meth c hC => t_X3_take hC h0 h1 hf)
def f_X3_hasLetter_b12 (fu : Nat)  (σ : gSt) (xs0 : Int32) : Option (Int32 × gSt) :=
  gd (b01 xs0) (some (xs0, σ))
set_option maxRecDepth 100000 in
theorem t_X3_hasLetter_b12 {fu : Nat}  {r : Int32 × gSt} (hC : gCx p s m args meth c cX3_hasLetter 1 RX3 (some .boolean) E)  {σ : gSt} {xs0 : Int32}  (hf : f_X3_hasLetter_b12 fu  σ xs0 = some r) : G p l e rm_X3_hasLetter s m args below meth c 1 0 0 (MQ below (gQ E w 1 r) args s 0 0 (fun q => eB E ≤ q)) E w σ 12 [] [.int xs0] := by
  unfold f_X3_hasLetter_b12 at hf
  obtain ⟨g1, hf⟩ := gd_ok hf
  exact G_iret hC hf rfl (b01_narrow g1) dX3_hasLetter_12

def f_X3_hasLetter (fu : Nat)  (σ : gSt) (i0 : Nat) : Option (Int32 × gSt) :=
  if (σ 63 i0 0) ≤ 0 then (f_X3_hasLetter_b12 fu  σ (0 : Int32)) else (f_X3_hasLetter_b12 fu  σ (1 : Int32))
set_option maxRecDepth 100000 in
theorem t_X3_hasLetter {fu : Nat}  {r : Int32 × gSt} (hC : gCx p s m args meth c cX3_hasLetter 1 RX3 (some .boolean) E)  {σ : gSt} {i0 : Nat} (h0 : i0 < 121) (hf : f_X3_hasLetter fu  σ i0 = some r) : G p l e rm_X3_hasLetter s m args below meth c 1 0 0 (MQ below (gQ E w 1 r) args s 0 0 (fun q => eB E ≤ q)) E w σ 0 [(0, .ref (eB E + oHw i0))] [] := by
  unfold f_X3_hasLetter at hf
  refine G_aload_n (q := 1) hC dX3_hasLetter_0 rfl rfl ?_
  refine gf_RX3_29 (q := 4) hC dX3_hasLetter_1 rfl h0 ?_
  refine G_if_le (tgt := 11) (q := 7) hC dX3_hasLetter_4 (by decide) rfl (fun c0 => ?_) (fun c0 => ?_)
  · have hf := (if_pos c0).symm.trans hf
    refine G_iconst (q := 12) hC dX3_hasLetter_11 rfl ic_0 ?_
    refine G_lv (lv' := []) [] rfl ?_
    exact t_X3_hasLetter_b12 hC   hf
  · have hf := (if_neg c0).symm.trans hf
    refine G_iconst (q := 8) hC dX3_hasLetter_7 rfl ic_1 ?_
    refine G_goto (tgt := 12) hC dX3_hasLetter_8 (by decide) ?_
    refine G_lv (lv' := []) [] rfl ?_
    exact t_X3_hasLetter_b12 hC   hf

theorem m_X3_hasLetter {l : Launch} {fu : Nat} {E : gE} {w : Nat → Int64} {σ : gSt} {i0 : Nat} {r : Int32 × gSt} (h0 : i0 < 121) (hf : f_X3_hasLetter fu σ i0 = some r) : gM l yX3_hasLetter cX3_hasLetter 1 (some .boolean) rm_X3_hasLetter 1 E w σ [.ref (eB E + oHw i0)] r :=
  gM_of (by decide +kernel) (Nat.le_of_ble_eq_true rfl) (fun p e s m args below meth c hC => t_X3_hasLetter hC h0 hf)
def f_X3_firstLetter (fu : Nat)  (σ : gSt) (i0 : Nat) : Option (Int32 × gSt) :=
  gd (inb (0 : Int32) 8) (gd (isC (σ 61 i0 (0 : Int32).toNatClampNeg)) (some ((σ 61 i0 (0 : Int32).toNatClampNeg), σ)))
set_option maxRecDepth 100000 in
theorem t_X3_firstLetter {fu : Nat}  {r : Int32 × gSt} (hC : gCx p s m args meth c cX3_firstLetter 1 RX3 (some .char) E)  {σ : gSt} {i0 : Nat} (h0 : i0 < 121) (hf : f_X3_firstLetter fu  σ i0 = some r) : G p l e rm_X3_firstLetter s m args below meth c 1 0 0 (MQ below (gQ E w 1 r) args s 0 0 (fun q => eB E ≤ q)) E w σ 0 [(0, .ref (eB E + oHw i0))] [] := by
  unfold f_X3_firstLetter at hf
  refine G_aload_n (q := 1) hC dX3_firstLetter_0 rfl rfl ?_
  refine gf_RX3_15 (q := 4) hC dX3_firstLetter_1 rfl h0 ?_
  refine G_iconst (q := 5) hC dX3_firstLetter_4 rfl ic_0 ?_
  obtain ⟨g1, hf⟩ := gd_ok hf
  refine G_cald (q := 6) hC dX3_firstLetter_5 rfl (ok_61 h0 g1) ?_
  obtain ⟨g2, hf⟩ := gd_ok hf
  exact G_iret hC hf rfl (isC_narrow g2) dX3_firstLetter_6

theorem m_X3_firstLetter {l : Launch} {fu : Nat} {E : gE} {w : Nat → Int64} {σ : gSt} {i0 : Nat} {r : Int32 × gSt} (h0 : i0 < 121) (hf : f_X3_firstLetter fu σ i0 = some r) : gM l yX3_firstLetter cX3_firstLetter 1 (some .char) rm_X3_firstLetter 1 E w σ [.ref (eB E + oHw i0)] r :=
  gM_of (by decide +kernel) (Nat.le_of_ble_eq_true rfl) (fun p e s m args below meth c hC => t_X3_firstLetter hC h0 hf)
def f_X3_compareBy_b113 (fu : Nat)  (σ : gSt) (x5 : Int32) (x6 : Int32) : Option (Int32 × gSt) :=
  some ((x5 - x6), σ)
set_option maxRecDepth 100000 in
theorem t_X3_compareBy_b113 {fu : Nat}  {r : Int32 × gSt} (hC : gCx p s m args meth c cX3_compareBy 8 RX3 (some .int) E)  {σ : gSt} {x5 : Int32} {x6 : Int32}  (hf : f_X3_compareBy_b113 fu  σ x5 x6 = some r) : G p l e rm_X3_compareBy s m args below meth c 8 0 0 (MQ below (gQ E w 1 r) args s 0 0 (fun q => eB E ≤ q)) E w σ 113 [(5, .int x5), (6, .int x6)] [] := by
  unfold f_X3_compareBy_b113 at hf
  refine G_iload (q := 115) hC dX3_compareBy_113 rfl rfl ?_
  refine G_iload (q := 117) hC dX3_compareBy_115 rfl rfl ?_
  refine G_isub (q := 118) hC dX3_compareBy_117 rfl ?_
  exact G_iret hC hf rfl rfl dX3_compareBy_118

def f_X3_compareBy_b70_B (fu : Nat) (k70 : gSt → Nat → Nat → Nat → Nat → Int32 → Int32 → Int32 → Option (Int32 × gSt)) (σ : gSt) (f3 : Nat) (i3 : Nat) (f4 : Nat) (i4 : Nat) (x5 : Int32) (x6 : Int32) (x7 : Int32) : Option (Int32 × gSt) :=
  if x5 ≤ x7 then (f_X3_compareBy_b113 fu  σ x5 x6) else (if x6 ≤ x7 then (f_X3_compareBy_b113 fu  σ x5 x6) else (gd (okA 0 f3 i3 x7) (gd (okA 0 f4 i4 x7) (if (σ f3 i3 x7.toNatClampNeg) = (σ f4 i4 x7.toNatClampNeg) then (k70 σ f3 i3 f4 i4 x5 x6 (x7 + (1))) else (gd (okA 0 f3 i3 x7) (gd (okA 0 f4 i4 x7) (some (((σ f3 i3 x7.toNatClampNeg) - (σ f4 i4 x7.toNatClampNeg)), σ))))))))
def f_X3_compareBy_b70 (fu : Nat)  : Nat → gSt → Nat → Nat → Nat → Nat → Int32 → Int32 → Int32 → Option (Int32 × gSt)
  | 0 => fun _ _ _ _ _ _ _ _ => none
  | n + 1 => f_X3_compareBy_b70_B fu  (f_X3_compareBy_b70 fu  n)
set_option maxRecDepth 100000 in
theorem t_X3_compareBy_b70_B {fu : Nat} {k70 : gSt → Nat → Nat → Nat → Nat → Int32 → Int32 → Int32 → Option (Int32 × gSt)} {r : Int32 × gSt} (hC : gCx p s m args meth c cX3_compareBy 8 RX3 (some .int) E) (hk70 : ∀ (σ : gSt) (f3 : Nat) (i3 : Nat) (f4 : Nat) (i4 : Nat) (x5 : Int32) (x6 : Int32) (x7 : Int32), k70 σ f3 i3 f4 i4 x5 x6 x7 = some r → G p l e rm_X3_compareBy s m args below meth c 8 0 0 (MQ below (gQ E w 1 r) args s 0 0 (fun q => eB E ≤ q)) E w σ 70 [(3, .ref (eB E + oA f3 i3)), (4, .ref (eB E + oA f4 i4)), (5, .int x5), (6, .int x6), (7, .int x7)] []) {σ : gSt} {f3 : Nat} {i3 : Nat} {f4 : Nat} {i4 : Nat} {x5 : Int32} {x6 : Int32} {x7 : Int32}  (hf : f_X3_compareBy_b70_B fu k70 σ f3 i3 f4 i4 x5 x6 x7 = some r) : G p l e rm_X3_compareBy s m args below meth c 8 0 0 (MQ below (gQ E w 1 r) args s 0 0 (fun q => eB E ≤ q)) E w σ 70 [(3, .ref (eB E + oA f3 i3)), (4, .ref (eB E + oA f4 i4)), (5, .int x5), (6, .int x6), (7, .int x7)] [] := by
  unfold f_X3_compareBy_b70_B at hf
  refine G_iload (q := 72) hC dX3_compareBy_70 rfl rfl ?_
  refine G_iload (q := 74) hC dX3_compareBy_72 rfl rfl ?_
  refine G_icmp_ge (tgt := 113) (q := 77) hC dX3_compareBy_74 (by decide) rfl (fun c0 => ?_) (fun c0 => ?_)
  · have hf := (if_pos c0).symm.trans hf
    refine G_lv (lv' := [(5, .int x5), (6, .int x6)]) [2, 3] rfl ?_
    exact t_X3_compareBy_b113 hC   hf
  · have hf := (if_neg c0).symm.trans hf
    refine G_iload (q := 79) hC dX3_compareBy_77 rfl rfl ?_
    refine G_iload (q := 81) hC dX3_compareBy_79 rfl rfl ?_
    refine G_icmp_ge (tgt := 113) (q := 84) hC dX3_compareBy_81 (by decide) rfl (fun c1 => ?_) (fun c1 => ?_)
    · have hf := (if_pos c1).symm.trans hf
      refine G_lv (lv' := [(5, .int x5), (6, .int x6)]) [2, 3] rfl ?_
      exact t_X3_compareBy_b113 hC   hf
    · have hf := (if_neg c1).symm.trans hf
      refine G_aload_n (q := 85) hC dX3_compareBy_84 rfl rfl ?_
      refine G_iload (q := 87) hC dX3_compareBy_85 rfl rfl ?_
      obtain ⟨g1, hf⟩ := gd_ok hf
      refine G_cald (q := 88) hC dX3_compareBy_87 rfl g1 ?_
      refine G_aload (q := 90) hC dX3_compareBy_88 rfl rfl ?_
      refine G_iload (q := 92) hC dX3_compareBy_90 rfl rfl ?_
      obtain ⟨g2, hf⟩ := gd_ok hf
      refine G_cald (q := 93) hC dX3_compareBy_92 rfl g2 ?_
      refine G_icmp_eq (tgt := 107) (q := 96) hC dX3_compareBy_93 (by decide) rfl (fun c2 => ?_) (fun c2 => ?_)
      · have hf := (if_pos c2).symm.trans hf
        refine G_iinc (q := 110) (n := 4) (lv' := [(7, .int (x7 + (1))), (3, .ref (eB E + oA f3 i3)), (4, .ref (eB E + oA f4 i4)), (5, .int x5), (6, .int x6)]) hC dX3_compareBy_107 rfl rfl (ii_1 _) (by decide) rfl ?_
        refine G_goto (tgt := 70) hC dX3_compareBy_110 (by decide) ?_
        refine G_lv (lv' := [(3, .ref (eB E + oA f3 i3)), (4, .ref (eB E + oA f4 i4)), (5, .int x5), (6, .int x6), (7, .int (x7 + (1)))]) [1, 2, 3, 4, 0] rfl ?_
        exact hk70 _ _ _ _ _ _ _ _  hf
      · have hf := (if_neg c2).symm.trans hf
        refine G_aload_n (q := 97) hC dX3_compareBy_96 rfl rfl ?_
        refine G_iload (q := 99) hC dX3_compareBy_97 rfl rfl ?_
        obtain ⟨g3, hf⟩ := gd_ok hf
        refine G_cald (q := 100) hC dX3_compareBy_99 rfl g3 ?_
        refine G_aload (q := 102) hC dX3_compareBy_100 rfl rfl ?_
        refine G_iload (q := 104) hC dX3_compareBy_102 rfl rfl ?_
        obtain ⟨g4, hf⟩ := gd_ok hf
        refine G_cald (q := 105) hC dX3_compareBy_104 rfl g4 ?_
        refine G_isub (q := 106) hC dX3_compareBy_105 rfl ?_
        exact G_iret hC hf rfl rfl dX3_compareBy_106

theorem t_X3_compareBy_b70 {fu : Nat}  {r : Int32 × gSt} (hC : gCx p s m args meth c cX3_compareBy 8 RX3 (some .int) E)  (n : Nat) : ∀ (σ : gSt) (f3 : Nat) (i3 : Nat) (f4 : Nat) (i4 : Nat) (x5 : Int32) (x6 : Int32) (x7 : Int32), f_X3_compareBy_b70 fu  n σ f3 i3 f4 i4 x5 x6 x7 = some r → G p l e rm_X3_compareBy s m args below meth c 8 0 0 (MQ below (gQ E w 1 r) args s 0 0 (fun q => eB E ≤ q)) E w σ 70 [(3, .ref (eB E + oA f3 i3)), (4, .ref (eB E + oA f4 i4)), (5, .int x5), (6, .int x6), (7, .int x7)] [] := by
  induction n with
  | zero => intro σ f3 i3 f4 i4 x5 x6 x7  hf; cases hf
  | succ n ih => intro σ f3 i3 f4 i4 x5 x6 x7  hf; exact t_X3_compareBy_b70_B hC  ih  hf
def f_X3_compareBy_b65 (fu : Nat)  (σ : gSt) (f3 : Nat) (i3 : Nat) (f4 : Nat) (i4 : Nat) (x5 : Int32) (xs0 : Int32) : Option (Int32 × gSt) :=
  f_X3_compareBy_b70 fu  fu σ f3 i3 f4 i4 x5 xs0 (0 : Int32)
set_option maxRecDepth 100000 in
theorem t_X3_compareBy_b65 {fu : Nat}  {r : Int32 × gSt} (hC : gCx p s m args meth c cX3_compareBy 8 RX3 (some .int) E)  {σ : gSt} {f3 : Nat} {i3 : Nat} {f4 : Nat} {i4 : Nat} {x5 : Int32} {xs0 : Int32}  (hf : f_X3_compareBy_b65 fu  σ f3 i3 f4 i4 x5 xs0 = some r) : G p l e rm_X3_compareBy s m args below meth c 8 0 0 (MQ below (gQ E w 1 r) args s 0 0 (fun q => eB E ≤ q)) E w σ 65 [(3, .ref (eB E + oA f3 i3)), (4, .ref (eB E + oA f4 i4)), (5, .int x5)] [.int xs0] := by
  unfold f_X3_compareBy_b65 at hf
  refine G_istore (q := 67) (lv' := [(6, .int xs0), (3, .ref (eB E + oA f3 i3)), (4, .ref (eB E + oA f4 i4)), (5, .int x5)]) hC dX3_compareBy_65 rfl (by decide) rfl ?_
  refine G_iconst (q := 68) hC dX3_compareBy_67 rfl ic_0 ?_
  refine G_istore (q := 70) (lv' := [(7, .int (0 : Int32)), (6, .int xs0), (3, .ref (eB E + oA f3 i3)), (4, .ref (eB E + oA f4 i4)), (5, .int x5)]) hC dX3_compareBy_68 rfl (by decide) rfl ?_
  refine G_lv (lv' := [(3, .ref (eB E + oA f3 i3)), (4, .ref (eB E + oA f4 i4)), (5, .int x5), (6, .int xs0), (7, .int (0 : Int32))]) [2, 3, 4, 1, 0] rfl ?_
  exact t_X3_compareBy_b70 hC  fu _ _ _ _ _ _ _ _  hf

def f_X3_compareBy_b48 (fu : Nat)  (σ : gSt) (x1 : Int32) (i2 : Nat) (f3 : Nat) (i3 : Nat) (f4 : Nat) (i4 : Nat) (xs0 : Int32) : Option (Int32 × gSt) :=
  if x1 = 0 then (f_X3_compareBy_b65 fu  σ f3 i3 f4 i4 xs0 (σ 63 i2 0)) else (f_X3_compareBy_b65 fu  σ f3 i3 f4 i4 xs0 (σ 62 i2 0))
set_option maxRecDepth 100000 in
theorem t_X3_compareBy_b48 {fu : Nat}  {r : Int32 × gSt} (hC : gCx p s m args meth c cX3_compareBy 8 RX3 (some .int) E)  {σ : gSt} {x1 : Int32} {i2 : Nat} {f3 : Nat} {i3 : Nat} {f4 : Nat} {i4 : Nat} {xs0 : Int32} (h2 : i2 < 121) (hf : f_X3_compareBy_b48 fu  σ x1 i2 f3 i3 f4 i4 xs0 = some r) : G p l e rm_X3_compareBy s m args below meth c 8 0 0 (MQ below (gQ E w 1 r) args s 0 0 (fun q => eB E ≤ q)) E w σ 48 [(1, .int x1), (2, .ref (eB E + oHw i2)), (3, .ref (eB E + oA f3 i3)), (4, .ref (eB E + oA f4 i4))] [.int xs0] := by
  unfold f_X3_compareBy_b48 at hf
  refine G_istore (q := 50) (lv' := [(5, .int xs0), (1, .int x1), (2, .ref (eB E + oHw i2)), (3, .ref (eB E + oA f3 i3)), (4, .ref (eB E + oA f4 i4))]) hC dX3_compareBy_48 rfl (by decide) rfl ?_
  refine G_iload_n (q := 51) hC dX3_compareBy_50 rfl rfl ?_
  refine G_if_eq (tgt := 61) (q := 54) hC dX3_compareBy_51 (by decide) rfl (fun c0 => ?_) (fun c0 => ?_)
  · have hf := (if_pos c0).symm.trans hf
    refine G_aload_n (q := 62) hC dX3_compareBy_61 rfl rfl ?_
    refine gf_RX3_29 (q := 65) hC dX3_compareBy_62 rfl h2 ?_
    refine G_lv (lv' := [(3, .ref (eB E + oA f3 i3)), (4, .ref (eB E + oA f4 i4)), (5, .int xs0)]) [3, 4, 0] rfl ?_
    exact t_X3_compareBy_b65 hC   hf
  · have hf := (if_neg c0).symm.trans hf
    refine G_aload_n (q := 55) hC dX3_compareBy_54 rfl rfl ?_
    refine gf_RX3_18 (q := 58) hC dX3_compareBy_55 rfl h2 ?_
    refine G_goto (tgt := 65) hC dX3_compareBy_58 (by decide) ?_
    refine G_lv (lv' := [(3, .ref (eB E + oA f3 i3)), (4, .ref (eB E + oA f4 i4)), (5, .int xs0)]) [3, 4, 0] rfl ?_
    exact t_X3_compareBy_b65 hC   hf

def f_X3_compareBy_b31 (fu : Nat)  (σ : gSt) (i0 : Nat) (x1 : Int32) (i2 : Nat) (f3 : Nat) (i3 : Nat) (fs0 : Nat) (is0 : Nat) : Option (Int32 × gSt) :=
  if x1 = 0 then (f_X3_compareBy_b48 fu  σ x1 i2 f3 i3 fs0 is0 (σ 63 i0 0)) else (f_X3_compareBy_b48 fu  σ x1 i2 f3 i3 fs0 is0 (σ 62 i0 0))
set_option maxRecDepth 100000 in
theorem t_X3_compareBy_b31 {fu : Nat}  {r : Int32 × gSt} (hC : gCx p s m args meth c cX3_compareBy 8 RX3 (some .int) E)  {σ : gSt} {i0 : Nat} {x1 : Int32} {i2 : Nat} {f3 : Nat} {i3 : Nat} {fs0 : Nat} {is0 : Nat} (h0 : i0 < 121) (h2 : i2 < 121) (hf : f_X3_compareBy_b31 fu  σ i0 x1 i2 f3 i3 fs0 is0 = some r) : G p l e rm_X3_compareBy s m args below meth c 8 0 0 (MQ below (gQ E w 1 r) args s 0 0 (fun q => eB E ≤ q)) E w σ 31 [(0, .ref (eB E + oHw i0)), (1, .int x1), (2, .ref (eB E + oHw i2)), (3, .ref (eB E + oA f3 i3))] [.ref (eB E + oA fs0 is0)] := by
  unfold f_X3_compareBy_b31 at hf
  refine G_astore (q := 33) (lv' := [(4, .ref (eB E + oA fs0 is0)), (0, .ref (eB E + oHw i0)), (1, .int x1), (2, .ref (eB E + oHw i2)), (3, .ref (eB E + oA f3 i3))]) hC dX3_compareBy_31 rfl (by decide) rfl ?_
  refine G_iload_n (q := 34) hC dX3_compareBy_33 rfl rfl ?_
  refine G_if_eq (tgt := 44) (q := 37) hC dX3_compareBy_34 (by decide) rfl (fun c0 => ?_) (fun c0 => ?_)
  · have hf := (if_pos c0).symm.trans hf
    refine G_aload_n (q := 45) hC dX3_compareBy_44 rfl rfl ?_
    refine gf_RX3_29 (q := 48) hC dX3_compareBy_45 rfl h0 ?_
    refine G_lv (lv' := [(1, .int x1), (2, .ref (eB E + oHw i2)), (3, .ref (eB E + oA f3 i3)), (4, .ref (eB E + oA fs0 is0))]) [2, 3, 4, 0] rfl ?_
    exact t_X3_compareBy_b48 hC  h2 hf
  · have hf := (if_neg c0).symm.trans hf
    refine G_aload_n (q := 38) hC dX3_compareBy_37 rfl rfl ?_
    refine gf_RX3_18 (q := 41) hC dX3_compareBy_38 rfl h0 ?_
    refine G_goto (tgt := 48) hC dX3_compareBy_41 (by decide) ?_
    refine G_lv (lv' := [(1, .int x1), (2, .ref (eB E + oHw i2)), (3, .ref (eB E + oA f3 i3)), (4, .ref (eB E + oA fs0 is0))]) [2, 3, 4, 0] rfl ?_
    exact t_X3_compareBy_b48 hC  h2 hf

def f_X3_compareBy_b15 (fu : Nat)  (σ : gSt) (i0 : Nat) (x1 : Int32) (i2 : Nat) (fs0 : Nat) (is0 : Nat) : Option (Int32 × gSt) :=
  if x1 = 0 then (f_X3_compareBy_b31 fu  σ i0 x1 i2 fs0 is0 61 i2) else (f_X3_compareBy_b31 fu  σ i0 x1 i2 fs0 is0 60 i2)
set_option maxRecDepth 100000 in
theorem t_X3_compareBy_b15 {fu : Nat}  {r : Int32 × gSt} (hC : gCx p s m args meth c cX3_compareBy 8 RX3 (some .int) E)  {σ : gSt} {i0 : Nat} {x1 : Int32} {i2 : Nat} {fs0 : Nat} {is0 : Nat} (h0 : i0 < 121) (h2 : i2 < 121) (hf : f_X3_compareBy_b15 fu  σ i0 x1 i2 fs0 is0 = some r) : G p l e rm_X3_compareBy s m args below meth c 8 0 0 (MQ below (gQ E w 1 r) args s 0 0 (fun q => eB E ≤ q)) E w σ 15 [(0, .ref (eB E + oHw i0)), (1, .int x1), (2, .ref (eB E + oHw i2))] [.ref (eB E + oA fs0 is0)] := by
  unfold f_X3_compareBy_b15 at hf
  refine G_astore_n (q := 16) (lv' := [(3, .ref (eB E + oA fs0 is0)), (0, .ref (eB E + oHw i0)), (1, .int x1), (2, .ref (eB E + oHw i2))]) hC dX3_compareBy_15 rfl (by decide) rfl ?_
  refine G_iload_n (q := 17) hC dX3_compareBy_16 rfl rfl ?_
  refine G_if_eq (tgt := 27) (q := 20) hC dX3_compareBy_17 (by decide) rfl (fun c0 => ?_) (fun c0 => ?_)
  · have hf := (if_pos c0).symm.trans hf
    refine G_aload_n (q := 28) hC dX3_compareBy_27 rfl rfl ?_
    refine gf_RX3_15 (q := 31) hC dX3_compareBy_28 rfl h2 ?_
    refine G_lv (lv' := [(0, .ref (eB E + oHw i0)), (1, .int x1), (2, .ref (eB E + oHw i2)), (3, .ref (eB E + oA fs0 is0))]) [1, 2, 3, 0] rfl ?_
    exact t_X3_compareBy_b31 hC  h0 h2 hf
  · have hf := (if_neg c0).symm.trans hf
    refine G_aload_n (q := 21) hC dX3_compareBy_20 rfl rfl ?_
    refine gf_RX3_9 (q := 24) hC dX3_compareBy_21 rfl h2 ?_
    refine G_goto (tgt := 31) hC dX3_compareBy_24 (by decide) ?_
    refine G_lv (lv' := [(0, .ref (eB E + oHw i0)), (1, .int x1), (2, .ref (eB E + oHw i2)), (3, .ref (eB E + oA fs0 is0))]) [1, 2, 3, 0] rfl ?_
    exact t_X3_compareBy_b31 hC  h0 h2 hf

def f_X3_compareBy (fu : Nat)  (σ : gSt) (i0 : Nat) (x1 : Int32) (i2 : Nat) : Option (Int32 × gSt) :=
  if x1 = 0 then (f_X3_compareBy_b15 fu  σ i0 x1 i2 61 i0) else (f_X3_compareBy_b15 fu  σ i0 x1 i2 60 i0)
set_option maxRecDepth 100000 in
theorem t_X3_compareBy {fu : Nat}  {r : Int32 × gSt} (hC : gCx p s m args meth c cX3_compareBy 8 RX3 (some .int) E)  {σ : gSt} {i0 : Nat} {x1 : Int32} {i2 : Nat} (h0 : i0 < 121) (h2 : i2 < 121) (hf : f_X3_compareBy fu  σ i0 x1 i2 = some r) : G p l e rm_X3_compareBy s m args below meth c 8 0 0 (MQ below (gQ E w 1 r) args s 0 0 (fun q => eB E ≤ q)) E w σ 0 [(0, .ref (eB E + oHw i0)), (1, .int x1), (2, .ref (eB E + oHw i2))] [] := by
  unfold f_X3_compareBy at hf
  refine G_iload_n (q := 1) hC dX3_compareBy_0 rfl rfl ?_
  refine G_if_eq (tgt := 11) (q := 4) hC dX3_compareBy_1 (by decide) rfl (fun c0 => ?_) (fun c0 => ?_)
  · have hf := (if_pos c0).symm.trans hf
    refine G_aload_n (q := 12) hC dX3_compareBy_11 rfl rfl ?_
    refine gf_RX3_15 (q := 15) hC dX3_compareBy_12 rfl h0 ?_
    exact t_X3_compareBy_b15 hC  h0 h2 hf
  · have hf := (if_neg c0).symm.trans hf
    refine G_aload_n (q := 5) hC dX3_compareBy_4 rfl rfl ?_
    refine gf_RX3_9 (q := 8) hC dX3_compareBy_5 rfl h0 ?_
    refine G_goto (tgt := 15) hC dX3_compareBy_8 (by decide) ?_
    exact t_X3_compareBy_b15 hC  h0 h2 hf

theorem m_X3_compareBy {l : Launch} {fu : Nat} {E : gE} {w : Nat → Int64} {σ : gSt} {i0 : Nat} {x1 : Int32} {i2 : Nat} {r : Int32 × gSt} (h0 : i0 < 121) (h2 : i2 < 121) (hf : f_X3_compareBy fu σ i0 x1 i2 = some r) : gM l yX3_compareBy cX3_compareBy 8 (some .int) rm_X3_compareBy 1 E w σ [.ref (eB E + oHw i0), .int x1, .ref (eB E + oHw i2)] r :=
  gM_of (by decide +kernel) (Nat.le_of_ble_eq_true rfl) (fun p e s m args below meth c hC => t_X3_compareBy hC h0 h2 hf)
def f_X6_sign_b24 (fu : Nat)  (σ : gSt) (x1 : Int32) : Option (Nat × Int32 × gSt) :=
  if (σ 62 120 0) < (8 : Int32) then (bd (f_X3_add fu σ 120 x1) (fun _ σ2 => some (0, (σ2 62 120 0), σ2))) else (some (2, 0, σ))
set_option maxRecDepth 100000 in
theorem t_X6_sign_b24 {fu : Nat}  {r : Nat × Int32 × gSt} (hC : gCx p s m args meth c cX6_sign 2 RX6 (some .int) E) (hX : ∀ x ∈ c.exceptionTable.toList, False) (hflag : l.stackTraces = false)  {σ : gSt} {x1 : Int32}  (hf : f_X6_sign_b24 fu  σ x1 = some r) : G p l e rm_X6_sign s m args below meth c 2 0 0 (vx_MQ below (gQX E w 1 r) (gXC E w r) args s rm_X6_sign.cells rm_X6_sign.slots (fun q => eB E ≤ q)) E w σ 24 [(0, .ref (eB E + 0)), (1, .int x1)] [] := by
  unfold f_X6_sign_b24 at hf
  refine G_aload_n (q := 25) hC dX6_sign_24 rfl rfl ?_
  refine gf_RX6_10 (q := 28) hC dX6_sign_25 rfl ?_
  refine gf_RX6_58 (q := 31) hC dX6_sign_28 rfl hwD ?_
  refine G_bipush (q := 33) hC dX6_sign_31 rfl bp_8 ?_
  refine G_icmp_lt (tgt := 46) (q := 36) hC dX6_sign_33 (by decide) rfl (fun c0 => ?_) (fun c0 => ?_)
  · have hf := (if_pos c0).symm.trans hf
    refine G_aload_n (q := 47) hC dX6_sign_46 rfl rfl ?_
    refine gf_RX6_10 (q := 50) hC dX6_sign_47 rfl ?_
    refine G_iload_n (q := 51) hC dX6_sign_50 rfl rfl ?_
    obtain ⟨v2, σ2, hm2, hf⟩ := bd_ok hf
    refine cl_RX6_67 (q := 54) hC dX6_sign_51 rfl (m_X3_add hwD hm2) hwD ⟨Nat.le_of_ble_eq_true rfl, Nat.le_of_ble_eq_true rfl⟩ (Nat.le_of_ble_eq_true rfl) ⟨Nat.le_of_ble_eq_true rfl, Nat.le_of_ble_eq_true rfl⟩ ?_
    refine G_aload_n (q := 55) hC dX6_sign_54 rfl rfl ?_
    refine gf_RX6_10 (q := 58) hC dX6_sign_55 rfl ?_
    refine gf_RX6_58 (q := 61) hC dX6_sign_58 rfl hwD ?_
    exact G_iretX hC hf rfl rfl (Nat.le_of_ble_eq_true rfl) (Nat.le_of_ble_eq_true rfl) dX6_sign_61
  · have hf := (if_neg c0).symm.trans hf
    exact G_throw hC hX hflag (text := "the draft is full") hf (by decide) (by decide +kernel) (wall (by decide +kernel) rfl) (wall (by decide +kernel) rfl) (by decide) thA2 thB2 dX6_sign_36 dX6_sign_39 dX6_sign_40 dX6_sign_42 dX6_sign_45 (Nat.le_of_ble_eq_true rfl) (Nat.le_of_ble_eq_true rfl) ⟨Nat.le_of_ble_eq_true rfl, Nat.le_of_ble_eq_true rfl⟩ ⟨Nat.le_of_ble_eq_true rfl, Nat.le_of_ble_eq_true rfl⟩

def f_X6_sign (fu : Nat)  (σ : gSt) (x1 : Int32) : Option (Nat × Int32 × gSt) :=
  bd (f_X6_isLetter fu σ x1) (fun v1 σ1 => if v1 = 0 then (bd (f_X6_isGap fu σ1 x1) (fun v3 σ3 => if v3 = 0 then (some (1, 0, σ3)) else (f_X6_sign_b24 fu  σ3 x1))) else (f_X6_sign_b24 fu  σ1 x1))
set_option maxRecDepth 100000 in
theorem t_X6_sign {fu : Nat}  {r : Nat × Int32 × gSt} (hC : gCx p s m args meth c cX6_sign 2 RX6 (some .int) E) (hX : ∀ x ∈ c.exceptionTable.toList, False) (hflag : l.stackTraces = false)  {σ : gSt} {x1 : Int32}  (hf : f_X6_sign fu  σ x1 = some r) : G p l e rm_X6_sign s m args below meth c 2 0 0 (vx_MQ below (gQX E w 1 r) (gXC E w r) args s rm_X6_sign.cells rm_X6_sign.slots (fun q => eB E ≤ q)) E w σ 0 [(0, .ref (eB E + 0)), (1, .int x1)] [] := by
  unfold f_X6_sign at hf
  refine G_iload_n (q := 1) hC dX6_sign_0 rfl rfl ?_
  obtain ⟨v1, σ1, hm1, hf⟩ := bd_ok hf
  refine cl_RX6_44 (q := 4) hC dX6_sign_1 rfl (m_X6_isLetter hm1) ⟨Nat.le_of_ble_eq_true rfl, Nat.le_of_ble_eq_true rfl⟩ (Nat.le_of_ble_eq_true rfl) ⟨Nat.le_of_ble_eq_true rfl, Nat.le_of_ble_eq_true rfl⟩ ?_
  refine G_if_ne (tgt := 24) (q := 7) hC dX6_sign_4 (by decide) rfl (fun c1 => ?_) (fun c1 => ?_)
  · have hf := (if_neg c1).symm.trans hf
    exact t_X6_sign_b24 hC hX hflag   hf
  · have hf := (if_pos c1).symm.trans hf
    refine G_iload_n (q := 8) hC dX6_sign_7 rfl rfl ?_
    obtain ⟨v3, σ3, hm3, hf⟩ := bd_ok hf
    refine cl_RX6_48 (q := 11) hC dX6_sign_8 rfl (m_X6_isGap hm3) ⟨Nat.le_of_ble_eq_true rfl, Nat.le_of_ble_eq_true rfl⟩ (Nat.le_of_ble_eq_true rfl) ⟨Nat.le_of_ble_eq_true rfl, Nat.le_of_ble_eq_true rfl⟩ ?_
    refine G_if_ne (tgt := 24) (q := 14) hC dX6_sign_11 (by decide) rfl (fun c3 => ?_) (fun c3 => ?_)
    · have hf := (if_neg c3).symm.trans hf
      exact t_X6_sign_b24 hC hX hflag   hf
    · have hf := (if_pos c3).symm.trans hf
      exact G_throw hC hX hflag (text := "no letter, blank or hyphen") hf (by decide) (by decide +kernel) (wall (by decide +kernel) rfl) (wall (by decide +kernel) rfl) (by decide) thA1 thB1 dX6_sign_14 dX6_sign_17 dX6_sign_18 dX6_sign_20 dX6_sign_23 (Nat.le_of_ble_eq_true rfl) (Nat.le_of_ble_eq_true rfl) ⟨Nat.le_of_ble_eq_true rfl, Nat.le_of_ble_eq_true rfl⟩ ⟨Nat.le_of_ble_eq_true rfl, Nat.le_of_ble_eq_true rfl⟩

theorem m_X6_sign {l : Launch} {fu : Nat} {E : gE} {w : Nat → Int64} {σ : gSt} {x1 : Int32} {r : Nat × Int32 × gSt} (hflag : l.stackTraces = false)  (hf : f_X6_sign fu σ x1 = some r) : gMX l yX6_sign cX6_sign 2 (some .int) rm_X6_sign 1 E w σ [.ref (eB E + 0), .int x1] r :=
  gMX_of (by decide +kernel) (Nat.le_of_ble_eq_true rfl) (fun p e s m args below meth c hC hX => t_X6_sign hC hX hflag  hf)
end WK

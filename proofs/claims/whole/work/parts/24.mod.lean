/-! by program (wip/whole/gen_walk.py): the methods as functions over the store, and their walks -/
section WK
variable {p : Program} {l : Launch} {e : Env} {s : State} {m : MethodId} {args : Array Value} {below : List Frame} {meth : Method} {c : Code} {E : gE} {w : Nat → Int64}
def f_X7_thrown (fu : Nat)  (σ : gSt)  : Option (Int32 × gSt) :=
  some ((σ 209 0 0), σ)
set_option maxRecDepth 100000 in
theorem t_X7_thrown {fu : Nat}  {r : Int32 × gSt} (hC : gCx p s m args meth c cX7_thrown 1 RX7 (some .int) E)  {σ : gSt}   (hf : f_X7_thrown fu  σ  = some r) : G p l e rm_X7_thrown s m args below meth c 1 0 0 (MQ below (gQ E w 1 r) args s 0 0 (fun q => eB E ≤ q)) E w σ 0 [(0, .ref (eB E + 583))] [] := by
  unfold f_X7_thrown at hf
  refine G_aload_n (q := 1) hC dX7_thrown_0 rfl rfl ?_
  refine gf_RX7_74 (q := 4) hC dX7_thrown_1 rfl ?_
  exact G_iret hC hf rfl rfl dX7_thrown_4

theorem m_X7_thrown {l : Launch} {fu : Nat} {E : gE} {w : Nat → Int64} {σ : gSt}  {r : Int32 × gSt}  (hf : f_X7_thrown fu σ  = some r) : gM l yX7_thrown cX7_thrown 1 (some .int) rm_X7_thrown 1 E w σ [.ref (eB E + 583)] r :=
  gM_of (by decide +kernel) (Nat.le_of_ble_eq_true rfl) (fun p e s m args below meth c hC => t_X7_thrown hC  hf)
def f_X7_goes_b14 (fu : Nat)  (σ : gSt) (xs0 : Int32) : Option (Int32 × gSt) :=
  gd (b01 xs0) (some (xs0, σ))
set_option maxRecDepth 100000 in
theorem t_X7_goes_b14 {fu : Nat}  {r : Int32 × gSt} (hC : gCx p s m args meth c cX7_goes 2 RX7 (some .boolean) E)  {σ : gSt} {xs0 : Int32}  (hf : f_X7_goes_b14 fu  σ xs0 = some r) : G p l e rm_X7_goes s m args below meth c 2 0 0 (MQ below (gQ E w 1 r) args s 0 0 (fun q => eB E ≤ q)) E w σ 14 [] [.int xs0] := by
  unfold f_X7_goes_b14 at hf
  obtain ⟨g1, hf⟩ := gd_ok hf
  exact G_iret hC hf rfl (b01_narrow g1) dX7_goes_14

def f_X7_goes (fu : Nat)  (σ : gSt) (x1 : Int32) : Option (Int32 × gSt) :=
  if x1 = 0 then (f_X7_goes_b14 fu  (gU σ 209 0 0 x1) (1 : Int32)) else (f_X7_goes_b14 fu  (gU σ 209 0 0 x1) (0 : Int32))
set_option maxRecDepth 100000 in
theorem t_X7_goes {fu : Nat}  {r : Int32 × gSt} (hC : gCx p s m args meth c cX7_goes 2 RX7 (some .boolean) E)  {σ : gSt} {x1 : Int32}  (hf : f_X7_goes fu  σ x1 = some r) : G p l e rm_X7_goes s m args below meth c 2 0 0 (MQ below (gQ E w 1 r) args s 0 0 (fun q => eB E ≤ q)) E w σ 0 [(0, .ref (eB E + 583)), (1, .int x1)] [] := by
  unfold f_X7_goes at hf
  refine G_aload_n (q := 1) hC dX7_goes_0 rfl rfl ?_
  refine G_iload_n (q := 2) hC dX7_goes_1 rfl rfl ?_
  refine pf_RX7_74 (q := 5) hC dX7_goes_2 rfl ?_
  refine G_iload_n (q := 6) hC dX7_goes_5 rfl rfl ?_
  refine G_if_ne (tgt := 13) (q := 9) hC dX7_goes_6 (by decide) rfl (fun c0 => ?_) (fun c0 => ?_)
  · have hf := (if_neg c0).symm.trans hf
    refine G_iconst (q := 14) hC dX7_goes_13 rfl ic_0 ?_
    refine G_lv (lv' := []) [] rfl ?_
    exact t_X7_goes_b14 hC   hf
  · have hf := (if_pos c0).symm.trans hf
    refine G_iconst (q := 10) hC dX7_goes_9 rfl ic_1 ?_
    refine G_goto (tgt := 14) hC dX7_goes_10 (by decide) ?_
    refine G_lv (lv' := []) [] rfl ?_
    exact t_X7_goes_b14 hC   hf

theorem m_X7_goes {l : Launch} {fu : Nat} {E : gE} {w : Nat → Int64} {σ : gSt} {x1 : Int32} {r : Int32 × gSt}  (hf : f_X7_goes fu σ x1 = some r) : gM l yX7_goes cX7_goes 2 (some .boolean) rm_X7_goes 1 E w σ [.ref (eB E + 583), .int x1] r :=
  gM_of (by decide +kernel) (Nat.le_of_ble_eq_true rfl) (fun p e s m args below meth c hC => t_X7_goes hC  hf)
def f_X7_isIn_b15 (fu : Nat)  (σ : gSt) (xs0 : Int32) : Option (Int32 × gSt) :=
  gd (b01 xs0) (some (xs0, σ))
set_option maxRecDepth 100000 in
theorem t_X7_isIn_b15 {fu : Nat}  {r : Int32 × gSt} (hC : gCx p s m args meth c cX7_isIn 3 RX7 (some .boolean) E)  {σ : gSt} {xs0 : Int32}  (hf : f_X7_isIn_b15 fu  σ xs0 = some r) : G p l e rm_X7_isIn s m args below meth c 3 0 0 (MQ below (gQ E w 1 r) args s 0 0 (fun q => eB E ≤ q)) E w σ 15 [] [.int xs0] := by
  unfold f_X7_isIn_b15 at hf
  obtain ⟨g1, hf⟩ := gd_ok hf
  exact G_iret hC hf rfl (b01_narrow g1) dX7_isIn_15

def f_X7_isIn_b14 (fu : Nat)  (σ : gSt)  : Option (Int32 × gSt) :=
  f_X7_isIn_b15 fu  σ (0 : Int32)
set_option maxRecDepth 100000 in
theorem t_X7_isIn_b14 {fu : Nat}  {r : Int32 × gSt} (hC : gCx p s m args meth c cX7_isIn 3 RX7 (some .boolean) E)  {σ : gSt}   (hf : f_X7_isIn_b14 fu  σ  = some r) : G p l e rm_X7_isIn s m args below meth c 3 0 0 (MQ below (gQ E w 1 r) args s 0 0 (fun q => eB E ≤ q)) E w σ 14 [] [] := by
  unfold f_X7_isIn_b14 at hf
  refine G_iconst (q := 15) hC dX7_isIn_14 rfl ic_0 ?_
  exact t_X7_isIn_b15 hC   hf

def f_X7_isIn (fu : Nat)  (σ : gSt) (x0 : Int32) (x1 : Int32) (x2 : Int32) : Option (Int32 × gSt) :=
  if x0 < x1 then (f_X7_isIn_b14 fu  σ) else (if x2 < x0 then (f_X7_isIn_b14 fu  σ) else (f_X7_isIn_b15 fu  σ (1 : Int32)))
set_option maxRecDepth 100000 in
theorem t_X7_isIn {fu : Nat}  {r : Int32 × gSt} (hC : gCx p s m args meth c cX7_isIn 3 RX7 (some .boolean) E)  {σ : gSt} {x0 : Int32} {x1 : Int32} {x2 : Int32}  (hf : f_X7_isIn fu  σ x0 x1 x2 = some r) : G p l e rm_X7_isIn s m args below meth c 3 0 0 (MQ below (gQ E w 1 r) args s 0 0 (fun q => eB E ≤ q)) E w σ 0 [(0, .int x0), (1, .int x1), (2, .int x2)] [] := by
  unfold f_X7_isIn at hf
  refine G_iload_n (q := 1) hC dX7_isIn_0 rfl rfl ?_
  refine G_iload_n (q := 2) hC dX7_isIn_1 rfl rfl ?_
  refine G_icmp_lt (tgt := 14) (q := 5) hC dX7_isIn_2 (by decide) rfl (fun c0 => ?_) (fun c0 => ?_)
  · have hf := (if_pos c0).symm.trans hf
    refine G_lv (lv' := []) [] rfl ?_
    exact t_X7_isIn_b14 hC   hf
  · have hf := (if_neg c0).symm.trans hf
    refine G_iload_n (q := 6) hC dX7_isIn_5 rfl rfl ?_
    refine G_iload_n (q := 7) hC dX7_isIn_6 rfl rfl ?_
    refine G_icmp_gt (tgt := 14) (q := 10) hC dX7_isIn_7 (by decide) rfl (fun c1 => ?_) (fun c1 => ?_)
    · have hf := (if_pos c1).symm.trans hf
      refine G_lv (lv' := []) [] rfl ?_
      exact t_X7_isIn_b14 hC   hf
    · have hf := (if_neg c1).symm.trans hf
      refine G_iconst (q := 11) hC dX7_isIn_10 rfl ic_1 ?_
      refine G_goto (tgt := 15) hC dX7_isIn_11 (by decide) ?_
      refine G_lv (lv' := []) [] rfl ?_
      exact t_X7_isIn_b15 hC   hf

theorem m_X7_isIn {l : Launch} {fu : Nat} {E : gE} {w : Nat → Int64} {σ : gSt} {x0 : Int32} {x1 : Int32} {x2 : Int32} {r : Int32 × gSt}  (hf : f_X7_isIn fu σ x0 x1 x2 = some r) : gM l yX7_isIn cX7_isIn 3 (some .boolean) rm_X7_isIn 1 E w σ [.int x0, .int x1, .int x2] r :=
  gM_of (by decide +kernel) (Nat.le_of_ble_eq_true rfl) (fun p e s m args below meth c hC => t_X7_isIn hC  hf)
def f_X7_isArticle (fu : Nat)  (σ : gSt) (x1 : Int32) : Option (Int32 × gSt) :=
  bd (f_X7_isIn fu σ x1 (0 : Int32) ((σ 183 0 0) - (1 : Int32))) (fun v1 σ1 => gd (b01 v1) (some (v1, σ1)))
set_option maxRecDepth 100000 in
theorem t_X7_isArticle {fu : Nat}  {r : Int32 × gSt} (hC : gCx p s m args meth c cX7_isArticle 2 RX7 (some .boolean) E)  {σ : gSt} {x1 : Int32}  (hf : f_X7_isArticle fu  σ x1 = some r) : G p l e rm_X7_isArticle s m args below meth c 2 0 0 (MQ below (gQ E w 1 r) args s 0 0 (fun q => eB E ≤ q)) E w σ 0 [(0, .ref (eB E + 583)), (1, .int x1)] [] := by
  unfold f_X7_isArticle at hf
  refine G_iload_n (q := 1) hC dX7_isArticle_0 rfl rfl ?_
  refine G_iconst (q := 2) hC dX7_isArticle_1 rfl ic_0 ?_
  refine G_aload_n (q := 3) hC dX7_isArticle_2 rfl rfl ?_
  refine gf_RX7_78 (q := 6) hC dX7_isArticle_3 rfl ?_
  refine G_iconst (q := 7) hC dX7_isArticle_6 rfl ic_1 ?_
  refine G_isub (q := 8) hC dX7_isArticle_7 rfl ?_
  obtain ⟨v1, σ1, hm1, hf⟩ := bd_ok hf
  refine cl_RX7_81 (q := 11) hC dX7_isArticle_8 rfl (m_X7_isIn hm1) ⟨Nat.le_of_ble_eq_true rfl, Nat.le_of_ble_eq_true rfl⟩ (Nat.le_of_ble_eq_true rfl) ⟨Nat.le_of_ble_eq_true rfl, Nat.le_of_ble_eq_true rfl⟩ ?_
  obtain ⟨g1, hf⟩ := gd_ok hf
  exact G_iret hC hf rfl (b01_narrow g1) dX7_isArticle_11

theorem m_X7_isArticle {l : Launch} {fu : Nat} {E : gE} {w : Nat → Int64} {σ : gSt} {x1 : Int32} {r : Int32 × gSt}  (hf : f_X7_isArticle fu σ x1 = some r) : gM l yX7_isArticle cX7_isArticle 2 (some .boolean) rm_X7_isArticle 1 E w σ [.ref (eB E + 583), .int x1] r :=
  gM_of (by decide +kernel) (Nat.le_of_ble_eq_true rfl) (fun p e s m args below meth c hC => t_X7_isArticle hC  hf)
def f_X7_isContributor (fu : Nat)  (σ : gSt) (x1 : Int32) : Option (Int32 × gSt) :=
  bd (f_X7_isIn fu σ x1 (0 : Int32) ((σ 201 0 0) - (1 : Int32))) (fun v1 σ1 => gd (b01 v1) (some (v1, σ1)))
set_option maxRecDepth 100000 in
theorem t_X7_isContributor {fu : Nat}  {r : Int32 × gSt} (hC : gCx p s m args meth c cX7_isContributor 2 RX7 (some .boolean) E)  {σ : gSt} {x1 : Int32}  (hf : f_X7_isContributor fu  σ x1 = some r) : G p l e rm_X7_isContributor s m args below meth c 2 0 0 (MQ below (gQ E w 1 r) args s 0 0 (fun q => eB E ≤ q)) E w σ 0 [(0, .ref (eB E + 583)), (1, .int x1)] [] := by
  unfold f_X7_isContributor at hf
  refine G_iload_n (q := 1) hC dX7_isContributor_0 rfl rfl ?_
  refine G_iconst (q := 2) hC dX7_isContributor_1 rfl ic_0 ?_
  refine G_aload_n (q := 3) hC dX7_isContributor_2 rfl rfl ?_
  refine gf_RX7_85 (q := 6) hC dX7_isContributor_3 rfl ?_
  refine G_iconst (q := 7) hC dX7_isContributor_6 rfl ic_1 ?_
  refine G_isub (q := 8) hC dX7_isContributor_7 rfl ?_
  obtain ⟨v1, σ1, hm1, hf⟩ := bd_ok hf
  refine cl_RX7_81 (q := 11) hC dX7_isContributor_8 rfl (m_X7_isIn hm1) ⟨Nat.le_of_ble_eq_true rfl, Nat.le_of_ble_eq_true rfl⟩ (Nat.le_of_ble_eq_true rfl) ⟨Nat.le_of_ble_eq_true rfl, Nat.le_of_ble_eq_true rfl⟩ ?_
  obtain ⟨g1, hf⟩ := gd_ok hf
  exact G_iret hC hf rfl (b01_narrow g1) dX7_isContributor_11

theorem m_X7_isContributor {l : Launch} {fu : Nat} {E : gE} {w : Nat → Int64} {σ : gSt} {x1 : Int32} {r : Int32 × gSt}  (hf : f_X7_isContributor fu σ x1 = some r) : gM l yX7_isContributor cX7_isContributor 2 (some .boolean) rm_X7_isContributor 1 E w σ [.ref (eB E + 583), .int x1] r :=
  gM_of (by decide +kernel) (Nat.le_of_ble_eq_true rfl) (fun p e s m args below meth c hC => t_X7_isContributor hC  hf)
def f_X7_isSubject (fu : Nat)  (σ : gSt) (x0 : Int32) : Option (Int32 × gSt) :=
  bd (f_X7_isIn fu σ x0 (0 : Int32) (9 : Int32)) (fun v1 σ1 => gd (b01 v1) (some (v1, σ1)))
set_option maxRecDepth 100000 in
theorem t_X7_isSubject {fu : Nat}  {r : Int32 × gSt} (hC : gCx p s m args meth c cX7_isSubject 1 RX7 (some .boolean) E)  {σ : gSt} {x0 : Int32}  (hf : f_X7_isSubject fu  σ x0 = some r) : G p l e rm_X7_isSubject s m args below meth c 1 0 0 (MQ below (gQ E w 1 r) args s 0 0 (fun q => eB E ≤ q)) E w σ 0 [(0, .int x0)] [] := by
  unfold f_X7_isSubject at hf
  refine G_iload_n (q := 1) hC dX7_isSubject_0 rfl rfl ?_
  refine G_iconst (q := 2) hC dX7_isSubject_1 rfl ic_0 ?_
  refine G_bipush (q := 4) hC dX7_isSubject_2 rfl bp_9 ?_
  obtain ⟨v1, σ1, hm1, hf⟩ := bd_ok hf
  refine cl_RX7_81 (q := 7) hC dX7_isSubject_4 rfl (m_X7_isIn hm1) ⟨Nat.le_of_ble_eq_true rfl, Nat.le_of_ble_eq_true rfl⟩ (Nat.le_of_ble_eq_true rfl) ⟨Nat.le_of_ble_eq_true rfl, Nat.le_of_ble_eq_true rfl⟩ ?_
  obtain ⟨g1, hf⟩ := gd_ok hf
  exact G_iret hC hf rfl (b01_narrow g1) dX7_isSubject_7

theorem m_X7_isSubject {l : Launch} {fu : Nat} {E : gE} {w : Nat → Int64} {σ : gSt} {x0 : Int32} {r : Int32 × gSt}  (hf : f_X7_isSubject fu σ x0 = some r) : gM l yX7_isSubject cX7_isSubject 1 (some .boolean) rm_X7_isSubject 1 E w σ [.int x0] r :=
  gM_of (by decide +kernel) (Nat.le_of_ble_eq_true rfl) (fun p e s m args below meth c hC => t_X7_isSubject hC  hf)
def f_X7_isFact (fu : Nat)  (σ : gSt) (x0 : Int32) : Option (Int32 × gSt) :=
  bd (f_X7_isIn fu σ x0 (0 : Int32) (7 : Int32)) (fun v1 σ1 => gd (b01 v1) (some (v1, σ1)))
set_option maxRecDepth 100000 in
theorem t_X7_isFact {fu : Nat}  {r : Int32 × gSt} (hC : gCx p s m args meth c cX7_isFact 1 RX7 (some .boolean) E)  {σ : gSt} {x0 : Int32}  (hf : f_X7_isFact fu  σ x0 = some r) : G p l e rm_X7_isFact s m args below meth c 1 0 0 (MQ below (gQ E w 1 r) args s 0 0 (fun q => eB E ≤ q)) E w σ 0 [(0, .int x0)] [] := by
  unfold f_X7_isFact at hf
  refine G_iload_n (q := 1) hC dX7_isFact_0 rfl rfl ?_
  refine G_iconst (q := 2) hC dX7_isFact_1 rfl ic_0 ?_
  refine G_bipush (q := 4) hC dX7_isFact_2 rfl bp_7 ?_
  obtain ⟨v1, σ1, hm1, hf⟩ := bd_ok hf
  refine cl_RX7_81 (q := 7) hC dX7_isFact_4 rfl (m_X7_isIn hm1) ⟨Nat.le_of_ble_eq_true rfl, Nat.le_of_ble_eq_true rfl⟩ (Nat.le_of_ble_eq_true rfl) ⟨Nat.le_of_ble_eq_true rfl, Nat.le_of_ble_eq_true rfl⟩ ?_
  obtain ⟨g1, hf⟩ := gd_ok hf
  exact G_iret hC hf rfl (b01_narrow g1) dX7_isFact_7

theorem m_X7_isFact {l : Launch} {fu : Nat} {E : gE} {w : Nat → Int64} {σ : gSt} {x0 : Int32} {r : Int32 × gSt}  (hf : f_X7_isFact fu σ x0 = some r) : gM l yX7_isFact cX7_isFact 1 (some .boolean) rm_X7_isFact 1 E w σ [.int x0] r :=
  gM_of (by decide +kernel) (Nat.le_of_ble_eq_true rfl) (fun p e s m args below meth c hC => t_X7_isFact hC  hf)
def f_X7_next_b39 (fu : Nat)  (σ : gSt) (x3 : Int32) : Option (Int32 × gSt) :=
  some (x3, σ)
set_option maxRecDepth 100000 in
theorem t_X7_next_b39 {fu : Nat}  {r : Int32 × gSt} (hC : gCx p s m args meth c cX7_next 4 RX7 (some .int) E)  {σ : gSt} {x3 : Int32}  (hf : f_X7_next_b39 fu  σ x3 = some r) : G p l e rm_X7_next s m args below meth c 4 0 0 (MQ below (gQ E w 1 r) args s 0 0 (fun q => eB E ≤ q)) E w σ 39 [(3, .int x3)] [] := by
  unfold f_X7_next_b39 at hf
  refine G_iload_n (q := 40) hC dX7_next_39 rfl rfl ?_
  exact G_iret hC hf rfl rfl dX7_next_40

def f_X7_next_b2_B (fu : Nat) (k2 : gSt → Int32 → Int32 → Option (Int32 × gSt)) (σ : gSt) (x1 : Int32) (x3 : Int32) : Option (Int32 × gSt) :=
  gd (inb x1 125) (if (σ 182 0 x1.toNatClampNeg) ≤ x3 then (f_X7_next_b39 fu  σ x3) else (if (σ 180 0 0) = 0 then (gd (inb (((8 : Int32) * x1) + x3) 1000) (if (σ 181 0 (((8 : Int32) * x1) + x3).toNatClampNeg) = 0 then (k2 σ x1 (x3 + (1))) else (f_X7_next_b39 fu  σ x3))) else (f_X7_next_b39 fu  σ x3)))
def f_X7_next_b2 (fu : Nat)  : Nat → gSt → Int32 → Int32 → Option (Int32 × gSt)
  | 0 => fun _ _ _ => none
  | n + 1 => f_X7_next_b2_B fu  (f_X7_next_b2 fu  n)
set_option maxRecDepth 100000 in
theorem t_X7_next_b2_B {fu : Nat} {k2 : gSt → Int32 → Int32 → Option (Int32 × gSt)} {r : Int32 × gSt} (hC : gCx p s m args meth c cX7_next 4 RX7 (some .int) E) (hk2 : ∀ (σ : gSt) (x1 : Int32) (x3 : Int32), k2 σ x1 x3 = some r → G p l e rm_X7_next s m args below meth c 4 0 0 (MQ below (gQ E w 1 r) args s 0 0 (fun q => eB E ≤ q)) E w σ 2 [(0, .ref (eB E + 583)), (1, .int x1), (3, .int x3)] []) {σ : gSt} {x1 : Int32} {x3 : Int32}  (hf : f_X7_next_b2_B fu k2 σ x1 x3 = some r) : G p l e rm_X7_next s m args below meth c 4 0 0 (MQ below (gQ E w 1 r) args s 0 0 (fun q => eB E ≤ q)) E w σ 2 [(0, .ref (eB E + 583)), (1, .int x1), (3, .int x3)] [] := by
  unfold f_X7_next_b2_B at hf
  refine G_iload_n (q := 3) hC dX7_next_2 rfl rfl ?_
  refine G_aload_n (q := 4) hC dX7_next_3 rfl rfl ?_
  refine gf_RX7_13 (q := 7) hC dX7_next_4 rfl ?_
  refine G_iload_n (q := 8) hC dX7_next_7 rfl rfl ?_
  obtain ⟨g1, hf⟩ := gd_ok hf
  refine G_iald (q := 9) hC dX7_next_8 rfl (ok_182 g1) ?_
  refine G_icmp_ge (tgt := 39) (q := 12) hC dX7_next_9 (by decide) rfl (fun c0 => ?_) (fun c0 => ?_)
  · have hf := (if_pos c0).symm.trans hf
    refine G_lv (lv' := [(3, .int x3)]) [2] rfl ?_
    exact t_X7_next_b39 hC   hf
  · have hf := (if_neg c0).symm.trans hf
    refine G_aload_n (q := 13) hC dX7_next_12 rfl rfl ?_
    refine gf_RX7_88 (q := 16) hC dX7_next_13 rfl ?_
    refine G_if_ne (tgt := 39) (q := 19) hC dX7_next_16 (by decide) rfl (fun c1 => ?_) (fun c1 => ?_)
    · have hf := (if_neg c1).symm.trans hf
      refine G_lv (lv' := [(3, .int x3)]) [2] rfl ?_
      exact t_X7_next_b39 hC   hf
    · have hf := (if_pos c1).symm.trans hf
      refine G_aload_n (q := 20) hC dX7_next_19 rfl rfl ?_
      refine gf_RX7_7 (q := 23) hC dX7_next_20 rfl ?_
      refine G_bipush (q := 25) hC dX7_next_23 rfl bp_8 ?_
      refine G_iload_n (q := 26) hC dX7_next_25 rfl rfl ?_
      refine G_imul (q := 27) hC dX7_next_26 rfl ?_
      refine G_iload_n (q := 28) hC dX7_next_27 rfl rfl ?_
      refine G_iadd (q := 29) hC dX7_next_28 rfl ?_
      obtain ⟨g2, hf⟩ := gd_ok hf
      refine G_iald (q := 30) hC dX7_next_29 rfl (ok_181 g2) ?_
      refine G_if_ne (tgt := 39) (q := 33) hC dX7_next_30 (by decide) rfl (fun c2 => ?_) (fun c2 => ?_)
      · have hf := (if_neg c2).symm.trans hf
        refine G_lv (lv' := [(3, .int x3)]) [2] rfl ?_
        exact t_X7_next_b39 hC   hf
      · have hf := (if_pos c2).symm.trans hf
        refine G_iinc (q := 36) (n := 2) (lv' := [(3, .int (x3 + (1))), (0, .ref (eB E + 583)), (1, .int x1)]) hC dX7_next_33 rfl rfl (ii_1 _) (by decide) rfl ?_
        refine G_goto (tgt := 2) hC dX7_next_36 (by decide) ?_
        refine G_lv (lv' := [(0, .ref (eB E + 583)), (1, .int x1), (3, .int (x3 + (1)))]) [1, 2, 0] rfl ?_
        exact hk2 _ _ _  hf

theorem t_X7_next_b2 {fu : Nat}  {r : Int32 × gSt} (hC : gCx p s m args meth c cX7_next 4 RX7 (some .int) E)  (n : Nat) : ∀ (σ : gSt) (x1 : Int32) (x3 : Int32), f_X7_next_b2 fu  n σ x1 x3 = some r → G p l e rm_X7_next s m args below meth c 4 0 0 (MQ below (gQ E w 1 r) args s 0 0 (fun q => eB E ≤ q)) E w σ 2 [(0, .ref (eB E + 583)), (1, .int x1), (3, .int x3)] [] := by
  induction n with
  | zero => intro σ x1 x3  hf; cases hf
  | succ n ih => intro σ x1 x3  hf; exact t_X7_next_b2_B hC  ih  hf
def f_X7_next (fu : Nat)  (σ : gSt) (x1 : Int32) (x2 : Int32) : Option (Int32 × gSt) :=
  f_X7_next_b2 fu  fu σ x1 x2
set_option maxRecDepth 100000 in
theorem t_X7_next {fu : Nat}  {r : Int32 × gSt} (hC : gCx p s m args meth c cX7_next 4 RX7 (some .int) E)  {σ : gSt} {x1 : Int32} {x2 : Int32}  (hf : f_X7_next fu  σ x1 x2 = some r) : G p l e rm_X7_next s m args below meth c 4 0 0 (MQ below (gQ E w 1 r) args s 0 0 (fun q => eB E ≤ q)) E w σ 0 [(0, .ref (eB E + 583)), (1, .int x1), (2, .int x2)] [] := by
  unfold f_X7_next at hf
  refine G_iload_n (q := 1) hC dX7_next_0 rfl rfl ?_
  refine G_istore_n (q := 2) (lv' := [(3, .int x2), (0, .ref (eB E + 583)), (1, .int x1), (2, .int x2)]) hC dX7_next_1 rfl (by decide) rfl ?_
  refine G_lv (lv' := [(0, .ref (eB E + 583)), (1, .int x1), (3, .int x2)]) [1, 2, 0] rfl ?_
  exact t_X7_next_b2 hC  fu _ _ _  hf

theorem m_X7_next {l : Launch} {fu : Nat} {E : gE} {w : Nat → Int64} {σ : gSt} {x1 : Int32} {x2 : Int32} {r : Int32 × gSt}  (hf : f_X7_next fu σ x1 x2 = some r) : gM l yX7_next cX7_next 4 (some .int) rm_X7_next 1 E w σ [.ref (eB E + 583), .int x1, .int x2] r :=
  gM_of (by decide +kernel) (Nat.le_of_ble_eq_true rfl) (fun p e s m args below meth c hC => t_X7_next hC  hf)
def f_X7_order_b124 (fu : Nat)  (σ : gSt) (xs0 : Int32) (xs1 : Int32) : Option (Int32 × gSt) :=
  some ((xs0 - xs1), σ)
set_option maxRecDepth 100000 in
theorem t_X7_order_b124 {fu : Nat}  {r : Int32 × gSt} (hC : gCx p s m args meth c cX7_order 6 RX7 (some .int) E)  {σ : gSt} {xs0 : Int32} {xs1 : Int32}  (hf : f_X7_order_b124 fu  σ xs0 xs1 = some r) : G p l e rm_X7_order s m args below meth c 6 0 0 (MQ below (gQ E w 1 r) args s 0 0 (fun q => eB E ≤ q)) E w σ 124 [] [.int xs1, .int xs0] := by
  unfold f_X7_order_b124 at hf
  refine G_isub (q := 125) hC dX7_order_124 rfl ?_
  exact G_iret hC hf rfl rfl dX7_order_125

def f_X7_order_b108 (fu : Nat)  (σ : gSt) (x2 : Int32) (x4 : Int32) (xs0 : Int32) : Option (Int32 × gSt) :=
  gd (inb x2 125) (if (σ 182 0 x2.toNatClampNeg) ≤ x4 then (f_X7_order_b124 fu  σ xs0 (0 : Int32)) else (f_X7_order_b124 fu  σ xs0 (1 : Int32)))
set_option maxRecDepth 100000 in
theorem t_X7_order_b108 {fu : Nat}  {r : Int32 × gSt} (hC : gCx p s m args meth c cX7_order 6 RX7 (some .int) E)  {σ : gSt} {x2 : Int32} {x4 : Int32} {xs0 : Int32}  (hf : f_X7_order_b108 fu  σ x2 x4 xs0 = some r) : G p l e rm_X7_order s m args below meth c 6 0 0 (MQ below (gQ E w 1 r) args s 0 0 (fun q => eB E ≤ q)) E w σ 108 [(0, .ref (eB E + 583)), (2, .int x2), (4, .int x4)] [.int xs0] := by
  unfold f_X7_order_b108 at hf
  refine G_iload (q := 110) hC dX7_order_108 rfl rfl ?_
  refine G_aload_n (q := 111) hC dX7_order_110 rfl rfl ?_
  refine gf_RX7_13 (q := 114) hC dX7_order_111 rfl ?_
  refine G_iload_n (q := 115) hC dX7_order_114 rfl rfl ?_
  obtain ⟨g1, hf⟩ := gd_ok hf
  refine G_iald (q := 116) hC dX7_order_115 rfl (ok_182 g1) ?_
  refine G_icmp_ge (tgt := 123) (q := 119) hC dX7_order_116 (by decide) rfl (fun c0 => ?_) (fun c0 => ?_)
  · have hf := (if_pos c0).symm.trans hf
    refine G_iconst (q := 124) hC dX7_order_123 rfl ic_0 ?_
    refine G_lv (lv' := []) [] rfl ?_
    exact t_X7_order_b124 hC   hf
  · have hf := (if_neg c0).symm.trans hf
    refine G_iconst (q := 120) hC dX7_order_119 rfl ic_1 ?_
    refine G_goto (tgt := 124) hC dX7_order_120 (by decide) ?_
    refine G_lv (lv' := []) [] rfl ?_
    exact t_X7_order_b124 hC   hf

def f_X7_order_b93 (fu : Nat)  (σ : gSt) (x1 : Int32) (x2 : Int32) (x3 : Int32) (x4 : Int32) : Option (Int32 × gSt) :=
  gd (inb x1 125) (if (σ 182 0 x1.toNatClampNeg) ≤ x3 then (f_X7_order_b108 fu  σ x2 x4 (0 : Int32)) else (f_X7_order_b108 fu  σ x2 x4 (1 : Int32)))
set_option maxRecDepth 100000 in
theorem t_X7_order_b93 {fu : Nat}  {r : Int32 × gSt} (hC : gCx p s m args meth c cX7_order 6 RX7 (some .int) E)  {σ : gSt} {x1 : Int32} {x2 : Int32} {x3 : Int32} {x4 : Int32}  (hf : f_X7_order_b93 fu  σ x1 x2 x3 x4 = some r) : G p l e rm_X7_order s m args below meth c 6 0 0 (MQ below (gQ E w 1 r) args s 0 0 (fun q => eB E ≤ q)) E w σ 93 [(0, .ref (eB E + 583)), (1, .int x1), (2, .int x2), (3, .int x3), (4, .int x4)] [] := by
  unfold f_X7_order_b93 at hf
  refine G_iload_n (q := 94) hC dX7_order_93 rfl rfl ?_
  refine G_aload_n (q := 95) hC dX7_order_94 rfl rfl ?_
  refine gf_RX7_13 (q := 98) hC dX7_order_95 rfl ?_
  refine G_iload_n (q := 99) hC dX7_order_98 rfl rfl ?_
  obtain ⟨g1, hf⟩ := gd_ok hf
  refine G_iald (q := 100) hC dX7_order_99 rfl (ok_182 g1) ?_
  refine G_icmp_ge (tgt := 107) (q := 103) hC dX7_order_100 (by decide) rfl (fun c0 => ?_) (fun c0 => ?_)
  · have hf := (if_pos c0).symm.trans hf
    refine G_iconst (q := 108) hC dX7_order_107 rfl ic_0 ?_
    refine G_lv (lv' := [(0, .ref (eB E + 583)), (2, .int x2), (4, .int x4)]) [0, 2, 4] rfl ?_
    exact t_X7_order_b108 hC   hf
  · have hf := (if_neg c0).symm.trans hf
    refine G_iconst (q := 104) hC dX7_order_103 rfl ic_1 ?_
    refine G_goto (tgt := 108) hC dX7_order_104 (by decide) ?_
    refine G_lv (lv' := [(0, .ref (eB E + 583)), (2, .int x2), (4, .int x4)]) [0, 2, 4] rfl ?_
    exact t_X7_order_b108 hC   hf

def f_X7_order_b15_B (fu : Nat) (k15 : gSt → Int32 → Int32 → Int32 → Int32 → Option (Int32 × gSt)) (σ : gSt) (x1 : Int32) (x2 : Int32) (x3 : Int32) (x4 : Int32) : Option (Int32 × gSt) :=
  gd (inb x1 125) (if (σ 182 0 x1.toNatClampNeg) ≤ x3 then (f_X7_order_b93 fu  σ x1 x2 x3 x4) else (gd (inb x2 125) (if (σ 182 0 x2.toNatClampNeg) ≤ x4 then (f_X7_order_b93 fu  σ x1 x2 x3 x4) else (gd (inb (((8 : Int32) * x1) + x3) 1000) (gd (inb (((8 : Int32) * x2) + x4) 1000) (if ((σ 181 0 (((8 : Int32) * x1) + x3).toNatClampNeg) - (σ 181 0 (((8 : Int32) * x2) + x4).toNatClampNeg)) = 0 then (bd (f_X7_next fu σ x1 (x3 + (1 : Int32))) (fun v4 σ4 => bd (f_X7_next fu σ4 x2 (x4 + (1 : Int32))) (fun v5 σ5 => k15 σ5 x1 x2 v4 v5))) else (some (((σ 181 0 (((8 : Int32) * x1) + x3).toNatClampNeg) - (σ 181 0 (((8 : Int32) * x2) + x4).toNatClampNeg)), σ))))))))
def f_X7_order_b15 (fu : Nat)  : Nat → gSt → Int32 → Int32 → Int32 → Int32 → Option (Int32 × gSt)
  | 0 => fun _ _ _ _ _ => none
  | n + 1 => f_X7_order_b15_B fu  (f_X7_order_b15 fu  n)
set_option maxRecDepth 100000 in
theorem t_X7_order_b15_B {fu : Nat} {k15 : gSt → Int32 → Int32 → Int32 → Int32 → Option (Int32 × gSt)} {r : Int32 × gSt} (hC : gCx p s m args meth c cX7_order 6 RX7 (some .int) E) (hk15 : ∀ (σ : gSt) (x1 : Int32) (x2 : Int32) (x3 : Int32) (x4 : Int32), k15 σ x1 x2 x3 x4 = some r → G p l e rm_X7_order s m args below meth c 6 0 0 (MQ below (gQ E w 1 r) args s 0 0 (fun q => eB E ≤ q)) E w σ 15 [(0, .ref (eB E + 583)), (1, .int x1), (2, .int x2), (3, .int x3), (4, .int x4)] []) {σ : gSt} {x1 : Int32} {x2 : Int32} {x3 : Int32} {x4 : Int32}  (hf : f_X7_order_b15_B fu k15 σ x1 x2 x3 x4 = some r) : G p l e rm_X7_order s m args below meth c 6 0 0 (MQ below (gQ E w 1 r) args s 0 0 (fun q => eB E ≤ q)) E w σ 15 [(0, .ref (eB E + 583)), (1, .int x1), (2, .int x2), (3, .int x3), (4, .int x4)] [] := by
  unfold f_X7_order_b15_B at hf
  refine G_iload_n (q := 16) hC dX7_order_15 rfl rfl ?_
  refine G_aload_n (q := 17) hC dX7_order_16 rfl rfl ?_
  refine gf_RX7_13 (q := 20) hC dX7_order_17 rfl ?_
  refine G_iload_n (q := 21) hC dX7_order_20 rfl rfl ?_
  obtain ⟨g1, hf⟩ := gd_ok hf
  refine G_iald (q := 22) hC dX7_order_21 rfl (ok_182 g1) ?_
  refine G_icmp_ge (tgt := 93) (q := 25) hC dX7_order_22 (by decide) rfl (fun c0 => ?_) (fun c0 => ?_)
  · have hf := (if_pos c0).symm.trans hf
    exact t_X7_order_b93 hC   hf
  · have hf := (if_neg c0).symm.trans hf
    refine G_iload (q := 27) hC dX7_order_25 rfl rfl ?_
    refine G_aload_n (q := 28) hC dX7_order_27 rfl rfl ?_
    refine gf_RX7_13 (q := 31) hC dX7_order_28 rfl ?_
    refine G_iload_n (q := 32) hC dX7_order_31 rfl rfl ?_
    obtain ⟨g2, hf⟩ := gd_ok hf
    refine G_iald (q := 33) hC dX7_order_32 rfl (ok_182 g2) ?_
    refine G_icmp_ge (tgt := 93) (q := 36) hC dX7_order_33 (by decide) rfl (fun c1 => ?_) (fun c1 => ?_)
    · have hf := (if_pos c1).symm.trans hf
      exact t_X7_order_b93 hC   hf
    · have hf := (if_neg c1).symm.trans hf
      refine G_aload_n (q := 37) hC dX7_order_36 rfl rfl ?_
      refine gf_RX7_7 (q := 40) hC dX7_order_37 rfl ?_
      refine G_bipush (q := 42) hC dX7_order_40 rfl bp_8 ?_
      refine G_iload_n (q := 43) hC dX7_order_42 rfl rfl ?_
      refine G_imul (q := 44) hC dX7_order_43 rfl ?_
      refine G_iload_n (q := 45) hC dX7_order_44 rfl rfl ?_
      refine G_iadd (q := 46) hC dX7_order_45 rfl ?_
      obtain ⟨g3, hf⟩ := gd_ok hf
      refine G_iald (q := 47) hC dX7_order_46 rfl (ok_181 g3) ?_
      refine G_aload_n (q := 48) hC dX7_order_47 rfl rfl ?_
      refine gf_RX7_7 (q := 51) hC dX7_order_48 rfl ?_
      refine G_bipush (q := 53) hC dX7_order_51 rfl bp_8 ?_
      refine G_iload_n (q := 54) hC dX7_order_53 rfl rfl ?_
      refine G_imul (q := 55) hC dX7_order_54 rfl ?_
      refine G_iload (q := 57) hC dX7_order_55 rfl rfl ?_
      refine G_iadd (q := 58) hC dX7_order_57 rfl ?_
      obtain ⟨g4, hf⟩ := gd_ok hf
      refine G_iald (q := 59) hC dX7_order_58 rfl (ok_181 g4) ?_
      refine G_isub (q := 60) hC dX7_order_59 rfl ?_
      refine G_istore (q := 62) (lv' := [(5, .int ((σ 181 0 (((8 : Int32) * x1) + x3).toNatClampNeg) - (σ 181 0 (((8 : Int32) * x2) + x4).toNatClampNeg))), (0, .ref (eB E + 583)), (1, .int x1), (2, .int x2), (3, .int x3), (4, .int x4)]) hC dX7_order_60 rfl (by decide) rfl ?_
      refine G_iload (q := 64) hC dX7_order_62 rfl rfl ?_
      refine G_if_eq (tgt := 70) (q := 67) hC dX7_order_64 (by decide) rfl (fun c2 => ?_) (fun c2 => ?_)
      · have hf := (if_pos c2).symm.trans hf
        refine G_aload_n (q := 71) hC dX7_order_70 rfl rfl ?_
        refine G_iload_n (q := 72) hC dX7_order_71 rfl rfl ?_
        refine G_iload_n (q := 73) hC dX7_order_72 rfl rfl ?_
        refine G_iconst (q := 74) hC dX7_order_73 rfl ic_1 ?_
        refine G_iadd (q := 75) hC dX7_order_74 rfl ?_
        obtain ⟨v4, σ4, hm4, hf⟩ := bd_ok hf
        refine cl_RX7_92 (q := 78) hC dX7_order_75 rfl (m_X7_next hm4) ⟨Nat.le_of_ble_eq_true rfl, Nat.le_of_ble_eq_true rfl⟩ (Nat.le_of_ble_eq_true rfl) ⟨Nat.le_of_ble_eq_true rfl, Nat.le_of_ble_eq_true rfl⟩ ?_
        refine G_istore_n (q := 79) (lv' := [(3, .int v4), (5, .int ((σ 181 0 (((8 : Int32) * x1) + x3).toNatClampNeg) - (σ 181 0 (((8 : Int32) * x2) + x4).toNatClampNeg))), (0, .ref (eB E + 583)), (1, .int x1), (2, .int x2), (4, .int x4)]) hC dX7_order_78 rfl (by decide) rfl ?_
        refine G_aload_n (q := 80) hC dX7_order_79 rfl rfl ?_
        refine G_iload_n (q := 81) hC dX7_order_80 rfl rfl ?_
        refine G_iload (q := 83) hC dX7_order_81 rfl rfl ?_
        refine G_iconst (q := 84) hC dX7_order_83 rfl ic_1 ?_
        refine G_iadd (q := 85) hC dX7_order_84 rfl ?_
        obtain ⟨v5, σ5, hm5, hf⟩ := bd_ok hf
        refine cl_RX7_92 (q := 88) hC dX7_order_85 rfl (m_X7_next hm5) ⟨Nat.le_of_ble_eq_true rfl, Nat.le_of_ble_eq_true rfl⟩ (Nat.le_of_ble_eq_true rfl) ⟨Nat.le_of_ble_eq_true rfl, Nat.le_of_ble_eq_true rfl⟩ ?_
        refine G_istore (q := 90) (lv' := [(4, .int v5), (3, .int v4), (5, .int ((σ 181 0 (((8 : Int32) * x1) + x3).toNatClampNeg) - (σ 181 0 (((8 : Int32) * x2) + x4).toNatClampNeg))), (0, .ref (eB E + 583)), (1, .int x1), (2, .int x2)]) hC dX7_order_88 rfl (by decide) rfl ?_
        refine G_goto (tgt := 15) hC dX7_order_90 (by decide) ?_
        refine G_lv (lv' := [(0, .ref (eB E + 583)), (1, .int x1), (2, .int x2), (3, .int v4), (4, .int v5)]) [3, 4, 5, 1, 0] rfl ?_
        exact hk15 _ _ _ _ _  hf
      · have hf := (if_neg c2).symm.trans hf
        refine G_iload (q := 69) hC dX7_order_67 rfl rfl ?_
        exact G_iret hC hf rfl rfl dX7_order_69

theorem t_X7_order_b15 {fu : Nat}  {r : Int32 × gSt} (hC : gCx p s m args meth c cX7_order 6 RX7 (some .int) E)  (n : Nat) : ∀ (σ : gSt) (x1 : Int32) (x2 : Int32) (x3 : Int32) (x4 : Int32), f_X7_order_b15 fu  n σ x1 x2 x3 x4 = some r → G p l e rm_X7_order s m args below meth c 6 0 0 (MQ below (gQ E w 1 r) args s 0 0 (fun q => eB E ≤ q)) E w σ 15 [(0, .ref (eB E + 583)), (1, .int x1), (2, .int x2), (3, .int x3), (4, .int x4)] [] := by
  induction n with
  | zero => intro σ x1 x2 x3 x4  hf; cases hf
  | succ n ih => intro σ x1 x2 x3 x4  hf; exact t_X7_order_b15_B hC  ih  hf
def f_X7_order (fu : Nat)  (σ : gSt) (x1 : Int32) (x2 : Int32) : Option (Int32 × gSt) :=
  bd (f_X7_next fu σ x1 (0 : Int32)) (fun v1 σ1 => bd (f_X7_next fu σ1 x2 (0 : Int32)) (fun v2 σ2 => f_X7_order_b15 fu  fu σ2 x1 x2 v1 v2))
set_option maxRecDepth 100000 in
theorem t_X7_order {fu : Nat}  {r : Int32 × gSt} (hC : gCx p s m args meth c cX7_order 6 RX7 (some .int) E)  {σ : gSt} {x1 : Int32} {x2 : Int32}  (hf : f_X7_order fu  σ x1 x2 = some r) : G p l e rm_X7_order s m args below meth c 6 0 0 (MQ below (gQ E w 1 r) args s 0 0 (fun q => eB E ≤ q)) E w σ 0 [(0, .ref (eB E + 583)), (1, .int x1), (2, .int x2)] [] := by
  unfold f_X7_order at hf
  refine G_aload_n (q := 1) hC dX7_order_0 rfl rfl ?_
  refine G_iload_n (q := 2) hC dX7_order_1 rfl rfl ?_
  refine G_iconst (q := 3) hC dX7_order_2 rfl ic_0 ?_
  obtain ⟨v1, σ1, hm1, hf⟩ := bd_ok hf
  refine cl_RX7_92 (q := 6) hC dX7_order_3 rfl (m_X7_next hm1) ⟨Nat.le_of_ble_eq_true rfl, Nat.le_of_ble_eq_true rfl⟩ (Nat.le_of_ble_eq_true rfl) ⟨Nat.le_of_ble_eq_true rfl, Nat.le_of_ble_eq_true rfl⟩ ?_
  refine G_istore_n (q := 7) (lv' := [(3, .int v1), (0, .ref (eB E + 583)), (1, .int x1), (2, .int x2)]) hC dX7_order_6 rfl (by decide) rfl ?_
  refine G_aload_n (q := 8) hC dX7_order_7 rfl rfl ?_
  refine G_iload_n (q := 9) hC dX7_order_8 rfl rfl ?_
  refine G_iconst (q := 10) hC dX7_order_9 rfl ic_0 ?_
  obtain ⟨v2, σ2, hm2, hf⟩ := bd_ok hf
  refine cl_RX7_92 (q := 13) hC dX7_order_10 rfl (m_X7_next hm2) ⟨Nat.le_of_ble_eq_true rfl, Nat.le_of_ble_eq_true rfl⟩ (Nat.le_of_ble_eq_true rfl) ⟨Nat.le_of_ble_eq_true rfl, Nat.le_of_ble_eq_true rfl⟩ ?_
  refine G_istore (q := 15) (lv' := [(4, .int v2), (3, .int v1), (0, .ref (eB E + 583)), (1, .int x1), (2, .int x2)]) hC dX7_order_13 rfl (by decide) rfl ?_
  refine G_lv (lv' := [(0, .ref (eB E + 583)), (1, .int x1), (2, .int x2), (3, .int v1), (4, .int v2)]) [2, 3, 4, 1, 0] rfl ?_
  exact t_X7_order_b15 hC  fu _ _ _ _ _  hf

theorem m_X7_order {l : Launch} {fu : Nat} {E : gE} {w : Nat → Int64} {σ : gSt} {x1 : Int32} {x2 : Int32} {r : Int32 × gSt}  (hf : f_X7_order fu σ x1 x2 = some r) : gM l yX7_order cX7_order 6 (some .int) rm_X7_order 1 E w σ [.ref (eB E + 583), .int x1, .int x2] r :=
  gM_of (by decide +kernel) (Nat.le_of_ble_eq_true rfl) (fun p e s m args below meth c hC => t_X7_order hC  hf)
def f_X7_firstLetter_b57 (fu : Nat)  (σ : gSt) (xs0 : Int32) : Option (Int32 × gSt) :=
  some (xs0, σ)
set_option maxRecDepth 100000 in
theorem t_X7_firstLetter_b57 {fu : Nat}  {r : Int32 × gSt} (hC : gCx p s m args meth c cX7_firstLetter 3 RX7 (some .int) E)  {σ : gSt} {xs0 : Int32}  (hf : f_X7_firstLetter_b57 fu  σ xs0 = some r) : G p l e rm_X7_firstLetter s m args below meth c 3 0 0 (MQ below (gQ E w 1 r) args s 0 0 (fun q => eB E ≤ q)) E w σ 57 [] [.int xs0] := by
  unfold f_X7_firstLetter_b57 at hf
  exact G_iret hC hf rfl rfl dX7_firstLetter_57

def f_X7_firstLetter_b32 (fu : Nat)  (σ : gSt) (x1 : Int32) (x2 : Int32) : Option (Int32 × gSt) :=
  gd (inb x1 125) (if (σ 182 0 x1.toNatClampNeg) ≤ x2 then (f_X7_firstLetter_b57 fu  σ (0 : Int32)) else (gd (inb (((8 : Int32) * x1) + x2) 1000) (f_X7_firstLetter_b57 fu  σ (σ 181 0 (((8 : Int32) * x1) + x2).toNatClampNeg))))
set_option maxRecDepth 100000 in
theorem t_X7_firstLetter_b32 {fu : Nat}  {r : Int32 × gSt} (hC : gCx p s m args meth c cX7_firstLetter 3 RX7 (some .int) E)  {σ : gSt} {x1 : Int32} {x2 : Int32}  (hf : f_X7_firstLetter_b32 fu  σ x1 x2 = some r) : G p l e rm_X7_firstLetter s m args below meth c 3 0 0 (MQ below (gQ E w 1 r) args s 0 0 (fun q => eB E ≤ q)) E w σ 32 [(0, .ref (eB E + 583)), (1, .int x1), (2, .int x2)] [] := by
  unfold f_X7_firstLetter_b32 at hf
  refine G_iload_n (q := 33) hC dX7_firstLetter_32 rfl rfl ?_
  refine G_aload_n (q := 34) hC dX7_firstLetter_33 rfl rfl ?_
  refine gf_RX7_13 (q := 37) hC dX7_firstLetter_34 rfl ?_
  refine G_iload_n (q := 38) hC dX7_firstLetter_37 rfl rfl ?_
  obtain ⟨g1, hf⟩ := gd_ok hf
  refine G_iald (q := 39) hC dX7_firstLetter_38 rfl (ok_182 g1) ?_
  refine G_icmp_ge (tgt := 56) (q := 42) hC dX7_firstLetter_39 (by decide) rfl (fun c0 => ?_) (fun c0 => ?_)
  · have hf := (if_pos c0).symm.trans hf
    refine G_iconst (q := 57) hC dX7_firstLetter_56 rfl ic_0 ?_
    refine G_lv (lv' := []) [] rfl ?_
    exact t_X7_firstLetter_b57 hC   hf
  · have hf := (if_neg c0).symm.trans hf
    refine G_aload_n (q := 43) hC dX7_firstLetter_42 rfl rfl ?_
    refine gf_RX7_7 (q := 46) hC dX7_firstLetter_43 rfl ?_
    refine G_bipush (q := 48) hC dX7_firstLetter_46 rfl bp_8 ?_
    refine G_iload_n (q := 49) hC dX7_firstLetter_48 rfl rfl ?_
    refine G_imul (q := 50) hC dX7_firstLetter_49 rfl ?_
    refine G_iload_n (q := 51) hC dX7_firstLetter_50 rfl rfl ?_
    refine G_iadd (q := 52) hC dX7_firstLetter_51 rfl ?_
    obtain ⟨g2, hf⟩ := gd_ok hf
    refine G_iald (q := 53) hC dX7_firstLetter_52 rfl (ok_181 g2) ?_
    refine G_goto (tgt := 57) hC dX7_firstLetter_53 (by decide) ?_
    refine G_lv (lv' := []) [] rfl ?_
    exact t_X7_firstLetter_b57 hC   hf

def f_X7_firstLetter_b2_B (fu : Nat) (k2 : gSt → Int32 → Int32 → Option (Int32 × gSt)) (σ : gSt) (x1 : Int32) (x2 : Int32) : Option (Int32 × gSt) :=
  gd (inb x1 125) (if (σ 182 0 x1.toNatClampNeg) ≤ x2 then (f_X7_firstLetter_b32 fu  σ x1 x2) else (gd (inb (((8 : Int32) * x1) + x2) 1000) (if (σ 181 0 (((8 : Int32) * x1) + x2).toNatClampNeg) = 0 then (k2 σ x1 (x2 + (1))) else (f_X7_firstLetter_b32 fu  σ x1 x2))))
def f_X7_firstLetter_b2 (fu : Nat)  : Nat → gSt → Int32 → Int32 → Option (Int32 × gSt)
  | 0 => fun _ _ _ => none
  | n + 1 => f_X7_firstLetter_b2_B fu  (f_X7_firstLetter_b2 fu  n)
set_option maxRecDepth 100000 in
theorem t_X7_firstLetter_b2_B {fu : Nat} {k2 : gSt → Int32 → Int32 → Option (Int32 × gSt)} {r : Int32 × gSt} (hC : gCx p s m args meth c cX7_firstLetter 3 RX7 (some .int) E) (hk2 : ∀ (σ : gSt) (x1 : Int32) (x2 : Int32), k2 σ x1 x2 = some r → G p l e rm_X7_firstLetter s m args below meth c 3 0 0 (MQ below (gQ E w 1 r) args s 0 0 (fun q => eB E ≤ q)) E w σ 2 [(0, .ref (eB E + 583)), (1, .int x1), (2, .int x2)] []) {σ : gSt} {x1 : Int32} {x2 : Int32}  (hf : f_X7_firstLetter_b2_B fu k2 σ x1 x2 = some r) : G p l e rm_X7_firstLetter s m args below meth c 3 0 0 (MQ below (gQ E w 1 r) args s 0 0 (fun q => eB E ≤ q)) E w σ 2 [(0, .ref (eB E + 583)), (1, .int x1), (2, .int x2)] [] := by
  unfold f_X7_firstLetter_b2_B at hf
  refine G_iload_n (q := 3) hC dX7_firstLetter_2 rfl rfl ?_
  refine G_aload_n (q := 4) hC dX7_firstLetter_3 rfl rfl ?_
  refine gf_RX7_13 (q := 7) hC dX7_firstLetter_4 rfl ?_
  refine G_iload_n (q := 8) hC dX7_firstLetter_7 rfl rfl ?_
  obtain ⟨g1, hf⟩ := gd_ok hf
  refine G_iald (q := 9) hC dX7_firstLetter_8 rfl (ok_182 g1) ?_
  refine G_icmp_ge (tgt := 32) (q := 12) hC dX7_firstLetter_9 (by decide) rfl (fun c0 => ?_) (fun c0 => ?_)
  · have hf := (if_pos c0).symm.trans hf
    exact t_X7_firstLetter_b32 hC   hf
  · have hf := (if_neg c0).symm.trans hf
    refine G_aload_n (q := 13) hC dX7_firstLetter_12 rfl rfl ?_
    refine gf_RX7_7 (q := 16) hC dX7_firstLetter_13 rfl ?_
    refine G_bipush (q := 18) hC dX7_firstLetter_16 rfl bp_8 ?_
    refine G_iload_n (q := 19) hC dX7_firstLetter_18 rfl rfl ?_
    refine G_imul (q := 20) hC dX7_firstLetter_19 rfl ?_
    refine G_iload_n (q := 21) hC dX7_firstLetter_20 rfl rfl ?_
    refine G_iadd (q := 22) hC dX7_firstLetter_21 rfl ?_
    obtain ⟨g2, hf⟩ := gd_ok hf
    refine G_iald (q := 23) hC dX7_firstLetter_22 rfl (ok_181 g2) ?_
    refine G_if_ne (tgt := 32) (q := 26) hC dX7_firstLetter_23 (by decide) rfl (fun c1 => ?_) (fun c1 => ?_)
    · have hf := (if_neg c1).symm.trans hf
      exact t_X7_firstLetter_b32 hC   hf
    · have hf := (if_pos c1).symm.trans hf
      refine G_iinc (q := 29) (n := 2) (lv' := [(2, .int (x2 + (1))), (0, .ref (eB E + 583)), (1, .int x1)]) hC dX7_firstLetter_26 rfl rfl (ii_1 _) (by decide) rfl ?_
      refine G_goto (tgt := 2) hC dX7_firstLetter_29 (by decide) ?_
      refine G_lv (lv' := [(0, .ref (eB E + 583)), (1, .int x1), (2, .int (x2 + (1)))]) [1, 2, 0] rfl ?_
      exact hk2 _ _ _  hf

theorem t_X7_firstLetter_b2 {fu : Nat}  {r : Int32 × gSt} (hC : gCx p s m args meth c cX7_firstLetter 3 RX7 (some .int) E)  (n : Nat) : ∀ (σ : gSt) (x1 : Int32) (x2 : Int32), f_X7_firstLetter_b2 fu  n σ x1 x2 = some r → G p l e rm_X7_firstLetter s m args below meth c 3 0 0 (MQ below (gQ E w 1 r) args s 0 0 (fun q => eB E ≤ q)) E w σ 2 [(0, .ref (eB E + 583)), (1, .int x1), (2, .int x2)] [] := by
  induction n with
  | zero => intro σ x1 x2  hf; cases hf
  | succ n ih => intro σ x1 x2  hf; exact t_X7_firstLetter_b2_B hC  ih  hf
def f_X7_firstLetter (fu : Nat)  (σ : gSt) (x1 : Int32) : Option (Int32 × gSt) :=
  f_X7_firstLetter_b2 fu  fu σ x1 (0 : Int32)
set_option maxRecDepth 100000 in
theorem t_X7_firstLetter {fu : Nat}  {r : Int32 × gSt} (hC : gCx p s m args meth c cX7_firstLetter 3 RX7 (some .int) E)  {σ : gSt} {x1 : Int32}  (hf : f_X7_firstLetter fu  σ x1 = some r) : G p l e rm_X7_firstLetter s m args below meth c 3 0 0 (MQ below (gQ E w 1 r) args s 0 0 (fun q => eB E ≤ q)) E w σ 0 [(0, .ref (eB E + 583)), (1, .int x1)] [] := by
  unfold f_X7_firstLetter at hf
  refine G_iconst (q := 1) hC dX7_firstLetter_0 rfl ic_0 ?_
  refine G_istore_n (q := 2) (lv' := [(2, .int (0 : Int32)), (0, .ref (eB E + 583)), (1, .int x1)]) hC dX7_firstLetter_1 rfl (by decide) rfl ?_
  refine G_lv (lv' := [(0, .ref (eB E + 583)), (1, .int x1), (2, .int (0 : Int32))]) [1, 2, 0] rfl ?_
  exact t_X7_firstLetter_b2 hC  fu _ _ _  hf

theorem m_X7_firstLetter {l : Launch} {fu : Nat} {E : gE} {w : Nat → Int64} {σ : gSt} {x1 : Int32} {r : Int32 × gSt}  (hf : f_X7_firstLetter fu σ x1 = some r) : gM l yX7_firstLetter cX7_firstLetter 3 (some .int) rm_X7_firstLetter 1 E w σ [.ref (eB E + 583), .int x1] r :=
  gM_of (by decide +kernel) (Nat.le_of_ble_eq_true rfl) (fun p e s m args below meth c hC => t_X7_firstLetter hC  hf)
def f_X7_volumeOf_b2_B (fu : Nat) (k2 : gSt → Int32 → Int32 → Option (Int32 × gSt)) (σ : gSt) (x1 : Int32) (x2 : Int32) : Option (Int32 × gSt) :=
  if (σ 197 0 0) ≤ x2 then (some ((-1 : Int32), σ)) else (gd (inb x2 4) (bd (f_X7_firstLetter fu σ x1) (fun v2 σ2 => if (σ 198 0 x2.toNatClampNeg) < v2 then (k2 σ2 x1 (x2 + (1))) else (some (x2, σ2)))))
def f_X7_volumeOf_b2 (fu : Nat)  : Nat → gSt → Int32 → Int32 → Option (Int32 × gSt)
  | 0 => fun _ _ _ => none
  | n + 1 => f_X7_volumeOf_b2_B fu  (f_X7_volumeOf_b2 fu  n)
set_option maxRecDepth 100000 in
theorem t_X7_volumeOf_b2_B {fu : Nat} {k2 : gSt → Int32 → Int32 → Option (Int32 × gSt)} {r : Int32 × gSt} (hC : gCx p s m args meth c cX7_volumeOf 3 RX7 (some .int) E) (hk2 : ∀ (σ : gSt) (x1 : Int32) (x2 : Int32), k2 σ x1 x2 = some r → G p l e rm_X7_volumeOf s m args below meth c 3 0 0 (MQ below (gQ E w 1 r) args s 0 0 (fun q => eB E ≤ q)) E w σ 2 [(0, .ref (eB E + 583)), (1, .int x1), (2, .int x2)] []) {σ : gSt} {x1 : Int32} {x2 : Int32}  (hf : f_X7_volumeOf_b2_B fu k2 σ x1 x2 = some r) : G p l e rm_X7_volumeOf s m args below meth c 3 0 0 (MQ below (gQ E w 1 r) args s 0 0 (fun q => eB E ≤ q)) E w σ 2 [(0, .ref (eB E + 583)), (1, .int x1), (2, .int x2)] [] := by
  unfold f_X7_volumeOf_b2_B at hf
  refine G_iload_n (q := 3) hC dX7_volumeOf_2 rfl rfl ?_
  refine G_aload_n (q := 4) hC dX7_volumeOf_3 rfl rfl ?_
  refine gf_RX7_96 (q := 7) hC dX7_volumeOf_4 rfl ?_
  refine G_icmp_ge (tgt := 32) (q := 10) hC dX7_volumeOf_7 (by decide) rfl (fun c0 => ?_) (fun c0 => ?_)
  · have hf := (if_pos c0).symm.trans hf
    refine G_iconst (q := 33) hC dX7_volumeOf_32 rfl ic_m1 ?_
    exact G_iret hC hf rfl rfl dX7_volumeOf_33
  · have hf := (if_neg c0).symm.trans hf
    refine G_aload_n (q := 11) hC dX7_volumeOf_10 rfl rfl ?_
    refine gf_RX7_56 (q := 14) hC dX7_volumeOf_11 rfl ?_
    refine G_iload_n (q := 15) hC dX7_volumeOf_14 rfl rfl ?_
    obtain ⟨g1, hf⟩ := gd_ok hf
    refine G_iald (q := 16) hC dX7_volumeOf_15 rfl (ok_198 g1) ?_
    refine G_aload_n (q := 17) hC dX7_volumeOf_16 rfl rfl ?_
    refine G_iload_n (q := 18) hC dX7_volumeOf_17 rfl rfl ?_
    obtain ⟨v2, σ2, hm2, hf⟩ := bd_ok hf
    refine cl_RX7_99 (q := 21) hC dX7_volumeOf_18 rfl (m_X7_firstLetter hm2) ⟨Nat.le_of_ble_eq_true rfl, Nat.le_of_ble_eq_true rfl⟩ (Nat.le_of_ble_eq_true rfl) ⟨Nat.le_of_ble_eq_true rfl, Nat.le_of_ble_eq_true rfl⟩ ?_
    refine G_icmp_lt (tgt := 26) (q := 24) hC dX7_volumeOf_21 (by decide) rfl (fun c2 => ?_) (fun c2 => ?_)
    · have hf := (if_pos c2).symm.trans hf
      refine G_iinc (q := 29) (n := 2) (lv' := [(2, .int (x2 + (1))), (0, .ref (eB E + 583)), (1, .int x1)]) hC dX7_volumeOf_26 rfl rfl (ii_1 _) (by decide) rfl ?_
      refine G_goto (tgt := 2) hC dX7_volumeOf_29 (by decide) ?_
      refine G_lv (lv' := [(0, .ref (eB E + 583)), (1, .int x1), (2, .int (x2 + (1)))]) [1, 2, 0] rfl ?_
      exact hk2 _ _ _  hf
    · have hf := (if_neg c2).symm.trans hf
      refine G_iload_n (q := 25) hC dX7_volumeOf_24 rfl rfl ?_
      exact G_iret hC hf rfl rfl dX7_volumeOf_25

theorem t_X7_volumeOf_b2 {fu : Nat}  {r : Int32 × gSt} (hC : gCx p s m args meth c cX7_volumeOf 3 RX7 (some .int) E)  (n : Nat) : ∀ (σ : gSt) (x1 : Int32) (x2 : Int32), f_X7_volumeOf_b2 fu  n σ x1 x2 = some r → G p l e rm_X7_volumeOf s m args below meth c 3 0 0 (MQ below (gQ E w 1 r) args s 0 0 (fun q => eB E ≤ q)) E w σ 2 [(0, .ref (eB E + 583)), (1, .int x1), (2, .int x2)] [] := by
  induction n with
  | zero => intro σ x1 x2  hf; cases hf
  | succ n ih => intro σ x1 x2  hf; exact t_X7_volumeOf_b2_B hC  ih  hf
def f_X7_volumeOf (fu : Nat)  (σ : gSt) (x1 : Int32) : Option (Int32 × gSt) :=
  f_X7_volumeOf_b2 fu  fu σ x1 (0 : Int32)
set_option maxRecDepth 100000 in
theorem t_X7_volumeOf {fu : Nat}  {r : Int32 × gSt} (hC : gCx p s m args meth c cX7_volumeOf 3 RX7 (some .int) E)  {σ : gSt} {x1 : Int32}  (hf : f_X7_volumeOf fu  σ x1 = some r) : G p l e rm_X7_volumeOf s m args below meth c 3 0 0 (MQ below (gQ E w 1 r) args s 0 0 (fun q => eB E ≤ q)) E w σ 0 [(0, .ref (eB E + 583)), (1, .int x1)] [] := by
  unfold f_X7_volumeOf at hf
  refine G_iconst (q := 1) hC dX7_volumeOf_0 rfl ic_0 ?_
  refine G_istore_n (q := 2) (lv' := [(2, .int (0 : Int32)), (0, .ref (eB E + 583)), (1, .int x1)]) hC dX7_volumeOf_1 rfl (by decide) rfl ?_
  refine G_lv (lv' := [(0, .ref (eB E + 583)), (1, .int x1), (2, .int (0 : Int32))]) [1, 2, 0] rfl ?_
  exact t_X7_volumeOf_b2 hC  fu _ _ _  hf

theorem m_X7_volumeOf {l : Launch} {fu : Nat} {E : gE} {w : Nat → Int64} {σ : gSt} {x1 : Int32} {r : Int32 × gSt}  (hf : f_X7_volumeOf fu σ x1 = some r) : gM l yX7_volumeOf cX7_volumeOf 3 (some .int) rm_X7_volumeOf 1 E w σ [.ref (eB E + 583), .int x1] r :=
  gM_of (by decide +kernel) (Nat.le_of_ble_eq_true rfl) (fun p e s m args below meth c hC => t_X7_volumeOf hC  hf)
def f_X7_takes_b2_B (fu : Nat) (k2 : gSt → Int32 → Int32 → Option (Int32 × gSt)) (σ : gSt) (x1 : Int32) (x2 : Int32) : Option (Int32 × gSt) :=
  if (8 : Int32) ≤ x2 then (gd (inb (120 : Int32) 125) (gd (inb x1 125) (gd (inb (120 : Int32) 125) (some (0, (gU (gU σ 182 0 x1.toNatClampNeg (σ 182 0 (120 : Int32).toNatClampNeg)) 182 0 (120 : Int32).toNatClampNeg (0 : Int32))))))) else (gd (inb ((960 : Int32) + x2) 1000) (gd (inb (((8 : Int32) * x1) + x2) 1000) (k2 (gU σ 181 0 (((8 : Int32) * x1) + x2).toNatClampNeg (σ 181 0 ((960 : Int32) + x2).toNatClampNeg)) x1 (x2 + (1)))))
def f_X7_takes_b2 (fu : Nat)  : Nat → gSt → Int32 → Int32 → Option (Int32 × gSt)
  | 0 => fun _ _ _ => none
  | n + 1 => f_X7_takes_b2_B fu  (f_X7_takes_b2 fu  n)
set_option maxRecDepth 100000 in
theorem t_X7_takes_b2_B {fu : Nat} {k2 : gSt → Int32 → Int32 → Option (Int32 × gSt)} {r : Int32 × gSt} (hC : gCx p s m args meth c cX7_takes 3 RX7 none E) (hk2 : ∀ (σ : gSt) (x1 : Int32) (x2 : Int32), k2 σ x1 x2 = some r → G p l e rm_X7_takes s m args below meth c 3 0 0 (MQ below (gQ E w 0 r) args s 0 0 (fun q => eB E ≤ q)) E w σ 2 [(0, .ref (eB E + 583)), (1, .int x1), (2, .int x2)] []) {σ : gSt} {x1 : Int32} {x2 : Int32}  (hf : f_X7_takes_b2_B fu k2 σ x1 x2 = some r) : G p l e rm_X7_takes s m args below meth c 3 0 0 (MQ below (gQ E w 0 r) args s 0 0 (fun q => eB E ≤ q)) E w σ 2 [(0, .ref (eB E + 583)), (1, .int x1), (2, .int x2)] [] := by
  unfold f_X7_takes_b2_B at hf
  refine G_iload_n (q := 3) hC dX7_takes_2 rfl rfl ?_
  refine G_bipush (q := 5) hC dX7_takes_3 rfl bp_8 ?_
  refine G_icmp_ge (tgt := 35) (q := 8) hC dX7_takes_5 (by decide) rfl (fun c0 => ?_) (fun c0 => ?_)
  · have hf := (if_pos c0).symm.trans hf
    refine G_aload_n (q := 36) hC dX7_takes_35 rfl rfl ?_
    refine gf_RX7_13 (q := 39) hC dX7_takes_36 rfl ?_
    refine G_iload_n (q := 40) hC dX7_takes_39 rfl rfl ?_
    refine G_aload_n (q := 41) hC dX7_takes_40 rfl rfl ?_
    refine gf_RX7_13 (q := 44) hC dX7_takes_41 rfl ?_
    refine G_bipush (q := 46) hC dX7_takes_44 rfl bp_120 ?_
    obtain ⟨g1, hf⟩ := gd_ok hf
    refine G_iald (q := 47) hC dX7_takes_46 rfl (ok_182 g1) ?_
    obtain ⟨g2, hf⟩ := gd_ok hf
    refine G_iast (q := 48) hC dX7_takes_47 rfl (ok_182 g2) ?_
    refine G_aload_n (q := 49) hC dX7_takes_48 rfl rfl ?_
    refine gf_RX7_13 (q := 52) hC dX7_takes_49 rfl ?_
    refine G_bipush (q := 54) hC dX7_takes_52 rfl bp_120 ?_
    refine G_iconst (q := 55) hC dX7_takes_54 rfl ic_0 ?_
    obtain ⟨g3, hf⟩ := gd_ok hf
    refine G_iast (q := 56) hC dX7_takes_55 rfl (ok_182 g3) ?_
    exact G_vret hC hf rfl dX7_takes_56
  · have hf := (if_neg c0).symm.trans hf
    refine G_aload_n (q := 9) hC dX7_takes_8 rfl rfl ?_
    refine gf_RX7_7 (q := 12) hC dX7_takes_9 rfl ?_
    refine G_bipush (q := 14) hC dX7_takes_12 rfl bp_8 ?_
    refine G_iload_n (q := 15) hC dX7_takes_14 rfl rfl ?_
    refine G_imul (q := 16) hC dX7_takes_15 rfl ?_
    refine G_iload_n (q := 17) hC dX7_takes_16 rfl rfl ?_
    refine G_iadd (q := 18) hC dX7_takes_17 rfl ?_
    refine G_aload_n (q := 19) hC dX7_takes_18 rfl rfl ?_
    refine gf_RX7_7 (q := 22) hC dX7_takes_19 rfl ?_
    refine G_sipush (q := 25) hC dX7_takes_22 rfl sp_960 ?_
    refine G_iload_n (q := 26) hC dX7_takes_25 rfl rfl ?_
    refine G_iadd (q := 27) hC dX7_takes_26 rfl ?_
    obtain ⟨g4, hf⟩ := gd_ok hf
    refine G_iald (q := 28) hC dX7_takes_27 rfl (ok_181 g4) ?_
    obtain ⟨g5, hf⟩ := gd_ok hf
    refine G_iast (q := 29) hC dX7_takes_28 rfl (ok_181 g5) ?_
    refine G_iinc (q := 32) (n := 2) (lv' := [(2, .int (x2 + (1))), (0, .ref (eB E + 583)), (1, .int x1)]) hC dX7_takes_29 rfl rfl (ii_1 _) (by decide) rfl ?_
    refine G_goto (tgt := 2) hC dX7_takes_32 (by decide) ?_
    refine G_lv (lv' := [(0, .ref (eB E + 583)), (1, .int x1), (2, .int (x2 + (1)))]) [1, 2, 0] rfl ?_
    exact hk2 _ _ _  hf

theorem t_X7_takes_b2 {fu : Nat}  {r : Int32 × gSt} (hC : gCx p s m args meth c cX7_takes 3 RX7 none E)  (n : Nat) : ∀ (σ : gSt) (x1 : Int32) (x2 : Int32), f_X7_takes_b2 fu  n σ x1 x2 = some r → G p l e rm_X7_takes s m args below meth c 3 0 0 (MQ below (gQ E w 0 r) args s 0 0 (fun q => eB E ≤ q)) E w σ 2 [(0, .ref (eB E + 583)), (1, .int x1), (2, .int x2)] [] := by
  induction n with
  | zero => intro σ x1 x2  hf; cases hf
  | succ n ih => intro σ x1 x2  hf; exact t_X7_takes_b2_B hC  ih  hf
def f_X7_takes (fu : Nat)  (σ : gSt) (x1 : Int32) : Option (Int32 × gSt) :=
  f_X7_takes_b2 fu  fu σ x1 (0 : Int32)
set_option maxRecDepth 100000 in
theorem t_X7_takes {fu : Nat}  {r : Int32 × gSt} (hC : gCx p s m args meth c cX7_takes 3 RX7 none E)  {σ : gSt} {x1 : Int32}  (hf : f_X7_takes fu  σ x1 = some r) : G p l e rm_X7_takes s m args below meth c 3 0 0 (MQ below (gQ E w 0 r) args s 0 0 (fun q => eB E ≤ q)) E w σ 0 [(0, .ref (eB E + 583)), (1, .int x1)] [] := by
  unfold f_X7_takes at hf
  refine G_iconst (q := 1) hC dX7_takes_0 rfl ic_0 ?_
  refine G_istore_n (q := 2) (lv' := [(2, .int (0 : Int32)), (0, .ref (eB E + 583)), (1, .int x1)]) hC dX7_takes_1 rfl (by decide) rfl ?_
  refine G_lv (lv' := [(0, .ref (eB E + 583)), (1, .int x1), (2, .int (0 : Int32))]) [1, 2, 0] rfl ?_
  exact t_X7_takes_b2 hC  fu _ _ _  hf

theorem m_X7_takes {l : Launch} {fu : Nat} {E : gE} {w : Nat → Int64} {σ : gSt} {x1 : Int32} {r : Int32 × gSt}  (hf : f_X7_takes fu σ x1 = some r) : gM l yX7_takes cX7_takes 3 none rm_X7_takes 0 E w σ [.ref (eB E + 583), .int x1] r :=
  gM_of (by decide +kernel) (Nat.le_of_ble_eq_true rfl) (fun p e s m args below meth c hC => t_X7_takes hC  hf)
def f_X7_sign_b95 (fu : Nat)  (σ : gSt) (fs0 : Nat) (is0 : Nat) (xs1 : Int32) (xs2 : Int32) : Option (Int32 × gSt) :=
  gd (okA 1 fs0 is0 xs1) (gd (inb (120 : Int32) 125) (gd (inb (120 : Int32) 125) (gd (inb (120 : Int32) 125) (some (((gU (gU σ fs0 is0 xs1.toNatClampNeg xs2) 182 0 (120 : Int32).toNatClampNeg (((gU σ fs0 is0 xs1.toNatClampNeg xs2) 182 0 (120 : Int32).toNatClampNeg) + (1 : Int32))) 182 0 (120 : Int32).toNatClampNeg), (gU (gU σ fs0 is0 xs1.toNatClampNeg xs2) 182 0 (120 : Int32).toNatClampNeg (((gU σ fs0 is0 xs1.toNatClampNeg xs2) 182 0 (120 : Int32).toNatClampNeg) + (1 : Int32))))))))
set_option maxRecDepth 100000 in
theorem t_X7_sign_b95 {fu : Nat}  {r : Int32 × gSt} (hC : gCx p s m args meth c cX7_sign 3 RX7 (some .int) E)  {σ : gSt} {fs0 : Nat} {is0 : Nat} {xs1 : Int32} {xs2 : Int32}  (hf : f_X7_sign_b95 fu  σ fs0 is0 xs1 xs2 = some r) : G p l e rm_X7_sign s m args below meth c 3 0 0 (MQ below (gQ E w 1 r) args s 0 0 (fun q => eB E ≤ q)) E w σ 95 [(0, .ref (eB E + 583))] [.int xs2, .int xs1, .ref (eB E + oA fs0 is0)] := by
  unfold f_X7_sign_b95 at hf
  obtain ⟨g1, hf⟩ := gd_ok hf
  refine G_iast (q := 96) hC dX7_sign_95 rfl g1 ?_
  refine G_aload_n (q := 97) hC dX7_sign_96 rfl rfl ?_
  refine gf_RX7_13 (q := 100) hC dX7_sign_97 rfl ?_
  refine G_bipush (q := 102) hC dX7_sign_100 rfl bp_120 ?_
  refine G_dup2 (q := 103) hC dX7_sign_102 rfl rfl rfl ?_
  obtain ⟨g2, hf⟩ := gd_ok hf
  refine G_iald (q := 104) hC dX7_sign_103 rfl (ok_182 g2) ?_
  refine G_iconst (q := 105) hC dX7_sign_104 rfl ic_1 ?_
  refine G_iadd (q := 106) hC dX7_sign_105 rfl ?_
  obtain ⟨g3, hf⟩ := gd_ok hf
  refine G_iast (q := 107) hC dX7_sign_106 rfl (ok_182 g3) ?_
  refine G_aload_n (q := 108) hC dX7_sign_107 rfl rfl ?_
  refine gf_RX7_13 (q := 111) hC dX7_sign_108 rfl ?_
  refine G_bipush (q := 113) hC dX7_sign_111 rfl bp_120 ?_
  obtain ⟨g4, hf⟩ := gd_ok hf
  refine G_iald (q := 114) hC dX7_sign_113 rfl (ok_182 g4) ?_
  exact G_iret hC hf rfl rfl dX7_sign_114

def f_X7_sign_b56 (fu : Nat)  (σ : gSt) (x1 : Int32) (xs1 : Int32) : Option (Int32 × gSt) :=
  bd (f_X7_goes fu σ xs1) (fun v1 σ1 => if v1 = 0 then (some ((0 : Int32), σ1)) else (gd (inb (120 : Int32) 125) (if (97 : Int32) ≤ x1 then (f_X7_sign_b95 fu  σ1 181 0 ((960 : Int32) + (σ1 182 0 (120 : Int32).toNatClampNeg)) ((x1 - (97 : Int32)) + (1 : Int32))) else (f_X7_sign_b95 fu  σ1 181 0 ((960 : Int32) + (σ1 182 0 (120 : Int32).toNatClampNeg)) (0 : Int32)))))
set_option maxRecDepth 100000 in
theorem t_X7_sign_b56 {fu : Nat}  {r : Int32 × gSt} (hC : gCx p s m args meth c cX7_sign 3 RX7 (some .int) E)  {σ : gSt} {x1 : Int32} {xs1 : Int32}  (hf : f_X7_sign_b56 fu  σ x1 xs1 = some r) : G p l e rm_X7_sign s m args below meth c 3 0 0 (MQ below (gQ E w 1 r) args s 0 0 (fun q => eB E ≤ q)) E w σ 56 [(0, .ref (eB E + 583)), (1, .int x1)] [.int xs1, .ref (eB E + 583)] := by
  unfold f_X7_sign_b56 at hf
  obtain ⟨v1, σ1, hm1, hf⟩ := bd_ok hf
  refine cl_RX7_103 (q := 59) hC dX7_sign_56 rfl (m_X7_goes hm1) ⟨Nat.le_of_ble_eq_true rfl, Nat.le_of_ble_eq_true rfl⟩ (Nat.le_of_ble_eq_true rfl) ⟨Nat.le_of_ble_eq_true rfl, Nat.le_of_ble_eq_true rfl⟩ ?_
  refine G_if_ne (tgt := 64) (q := 62) hC dX7_sign_59 (by decide) rfl (fun c1 => ?_) (fun c1 => ?_)
  · have hf := (if_neg c1).symm.trans hf
    refine G_aload_n (q := 65) hC dX7_sign_64 rfl rfl ?_
    refine gf_RX7_7 (q := 68) hC dX7_sign_65 rfl ?_
    refine G_sipush (q := 71) hC dX7_sign_68 rfl sp_960 ?_
    refine G_aload_n (q := 72) hC dX7_sign_71 rfl rfl ?_
    refine gf_RX7_13 (q := 75) hC dX7_sign_72 rfl ?_
    refine G_bipush (q := 77) hC dX7_sign_75 rfl bp_120 ?_
    obtain ⟨g1, hf⟩ := gd_ok hf
    refine G_iald (q := 78) hC dX7_sign_77 rfl (ok_182 g1) ?_
    refine G_iadd (q := 79) hC dX7_sign_78 rfl ?_
    refine G_iload_n (q := 80) hC dX7_sign_79 rfl rfl ?_
    refine G_bipush (q := 82) hC dX7_sign_80 rfl bp_97 ?_
    refine G_icmp_ge (tgt := 89) (q := 85) hC dX7_sign_82 (by decide) rfl (fun c2 => ?_) (fun c2 => ?_)
    · have hf := (if_pos c2).symm.trans hf
      refine G_iload_n (q := 90) hC dX7_sign_89 rfl rfl ?_
      refine G_bipush (q := 92) hC dX7_sign_90 rfl bp_97 ?_
      refine G_isub (q := 93) hC dX7_sign_92 rfl ?_
      refine G_iconst (q := 94) hC dX7_sign_93 rfl ic_1 ?_
      refine G_iadd (q := 95) hC dX7_sign_94 rfl ?_
      refine G_lv (lv' := [(0, .ref (eB E + 583))]) [0] rfl ?_
      exact t_X7_sign_b95 hC   hf
    · have hf := (if_neg c2).symm.trans hf
      refine G_iconst (q := 86) hC dX7_sign_85 rfl ic_0 ?_
      refine G_goto (tgt := 95) hC dX7_sign_86 (by decide) ?_
      refine G_lv (lv' := [(0, .ref (eB E + 583))]) [0] rfl ?_
      exact t_X7_sign_b95 hC   hf
  · have hf := (if_pos c1).symm.trans hf
    refine G_iconst (q := 63) hC dX7_sign_62 rfl ic_0 ?_
    exact G_iret hC hf rfl rfl dX7_sign_63

def f_X7_sign_b29 (fu : Nat)  (σ : gSt) (x1 : Int32) (xs0 : Int32) : Option (Int32 × gSt) :=
  if xs0 = 0 then (f_X7_sign_b56 fu  σ x1 (1 : Int32)) else (gd (inb (120 : Int32) 125) (if (σ 182 0 (120 : Int32).toNatClampNeg) = (8 : Int32) then (f_X7_sign_b56 fu  σ x1 (2 : Int32)) else (f_X7_sign_b56 fu  σ x1 (0 : Int32))))
set_option maxRecDepth 100000 in
theorem t_X7_sign_b29 {fu : Nat}  {r : Int32 × gSt} (hC : gCx p s m args meth c cX7_sign 3 RX7 (some .int) E)  {σ : gSt} {x1 : Int32} {xs0 : Int32}  (hf : f_X7_sign_b29 fu  σ x1 xs0 = some r) : G p l e rm_X7_sign s m args below meth c 3 0 0 (MQ below (gQ E w 1 r) args s 0 0 (fun q => eB E ≤ q)) E w σ 29 [(0, .ref (eB E + 583)), (1, .int x1)] [.int xs0] := by
  unfold f_X7_sign_b29 at hf
  refine G_istore_n (q := 30) (lv' := [(2, .int xs0), (0, .ref (eB E + 583)), (1, .int x1)]) hC dX7_sign_29 rfl (by decide) rfl ?_
  refine G_aload_n (q := 31) hC dX7_sign_30 rfl rfl ?_
  refine G_iload_n (q := 32) hC dX7_sign_31 rfl rfl ?_
  refine G_if_ne (tgt := 39) (q := 35) hC dX7_sign_32 (by decide) rfl (fun c0 => ?_) (fun c0 => ?_)
  · have hf := (if_neg c0).symm.trans hf
    refine G_aload_n (q := 40) hC dX7_sign_39 rfl rfl ?_
    refine gf_RX7_13 (q := 43) hC dX7_sign_40 rfl ?_
    refine G_bipush (q := 45) hC dX7_sign_43 rfl bp_120 ?_
    obtain ⟨g1, hf⟩ := gd_ok hf
    refine G_iald (q := 46) hC dX7_sign_45 rfl (ok_182 g1) ?_
    refine G_bipush (q := 48) hC dX7_sign_46 rfl bp_8 ?_
    refine G_icmp_ne (tgt := 55) (q := 51) hC dX7_sign_48 (by decide) rfl (fun c1 => ?_) (fun c1 => ?_)
    · have hf := (if_neg c1).symm.trans hf
      refine G_iconst (q := 56) hC dX7_sign_55 rfl ic_0 ?_
      refine G_lv (lv' := [(0, .ref (eB E + 583)), (1, .int x1)]) [1, 2] rfl ?_
      exact t_X7_sign_b56 hC   hf
    · have hf := (if_pos c1).symm.trans hf
      refine G_iconst (q := 52) hC dX7_sign_51 rfl ic_2 ?_
      refine G_goto (tgt := 56) hC dX7_sign_52 (by decide) ?_
      refine G_lv (lv' := [(0, .ref (eB E + 583)), (1, .int x1)]) [1, 2] rfl ?_
      exact t_X7_sign_b56 hC   hf
  · have hf := (if_pos c0).symm.trans hf
    refine G_iconst (q := 36) hC dX7_sign_35 rfl ic_1 ?_
    refine G_goto (tgt := 56) hC dX7_sign_36 (by decide) ?_
    refine G_lv (lv' := [(0, .ref (eB E + 583)), (1, .int x1)]) [1, 2] rfl ?_
    exact t_X7_sign_b56 hC   hf

def f_X7_sign_b24 (fu : Nat)  (σ : gSt) (x1 : Int32) : Option (Int32 × gSt) :=
  f_X7_sign_b29 fu  σ x1 (1 : Int32)
set_option maxRecDepth 100000 in
theorem t_X7_sign_b24 {fu : Nat}  {r : Int32 × gSt} (hC : gCx p s m args meth c cX7_sign 3 RX7 (some .int) E)  {σ : gSt} {x1 : Int32}  (hf : f_X7_sign_b24 fu  σ x1 = some r) : G p l e rm_X7_sign s m args below meth c 3 0 0 (MQ below (gQ E w 1 r) args s 0 0 (fun q => eB E ≤ q)) E w σ 24 [(0, .ref (eB E + 583)), (1, .int x1)] [] := by
  unfold f_X7_sign_b24 at hf
  refine G_iconst (q := 25) hC dX7_sign_24 rfl ic_1 ?_
  refine G_goto (tgt := 29) hC dX7_sign_25 (by decide) ?_
  exact t_X7_sign_b29 hC   hf

def f_X7_sign_b12 (fu : Nat)  (σ : gSt) (x1 : Int32) : Option (Int32 × gSt) :=
  if x1 = (32 : Int32) then (f_X7_sign_b24 fu  σ x1) else (if x1 = (45 : Int32) then (f_X7_sign_b24 fu  σ x1) else (f_X7_sign_b29 fu  σ x1 (0 : Int32)))
set_option maxRecDepth 100000 in
theorem t_X7_sign_b12 {fu : Nat}  {r : Int32 × gSt} (hC : gCx p s m args meth c cX7_sign 3 RX7 (some .int) E)  {σ : gSt} {x1 : Int32}  (hf : f_X7_sign_b12 fu  σ x1 = some r) : G p l e rm_X7_sign s m args below meth c 3 0 0 (MQ below (gQ E w 1 r) args s 0 0 (fun q => eB E ≤ q)) E w σ 12 [(0, .ref (eB E + 583)), (1, .int x1)] [] := by
  unfold f_X7_sign_b12 at hf
  refine G_iload_n (q := 13) hC dX7_sign_12 rfl rfl ?_
  refine G_bipush (q := 15) hC dX7_sign_13 rfl bp_32 ?_
  refine G_icmp_eq (tgt := 24) (q := 18) hC dX7_sign_15 (by decide) rfl (fun c0 => ?_) (fun c0 => ?_)
  · have hf := (if_pos c0).symm.trans hf
    exact t_X7_sign_b24 hC   hf
  · have hf := (if_neg c0).symm.trans hf
    refine G_iload_n (q := 19) hC dX7_sign_18 rfl rfl ?_
    refine G_bipush (q := 21) hC dX7_sign_19 rfl bp_45 ?_
    refine G_icmp_ne (tgt := 28) (q := 24) hC dX7_sign_21 (by decide) rfl (fun c1 => ?_) (fun c1 => ?_)
    · have hf := (if_neg c1).symm.trans hf
      refine G_iconst (q := 29) hC dX7_sign_28 rfl ic_0 ?_
      exact t_X7_sign_b29 hC   hf
    · have hf := (if_pos c1).symm.trans hf
      exact t_X7_sign_b24 hC   hf

def f_X7_sign (fu : Nat)  (σ : gSt) (x1 : Int32) : Option (Int32 × gSt) :=
  if x1 < (97 : Int32) then (f_X7_sign_b12 fu  σ x1) else (if x1 ≤ (122 : Int32) then (f_X7_sign_b24 fu  σ x1) else (f_X7_sign_b12 fu  σ x1))
set_option maxRecDepth 100000 in
theorem t_X7_sign {fu : Nat}  {r : Int32 × gSt} (hC : gCx p s m args meth c cX7_sign 3 RX7 (some .int) E)  {σ : gSt} {x1 : Int32}  (hf : f_X7_sign fu  σ x1 = some r) : G p l e rm_X7_sign s m args below meth c 3 0 0 (MQ below (gQ E w 1 r) args s 0 0 (fun q => eB E ≤ q)) E w σ 0 [(0, .ref (eB E + 583)), (1, .int x1)] [] := by
  unfold f_X7_sign at hf
  refine G_iload_n (q := 1) hC dX7_sign_0 rfl rfl ?_
  refine G_bipush (q := 3) hC dX7_sign_1 rfl bp_97 ?_
  refine G_icmp_lt (tgt := 12) (q := 6) hC dX7_sign_3 (by decide) rfl (fun c0 => ?_) (fun c0 => ?_)
  · have hf := (if_pos c0).symm.trans hf
    exact t_X7_sign_b12 hC   hf
  · have hf := (if_neg c0).symm.trans hf
    refine G_iload_n (q := 7) hC dX7_sign_6 rfl rfl ?_
    refine G_bipush (q := 9) hC dX7_sign_7 rfl bp_122 ?_
    refine G_icmp_le (tgt := 24) (q := 12) hC dX7_sign_9 (by decide) rfl (fun c1 => ?_) (fun c1 => ?_)
    · have hf := (if_pos c1).symm.trans hf
      exact t_X7_sign_b24 hC   hf
    · have hf := (if_neg c1).symm.trans hf
      exact t_X7_sign_b12 hC   hf

theorem m_X7_sign {l : Launch} {fu : Nat} {E : gE} {w : Nat → Int64} {σ : gSt} {x1 : Int32} {r : Int32 × gSt}  (hf : f_X7_sign fu σ x1 = some r) : gM l yX7_sign cX7_sign 3 (some .int) rm_X7_sign 1 E w σ [.ref (eB E + 583), .int x1] r :=
  gM_of (by decide +kernel) (Nat.le_of_ble_eq_true rfl) (fun p e s m args below meth c hC => t_X7_sign hC  hf)
def f_X7_erase (fu : Nat)  (σ : gSt)  : Option (Int32 × gSt) :=
  gd (inb (120 : Int32) 125) (gd (inb (120 : Int32) 125) (some (((gU σ 209 0 0 (0 : Int32)) 182 0 (120 : Int32).toNatClampNeg), (gU (gU σ 209 0 0 (0 : Int32)) 182 0 (120 : Int32).toNatClampNeg (0 : Int32)))))
set_option maxRecDepth 100000 in
theorem t_X7_erase {fu : Nat}  {r : Int32 × gSt} (hC : gCx p s m args meth c cX7_erase 2 RX7 (some .int) E)  {σ : gSt}   (hf : f_X7_erase fu  σ  = some r) : G p l e rm_X7_erase s m args below meth c 2 0 0 (MQ below (gQ E w 1 r) args s 0 0 (fun q => eB E ≤ q)) E w σ 0 [(0, .ref (eB E + 583))] [] := by
  unfold f_X7_erase at hf
  refine G_aload_n (q := 1) hC dX7_erase_0 rfl rfl ?_
  refine G_iconst (q := 2) hC dX7_erase_1 rfl ic_0 ?_
  refine pf_RX7_74 (q := 5) hC dX7_erase_2 rfl ?_
  refine G_aload_n (q := 6) hC dX7_erase_5 rfl rfl ?_
  refine gf_RX7_13 (q := 9) hC dX7_erase_6 rfl ?_
  refine G_bipush (q := 11) hC dX7_erase_9 rfl bp_120 ?_
  obtain ⟨g1, hf⟩ := gd_ok hf
  refine G_iald (q := 12) hC dX7_erase_11 rfl (ok_182 g1) ?_
  refine G_istore_n (q := 13) (lv' := [(1, .int ((gU σ 209 0 0 (0 : Int32)) 182 0 (120 : Int32).toNatClampNeg)), (0, .ref (eB E + 583))]) hC dX7_erase_12 rfl (by decide) rfl ?_
  refine G_aload_n (q := 14) hC dX7_erase_13 rfl rfl ?_
  refine gf_RX7_13 (q := 17) hC dX7_erase_14 rfl ?_
  refine G_bipush (q := 19) hC dX7_erase_17 rfl bp_120 ?_
  refine G_iconst (q := 20) hC dX7_erase_19 rfl ic_0 ?_
  obtain ⟨g2, hf⟩ := gd_ok hf
  refine G_iast (q := 21) hC dX7_erase_20 rfl (ok_182 g2) ?_
  refine G_iload_n (q := 22) hC dX7_erase_21 rfl rfl ?_
  exact G_iret hC hf rfl rfl dX7_erase_22

theorem m_X7_erase {l : Launch} {fu : Nat} {E : gE} {w : Nat → Int64} {σ : gSt}  {r : Int32 × gSt}  (hf : f_X7_erase fu σ  = some r) : gM l yX7_erase cX7_erase 2 (some .int) rm_X7_erase 1 E w σ [.ref (eB E + 583)] r :=
  gM_of (by decide +kernel) (Nat.le_of_ble_eq_true rfl) (fun p e s m args below meth c hC => t_X7_erase hC  hf)
def f_X7_rule_b13 (fu : Nat)  (σ : gSt) (x1 : Int32) (xs1 : Int32) : Option (Int32 × gSt) :=
  bd (f_X7_goes fu σ xs1) (fun v1 σ1 => if v1 = 0 then (some ((0 : Int32), σ1)) else (gd (b01 x1) (gd (b01 (σ1 180 0 0)) (some ((σ1 180 0 0), (gU σ1 180 0 0 x1))))))
set_option maxRecDepth 100000 in
theorem t_X7_rule_b13 {fu : Nat}  {r : Int32 × gSt} (hC : gCx p s m args meth c cX7_rule 3 RX7 (some .boolean) E)  {σ : gSt} {x1 : Int32} {xs1 : Int32}  (hf : f_X7_rule_b13 fu  σ x1 xs1 = some r) : G p l e rm_X7_rule s m args below meth c 3 0 0 (MQ below (gQ E w 1 r) args s 0 0 (fun q => eB E ≤ q)) E w σ 13 [(0, .ref (eB E + 583)), (1, .int x1)] [.int xs1, .ref (eB E + 583)] := by
  unfold f_X7_rule_b13 at hf
  obtain ⟨v1, σ1, hm1, hf⟩ := bd_ok hf
  refine cl_RX7_103 (q := 16) hC dX7_rule_13 rfl (m_X7_goes hm1) ⟨Nat.le_of_ble_eq_true rfl, Nat.le_of_ble_eq_true rfl⟩ (Nat.le_of_ble_eq_true rfl) ⟨Nat.le_of_ble_eq_true rfl, Nat.le_of_ble_eq_true rfl⟩ ?_
  refine G_if_ne (tgt := 21) (q := 19) hC dX7_rule_16 (by decide) rfl (fun c1 => ?_) (fun c1 => ?_)
  · have hf := (if_neg c1).symm.trans hf
    refine G_aload_n (q := 22) hC dX7_rule_21 rfl rfl ?_
    refine gf_RX7_88 (q := 25) hC dX7_rule_22 rfl ?_
    refine G_istore_n (q := 26) (lv' := [(2, .int (σ1 180 0 0)), (0, .ref (eB E + 583)), (1, .int x1)]) hC dX7_rule_25 rfl (by decide) rfl ?_
    refine G_aload_n (q := 27) hC dX7_rule_26 rfl rfl ?_
    refine G_iload_n (q := 28) hC dX7_rule_27 rfl rfl ?_
    obtain ⟨g1, hf⟩ := gd_ok hf
    refine pf_RX7_88 (q := 31) hC dX7_rule_28 rfl g1 ?_
    refine G_iload_n (q := 32) hC dX7_rule_31 rfl rfl ?_
    obtain ⟨g2, hf⟩ := gd_ok hf
    exact G_iret hC hf rfl (b01_narrow g2) dX7_rule_32
  · have hf := (if_pos c1).symm.trans hf
    refine G_iconst (q := 20) hC dX7_rule_19 rfl ic_0 ?_
    exact G_iret hC hf rfl rfl dX7_rule_20

def f_X7_rule (fu : Nat)  (σ : gSt) (x1 : Int32) : Option (Int32 × gSt) :=
  if (σ 200 0 0) ≤ 0 then (f_X7_rule_b13 fu  σ x1 (0 : Int32)) else (f_X7_rule_b13 fu  σ x1 (1 : Int32))
set_option maxRecDepth 100000 in
theorem t_X7_rule {fu : Nat}  {r : Int32 × gSt} (hC : gCx p s m args meth c cX7_rule 3 RX7 (some .boolean) E)  {σ : gSt} {x1 : Int32}  (hf : f_X7_rule fu  σ x1 = some r) : G p l e rm_X7_rule s m args below meth c 3 0 0 (MQ below (gQ E w 1 r) args s 0 0 (fun q => eB E ≤ q)) E w σ 0 [(0, .ref (eB E + 583)), (1, .int x1)] [] := by
  unfold f_X7_rule at hf
  refine G_aload_n (q := 1) hC dX7_rule_0 rfl rfl ?_
  refine G_aload_n (q := 2) hC dX7_rule_1 rfl rfl ?_
  refine gf_RX7_107 (q := 5) hC dX7_rule_2 rfl ?_
  refine G_if_le (tgt := 12) (q := 8) hC dX7_rule_5 (by decide) rfl (fun c0 => ?_) (fun c0 => ?_)
  · have hf := (if_pos c0).symm.trans hf
    refine G_iconst (q := 13) hC dX7_rule_12 rfl ic_0 ?_
    exact t_X7_rule_b13 hC   hf
  · have hf := (if_neg c0).symm.trans hf
    refine G_iconst (q := 9) hC dX7_rule_8 rfl ic_1 ?_
    refine G_goto (tgt := 13) hC dX7_rule_9 (by decide) ?_
    exact t_X7_rule_b13 hC   hf

theorem m_X7_rule {l : Launch} {fu : Nat} {E : gE} {w : Nat → Int64} {σ : gSt} {x1 : Int32} {r : Int32 × gSt}  (hf : f_X7_rule fu σ x1 = some r) : gM l yX7_rule cX7_rule 3 (some .boolean) rm_X7_rule 1 E w σ [.ref (eB E + 583), .int x1] r :=
  gM_of (by decide +kernel) (Nat.le_of_ble_eq_true rfl) (fun p e s m args below meth c hC => t_X7_rule hC  hf)
def f_X7_article_b51 (fu : Nat)  (σ : gSt) (x1 : Int32) (x2 : Int32) (xs1 : Int32) : Option (Int32 × gSt) :=
  bd (f_X7_goes fu σ xs1) (fun v1 σ1 => if v1 = 0 then (some ((0 : Int32), σ1)) else (bd (f_X7_takes fu σ1 (σ1 183 0 0)) (fun _ σ3 => gd (inb (σ3 183 0 0) 24) (gd (inb ((gU σ3 184 0 (σ3 183 0 0).toNatClampNeg x1) 183 0 0) 24) (gd (inb ((gU (gU σ3 184 0 (σ3 183 0 0).toNatClampNeg x1) 185 0 ((gU σ3 184 0 (σ3 183 0 0).toNatClampNeg x1) 183 0 0).toNatClampNeg x2) 183 0 0) 24) (gd (inb ((gU (gU (gU σ3 184 0 (σ3 183 0 0).toNatClampNeg x1) 185 0 ((gU σ3 184 0 (σ3 183 0 0).toNatClampNeg x1) 183 0 0).toNatClampNeg x2) 187 0 ((gU (gU σ3 184 0 (σ3 183 0 0).toNatClampNeg x1) 185 0 ((gU σ3 184 0 (σ3 183 0 0).toNatClampNeg x1) 183 0 0).toNatClampNeg x2) 183 0 0).toNatClampNeg (-1 : Int32)) 183 0 0) 24) (some ((((gU (gU (gU (gU (gU σ3 184 0 (σ3 183 0 0).toNatClampNeg x1) 185 0 ((gU σ3 184 0 (σ3 183 0 0).toNatClampNeg x1) 183 0 0).toNatClampNeg x2) 187 0 ((gU (gU σ3 184 0 (σ3 183 0 0).toNatClampNeg x1) 185 0 ((gU σ3 184 0 (σ3 183 0 0).toNatClampNeg x1) 183 0 0).toNatClampNeg x2) 183 0 0).toNatClampNeg (-1 : Int32)) 188 0 ((gU (gU (gU σ3 184 0 (σ3 183 0 0).toNatClampNeg x1) 185 0 ((gU σ3 184 0 (σ3 183 0 0).toNatClampNeg x1) 183 0 0).toNatClampNeg x2) 187 0 ((gU (gU σ3 184 0 (σ3 183 0 0).toNatClampNeg x1) 185 0 ((gU σ3 184 0 (σ3 183 0 0).toNatClampNeg x1) 183 0 0).toNatClampNeg x2) 183 0 0).toNatClampNeg (-1 : Int32)) 183 0 0).toNatClampNeg (-1 : Int32)) 183 0 0 (((gU (gU (gU (gU σ3 184 0 (σ3 183 0 0).toNatClampNeg x1) 185 0 ((gU σ3 184 0 (σ3 183 0 0).toNatClampNeg x1) 183 0 0).toNatClampNeg x2) 187 0 ((gU (gU σ3 184 0 (σ3 183 0 0).toNatClampNeg x1) 185 0 ((gU σ3 184 0 (σ3 183 0 0).toNatClampNeg x1) 183 0 0).toNatClampNeg x2) 183 0 0).toNatClampNeg (-1 : Int32)) 188 0 ((gU (gU (gU σ3 184 0 (σ3 183 0 0).toNatClampNeg x1) 185 0 ((gU σ3 184 0 (σ3 183 0 0).toNatClampNeg x1) 183 0 0).toNatClampNeg x2) 187 0 ((gU (gU σ3 184 0 (σ3 183 0 0).toNatClampNeg x1) 185 0 ((gU σ3 184 0 (σ3 183 0 0).toNatClampNeg x1) 183 0 0).toNatClampNeg x2) 183 0 0).toNatClampNeg (-1 : Int32)) 183 0 0).toNatClampNeg (-1 : Int32)) 183 0 0) + (1 : Int32))) 183 0 0) - (1 : Int32)), (gU (gU (gU (gU (gU σ3 184 0 (σ3 183 0 0).toNatClampNeg x1) 185 0 ((gU σ3 184 0 (σ3 183 0 0).toNatClampNeg x1) 183 0 0).toNatClampNeg x2) 187 0 ((gU (gU σ3 184 0 (σ3 183 0 0).toNatClampNeg x1) 185 0 ((gU σ3 184 0 (σ3 183 0 0).toNatClampNeg x1) 183 0 0).toNatClampNeg x2) 183 0 0).toNatClampNeg (-1 : Int32)) 188 0 ((gU (gU (gU σ3 184 0 (σ3 183 0 0).toNatClampNeg x1) 185 0 ((gU σ3 184 0 (σ3 183 0 0).toNatClampNeg x1) 183 0 0).toNatClampNeg x2) 187 0 ((gU (gU σ3 184 0 (σ3 183 0 0).toNatClampNeg x1) 185 0 ((gU σ3 184 0 (σ3 183 0 0).toNatClampNeg x1) 183 0 0).toNatClampNeg x2) 183 0 0).toNatClampNeg (-1 : Int32)) 183 0 0).toNatClampNeg (-1 : Int32)) 183 0 0 (((gU (gU (gU (gU σ3 184 0 (σ3 183 0 0).toNatClampNeg x1) 185 0 ((gU σ3 184 0 (σ3 183 0 0).toNatClampNeg x1) 183 0 0).toNatClampNeg x2) 187 0 ((gU (gU σ3 184 0 (σ3 183 0 0).toNatClampNeg x1) 185 0 ((gU σ3 184 0 (σ3 183 0 0).toNatClampNeg x1) 183 0 0).toNatClampNeg x2) 183 0 0).toNatClampNeg (-1 : Int32)) 188 0 ((gU (gU (gU σ3 184 0 (σ3 183 0 0).toNatClampNeg x1) 185 0 ((gU σ3 184 0 (σ3 183 0 0).toNatClampNeg x1) 183 0 0).toNatClampNeg x2) 187 0 ((gU (gU σ3 184 0 (σ3 183 0 0).toNatClampNeg x1) 185 0 ((gU σ3 184 0 (σ3 183 0 0).toNatClampNeg x1) 183 0 0).toNatClampNeg x2) 183 0 0).toNatClampNeg (-1 : Int32)) 183 0 0).toNatClampNeg (-1 : Int32)) 183 0 0) + (1 : Int32)))))))))))
set_option maxRecDepth 100000 in
theorem t_X7_article_b51 {fu : Nat}  {r : Int32 × gSt} (hC : gCx p s m args meth c cX7_article 4 RX7 (some .int) E)  {σ : gSt} {x1 : Int32} {x2 : Int32} {xs1 : Int32}  (hf : f_X7_article_b51 fu  σ x1 x2 xs1 = some r) : G p l e rm_X7_article s m args below meth c 4 0 0 (MQ below (gQ E w 1 r) args s 0 0 (fun q => eB E ≤ q)) E w σ 51 [(0, .ref (eB E + 583)), (1, .int x1), (2, .int x2)] [.int xs1, .ref (eB E + 583)] := by
  unfold f_X7_article_b51 at hf
  obtain ⟨v1, σ1, hm1, hf⟩ := bd_ok hf
  refine cl_RX7_103 (q := 54) hC dX7_article_51 rfl (m_X7_goes hm1) ⟨Nat.le_of_ble_eq_true rfl, Nat.le_of_ble_eq_true rfl⟩ (Nat.le_of_ble_eq_true rfl) ⟨Nat.le_of_ble_eq_true rfl, Nat.le_of_ble_eq_true rfl⟩ ?_
  refine G_if_ne (tgt := 59) (q := 57) hC dX7_article_54 (by decide) rfl (fun c1 => ?_) (fun c1 => ?_)
  · have hf := (if_neg c1).symm.trans hf
    refine G_aload_n (q := 60) hC dX7_article_59 rfl rfl ?_
    refine G_aload_n (q := 61) hC dX7_article_60 rfl rfl ?_
    refine gf_RX7_78 (q := 64) hC dX7_article_61 rfl ?_
    obtain ⟨v3, σ3, hm3, hf⟩ := bd_ok hf
    refine cl_RX7_113 (q := 67) hC dX7_article_64 rfl (m_X7_takes hm3) ⟨Nat.le_of_ble_eq_true rfl, Nat.le_of_ble_eq_true rfl⟩ (Nat.le_of_ble_eq_true rfl) ⟨Nat.le_of_ble_eq_true rfl, Nat.le_of_ble_eq_true rfl⟩ ?_
    refine G_aload_n (q := 68) hC dX7_article_67 rfl rfl ?_
    refine gf_RX7_16 (q := 71) hC dX7_article_68 rfl ?_
    refine G_aload_n (q := 72) hC dX7_article_71 rfl rfl ?_
    refine gf_RX7_78 (q := 75) hC dX7_article_72 rfl ?_
    refine G_iload_n (q := 76) hC dX7_article_75 rfl rfl ?_
    obtain ⟨g1, hf⟩ := gd_ok hf
    refine G_iast (q := 77) hC dX7_article_76 rfl (ok_184 g1) ?_
    refine G_aload_n (q := 78) hC dX7_article_77 rfl rfl ?_
    refine gf_RX7_19 (q := 81) hC dX7_article_78 rfl ?_
    refine G_aload_n (q := 82) hC dX7_article_81 rfl rfl ?_
    refine gf_RX7_78 (q := 85) hC dX7_article_82 rfl ?_
    refine G_iload_n (q := 86) hC dX7_article_85 rfl rfl ?_
    obtain ⟨g2, hf⟩ := gd_ok hf
    refine G_iast (q := 87) hC dX7_article_86 rfl (ok_185 g2) ?_
    refine G_aload_n (q := 88) hC dX7_article_87 rfl rfl ?_
    refine gf_RX7_25 (q := 91) hC dX7_article_88 rfl ?_
    refine G_aload_n (q := 92) hC dX7_article_91 rfl rfl ?_
    refine gf_RX7_78 (q := 95) hC dX7_article_92 rfl ?_
    refine G_iconst (q := 96) hC dX7_article_95 rfl ic_m1 ?_
    obtain ⟨g3, hf⟩ := gd_ok hf
    refine G_iast (q := 97) hC dX7_article_96 rfl (ok_187 g3) ?_
    refine G_aload_n (q := 98) hC dX7_article_97 rfl rfl ?_
    refine gf_RX7_28 (q := 101) hC dX7_article_98 rfl ?_
    refine G_aload_n (q := 102) hC dX7_article_101 rfl rfl ?_
    refine gf_RX7_78 (q := 105) hC dX7_article_102 rfl ?_
    refine G_iconst (q := 106) hC dX7_article_105 rfl ic_m1 ?_
    obtain ⟨g4, hf⟩ := gd_ok hf
    refine G_iast (q := 107) hC dX7_article_106 rfl (ok_188 g4) ?_
    refine G_aload_n (q := 108) hC dX7_article_107 rfl rfl ?_
    refine G_dup (q := 109) hC dX7_article_108 rfl rfl ?_
    refine gf_RX7_78 (q := 112) hC dX7_article_109 rfl ?_
    refine G_iconst (q := 113) hC dX7_article_112 rfl ic_1 ?_
    refine G_iadd (q := 114) hC dX7_article_113 rfl ?_
    refine pf_RX7_78 (q := 117) hC dX7_article_114 rfl ?_
    refine G_aload_n (q := 118) hC dX7_article_117 rfl rfl ?_
    refine gf_RX7_78 (q := 121) hC dX7_article_118 rfl ?_
    refine G_iconst (q := 122) hC dX7_article_121 rfl ic_1 ?_
    refine G_isub (q := 123) hC dX7_article_122 rfl ?_
    exact G_iret hC hf rfl rfl dX7_article_123
  · have hf := (if_pos c1).symm.trans hf
    refine G_iconst (q := 58) hC dX7_article_57 rfl ic_0 ?_
    exact G_iret hC hf rfl rfl dX7_article_58

def f_X7_article_b46 (fu : Nat)  (σ : gSt) (x1 : Int32) (x2 : Int32) : Option (Int32 × gSt) :=
  f_X7_article_b51 fu  σ x1 x2 (3 : Int32)
set_option maxRecDepth 100000 in
theorem t_X7_article_b46 {fu : Nat}  {r : Int32 × gSt} (hC : gCx p s m args meth c cX7_article 4 RX7 (some .int) E)  {σ : gSt} {x1 : Int32} {x2 : Int32}  (hf : f_X7_article_b46 fu  σ x1 x2 = some r) : G p l e rm_X7_article s m args below meth c 4 0 0 (MQ below (gQ E w 1 r) args s 0 0 (fun q => eB E ≤ q)) E w σ 46 [(0, .ref (eB E + 583)), (1, .int x1), (2, .int x2)] [.ref (eB E + 583)] := by
  unfold f_X7_article_b46 at hf
  refine G_iconst (q := 47) hC dX7_article_46 rfl ic_3 ?_
  refine G_goto (tgt := 51) hC dX7_article_47 (by decide) ?_
  exact t_X7_article_b51 hC   hf

def f_X7_article (fu : Nat)  (σ : gSt) (x1 : Int32) (x2 : Int32) : Option (Int32 × gSt) :=
  bd (f_X7_isIn fu σ x2 (0 : Int32) (9 : Int32)) (fun v1 σ1 => bd (f_X7_isSubject fu σ1 x1) (fun v2 σ2 => if v2 = 0 then (f_X7_article_b51 fu  σ2 x1 x2 (1 : Int32)) else (if v1 = 0 then (f_X7_article_b51 fu  σ2 x1 x2 (2 : Int32)) else (if (σ2 183 0 0) = (24 : Int32) then (f_X7_article_b46 fu  σ2 x1 x2) else (bd (f_X7_firstLetter fu σ2 (120 : Int32)) (fun v6 σ6 => if v6 = 0 then (f_X7_article_b46 fu  σ6 x1 x2) else (f_X7_article_b51 fu  σ6 x1 x2 (0 : Int32))))))))
set_option maxRecDepth 100000 in
theorem t_X7_article {fu : Nat}  {r : Int32 × gSt} (hC : gCx p s m args meth c cX7_article 4 RX7 (some .int) E)  {σ : gSt} {x1 : Int32} {x2 : Int32}  (hf : f_X7_article fu  σ x1 x2 = some r) : G p l e rm_X7_article s m args below meth c 4 0 0 (MQ below (gQ E w 1 r) args s 0 0 (fun q => eB E ≤ q)) E w σ 0 [(0, .ref (eB E + 583)), (1, .int x1), (2, .int x2)] [] := by
  unfold f_X7_article at hf
  refine G_iload_n (q := 1) hC dX7_article_0 rfl rfl ?_
  refine G_iconst (q := 2) hC dX7_article_1 rfl ic_0 ?_
  refine G_bipush (q := 4) hC dX7_article_2 rfl bp_9 ?_
  obtain ⟨v1, σ1, hm1, hf⟩ := bd_ok hf
  refine cl_RX7_81 (q := 7) hC dX7_article_4 rfl (m_X7_isIn hm1) ⟨Nat.le_of_ble_eq_true rfl, Nat.le_of_ble_eq_true rfl⟩ (Nat.le_of_ble_eq_true rfl) ⟨Nat.le_of_ble_eq_true rfl, Nat.le_of_ble_eq_true rfl⟩ ?_
  refine G_istore_n (q := 8) (lv' := [(3, .int v1), (0, .ref (eB E + 583)), (1, .int x1), (2, .int x2)]) hC dX7_article_7 rfl (by decide) rfl ?_
  refine G_aload_n (q := 9) hC dX7_article_8 rfl rfl ?_
  refine G_iload_n (q := 10) hC dX7_article_9 rfl rfl ?_
  obtain ⟨v2, σ2, hm2, hf⟩ := bd_ok hf
  refine cl_RX7_110 (q := 13) hC dX7_article_10 rfl (m_X7_isSubject hm2) ⟨Nat.le_of_ble_eq_true rfl, Nat.le_of_ble_eq_true rfl⟩ (Nat.le_of_ble_eq_true rfl) ⟨Nat.le_of_ble_eq_true rfl, Nat.le_of_ble_eq_true rfl⟩ ?_
  refine G_if_ne (tgt := 20) (q := 16) hC dX7_article_13 (by decide) rfl (fun c2 => ?_) (fun c2 => ?_)
  · have hf := (if_neg c2).symm.trans hf
    refine G_iload_n (q := 21) hC dX7_article_20 rfl rfl ?_
    refine G_if_ne (tgt := 28) (q := 24) hC dX7_article_21 (by decide) rfl (fun c3 => ?_) (fun c3 => ?_)
    · have hf := (if_neg c3).symm.trans hf
      refine G_aload_n (q := 29) hC dX7_article_28 rfl rfl ?_
      refine gf_RX7_78 (q := 32) hC dX7_article_29 rfl ?_
      refine G_bipush (q := 34) hC dX7_article_32 rfl bp_24 ?_
      refine G_icmp_eq (tgt := 46) (q := 37) hC dX7_article_34 (by decide) rfl (fun c4 => ?_) (fun c4 => ?_)
      · have hf := (if_pos c4).symm.trans hf
        refine G_lv (lv' := [(0, .ref (eB E + 583)), (1, .int x1), (2, .int x2)]) [1, 2, 3] rfl ?_
        exact t_X7_article_b46 hC   hf
      · have hf := (if_neg c4).symm.trans hf
        refine G_aload_n (q := 38) hC dX7_article_37 rfl rfl ?_
        refine G_bipush (q := 40) hC dX7_article_38 rfl bp_120 ?_
        obtain ⟨v6, σ6, hm6, hf⟩ := bd_ok hf
        refine cl_RX7_99 (q := 43) hC dX7_article_40 rfl (m_X7_firstLetter hm6) ⟨Nat.le_of_ble_eq_true rfl, Nat.le_of_ble_eq_true rfl⟩ (Nat.le_of_ble_eq_true rfl) ⟨Nat.le_of_ble_eq_true rfl, Nat.le_of_ble_eq_true rfl⟩ ?_
        refine G_if_ne (tgt := 50) (q := 46) hC dX7_article_43 (by decide) rfl (fun c6 => ?_) (fun c6 => ?_)
        · have hf := (if_neg c6).symm.trans hf
          refine G_iconst (q := 51) hC dX7_article_50 rfl ic_0 ?_
          refine G_lv (lv' := [(0, .ref (eB E + 583)), (1, .int x1), (2, .int x2)]) [1, 2, 3] rfl ?_
          exact t_X7_article_b51 hC   hf
        · have hf := (if_pos c6).symm.trans hf
          refine G_lv (lv' := [(0, .ref (eB E + 583)), (1, .int x1), (2, .int x2)]) [1, 2, 3] rfl ?_
          exact t_X7_article_b46 hC   hf
    · have hf := (if_pos c3).symm.trans hf
      refine G_iconst (q := 25) hC dX7_article_24 rfl ic_2 ?_
      refine G_goto (tgt := 51) hC dX7_article_25 (by decide) ?_
      refine G_lv (lv' := [(0, .ref (eB E + 583)), (1, .int x1), (2, .int x2)]) [1, 2, 3] rfl ?_
      exact t_X7_article_b51 hC   hf
  · have hf := (if_pos c2).symm.trans hf
    refine G_iconst (q := 17) hC dX7_article_16 rfl ic_1 ?_
    refine G_goto (tgt := 51) hC dX7_article_17 (by decide) ?_
    refine G_lv (lv' := [(0, .ref (eB E + 583)), (1, .int x1), (2, .int x2)]) [1, 2, 3] rfl ?_
    exact t_X7_article_b51 hC   hf

theorem m_X7_article {l : Launch} {fu : Nat} {E : gE} {w : Nat → Int64} {σ : gSt} {x1 : Int32} {x2 : Int32} {r : Int32 × gSt}  (hf : f_X7_article fu σ x1 x2 = some r) : gM l yX7_article cX7_article 4 (some .int) rm_X7_article 1 E w σ [.ref (eB E + 583), .int x1, .int x2] r :=
  gM_of (by decide +kernel) (Nat.le_of_ble_eq_true rfl) (fun p e s m args below meth c hC => t_X7_article hC  hf)
def f_X7_under_b34 (fu : Nat)  (σ : gSt) (x1 : Int32) (x2 : Int32) (xs1 : Int32) : Option (Int32 × gSt) :=
  bd (f_X7_goes fu σ xs1) (fun v1 σ1 => if v1 = 0 then (some ((0 : Int32), σ1)) else (gd (inb x1 10) (gd (inb x1 10) (some ((σ1 195 0 x1.toNatClampNeg), (gU σ1 195 0 x1.toNatClampNeg x2))))))
set_option maxRecDepth 100000 in
theorem t_X7_under_b34 {fu : Nat}  {r : Int32 × gSt} (hC : gCx p s m args meth c cX7_under 4 RX7 (some .int) E)  {σ : gSt} {x1 : Int32} {x2 : Int32} {xs1 : Int32}  (hf : f_X7_under_b34 fu  σ x1 x2 xs1 = some r) : G p l e rm_X7_under s m args below meth c 4 0 0 (MQ below (gQ E w 1 r) args s 0 0 (fun q => eB E ≤ q)) E w σ 34 [(0, .ref (eB E + 583)), (1, .int x1), (2, .int x2)] [.int xs1, .ref (eB E + 583)] := by
  unfold f_X7_under_b34 at hf
  obtain ⟨v1, σ1, hm1, hf⟩ := bd_ok hf
  refine cl_RX7_103 (q := 37) hC dX7_under_34 rfl (m_X7_goes hm1) ⟨Nat.le_of_ble_eq_true rfl, Nat.le_of_ble_eq_true rfl⟩ (Nat.le_of_ble_eq_true rfl) ⟨Nat.le_of_ble_eq_true rfl, Nat.le_of_ble_eq_true rfl⟩ ?_
  refine G_if_ne (tgt := 42) (q := 40) hC dX7_under_37 (by decide) rfl (fun c1 => ?_) (fun c1 => ?_)
  · have hf := (if_neg c1).symm.trans hf
    refine G_aload_n (q := 43) hC dX7_under_42 rfl rfl ?_
    refine gf_RX7_50 (q := 46) hC dX7_under_43 rfl ?_
    refine G_iload_n (q := 47) hC dX7_under_46 rfl rfl ?_
    obtain ⟨g1, hf⟩ := gd_ok hf
    refine G_iald (q := 48) hC dX7_under_47 rfl (ok_195 g1) ?_
    refine G_istore_n (q := 49) (lv' := [(3, .int (σ1 195 0 x1.toNatClampNeg)), (0, .ref (eB E + 583)), (1, .int x1), (2, .int x2)]) hC dX7_under_48 rfl (by decide) rfl ?_
    refine G_aload_n (q := 50) hC dX7_under_49 rfl rfl ?_
    refine gf_RX7_50 (q := 53) hC dX7_under_50 rfl ?_
    refine G_iload_n (q := 54) hC dX7_under_53 rfl rfl ?_
    refine G_iload_n (q := 55) hC dX7_under_54 rfl rfl ?_
    obtain ⟨g2, hf⟩ := gd_ok hf
    refine G_iast (q := 56) hC dX7_under_55 rfl (ok_195 g2) ?_
    refine G_iload_n (q := 57) hC dX7_under_56 rfl rfl ?_
    exact G_iret hC hf rfl rfl dX7_under_57
  · have hf := (if_pos c1).symm.trans hf
    refine G_iconst (q := 41) hC dX7_under_40 rfl ic_0 ?_
    exact G_iret hC hf rfl rfl dX7_under_41

def f_X7_under_b20 (fu : Nat)  (σ : gSt) (x1 : Int32) (x2 : Int32) : Option (Int32 × gSt) :=
  f_X7_under_b34 fu  σ x1 x2 (1 : Int32)
set_option maxRecDepth 100000 in
theorem t_X7_under_b20 {fu : Nat}  {r : Int32 × gSt} (hC : gCx p s m args meth c cX7_under 4 RX7 (some .int) E)  {σ : gSt} {x1 : Int32} {x2 : Int32}  (hf : f_X7_under_b20 fu  σ x1 x2 = some r) : G p l e rm_X7_under s m args below meth c 4 0 0 (MQ below (gQ E w 1 r) args s 0 0 (fun q => eB E ≤ q)) E w σ 20 [(0, .ref (eB E + 583)), (1, .int x1), (2, .int x2)] [.ref (eB E + 583)] := by
  unfold f_X7_under_b20 at hf
  refine G_iconst (q := 21) hC dX7_under_20 rfl ic_1 ?_
  refine G_goto (tgt := 34) hC dX7_under_21 (by decide) ?_
  exact t_X7_under_b34 hC   hf

def f_X7_under_b24 (fu : Nat)  (σ : gSt) (x1 : Int32) (x2 : Int32) : Option (Int32 × gSt) :=
  if x1 ≤ x2 then (f_X7_under_b34 fu  σ x1 x2 (2 : Int32)) else (f_X7_under_b34 fu  σ x1 x2 (0 : Int32))
set_option maxRecDepth 100000 in
theorem t_X7_under_b24 {fu : Nat}  {r : Int32 × gSt} (hC : gCx p s m args meth c cX7_under 4 RX7 (some .int) E)  {σ : gSt} {x1 : Int32} {x2 : Int32}  (hf : f_X7_under_b24 fu  σ x1 x2 = some r) : G p l e rm_X7_under s m args below meth c 4 0 0 (MQ below (gQ E w 1 r) args s 0 0 (fun q => eB E ≤ q)) E w σ 24 [(0, .ref (eB E + 583)), (1, .int x1), (2, .int x2)] [.ref (eB E + 583)] := by
  unfold f_X7_under_b24 at hf
  refine G_iload_n (q := 25) hC dX7_under_24 rfl rfl ?_
  refine G_iload_n (q := 26) hC dX7_under_25 rfl rfl ?_
  refine G_icmp_ge (tgt := 33) (q := 29) hC dX7_under_26 (by decide) rfl (fun c0 => ?_) (fun c0 => ?_)
  · have hf := (if_pos c0).symm.trans hf
    refine G_iconst (q := 34) hC dX7_under_33 rfl ic_2 ?_
    exact t_X7_under_b34 hC   hf
  · have hf := (if_neg c0).symm.trans hf
    refine G_iconst (q := 30) hC dX7_under_29 rfl ic_0 ?_
    refine G_goto (tgt := 34) hC dX7_under_30 (by decide) ?_
    exact t_X7_under_b34 hC   hf

def f_X7_under (fu : Nat)  (σ : gSt) (x1 : Int32) (x2 : Int32) : Option (Int32 × gSt) :=
  bd (f_X7_isSubject fu σ x1) (fun v1 σ1 => if v1 = 0 then (f_X7_under_b20 fu  σ1 x1 x2) else (if x2 = (-1 : Int32) then (f_X7_under_b24 fu  σ1 x1 x2) else (bd (f_X7_isSubject fu σ1 x2) (fun v4 σ4 => if v4 = 0 then (f_X7_under_b20 fu  σ4 x1 x2) else (f_X7_under_b24 fu  σ4 x1 x2)))))
set_option maxRecDepth 100000 in
theorem t_X7_under {fu : Nat}  {r : Int32 × gSt} (hC : gCx p s m args meth c cX7_under 4 RX7 (some .int) E)  {σ : gSt} {x1 : Int32} {x2 : Int32}  (hf : f_X7_under fu  σ x1 x2 = some r) : G p l e rm_X7_under s m args below meth c 4 0 0 (MQ below (gQ E w 1 r) args s 0 0 (fun q => eB E ≤ q)) E w σ 0 [(0, .ref (eB E + 583)), (1, .int x1), (2, .int x2)] [] := by
  unfold f_X7_under at hf
  refine G_aload_n (q := 1) hC dX7_under_0 rfl rfl ?_
  refine G_iload_n (q := 2) hC dX7_under_1 rfl rfl ?_
  obtain ⟨v1, σ1, hm1, hf⟩ := bd_ok hf
  refine cl_RX7_110 (q := 5) hC dX7_under_2 rfl (m_X7_isSubject hm1) ⟨Nat.le_of_ble_eq_true rfl, Nat.le_of_ble_eq_true rfl⟩ (Nat.le_of_ble_eq_true rfl) ⟨Nat.le_of_ble_eq_true rfl, Nat.le_of_ble_eq_true rfl⟩ ?_
  refine G_if_eq (tgt := 20) (q := 8) hC dX7_under_5 (by decide) rfl (fun c1 => ?_) (fun c1 => ?_)
  · have hf := (if_pos c1).symm.trans hf
    exact t_X7_under_b20 hC   hf
  · have hf := (if_neg c1).symm.trans hf
    refine G_iload_n (q := 9) hC dX7_under_8 rfl rfl ?_
    refine G_iconst (q := 10) hC dX7_under_9 rfl ic_m1 ?_
    refine G_icmp_eq (tgt := 24) (q := 13) hC dX7_under_10 (by decide) rfl (fun c2 => ?_) (fun c2 => ?_)
    · have hf := (if_pos c2).symm.trans hf
      exact t_X7_under_b24 hC   hf
    · have hf := (if_neg c2).symm.trans hf
      refine G_iload_n (q := 14) hC dX7_under_13 rfl rfl ?_
      obtain ⟨v4, σ4, hm4, hf⟩ := bd_ok hf
      refine cl_RX7_110 (q := 17) hC dX7_under_14 rfl (m_X7_isSubject hm4) ⟨Nat.le_of_ble_eq_true rfl, Nat.le_of_ble_eq_true rfl⟩ (Nat.le_of_ble_eq_true rfl) ⟨Nat.le_of_ble_eq_true rfl, Nat.le_of_ble_eq_true rfl⟩ ?_
      refine G_if_ne (tgt := 24) (q := 20) hC dX7_under_17 (by decide) rfl (fun c4 => ?_) (fun c4 => ?_)
      · have hf := (if_neg c4).symm.trans hf
        exact t_X7_under_b24 hC   hf
      · have hf := (if_pos c4).symm.trans hf
        exact t_X7_under_b20 hC   hf

theorem m_X7_under {l : Launch} {fu : Nat} {E : gE} {w : Nat → Int64} {σ : gSt} {x1 : Int32} {x2 : Int32} {r : Int32 × gSt}  (hf : f_X7_under fu σ x1 x2 = some r) : gM l yX7_under cX7_under 4 (some .int) rm_X7_under 1 E w σ [.ref (eB E + 583), .int x1, .int x2] r :=
  gM_of (by decide +kernel) (Nat.le_of_ble_eq_true rfl) (fun p e s m args below meth c hC => t_X7_under hC  hf)
def f_X7_reference (fu : Nat)  (σ : gSt) (x0 : Int32) (x1 : Int32) : Option (Int32 × gSt) :=
  some ((((24 : Int32) + ((4 : Int32) * x0)) + x1), σ)
set_option maxRecDepth 100000 in
theorem t_X7_reference {fu : Nat}  {r : Int32 × gSt} (hC : gCx p s m args meth c cX7_reference 2 RX7 (some .int) E)  {σ : gSt} {x0 : Int32} {x1 : Int32}  (hf : f_X7_reference fu  σ x0 x1 = some r) : G p l e rm_X7_reference s m args below meth c 2 0 0 (MQ below (gQ E w 1 r) args s 0 0 (fun q => eB E ≤ q)) E w σ 0 [(0, .int x0), (1, .int x1)] [] := by
  unfold f_X7_reference at hf
  refine G_bipush (q := 2) hC dX7_reference_0 rfl bp_24 ?_
  refine G_iconst (q := 3) hC dX7_reference_2 rfl ic_4 ?_
  refine G_iload_n (q := 4) hC dX7_reference_3 rfl rfl ?_
  refine G_imul (q := 5) hC dX7_reference_4 rfl ?_
  refine G_iadd (q := 6) hC dX7_reference_5 rfl ?_
  refine G_iload_n (q := 7) hC dX7_reference_6 rfl rfl ?_
  refine G_iadd (q := 8) hC dX7_reference_7 rfl ?_
  exact G_iret hC hf rfl rfl dX7_reference_8

theorem m_X7_reference {l : Launch} {fu : Nat} {E : gE} {w : Nat → Int64} {σ : gSt} {x0 : Int32} {x1 : Int32} {r : Int32 × gSt}  (hf : f_X7_reference fu σ x0 x1 = some r) : gM l yX7_reference cX7_reference 2 (some .int) rm_X7_reference 1 E w σ [.int x0, .int x1] r :=
  gM_of (by decide +kernel) (Nat.le_of_ble_eq_true rfl) (fun p e s m args below meth c hC => t_X7_reference hC  hf)
end WK

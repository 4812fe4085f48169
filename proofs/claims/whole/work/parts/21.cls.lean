/-! by program (wip/whole/gen_walk.py): the methods as functions over the store, and their walks -/
section WK
variable {p : Program} {l : Launch} {e : Env} {s : State} {m : MethodId} {args : Array Value} {below : List Frame} {meth : Method} {c : Code} {E : gE} {w : Nat → Int64}
def f_X6_erase (fu : Nat)  (σ : gSt)  : Option (Int32 × gSt) :=
  bd (f_X3_clear fu σ 120) (fun _ σ1 => some ((σ 62 120 0), σ1))
set_option maxRecDepth 100000 in
theorem t_X6_erase {fu : Nat}  {r : Int32 × gSt} (hC : gCx p s m args meth c cX6_erase 2 RX6 (some .int) E)  {σ : gSt}   (hf : f_X6_erase fu  σ  = some r) : G p l e rm_X6_erase s m args below meth c 2 0 0 (MQ below (gQ E w 1 r) args s 0 0 (fun q => eB E ≤ q)) E w σ 0 [(0, .ref (eB E + 0))] [] := by
  unfold f_X6_erase at hf
  refine G_aload_n (q := 1) hC dX6_erase_0 rfl rfl ?_
  refine gf_RX6_10 (q := 4) hC dX6_erase_1 rfl ?_
  refine gf_RX6_58 (q := 7) hC dX6_erase_4 rfl hwD ?_
  refine G_istore_n (q := 8) (lv' := [(1, .int (σ 62 120 0)), (0, .ref (eB E + 0))]) hC dX6_erase_7 rfl (by decide) rfl ?_
  refine G_aload_n (q := 9) hC dX6_erase_8 rfl rfl ?_
  refine gf_RX6_10 (q := 12) hC dX6_erase_9 rfl ?_
  obtain ⟨v1, σ1, hm1, hf⟩ := bd_ok hf
  refine cl_RX6_71 (q := 15) hC dX6_erase_12 rfl (m_X3_clear hwD hm1) hwD ⟨Nat.le_of_ble_eq_true rfl, Nat.le_of_ble_eq_true rfl⟩ (Nat.le_of_ble_eq_true rfl) ⟨Nat.le_of_ble_eq_true rfl, Nat.le_of_ble_eq_true rfl⟩ ?_
  refine G_iload_n (q := 16) hC dX6_erase_15 rfl rfl ?_
  exact G_iret hC hf rfl rfl dX6_erase_16

theorem m_X6_erase {l : Launch} {fu : Nat} {E : gE} {w : Nat → Int64} {σ : gSt}  {r : Int32 × gSt}  (hf : f_X6_erase fu σ  = some r) : gM l yX6_erase cX6_erase 2 (some .int) rm_X6_erase 1 E w σ [.ref (eB E + 0)] r :=
  gM_of (by decide +kernel) (Nat.le_of_ble_eq_true rfl) (fun p e s m args below meth c hC => t_X6_erase hC  hf)
def f_X6_rule (fu : Nat)  (σ : gSt) (x1 : Int32) : Option (Nat × Int32 × gSt) :=
  if (σ 158 0 0) ≤ 0 then (gd (b01 x1) (gd (b01 (σ 161 0 0)) (some (0, (σ 161 0 0), (gU σ 161 0 0 x1))))) else (some (2, 0, σ))
set_option maxRecDepth 100000 in
theorem t_X6_rule {fu : Nat}  {r : Nat × Int32 × gSt} (hC : gCx p s m args meth c cX6_rule 3 RX6 (some .boolean) E) (hX : ∀ x ∈ c.exceptionTable.toList, False) (hflag : l.stackTraces = false)  {σ : gSt} {x1 : Int32}  (hf : f_X6_rule fu  σ x1 = some r) : G p l e rm_X6_rule s m args below meth c 3 0 0 (vx_MQ below (gQX E w 1 r) (gXC E w r) args s rm_X6_rule.cells rm_X6_rule.slots (fun q => eB E ≤ q)) E w σ 0 [(0, .ref (eB E + 0)), (1, .int x1)] [] := by
  unfold f_X6_rule at hf
  refine G_aload_n (q := 1) hC dX6_rule_0 rfl rfl ?_
  refine gf_RX6_74 (q := 4) hC dX6_rule_1 rfl ?_
  refine G_if_le (tgt := 17) (q := 7) hC dX6_rule_4 (by decide) rfl (fun c0 => ?_) (fun c0 => ?_)
  · have hf := (if_pos c0).symm.trans hf
    refine G_aload_n (q := 18) hC dX6_rule_17 rfl rfl ?_
    refine gf_RX6_79 (q := 21) hC dX6_rule_18 rfl ?_
    refine G_istore_n (q := 22) (lv' := [(2, .int (σ 161 0 0)), (0, .ref (eB E + 0)), (1, .int x1)]) hC dX6_rule_21 rfl (by decide) rfl ?_
    refine G_aload_n (q := 23) hC dX6_rule_22 rfl rfl ?_
    refine G_iload_n (q := 24) hC dX6_rule_23 rfl rfl ?_
    obtain ⟨g1, hf⟩ := gd_ok hf
    refine pf_RX6_79 (q := 27) hC dX6_rule_24 rfl g1 ?_
    refine G_iload_n (q := 28) hC dX6_rule_27 rfl rfl ?_
    obtain ⟨g2, hf⟩ := gd_ok hf
    exact G_iretX hC hf rfl (b01_narrow g2) (Nat.le_of_ble_eq_true rfl) (Nat.le_of_ble_eq_true rfl) dX6_rule_28
  · have hf := (if_neg c0).symm.trans hf
    exact G_throw hC hX hflag (text := "a volume is printed") hf (by decide) (by decide +kernel) (wall (by decide +kernel) rfl) (wall (by decide +kernel) rfl) (by decide) thA2 thB2 dX6_rule_7 dX6_rule_10 dX6_rule_11 dX6_rule_13 dX6_rule_16 (Nat.le_of_ble_eq_true rfl) (Nat.le_of_ble_eq_true rfl) ⟨Nat.le_of_ble_eq_true rfl, Nat.le_of_ble_eq_true rfl⟩ ⟨Nat.le_of_ble_eq_true rfl, Nat.le_of_ble_eq_true rfl⟩

theorem m_X6_rule {l : Launch} {fu : Nat} {E : gE} {w : Nat → Int64} {σ : gSt} {x1 : Int32} {r : Nat × Int32 × gSt} (hflag : l.stackTraces = false)  (hf : f_X6_rule fu σ x1 = some r) : gMX l yX6_rule cX6_rule 3 (some .boolean) rm_X6_rule 1 E w σ [.ref (eB E + 0), .int x1] r :=
  gMX_of (by decide +kernel) (Nat.le_of_ble_eq_true rfl) (fun p e s m args below meth c hC hX => t_X6_rule hC hX hflag  hf)
def f_X6_requireSubject_b10 (fu : Nat)  (σ : gSt)  : Option (Nat × Int32 × gSt) :=
  some (3, 0, σ)
set_option maxRecDepth 100000 in
theorem t_X6_requireSubject_b10 {fu : Nat}  {r : Nat × Int32 × gSt} (hC : gCx p s m args meth c cX6_requireSubject 1 RX6 none E) (hX : ∀ x ∈ c.exceptionTable.toList, False) (hflag : l.stackTraces = false)  {σ : gSt}   (hf : f_X6_requireSubject_b10 fu  σ  = some r) : G p l e rm_X6_requireSubject s m args below meth c 1 0 0 (vx_MQ below (gQX E w 0 r) (gXC E w r) args s rm_X6_requireSubject.cells rm_X6_requireSubject.slots (fun q => eB E ≤ q)) E w σ 10 [] [] := by
  unfold f_X6_requireSubject_b10 at hf
  exact G_throwW hC hX hflag (text := "no such subject") hf (by decide) (by decide +kernel) (wall (by decide +kernel) rfl) (wall (by decide +kernel) rfl) (by decide) thA3 thB3 dX6_requireSubject_10 dX6_requireSubject_13 dX6_requireSubject_14 dX6_requireSubject_17 dX6_requireSubject_20 (Nat.le_of_ble_eq_true rfl) (Nat.le_of_ble_eq_true rfl) ⟨Nat.le_of_ble_eq_true rfl, Nat.le_of_ble_eq_true rfl⟩ ⟨Nat.le_of_ble_eq_true rfl, Nat.le_of_ble_eq_true rfl⟩

def f_X6_requireSubject (fu : Nat)  (σ : gSt) (x0 : Int32) : Option (Nat × Int32 × gSt) :=
  if x0 < 0 then (f_X6_requireSubject_b10 fu  σ) else (if x0 < (10 : Int32) then (some (0, 0, σ)) else (f_X6_requireSubject_b10 fu  σ))
set_option maxRecDepth 100000 in
theorem t_X6_requireSubject {fu : Nat}  {r : Nat × Int32 × gSt} (hC : gCx p s m args meth c cX6_requireSubject 1 RX6 none E) (hX : ∀ x ∈ c.exceptionTable.toList, False) (hflag : l.stackTraces = false)  {σ : gSt} {x0 : Int32}  (hf : f_X6_requireSubject fu  σ x0 = some r) : G p l e rm_X6_requireSubject s m args below meth c 1 0 0 (vx_MQ below (gQX E w 0 r) (gXC E w r) args s rm_X6_requireSubject.cells rm_X6_requireSubject.slots (fun q => eB E ≤ q)) E w σ 0 [(0, .int x0)] [] := by
  unfold f_X6_requireSubject at hf
  refine G_iload_n (q := 1) hC dX6_requireSubject_0 rfl rfl ?_
  refine G_if_lt (tgt := 10) (q := 4) hC dX6_requireSubject_1 (by decide) rfl (fun c0 => ?_) (fun c0 => ?_)
  · have hf := (if_pos c0).symm.trans hf
    refine G_lv (lv' := []) [] rfl ?_
    exact t_X6_requireSubject_b10 hC hX hflag   hf
  · have hf := (if_neg c0).symm.trans hf
    refine G_iload_n (q := 5) hC dX6_requireSubject_4 rfl rfl ?_
    refine G_bipush (q := 7) hC dX6_requireSubject_5 rfl bp_10 ?_
    refine G_icmp_lt (tgt := 21) (q := 10) hC dX6_requireSubject_7 (by decide) rfl (fun c1 => ?_) (fun c1 => ?_)
    · have hf := (if_pos c1).symm.trans hf
      exact G_vretX hC hf rfl (Nat.le_of_ble_eq_true rfl) (Nat.le_of_ble_eq_true rfl) dX6_requireSubject_21
    · have hf := (if_neg c1).symm.trans hf
      refine G_lv (lv' := []) [] rfl ?_
      exact t_X6_requireSubject_b10 hC hX hflag   hf

theorem m_X6_requireSubject {l : Launch} {fu : Nat} {E : gE} {w : Nat → Int64} {σ : gSt} {x0 : Int32} {r : Nat × Int32 × gSt} (hflag : l.stackTraces = false)  (hf : f_X6_requireSubject fu σ x0 = some r) : gMX l yX6_requireSubject cX6_requireSubject 1 none rm_X6_requireSubject 0 E w σ [.int x0] r :=
  gMX_of (by decide +kernel) (Nat.le_of_ble_eq_true rfl) (fun p e s m args below meth c hC hX => t_X6_requireSubject hC hX hflag  hf)
def f_X6_article_b14 (fu : Nat)  (σ : gSt)  : Option (Nat × Int32 × gSt) :=
  some (1, 0, σ)
set_option maxRecDepth 100000 in
theorem t_X6_article_b14 {fu : Nat}  {r : Nat × Int32 × gSt} (hC : gCx p s m args meth c cX6_article 4 RX6 (some .int) E) (hX : ∀ x ∈ c.exceptionTable.toList, False) (hflag : l.stackTraces = false)  {σ : gSt}   (hf : f_X6_article_b14 fu  σ  = some r) : G p l e rm_X6_article s m args below meth c 4 1 6 (vx_MQ below (gQX E w 1 r) (gXC E w r) args s rm_X6_article.cells rm_X6_article.slots (fun q => eB E ≤ q)) E w σ 14 [] [] := by
  unfold f_X6_article_b14 at hf
  exact G_throw hC hX hflag (text := "worth out of range") hf (by decide) (by decide +kernel) (wall (by decide +kernel) rfl) (wall (by decide +kernel) rfl) (by decide) thA1 thB1 dX6_article_14 dX6_article_17 dX6_article_18 dX6_article_20 dX6_article_23 (Nat.le_of_ble_eq_true rfl) (Nat.le_of_ble_eq_true rfl) ⟨Nat.le_of_ble_eq_true rfl, Nat.le_of_ble_eq_true rfl⟩ ⟨Nat.le_of_ble_eq_true rfl, Nat.le_of_ble_eq_true rfl⟩

def f_X6_article_b43 (fu : Nat)  (σ : gSt)  : Option (Nat × Int32 × gSt) :=
  some (2, 0, σ)
set_option maxRecDepth 100000 in
theorem t_X6_article_b43 {fu : Nat}  {r : Nat × Int32 × gSt} (hC : gCx p s m args meth c cX6_article 4 RX6 (some .int) E) (hX : ∀ x ∈ c.exceptionTable.toList, False) (hflag : l.stackTraces = false)  {σ : gSt}   (hf : f_X6_article_b43 fu  σ  = some r) : G p l e rm_X6_article s m args below meth c 4 1 6 (vx_MQ below (gQX E w 1 r) (gXC E w r) args s rm_X6_article.cells rm_X6_article.slots (fun q => eB E ≤ q)) E w σ 43 [] [] := by
  unfold f_X6_article_b43 at hf
  exact G_throw hC hX hflag (text := "no more articles, or no letter in the draft") hf (by decide) (by decide +kernel) (wall (by decide +kernel) rfl) (wall (by decide +kernel) rfl) (by decide) thA2 thB2 dX6_article_43 dX6_article_46 dX6_article_47 dX6_article_49 dX6_article_52 (Nat.le_of_ble_eq_true rfl) (Nat.le_of_ble_eq_true rfl) ⟨Nat.le_of_ble_eq_true rfl, Nat.le_of_ble_eq_true rfl⟩ ⟨Nat.le_of_ble_eq_true rfl, Nat.le_of_ble_eq_true rfl⟩

def f_X6_article (fu : Nat)  (σ : gSt) (x1 : Int32) (x2 : Int32) : Option (Nat × Int32 × gSt) :=
  bx (f_X6_requireSubject fu σ x1) (fun _ σ1 => if x2 < 0 then (f_X6_article_b14 fu  σ1) else (if x2 ≤ (9 : Int32) then (if (24 : Int32) ≤ (σ1 156 0 0) then (f_X6_article_b43 fu  σ1) else (bd (f_X3_hasLetter fu σ1 120) (fun v5 σ5 => if v5 = 0 then (f_X6_article_b43 fu  σ5) else (gd (inb (σ5 156 0 0) 24) (bd (f_X3_take fu (gU (gU σ5 5 ((σ5 156 0 0).toNatClampNeg) 0 x1) 6 ((σ5 156 0 0).toNatClampNeg) 0 x2) ((σ5 156 0 0).toNatClampNeg) 120) (fun _ σ7 => some (0, (σ7 156 0 0), (gU σ7 156 0 0 ((σ7 156 0 0) + (1 : Int32)))))))))) else (f_X6_article_b14 fu  σ1)))
set_option maxRecDepth 100000 in
theorem t_X6_article {fu : Nat}  {r : Nat × Int32 × gSt} (hC : gCx p s m args meth c cX6_article 4 RX6 (some .int) E) (hX : ∀ x ∈ c.exceptionTable.toList, False) (hflag : l.stackTraces = false)  {σ : gSt} {x1 : Int32} {x2 : Int32}  (hf : f_X6_article fu  σ x1 x2 = some r) : G p l e rm_X6_article s m args below meth c 4 0 0 (vx_MQ below (gQX E w 1 r) (gXC E w r) args s rm_X6_article.cells rm_X6_article.slots (fun q => eB E ≤ q)) E w σ 0 [(0, .ref (eB E + 0)), (1, .int x1), (2, .int x2)] [] := by
  unfold f_X6_article at hf
  refine G_iload_n (q := 1) hC dX6_article_0 rfl rfl ?_
  obtain ⟨z1, hm1, hf, hx1⟩ := bx_ok hf
  refine cl_RX6_83 (q := 4) hC dX6_article_1 rfl hX (m_X6_requireSubject hflag hm1) ⟨Nat.le_of_ble_eq_true rfl, Nat.le_of_ble_eq_true rfl⟩ (Nat.le_of_ble_eq_true rfl) ⟨Nat.le_of_ble_eq_true rfl, Nat.le_of_ble_eq_true rfl⟩ ⟨Nat.le_of_ble_eq_true rfl, Nat.le_of_ble_eq_true rfl⟩ hx1 (fun z0 => ?_)
  have hf := hf z0
  obtain ⟨v1, ev1⟩ : ∃ y, y = z1.2.1 := ⟨_, rfl⟩
  obtain ⟨σ1, eσ1⟩ : ∃ y, y = z1.2.2 := ⟨_, rfl⟩
  rw [← eσ1] at hf ⊢
  refine G_widen (k := 1) (n := 6) (Nat.le_of_ble_eq_true rfl) (Nat.le_of_ble_eq_true rfl) ?_
  refine G_iload_n (q := 5) hC dX6_article_4 rfl rfl ?_
  refine G_if_lt (tgt := 14) (q := 8) hC dX6_article_5 (by decide) rfl (fun c1 => ?_) (fun c1 => ?_)
  · have hf := (if_pos c1).symm.trans hf
    refine G_lv (lv' := []) [] rfl ?_
    exact t_X6_article_b14 hC hX hflag   hf
  · have hf := (if_neg c1).symm.trans hf
    refine G_iload_n (q := 9) hC dX6_article_8 rfl rfl ?_
    refine G_bipush (q := 11) hC dX6_article_9 rfl bp_9 ?_
    refine G_icmp_le (tgt := 24) (q := 14) hC dX6_article_11 (by decide) rfl (fun c2 => ?_) (fun c2 => ?_)
    · have hf := (if_pos c2).symm.trans hf
      refine G_aload_n (q := 25) hC dX6_article_24 rfl rfl ?_
      refine gf_RX6_89 (q := 28) hC dX6_article_25 rfl ?_
      refine G_bipush (q := 30) hC dX6_article_28 rfl bp_24 ?_
      refine G_icmp_ge (tgt := 43) (q := 33) hC dX6_article_30 (by decide) rfl (fun c3 => ?_) (fun c3 => ?_)
      · have hf := (if_pos c3).symm.trans hf
        refine G_lv (lv' := []) [] rfl ?_
        exact t_X6_article_b43 hC hX hflag   hf
      · have hf := (if_neg c3).symm.trans hf
        refine G_aload_n (q := 34) hC dX6_article_33 rfl rfl ?_
        refine gf_RX6_10 (q := 37) hC dX6_article_34 rfl ?_
        obtain ⟨v5, σ5, hm5, hf⟩ := bd_ok hf
        refine cl_RX6_92 (q := 40) hC dX6_article_37 rfl (m_X3_hasLetter hwD hm5) hwD ⟨Nat.le_of_ble_eq_true rfl, Nat.le_of_ble_eq_true rfl⟩ (Nat.le_of_ble_eq_true rfl) ⟨Nat.le_of_ble_eq_true rfl, Nat.le_of_ble_eq_true rfl⟩ ?_
        refine G_if_ne (tgt := 53) (q := 43) hC dX6_article_40 (by decide) rfl (fun c5 => ?_) (fun c5 => ?_)
        · have hf := (if_neg c5).symm.trans hf
          refine G_aload_n (q := 54) hC dX6_article_53 rfl rfl ?_
          refine gf_RX6_18 (q := 57) hC dX6_article_54 rfl ?_
          refine G_aload_n (q := 58) hC dX6_article_57 rfl rfl ?_
          refine gf_RX6_89 (q := 61) hC dX6_article_58 rfl ?_
          obtain ⟨g1, hf⟩ := gd_ok hf
          refine G_aldArt (q := 62) hC dX6_article_61 rfl g1 ?_
          refine G_astore_n (q := 63) (lv' := [(3, .ref (eB E + oArt ((σ5 156 0 0).toNatClampNeg))), (0, .ref (eB E + 0)), (1, .int x1), (2, .int x2)]) hC dX6_article_62 rfl (by decide) rfl ?_
          refine G_aload_n (q := 64) hC dX6_article_63 rfl rfl ?_
          refine G_iload_n (q := 65) hC dX6_article_64 rfl rfl ?_
          refine pf_RX6_98 (q := 68) hC dX6_article_65 rfl (inb_lt g1) ?_
          refine G_aload_n (q := 69) hC dX6_article_68 rfl rfl ?_
          refine G_iload_n (q := 70) hC dX6_article_69 rfl rfl ?_
          refine pf_RX6_101 (q := 73) hC dX6_article_70 rfl (inb_lt g1) ?_
          refine G_aload_n (q := 74) hC dX6_article_73 rfl rfl ?_
          refine gf_RX6_104 (q := 77) hC dX6_article_74 rfl (inb_lt g1) ?_
          refine G_aload_n (q := 78) hC dX6_article_77 rfl rfl ?_
          refine gf_RX6_10 (q := 81) hC dX6_article_78 rfl ?_
          obtain ⟨v7, σ7, hm7, hf⟩ := bd_ok hf
          refine cl_RX6_107 (q := 84) hC dX6_article_81 rfl (m_X3_take (hwA (inb_lt g1)) hwD hm7) (hwA (inb_lt g1)) ⟨Nat.le_of_ble_eq_true rfl, Nat.le_of_ble_eq_true rfl⟩ (Nat.le_of_ble_eq_true rfl) ⟨Nat.le_of_ble_eq_true rfl, Nat.le_of_ble_eq_true rfl⟩ ?_
          refine G_aload_n (q := 85) hC dX6_article_84 rfl rfl ?_
          refine G_dup (q := 86) hC dX6_article_85 rfl rfl ?_
          refine gf_RX6_89 (q := 89) hC dX6_article_86 rfl ?_
          refine G_dup_x1 (q := 90) hC dX6_article_89 rfl rfl rfl ?_
          refine G_iconst (q := 91) hC dX6_article_90 rfl ic_1 ?_
          refine G_iadd (q := 92) hC dX6_article_91 rfl ?_
          refine pf_RX6_89 (q := 95) hC dX6_article_92 rfl ?_
          exact G_iretX hC hf rfl rfl (Nat.le_of_ble_eq_true rfl) (Nat.le_of_ble_eq_true rfl) dX6_article_95
        · have hf := (if_pos c5).symm.trans hf
          refine G_lv (lv' := []) [] rfl ?_
          exact t_X6_article_b43 hC hX hflag   hf
    · have hf := (if_neg c2).symm.trans hf
      refine G_lv (lv' := []) [] rfl ?_
      exact t_X6_article_b14 hC hX hflag   hf

theorem m_X6_article {l : Launch} {fu : Nat} {E : gE} {w : Nat → Int64} {σ : gSt} {x1 : Int32} {x2 : Int32} {r : Nat × Int32 × gSt} (hflag : l.stackTraces = false)  (hf : f_X6_article fu σ x1 x2 = some r) : gMX l yX6_article cX6_article 4 (some .int) rm_X6_article 1 E w σ [.ref (eB E + 0), .int x1, .int x2] r :=
  gMX_of (by decide +kernel) (Nat.le_of_ble_eq_true rfl) (fun p e s m args below meth c hC hX => t_X6_article hC hX hflag  hf)
def f_X6_under_b13 (fu : Nat)  (σ : gSt) (x1 : Int32) (x2 : Int32) : Option (Nat × Int32 × gSt) :=
  if x2 < x1 then (gd (inb x1 10) (gd (inb x1 10) (some (0, (σ 154 0 x1.toNatClampNeg), (gU σ 154 0 x1.toNatClampNeg x2))))) else (some (1, 0, σ))
set_option maxRecDepth 100000 in
theorem t_X6_under_b13 {fu : Nat}  {r : Nat × Int32 × gSt} (hC : gCx p s m args meth c cX6_under 4 RX6 (some .int) E) (hX : ∀ x ∈ c.exceptionTable.toList, False) (hflag : l.stackTraces = false)  {σ : gSt} {x1 : Int32} {x2 : Int32}  (hf : f_X6_under_b13 fu  σ x1 x2 = some r) : G p l e rm_X6_under s m args below meth c 4 2 12 (vx_MQ below (gQX E w 1 r) (gXC E w r) args s rm_X6_under.cells rm_X6_under.slots (fun q => eB E ≤ q)) E w σ 13 [(0, .ref (eB E + 0)), (1, .int x1), (2, .int x2)] [] := by
  unfold f_X6_under_b13 at hf
  refine G_iload_n (q := 14) hC dX6_under_13 rfl rfl ?_
  refine G_iload_n (q := 15) hC dX6_under_14 rfl rfl ?_
  refine G_icmp_lt (tgt := 28) (q := 18) hC dX6_under_15 (by decide) rfl (fun c0 => ?_) (fun c0 => ?_)
  · have hf := (if_pos c0).symm.trans hf
    refine G_aload_n (q := 29) hC dX6_under_28 rfl rfl ?_
    refine gf_RX6_34 (q := 32) hC dX6_under_29 rfl ?_
    refine G_iload_n (q := 33) hC dX6_under_32 rfl rfl ?_
    obtain ⟨g1, hf⟩ := gd_ok hf
    refine G_iald (q := 34) hC dX6_under_33 rfl (ok_154 g1) ?_
    refine G_istore_n (q := 35) (lv' := [(3, .int (σ 154 0 x1.toNatClampNeg)), (0, .ref (eB E + 0)), (1, .int x1), (2, .int x2)]) hC dX6_under_34 rfl (by decide) rfl ?_
    refine G_aload_n (q := 36) hC dX6_under_35 rfl rfl ?_
    refine gf_RX6_34 (q := 39) hC dX6_under_36 rfl ?_
    refine G_iload_n (q := 40) hC dX6_under_39 rfl rfl ?_
    refine G_iload_n (q := 41) hC dX6_under_40 rfl rfl ?_
    obtain ⟨g2, hf⟩ := gd_ok hf
    refine G_iast (q := 42) hC dX6_under_41 rfl (ok_154 g2) ?_
    refine G_iload_n (q := 43) hC dX6_under_42 rfl rfl ?_
    exact G_iretX hC hf rfl rfl (Nat.le_of_ble_eq_true rfl) (Nat.le_of_ble_eq_true rfl) dX6_under_43
  · have hf := (if_neg c0).symm.trans hf
    exact G_throw hC hX hflag (text := "not below the subject") hf (by decide) (by decide +kernel) (wall (by decide +kernel) rfl) (wall (by decide +kernel) rfl) (by decide) thA1 thB1 dX6_under_18 dX6_under_21 dX6_under_22 dX6_under_24 dX6_under_27 (Nat.le_of_ble_eq_true rfl) (Nat.le_of_ble_eq_true rfl) ⟨Nat.le_of_ble_eq_true rfl, Nat.le_of_ble_eq_true rfl⟩ ⟨Nat.le_of_ble_eq_true rfl, Nat.le_of_ble_eq_true rfl⟩

def f_X6_under (fu : Nat)  (σ : gSt) (x1 : Int32) (x2 : Int32) : Option (Nat × Int32 × gSt) :=
  bx (f_X6_requireSubject fu σ x1) (fun _ σ1 => if x2 = (-1 : Int32) then (f_X6_under_b13 fu  σ1 x1 x2) else (bx (f_X6_requireSubject fu σ1 x2) (fun _ σ3 => f_X6_under_b13 fu  σ3 x1 x2)))
set_option maxRecDepth 100000 in
theorem t_X6_under {fu : Nat}  {r : Nat × Int32 × gSt} (hC : gCx p s m args meth c cX6_under 4 RX6 (some .int) E) (hX : ∀ x ∈ c.exceptionTable.toList, False) (hflag : l.stackTraces = false)  {σ : gSt} {x1 : Int32} {x2 : Int32}  (hf : f_X6_under fu  σ x1 x2 = some r) : G p l e rm_X6_under s m args below meth c 4 0 0 (vx_MQ below (gQX E w 1 r) (gXC E w r) args s rm_X6_under.cells rm_X6_under.slots (fun q => eB E ≤ q)) E w σ 0 [(0, .ref (eB E + 0)), (1, .int x1), (2, .int x2)] [] := by
  unfold f_X6_under at hf
  refine G_iload_n (q := 1) hC dX6_under_0 rfl rfl ?_
  obtain ⟨z1, hm1, hf, hx1⟩ := bx_ok hf
  refine cl_RX6_83 (q := 4) hC dX6_under_1 rfl hX (m_X6_requireSubject hflag hm1) ⟨Nat.le_of_ble_eq_true rfl, Nat.le_of_ble_eq_true rfl⟩ (Nat.le_of_ble_eq_true rfl) ⟨Nat.le_of_ble_eq_true rfl, Nat.le_of_ble_eq_true rfl⟩ ⟨Nat.le_of_ble_eq_true rfl, Nat.le_of_ble_eq_true rfl⟩ hx1 (fun z0 => ?_)
  have hf := hf z0
  obtain ⟨v1, ev1⟩ : ∃ y, y = z1.2.1 := ⟨_, rfl⟩
  obtain ⟨σ1, eσ1⟩ : ∃ y, y = z1.2.2 := ⟨_, rfl⟩
  rw [← eσ1] at hf ⊢
  refine G_widen (k := 1) (n := 6) (Nat.le_of_ble_eq_true rfl) (Nat.le_of_ble_eq_true rfl) ?_
  refine G_iload_n (q := 5) hC dX6_under_4 rfl rfl ?_
  refine G_iconst (q := 6) hC dX6_under_5 rfl ic_m1 ?_
  refine G_icmp_eq (tgt := 13) (q := 9) hC dX6_under_6 (by decide) rfl (fun c1 => ?_) (fun c1 => ?_)
  · have hf := (if_pos c1).symm.trans hf
    refine G_widen (k := 2) (n := 12) (Nat.le_of_ble_eq_true rfl) (Nat.le_of_ble_eq_true rfl) ?_
    exact t_X6_under_b13 hC hX hflag   hf
  · have hf := (if_neg c1).symm.trans hf
    refine G_iload_n (q := 10) hC dX6_under_9 rfl rfl ?_
    obtain ⟨z3, hm3, hf, hx3⟩ := bx_ok hf
    refine cl_RX6_83 (q := 13) hC dX6_under_10 rfl hX (m_X6_requireSubject hflag hm3) ⟨Nat.le_of_ble_eq_true rfl, Nat.le_of_ble_eq_true rfl⟩ (Nat.le_of_ble_eq_true rfl) ⟨Nat.le_of_ble_eq_true rfl, Nat.le_of_ble_eq_true rfl⟩ ⟨Nat.le_of_ble_eq_true rfl, Nat.le_of_ble_eq_true rfl⟩ hx3 (fun z0 => ?_)
    have hf := hf z0
    obtain ⟨v3, ev3⟩ : ∃ y, y = z3.2.1 := ⟨_, rfl⟩
    obtain ⟨σ3, eσ3⟩ : ∃ y, y = z3.2.2 := ⟨_, rfl⟩
    rw [← eσ3] at hf ⊢
    refine G_widen (k := 2) (n := 12) (Nat.le_of_ble_eq_true rfl) (Nat.le_of_ble_eq_true rfl) ?_
    exact t_X6_under_b13 hC hX hflag   hf

theorem m_X6_under {l : Launch} {fu : Nat} {E : gE} {w : Nat → Int64} {σ : gSt} {x1 : Int32} {x2 : Int32} {r : Nat × Int32 × gSt} (hflag : l.stackTraces = false)  (hf : f_X6_under fu σ x1 x2 = some r) : gMX l yX6_under cX6_under 4 (some .int) rm_X6_under 1 E w σ [.ref (eB E + 0), .int x1, .int x2] r :=
  gMX_of (by decide +kernel) (Nat.le_of_ble_eq_true rfl) (fun p e s m args below meth c hC hX => t_X6_under hC hX hflag  hf)
def f_X6_requireArticle_b12 (fu : Nat)  (σ : gSt)  : Option (Nat × Int32 × gSt) :=
  some (3, 0, σ)
set_option maxRecDepth 100000 in
theorem t_X6_requireArticle_b12 {fu : Nat}  {r : Nat × Int32 × gSt} (hC : gCx p s m args meth c cX6_requireArticle 2 RX6 none E) (hX : ∀ x ∈ c.exceptionTable.toList, False) (hflag : l.stackTraces = false)  {σ : gSt}   (hf : f_X6_requireArticle_b12 fu  σ  = some r) : G p l e rm_X6_requireArticle s m args below meth c 2 0 0 (vx_MQ below (gQX E w 0 r) (gXC E w r) args s rm_X6_requireArticle.cells rm_X6_requireArticle.slots (fun q => eB E ≤ q)) E w σ 12 [] [] := by
  unfold f_X6_requireArticle_b12 at hf
  exact G_throwW hC hX hflag (text := "no such article") hf (by decide) (by decide +kernel) (wall (by decide +kernel) rfl) (wall (by decide +kernel) rfl) (by decide) thA3 thB3 dX6_requireArticle_12 dX6_requireArticle_15 dX6_requireArticle_16 dX6_requireArticle_19 dX6_requireArticle_22 (Nat.le_of_ble_eq_true rfl) (Nat.le_of_ble_eq_true rfl) ⟨Nat.le_of_ble_eq_true rfl, Nat.le_of_ble_eq_true rfl⟩ ⟨Nat.le_of_ble_eq_true rfl, Nat.le_of_ble_eq_true rfl⟩

def f_X6_requireArticle (fu : Nat)  (σ : gSt) (x1 : Int32) : Option (Nat × Int32 × gSt) :=
  if x1 < 0 then (f_X6_requireArticle_b12 fu  σ) else (if x1 < (σ 156 0 0) then (some (0, 0, σ)) else (f_X6_requireArticle_b12 fu  σ))
set_option maxRecDepth 100000 in
theorem t_X6_requireArticle {fu : Nat}  {r : Nat × Int32 × gSt} (hC : gCx p s m args meth c cX6_requireArticle 2 RX6 none E) (hX : ∀ x ∈ c.exceptionTable.toList, False) (hflag : l.stackTraces = false)  {σ : gSt} {x1 : Int32}  (hf : f_X6_requireArticle fu  σ x1 = some r) : G p l e rm_X6_requireArticle s m args below meth c 2 0 0 (vx_MQ below (gQX E w 0 r) (gXC E w r) args s rm_X6_requireArticle.cells rm_X6_requireArticle.slots (fun q => eB E ≤ q)) E w σ 0 [(0, .ref (eB E + 0)), (1, .int x1)] [] := by
  unfold f_X6_requireArticle at hf
  refine G_iload_n (q := 1) hC dX6_requireArticle_0 rfl rfl ?_
  refine G_if_lt (tgt := 12) (q := 4) hC dX6_requireArticle_1 (by decide) rfl (fun c0 => ?_) (fun c0 => ?_)
  · have hf := (if_pos c0).symm.trans hf
    refine G_lv (lv' := []) [] rfl ?_
    exact t_X6_requireArticle_b12 hC hX hflag   hf
  · have hf := (if_neg c0).symm.trans hf
    refine G_iload_n (q := 5) hC dX6_requireArticle_4 rfl rfl ?_
    refine G_aload_n (q := 6) hC dX6_requireArticle_5 rfl rfl ?_
    refine gf_RX6_89 (q := 9) hC dX6_requireArticle_6 rfl ?_
    refine G_icmp_lt (tgt := 23) (q := 12) hC dX6_requireArticle_9 (by decide) rfl (fun c1 => ?_) (fun c1 => ?_)
    · have hf := (if_pos c1).symm.trans hf
      exact G_vretX hC hf rfl (Nat.le_of_ble_eq_true rfl) (Nat.le_of_ble_eq_true rfl) dX6_requireArticle_23
    · have hf := (if_neg c1).symm.trans hf
      refine G_lv (lv' := []) [] rfl ?_
      exact t_X6_requireArticle_b12 hC hX hflag   hf

theorem m_X6_requireArticle {l : Launch} {fu : Nat} {E : gE} {w : Nat → Int64} {σ : gSt} {x1 : Int32} {r : Nat × Int32 × gSt} (hflag : l.stackTraces = false)  (hf : f_X6_requireArticle fu σ x1 = some r) : gMX l yX6_requireArticle cX6_requireArticle 2 none rm_X6_requireArticle 0 E w σ [.ref (eB E + 0), .int x1] r :=
  gMX_of (by decide +kernel) (Nat.le_of_ble_eq_true rfl) (fun p e s m args below meth c hC hX => t_X6_requireArticle hC hX hflag  hf)
def f_X6_refer_b37 (fu : Nat)  (σ : gSt)  : Option (Nat × Int32 × gSt) :=
  some (2, 0, σ)
set_option maxRecDepth 100000 in
theorem t_X6_refer_b37 {fu : Nat}  {r : Nat × Int32 × gSt} (hC : gCx p s m args meth c cX6_refer 3 RX6 (some .int) E) (hX : ∀ x ∈ c.exceptionTable.toList, False) (hflag : l.stackTraces = false)  {σ : gSt}   (hf : f_X6_refer_b37 fu  σ  = some r) : G p l e rm_X6_refer s m args below meth c 3 1 6 (vx_MQ below (gQX E w 1 r) (gXC E w r) args s rm_X6_refer.cells rm_X6_refer.slots (fun q => eB E ≤ q)) E w σ 37 [] [] := by
  unfold f_X6_refer_b37 at hf
  exact G_throw hC hX hflag (text := "printed, full, or no letter in the draft") hf (by decide) (by decide +kernel) (wall (by decide +kernel) rfl) (wall (by decide +kernel) rfl) (by decide) thA2 thB2 dX6_refer_37 dX6_refer_40 dX6_refer_41 dX6_refer_43 dX6_refer_46 (Nat.le_of_ble_eq_true rfl) (Nat.le_of_ble_eq_true rfl) ⟨Nat.le_of_ble_eq_true rfl, Nat.le_of_ble_eq_true rfl⟩ ⟨Nat.le_of_ble_eq_true rfl, Nat.le_of_ble_eq_true rfl⟩

def f_X6_refer (fu : Nat)  (σ : gSt) (x1 : Int32) : Option (Nat × Int32 × gSt) :=
  bx (f_X6_requireArticle fu σ x1) (fun _ σ1 => gd (inb x1 24) (if (σ1 11 (x1.toNatClampNeg) 0) = 0 then (if (4 : Int32) ≤ (σ1 4 (x1.toNatClampNeg) 0) then (f_X6_refer_b37 fu  σ1) else (bd (f_X3_hasLetter fu σ1 120) (fun v4 σ4 => if v4 = 0 then (f_X6_refer_b37 fu  σ4) else (gd (inb (σ4 4 (x1.toNatClampNeg) 0) 4) (bd (f_X3_take fu σ4 (24 + (4 * (x1.toNatClampNeg) + (σ4 4 (x1.toNatClampNeg) 0).toNatClampNeg)) 120) (fun _ σ6 => some (0, ((gU σ6 4 (x1.toNatClampNeg) 0 ((σ6 4 (x1.toNatClampNeg) 0) + (1 : Int32))) 4 (x1.toNatClampNeg) 0), (gU σ6 4 (x1.toNatClampNeg) 0 ((σ6 4 (x1.toNatClampNeg) 0) + (1 : Int32)))))))))) else (f_X6_refer_b37 fu  σ1)))
set_option maxRecDepth 100000 in
theorem t_X6_refer {fu : Nat}  {r : Nat × Int32 × gSt} (hC : gCx p s m args meth c cX6_refer 3 RX6 (some .int) E) (hX : ∀ x ∈ c.exceptionTable.toList, False) (hflag : l.stackTraces = false)  {σ : gSt} {x1 : Int32}  (hf : f_X6_refer fu  σ x1 = some r) : G p l e rm_X6_refer s m args below meth c 3 0 0 (vx_MQ below (gQX E w 1 r) (gXC E w r) args s rm_X6_refer.cells rm_X6_refer.slots (fun q => eB E ≤ q)) E w σ 0 [(0, .ref (eB E + 0)), (1, .int x1)] [] := by
  unfold f_X6_refer at hf
  refine G_aload_n (q := 1) hC dX6_refer_0 rfl rfl ?_
  refine G_iload_n (q := 2) hC dX6_refer_1 rfl rfl ?_
  obtain ⟨z1, hm1, hf, hx1⟩ := bx_ok hf
  refine cl_RX6_113 (q := 5) hC dX6_refer_2 rfl hX (m_X6_requireArticle hflag hm1) ⟨Nat.le_of_ble_eq_true rfl, Nat.le_of_ble_eq_true rfl⟩ (Nat.le_of_ble_eq_true rfl) ⟨Nat.le_of_ble_eq_true rfl, Nat.le_of_ble_eq_true rfl⟩ ⟨Nat.le_of_ble_eq_true rfl, Nat.le_of_ble_eq_true rfl⟩ hx1 (fun z0 => ?_)
  have hf := hf z0
  obtain ⟨v1, ev1⟩ : ∃ y, y = z1.2.1 := ⟨_, rfl⟩
  obtain ⟨σ1, eσ1⟩ : ∃ y, y = z1.2.2 := ⟨_, rfl⟩
  rw [← eσ1] at hf ⊢
  refine G_widen (k := 1) (n := 6) (Nat.le_of_ble_eq_true rfl) (Nat.le_of_ble_eq_true rfl) ?_
  refine G_aload_n (q := 6) hC dX6_refer_5 rfl rfl ?_
  refine gf_RX6_18 (q := 9) hC dX6_refer_6 rfl ?_
  refine G_iload_n (q := 10) hC dX6_refer_9 rfl rfl ?_
  obtain ⟨g1, hf⟩ := gd_ok hf
  refine G_aldArt (q := 11) hC dX6_refer_10 rfl g1 ?_
  refine G_astore_n (q := 12) (lv' := [(2, .ref (eB E + oArt (x1.toNatClampNeg))), (0, .ref (eB E + 0)), (1, .int x1)]) hC dX6_refer_11 rfl (by decide) rfl ?_
  refine G_aload_n (q := 13) hC dX6_refer_12 rfl rfl ?_
  refine gf_RX6_116 (q := 16) hC dX6_refer_13 rfl (inb_lt g1) ?_
  refine G_if_ne (tgt := 37) (q := 19) hC dX6_refer_16 (by decide) rfl (fun c1 => ?_) (fun c1 => ?_)
  · have hf := (if_neg c1).symm.trans hf
    refine G_lv (lv' := []) [] rfl ?_
    exact t_X6_refer_b37 hC hX hflag   hf
  · have hf := (if_pos c1).symm.trans hf
    refine G_aload_n (q := 20) hC dX6_refer_19 rfl rfl ?_
    refine gf_RX6_119 (q := 23) hC dX6_refer_20 rfl (inb_lt g1) ?_
    refine G_iconst (q := 24) hC dX6_refer_23 rfl ic_4 ?_
    refine G_icmp_ge (tgt := 37) (q := 27) hC dX6_refer_24 (by decide) rfl (fun c2 => ?_) (fun c2 => ?_)
    · have hf := (if_pos c2).symm.trans hf
      refine G_lv (lv' := []) [] rfl ?_
      exact t_X6_refer_b37 hC hX hflag   hf
    · have hf := (if_neg c2).symm.trans hf
      refine G_aload_n (q := 28) hC dX6_refer_27 rfl rfl ?_
      refine gf_RX6_10 (q := 31) hC dX6_refer_28 rfl ?_
      obtain ⟨v4, σ4, hm4, hf⟩ := bd_ok hf
      refine cl_RX6_92 (q := 34) hC dX6_refer_31 rfl (m_X3_hasLetter hwD hm4) hwD ⟨Nat.le_of_ble_eq_true rfl, Nat.le_of_ble_eq_true rfl⟩ (Nat.le_of_ble_eq_true rfl) ⟨Nat.le_of_ble_eq_true rfl, Nat.le_of_ble_eq_true rfl⟩ ?_
      refine G_if_ne (tgt := 47) (q := 37) hC dX6_refer_34 (by decide) rfl (fun c4 => ?_) (fun c4 => ?_)
      · have hf := (if_neg c4).symm.trans hf
        refine G_aload_n (q := 48) hC dX6_refer_47 rfl rfl ?_
        refine gf_RX6_124 (q := 51) hC dX6_refer_48 rfl (inb_lt g1) ?_
        refine G_aload_n (q := 52) hC dX6_refer_51 rfl rfl ?_
        refine gf_RX6_119 (q := 55) hC dX6_refer_52 rfl (inb_lt g1) ?_
        obtain ⟨g2, hf⟩ := gd_ok hf
        refine G_aldRef (q := 56) hC dX6_refer_55 rfl (inb_lt g1) g2 ?_
        refine gf_RX6_128 (q := 59) hC dX6_refer_56 rfl (refB (inb_lt g1) g2) ?_
        refine G_aload_n (q := 60) hC dX6_refer_59 rfl rfl ?_
        refine gf_RX6_10 (q := 63) hC dX6_refer_60 rfl ?_
        obtain ⟨v6, σ6, hm6, hf⟩ := bd_ok hf
        refine cl_RX6_107 (q := 66) hC dX6_refer_63 rfl (m_X3_take (hwR (refB (inb_lt g1) g2)) hwD hm6) (hwR (refB (inb_lt g1) g2)) ⟨Nat.le_of_ble_eq_true rfl, Nat.le_of_ble_eq_true rfl⟩ (Nat.le_of_ble_eq_true rfl) ⟨Nat.le_of_ble_eq_true rfl, Nat.le_of_ble_eq_true rfl⟩ ?_
        refine G_aload_n (q := 67) hC dX6_refer_66 rfl rfl ?_
        refine G_dup (q := 68) hC dX6_refer_67 rfl rfl ?_
        refine gf_RX6_119 (q := 71) hC dX6_refer_68 rfl (inb_lt g1) ?_
        refine G_iconst (q := 72) hC dX6_refer_71 rfl ic_1 ?_
        refine G_iadd (q := 73) hC dX6_refer_72 rfl ?_
        refine pf_RX6_119 (q := 76) hC dX6_refer_73 rfl (inb_lt g1) ?_
        refine G_aload_n (q := 77) hC dX6_refer_76 rfl rfl ?_
        refine gf_RX6_119 (q := 80) hC dX6_refer_77 rfl (inb_lt g1) ?_
        exact G_iretX hC hf rfl rfl (Nat.le_of_ble_eq_true rfl) (Nat.le_of_ble_eq_true rfl) dX6_refer_80
      · have hf := (if_pos c4).symm.trans hf
        refine G_lv (lv' := []) [] rfl ?_
        exact t_X6_refer_b37 hC hX hflag   hf

theorem m_X6_refer {l : Launch} {fu : Nat} {E : gE} {w : Nat → Int64} {σ : gSt} {x1 : Int32} {r : Nat × Int32 × gSt} (hflag : l.stackTraces = false)  (hf : f_X6_refer fu σ x1 = some r) : gMX l yX6_refer cX6_refer 3 (some .int) rm_X6_refer 1 E w σ [.ref (eB E + 0), .int x1] r :=
  gMX_of (by decide +kernel) (Nat.le_of_ble_eq_true rfl) (fun p e s m args below meth c hC hX => t_X6_refer hC hX hflag  hf)
def f_X6_requireFact_b10 (fu : Nat)  (σ : gSt)  : Option (Nat × Int32 × gSt) :=
  some (3, 0, σ)
set_option maxRecDepth 100000 in
theorem t_X6_requireFact_b10 {fu : Nat}  {r : Nat × Int32 × gSt} (hC : gCx p s m args meth c cX6_requireFact 1 RX6 none E) (hX : ∀ x ∈ c.exceptionTable.toList, False) (hflag : l.stackTraces = false)  {σ : gSt}   (hf : f_X6_requireFact_b10 fu  σ  = some r) : G p l e rm_X6_requireFact s m args below meth c 1 0 0 (vx_MQ below (gQX E w 0 r) (gXC E w r) args s rm_X6_requireFact.cells rm_X6_requireFact.slots (fun q => eB E ≤ q)) E w σ 10 [] [] := by
  unfold f_X6_requireFact_b10 at hf
  exact G_throwW hC hX hflag (text := "no such fact") hf (by decide) (by decide +kernel) (wall (by decide +kernel) rfl) (wall (by decide +kernel) rfl) (by decide) thA3 thB3 dX6_requireFact_10 dX6_requireFact_13 dX6_requireFact_14 dX6_requireFact_17 dX6_requireFact_20 (Nat.le_of_ble_eq_true rfl) (Nat.le_of_ble_eq_true rfl) ⟨Nat.le_of_ble_eq_true rfl, Nat.le_of_ble_eq_true rfl⟩ ⟨Nat.le_of_ble_eq_true rfl, Nat.le_of_ble_eq_true rfl⟩

def f_X6_requireFact (fu : Nat)  (σ : gSt) (x0 : Int32) : Option (Nat × Int32 × gSt) :=
  if x0 < 0 then (f_X6_requireFact_b10 fu  σ) else (if x0 < (8 : Int32) then (some (0, 0, σ)) else (f_X6_requireFact_b10 fu  σ))
set_option maxRecDepth 100000 in
theorem t_X6_requireFact {fu : Nat}  {r : Nat × Int32 × gSt} (hC : gCx p s m args meth c cX6_requireFact 1 RX6 none E) (hX : ∀ x ∈ c.exceptionTable.toList, False) (hflag : l.stackTraces = false)  {σ : gSt} {x0 : Int32}  (hf : f_X6_requireFact fu  σ x0 = some r) : G p l e rm_X6_requireFact s m args below meth c 1 0 0 (vx_MQ below (gQX E w 0 r) (gXC E w r) args s rm_X6_requireFact.cells rm_X6_requireFact.slots (fun q => eB E ≤ q)) E w σ 0 [(0, .int x0)] [] := by
  unfold f_X6_requireFact at hf
  refine G_iload_n (q := 1) hC dX6_requireFact_0 rfl rfl ?_
  refine G_if_lt (tgt := 10) (q := 4) hC dX6_requireFact_1 (by decide) rfl (fun c0 => ?_) (fun c0 => ?_)
  · have hf := (if_pos c0).symm.trans hf
    refine G_lv (lv' := []) [] rfl ?_
    exact t_X6_requireFact_b10 hC hX hflag   hf
  · have hf := (if_neg c0).symm.trans hf
    refine G_iload_n (q := 5) hC dX6_requireFact_4 rfl rfl ?_
    refine G_bipush (q := 7) hC dX6_requireFact_5 rfl bp_8 ?_
    refine G_icmp_lt (tgt := 21) (q := 10) hC dX6_requireFact_7 (by decide) rfl (fun c1 => ?_) (fun c1 => ?_)
    · have hf := (if_pos c1).symm.trans hf
      exact G_vretX hC hf rfl (Nat.le_of_ble_eq_true rfl) (Nat.le_of_ble_eq_true rfl) dX6_requireFact_21
    · have hf := (if_neg c1).symm.trans hf
      refine G_lv (lv' := []) [] rfl ?_
      exact t_X6_requireFact_b10 hC hX hflag   hf

theorem m_X6_requireFact {l : Launch} {fu : Nat} {E : gE} {w : Nat → Int64} {σ : gSt} {x0 : Int32} {r : Nat × Int32 × gSt} (hflag : l.stackTraces = false)  (hf : f_X6_requireFact fu σ x0 = some r) : gMX l yX6_requireFact cX6_requireFact 1 none rm_X6_requireFact 0 E w σ [.int x0] r :=
  gMX_of (by decide +kernel) (Nat.le_of_ble_eq_true rfl) (fun p e s m args below meth c hC hX => t_X6_requireFact hC hX hflag  hf)
def f_X6_use_b30 (fu : Nat)  (σ : gSt)  : Option (Nat × Int32 × gSt) :=
  some (2, 0, σ)
set_option maxRecDepth 100000 in
theorem t_X6_use_b30 {fu : Nat}  {r : Nat × Int32 × gSt} (hC : gCx p s m args meth c cX6_use 5 RX6 (some .boolean) E) (hX : ∀ x ∈ c.exceptionTable.toList, False) (hflag : l.stackTraces = false)  {σ : gSt}   (hf : f_X6_use_b30 fu  σ  = some r) : G p l e rm_X6_use s m args below meth c 5 2 12 (vx_MQ below (gQX E w 1 r) (gXC E w r) args s rm_X6_use.cells rm_X6_use.slots (fun q => eB E ≤ q)) E w σ 30 [] [] := by
  unfold f_X6_use_b30 at hf
  exact G_throw hC hX hflag (text := "printed, or blind") hf (by decide) (by decide +kernel) (wall (by decide +kernel) rfl) (wall (by decide +kernel) rfl) (by decide) thA2 thB2 dX6_use_30 dX6_use_33 dX6_use_34 dX6_use_36 dX6_use_39 (Nat.le_of_ble_eq_true rfl) (Nat.le_of_ble_eq_true rfl) ⟨Nat.le_of_ble_eq_true rfl, Nat.le_of_ble_eq_true rfl⟩ ⟨Nat.le_of_ble_eq_true rfl, Nat.le_of_ble_eq_true rfl⟩

def f_X6_use_b54 (fu : Nat)  (σ : gSt) (x2 : Int32) (i3 : Nat) (xs0 : Int32) : Option (Nat × Int32 × gSt) :=
  gd (inb x2 8) (gd (b01 xs0) (some (0, xs0, (gU σ 2 i3 x2.toNatClampNeg (1 : Int32)))))
set_option maxRecDepth 100000 in
theorem t_X6_use_b54 {fu : Nat}  {r : Nat × Int32 × gSt} (hC : gCx p s m args meth c cX6_use 5 RX6 (some .boolean) E) (hX : ∀ x ∈ c.exceptionTable.toList, False) (hflag : l.stackTraces = false)  {σ : gSt} {x2 : Int32} {i3 : Nat} {xs0 : Int32} (h3 : i3 < 24) (hf : f_X6_use_b54 fu  σ x2 i3 xs0 = some r) : G p l e rm_X6_use s m args below meth c 5 2 12 (vx_MQ below (gQX E w 1 r) (gXC E w r) args s rm_X6_use.cells rm_X6_use.slots (fun q => eB E ≤ q)) E w σ 54 [(2, .int x2), (3, .ref (eB E + oArt i3))] [.int xs0] := by
  unfold f_X6_use_b54 at hf
  refine G_istore (q := 56) (lv' := [(4, .int xs0), (2, .int x2), (3, .ref (eB E + oArt i3))]) hC dX6_use_54 rfl (by decide) rfl ?_
  refine G_aload_n (q := 57) hC dX6_use_56 rfl rfl ?_
  refine gf_RX6_139 (q := 60) hC dX6_use_57 rfl h3 ?_
  refine G_iload_n (q := 61) hC dX6_use_60 rfl rfl ?_
  refine G_iconst (q := 62) hC dX6_use_61 rfl ic_1 ?_
  obtain ⟨g1, hf⟩ := gd_ok hf
  refine G_zast (q := 63) hC dX6_use_62 rfl (ok_2 h3 g1) rfl ?_
  refine G_iload (q := 65) hC dX6_use_63 rfl rfl ?_
  obtain ⟨g2, hf⟩ := gd_ok hf
  exact G_iretX hC hf rfl (b01_narrow g2) (Nat.le_of_ble_eq_true rfl) (Nat.le_of_ble_eq_true rfl) dX6_use_65

def f_X6_use (fu : Nat)  (σ : gSt) (x1 : Int32) (x2 : Int32) : Option (Nat × Int32 × gSt) :=
  bx (f_X6_requireArticle fu σ x1) (fun _ σ1 => bx (f_X6_requireFact fu σ1 x2) (fun _ σ2 => gd (inb x1 24) (if (σ2 11 (x1.toNatClampNeg) 0) = 0 then (bd (f_X0_isBlind fu σ2 (x1.toNatClampNeg)) (fun v4 σ4 => if v4 = 0 then (gd (inb x2 8) (if (σ4 2 (x1.toNatClampNeg) x2.toNatClampNeg) = 0 then (f_X6_use_b54 fu  σ4 x2 (x1.toNatClampNeg) (1 : Int32)) else (f_X6_use_b54 fu  σ4 x2 (x1.toNatClampNeg) (0 : Int32)))) else (f_X6_use_b30 fu  σ4))) else (f_X6_use_b30 fu  σ2))))
set_option maxRecDepth 100000 in
theorem t_X6_use {fu : Nat}  {r : Nat × Int32 × gSt} (hC : gCx p s m args meth c cX6_use 5 RX6 (some .boolean) E) (hX : ∀ x ∈ c.exceptionTable.toList, False) (hflag : l.stackTraces = false)  {σ : gSt} {x1 : Int32} {x2 : Int32}  (hf : f_X6_use fu  σ x1 x2 = some r) : G p l e rm_X6_use s m args below meth c 5 0 0 (vx_MQ below (gQX E w 1 r) (gXC E w r) args s rm_X6_use.cells rm_X6_use.slots (fun q => eB E ≤ q)) E w σ 0 [(0, .ref (eB E + 0)), (1, .int x1), (2, .int x2)] [] := by
  unfold f_X6_use at hf
  refine G_aload_n (q := 1) hC dX6_use_0 rfl rfl ?_
  refine G_iload_n (q := 2) hC dX6_use_1 rfl rfl ?_
  obtain ⟨z1, hm1, hf, hx1⟩ := bx_ok hf
  refine cl_RX6_113 (q := 5) hC dX6_use_2 rfl hX (m_X6_requireArticle hflag hm1) ⟨Nat.le_of_ble_eq_true rfl, Nat.le_of_ble_eq_true rfl⟩ (Nat.le_of_ble_eq_true rfl) ⟨Nat.le_of_ble_eq_true rfl, Nat.le_of_ble_eq_true rfl⟩ ⟨Nat.le_of_ble_eq_true rfl, Nat.le_of_ble_eq_true rfl⟩ hx1 (fun z0 => ?_)
  have hf := hf z0
  obtain ⟨v1, ev1⟩ : ∃ y, y = z1.2.1 := ⟨_, rfl⟩
  obtain ⟨σ1, eσ1⟩ : ∃ y, y = z1.2.2 := ⟨_, rfl⟩
  rw [← eσ1] at hf ⊢
  refine G_widen (k := 1) (n := 6) (Nat.le_of_ble_eq_true rfl) (Nat.le_of_ble_eq_true rfl) ?_
  refine G_iload_n (q := 6) hC dX6_use_5 rfl rfl ?_
  obtain ⟨z2, hm2, hf, hx2⟩ := bx_ok hf
  refine cl_RX6_131 (q := 9) hC dX6_use_6 rfl hX (m_X6_requireFact hflag hm2) ⟨Nat.le_of_ble_eq_true rfl, Nat.le_of_ble_eq_true rfl⟩ (Nat.le_of_ble_eq_true rfl) ⟨Nat.le_of_ble_eq_true rfl, Nat.le_of_ble_eq_true rfl⟩ ⟨Nat.le_of_ble_eq_true rfl, Nat.le_of_ble_eq_true rfl⟩ hx2 (fun z0 => ?_)
  have hf := hf z0
  obtain ⟨v2, ev2⟩ : ∃ y, y = z2.2.1 := ⟨_, rfl⟩
  obtain ⟨σ2, eσ2⟩ : ∃ y, y = z2.2.2 := ⟨_, rfl⟩
  rw [← eσ2] at hf ⊢
  refine G_widen (k := 2) (n := 12) (Nat.le_of_ble_eq_true rfl) (Nat.le_of_ble_eq_true rfl) ?_
  refine G_aload_n (q := 10) hC dX6_use_9 rfl rfl ?_
  refine gf_RX6_18 (q := 13) hC dX6_use_10 rfl ?_
  refine G_iload_n (q := 14) hC dX6_use_13 rfl rfl ?_
  obtain ⟨g1, hf⟩ := gd_ok hf
  refine G_aldArt (q := 15) hC dX6_use_14 rfl g1 ?_
  refine G_astore_n (q := 16) (lv' := [(3, .ref (eB E + oArt (x1.toNatClampNeg))), (0, .ref (eB E + 0)), (1, .int x1), (2, .int x2)]) hC dX6_use_15 rfl (by decide) rfl ?_
  refine G_aload_n (q := 17) hC dX6_use_16 rfl rfl ?_
  refine gf_RX6_116 (q := 20) hC dX6_use_17 rfl (inb_lt g1) ?_
  refine G_if_ne (tgt := 30) (q := 23) hC dX6_use_20 (by decide) rfl (fun c2 => ?_) (fun c2 => ?_)
  · have hf := (if_neg c2).symm.trans hf
    refine G_lv (lv' := []) [] rfl ?_
    exact t_X6_use_b30 hC hX hflag   hf
  · have hf := (if_pos c2).symm.trans hf
    refine G_aload_n (q := 24) hC dX6_use_23 rfl rfl ?_
    obtain ⟨v4, σ4, hm4, hf⟩ := bd_ok hf
    refine cl_RX6_134 (q := 27) hC dX6_use_24 rfl (m_X0_isBlind (inb_lt g1) hm4) (inb_lt g1) ⟨Nat.le_of_ble_eq_true rfl, Nat.le_of_ble_eq_true rfl⟩ (Nat.le_of_ble_eq_true rfl) ⟨Nat.le_of_ble_eq_true rfl, Nat.le_of_ble_eq_true rfl⟩ ?_
    refine G_if_eq (tgt := 40) (q := 30) hC dX6_use_27 (by decide) rfl (fun c4 => ?_) (fun c4 => ?_)
    · have hf := (if_pos c4).symm.trans hf
      refine G_aload_n (q := 41) hC dX6_use_40 rfl rfl ?_
      refine gf_RX6_139 (q := 44) hC dX6_use_41 rfl (inb_lt g1) ?_
      refine G_iload_n (q := 45) hC dX6_use_44 rfl rfl ?_
      obtain ⟨g2, hf⟩ := gd_ok hf
      refine G_zald (q := 46) hC dX6_use_45 rfl (ok_2 (inb_lt g1) g2) ?_
      refine G_if_ne (tgt := 53) (q := 49) hC dX6_use_46 (by decide) rfl (fun c5 => ?_) (fun c5 => ?_)
      · have hf := (if_neg c5).symm.trans hf
        refine G_iconst (q := 54) hC dX6_use_53 rfl ic_0 ?_
        refine G_lv (lv' := [(2, .int x2), (3, .ref (eB E + oArt (x1.toNatClampNeg)))]) [3, 0] rfl ?_
        exact t_X6_use_b54 hC hX hflag  (inb_lt g1) hf
      · have hf := (if_pos c5).symm.trans hf
        refine G_iconst (q := 50) hC dX6_use_49 rfl ic_1 ?_
        refine G_goto (tgt := 54) hC dX6_use_50 (by decide) ?_
        refine G_lv (lv' := [(2, .int x2), (3, .ref (eB E + oArt (x1.toNatClampNeg)))]) [3, 0] rfl ?_
        exact t_X6_use_b54 hC hX hflag  (inb_lt g1) hf
    · have hf := (if_neg c4).symm.trans hf
      refine G_lv (lv' := []) [] rfl ?_
      exact t_X6_use_b30 hC hX hflag   hf

theorem m_X6_use {l : Launch} {fu : Nat} {E : gE} {w : Nat → Int64} {σ : gSt} {x1 : Int32} {x2 : Int32} {r : Nat × Int32 × gSt} (hflag : l.stackTraces = false)  (hf : f_X6_use fu σ x1 x2 = some r) : gMX l yX6_use cX6_use 5 (some .boolean) rm_X6_use 1 E w σ [.ref (eB E + 0), .int x1, .int x2] r :=
  gMX_of (by decide +kernel) (Nat.le_of_ble_eq_true rfl) (fun p e s m args below meth c hC hX => t_X6_use hC hX hflag  hf)
def f_X6_change (fu : Nat)  (σ : gSt) (x1 : Int32) (x2 : Int32) : Option (Nat × Int32 × gSt) :=
  bx (f_X6_requireFact fu σ x1) (fun _ σ1 => gd (inb x1 8) (gd (inb x1 8) (some (0, (σ1 155 0 x1.toNatClampNeg), (gU σ1 155 0 x1.toNatClampNeg x2)))))
set_option maxRecDepth 100000 in
theorem t_X6_change {fu : Nat}  {r : Nat × Int32 × gSt} (hC : gCx p s m args meth c cX6_change 4 RX6 (some .int) E) (hX : ∀ x ∈ c.exceptionTable.toList, False) (hflag : l.stackTraces = false)  {σ : gSt} {x1 : Int32} {x2 : Int32}  (hf : f_X6_change fu  σ x1 x2 = some r) : G p l e rm_X6_change s m args below meth c 4 0 0 (vx_MQ below (gQX E w 1 r) (gXC E w r) args s rm_X6_change.cells rm_X6_change.slots (fun q => eB E ≤ q)) E w σ 0 [(0, .ref (eB E + 0)), (1, .int x1), (2, .int x2)] [] := by
  unfold f_X6_change at hf
  refine G_iload_n (q := 1) hC dX6_change_0 rfl rfl ?_
  obtain ⟨z1, hm1, hf, hx1⟩ := bx_ok hf
  refine cl_RX6_131 (q := 4) hC dX6_change_1 rfl hX (m_X6_requireFact hflag hm1) ⟨Nat.le_of_ble_eq_true rfl, Nat.le_of_ble_eq_true rfl⟩ (Nat.le_of_ble_eq_true rfl) ⟨Nat.le_of_ble_eq_true rfl, Nat.le_of_ble_eq_true rfl⟩ ⟨Nat.le_of_ble_eq_true rfl, Nat.le_of_ble_eq_true rfl⟩ hx1 (fun z0 => ?_)
  have hf := hf z0
  obtain ⟨v1, ev1⟩ : ∃ y, y = z1.2.1 := ⟨_, rfl⟩
  obtain ⟨σ1, eσ1⟩ : ∃ y, y = z1.2.2 := ⟨_, rfl⟩
  rw [← eσ1] at hf ⊢
  refine G_widen (k := 1) (n := 6) (Nat.le_of_ble_eq_true rfl) (Nat.le_of_ble_eq_true rfl) ?_
  refine G_aload_n (q := 5) hC dX6_change_4 rfl rfl ?_
  refine gf_RX6_38 (q := 8) hC dX6_change_5 rfl ?_
  refine G_iload_n (q := 9) hC dX6_change_8 rfl rfl ?_
  obtain ⟨g1, hf⟩ := gd_ok hf
  refine G_iald (q := 10) hC dX6_change_9 rfl (ok_155 g1) ?_
  refine G_istore_n (q := 11) (lv' := [(3, .int (σ1 155 0 x1.toNatClampNeg)), (0, .ref (eB E + 0)), (1, .int x1), (2, .int x2)]) hC dX6_change_10 rfl (by decide) rfl ?_
  refine G_aload_n (q := 12) hC dX6_change_11 rfl rfl ?_
  refine gf_RX6_38 (q := 15) hC dX6_change_12 rfl ?_
  refine G_iload_n (q := 16) hC dX6_change_15 rfl rfl ?_
  refine G_iload_n (q := 17) hC dX6_change_16 rfl rfl ?_
  obtain ⟨g2, hf⟩ := gd_ok hf
  refine G_iast (q := 18) hC dX6_change_17 rfl (ok_155 g2) ?_
  refine G_iload_n (q := 19) hC dX6_change_18 rfl rfl ?_
  exact G_iretX hC hf rfl rfl (Nat.le_of_ble_eq_true rfl) (Nat.le_of_ble_eq_true rfl) dX6_change_19

theorem m_X6_change {l : Launch} {fu : Nat} {E : gE} {w : Nat → Int64} {σ : gSt} {x1 : Int32} {x2 : Int32} {r : Nat × Int32 × gSt} (hflag : l.stackTraces = false)  (hf : f_X6_change fu σ x1 x2 = some r) : gMX l yX6_change cX6_change 4 (some .int) rm_X6_change 1 E w σ [.ref (eB E + 0), .int x1, .int x2] r :=
  gMX_of (by decide +kernel) (Nat.le_of_ble_eq_true rfl) (fun p e s m args below meth c hC hX => t_X6_change hC hX hflag  hf)
def f_X6_forbid (fu : Nat)  (σ : gSt) (x1 : Int32) (x2 : Int32) : Option (Nat × Int32 × gSt) :=
  bx (f_X6_requireArticle fu σ x1) (fun _ σ1 => gd (inb x1 24) (if (σ1 11 (x1.toNatClampNeg) 0) = 0 then (gd (inb x1 24) (gd (inb x1 24) (gd (b01 x2) (gd (b01 (σ1 10 (x1.toNatClampNeg) 0)) (some (0, (σ1 10 (x1.toNatClampNeg) 0), (gU σ1 10 (x1.toNatClampNeg) 0 x2))))))) else (some (2, 0, σ1))))
set_option maxRecDepth 100000 in
theorem t_X6_forbid {fu : Nat}  {r : Nat × Int32 × gSt} (hC : gCx p s m args meth c cX6_forbid 4 RX6 (some .boolean) E) (hX : ∀ x ∈ c.exceptionTable.toList, False) (hflag : l.stackTraces = false)  {σ : gSt} {x1 : Int32} {x2 : Int32}  (hf : f_X6_forbid fu  σ x1 x2 = some r) : G p l e rm_X6_forbid s m args below meth c 4 0 0 (vx_MQ below (gQX E w 1 r) (gXC E w r) args s rm_X6_forbid.cells rm_X6_forbid.slots (fun q => eB E ≤ q)) E w σ 0 [(0, .ref (eB E + 0)), (1, .int x1), (2, .int x2)] [] := by
  unfold f_X6_forbid at hf
  refine G_aload_n (q := 1) hC dX6_forbid_0 rfl rfl ?_
  refine G_iload_n (q := 2) hC dX6_forbid_1 rfl rfl ?_
  obtain ⟨z1, hm1, hf, hx1⟩ := bx_ok hf
  refine cl_RX6_113 (q := 5) hC dX6_forbid_2 rfl hX (m_X6_requireArticle hflag hm1) ⟨Nat.le_of_ble_eq_true rfl, Nat.le_of_ble_eq_true rfl⟩ (Nat.le_of_ble_eq_true rfl) ⟨Nat.le_of_ble_eq_true rfl, Nat.le_of_ble_eq_true rfl⟩ ⟨Nat.le_of_ble_eq_true rfl, Nat.le_of_ble_eq_true rfl⟩ hx1 (fun z0 => ?_)
  have hf := hf z0
  obtain ⟨v1, ev1⟩ : ∃ y, y = z1.2.1 := ⟨_, rfl⟩
  obtain ⟨σ1, eσ1⟩ : ∃ y, y = z1.2.2 := ⟨_, rfl⟩
  rw [← eσ1] at hf ⊢
  refine G_widen (k := 1) (n := 6) (Nat.le_of_ble_eq_true rfl) (Nat.le_of_ble_eq_true rfl) ?_
  refine G_aload_n (q := 6) hC dX6_forbid_5 rfl rfl ?_
  refine gf_RX6_18 (q := 9) hC dX6_forbid_6 rfl ?_
  refine G_iload_n (q := 10) hC dX6_forbid_9 rfl rfl ?_
  obtain ⟨g1, hf⟩ := gd_ok hf
  refine G_aldArt (q := 11) hC dX6_forbid_10 rfl g1 ?_
  refine gf_RX6_116 (q := 14) hC dX6_forbid_11 rfl (inb_lt g1) ?_
  refine G_if_eq (tgt := 27) (q := 17) hC dX6_forbid_14 (by decide) rfl (fun c1 => ?_) (fun c1 => ?_)
  · have hf := (if_pos c1).symm.trans hf
    refine G_aload_n (q := 28) hC dX6_forbid_27 rfl rfl ?_
    refine gf_RX6_18 (q := 31) hC dX6_forbid_28 rfl ?_
    refine G_iload_n (q := 32) hC dX6_forbid_31 rfl rfl ?_
    obtain ⟨g2, hf⟩ := gd_ok hf
    refine G_aldArt (q := 33) hC dX6_forbid_32 rfl g2 ?_
    refine gf_RX6_145 (q := 36) hC dX6_forbid_33 rfl (inb_lt g2) ?_
    refine G_istore_n (q := 37) (lv' := [(3, .int (σ1 10 (x1.toNatClampNeg) 0)), (0, .ref (eB E + 0)), (1, .int x1), (2, .int x2)]) hC dX6_forbid_36 rfl (by decide) rfl ?_
    refine G_aload_n (q := 38) hC dX6_forbid_37 rfl rfl ?_
    refine gf_RX6_18 (q := 41) hC dX6_forbid_38 rfl ?_
    refine G_iload_n (q := 42) hC dX6_forbid_41 rfl rfl ?_
    obtain ⟨g3, hf⟩ := gd_ok hf
    refine G_aldArt (q := 43) hC dX6_forbid_42 rfl g3 ?_
    refine G_iload_n (q := 44) hC dX6_forbid_43 rfl rfl ?_
    obtain ⟨g4, hf⟩ := gd_ok hf
    refine pf_RX6_145 (q := 47) hC dX6_forbid_44 rfl (inb_lt g3) g4 ?_
    refine G_iload_n (q := 48) hC dX6_forbid_47 rfl rfl ?_
    obtain ⟨g5, hf⟩ := gd_ok hf
    exact G_iretX hC hf rfl (b01_narrow g5) (Nat.le_of_ble_eq_true rfl) (Nat.le_of_ble_eq_true rfl) dX6_forbid_48
  · have hf := (if_neg c1).symm.trans hf
    exact G_throw hC hX hflag (text := "printed") hf (by decide) (by decide +kernel) (wall (by decide +kernel) rfl) (wall (by decide +kernel) rfl) (by decide) thA2 thB2 dX6_forbid_17 dX6_forbid_20 dX6_forbid_21 dX6_forbid_23 dX6_forbid_26 (Nat.le_of_ble_eq_true rfl) (Nat.le_of_ble_eq_true rfl) ⟨Nat.le_of_ble_eq_true rfl, Nat.le_of_ble_eq_true rfl⟩ ⟨Nat.le_of_ble_eq_true rfl, Nat.le_of_ble_eq_true rfl⟩

theorem m_X6_forbid {l : Launch} {fu : Nat} {E : gE} {w : Nat → Int64} {σ : gSt} {x1 : Int32} {x2 : Int32} {r : Nat × Int32 × gSt} (hflag : l.stackTraces = false)  (hf : f_X6_forbid fu σ x1 x2 = some r) : gMX l yX6_forbid cX6_forbid 4 (some .boolean) rm_X6_forbid 1 E w σ [.ref (eB E + 0), .int x1, .int x2] r :=
  gMX_of (by decide +kernel) (Nat.le_of_ble_eq_true rfl) (fun p e s m args below meth c hC hX => t_X6_forbid hC hX hflag  hf)
def f_X6_volume_b18 (fu : Nat)  (σ : gSt)  : Option (Nat × Int32 × gSt) :=
  some (1, 0, σ)
set_option maxRecDepth 100000 in
theorem t_X6_volume_b18 {fu : Nat}  {r : Nat × Int32 × gSt} (hC : gCx p s m args meth c cX6_volume 3 RX6 (some .int) E) (hX : ∀ x ∈ c.exceptionTable.toList, False) (hflag : l.stackTraces = false)  {σ : gSt}   (hf : f_X6_volume_b18 fu  σ  = some r) : G p l e rm_X6_volume s m args below meth c 3 0 0 (vx_MQ below (gQX E w 1 r) (gXC E w r) args s rm_X6_volume.cells rm_X6_volume.slots (fun q => eB E ≤ q)) E w σ 18 [] [] := by
  unfold f_X6_volume_b18 at hf
  exact G_throw hC hX hflag (text := "no letter, or columns out of range") hf (by decide) (by decide +kernel) (wall (by decide +kernel) rfl) (wall (by decide +kernel) rfl) (by decide) thA1 thB1 dX6_volume_18 dX6_volume_21 dX6_volume_22 dX6_volume_24 dX6_volume_27 (Nat.le_of_ble_eq_true rfl) (Nat.le_of_ble_eq_true rfl) ⟨Nat.le_of_ble_eq_true rfl, Nat.le_of_ble_eq_true rfl⟩ ⟨Nat.le_of_ble_eq_true rfl, Nat.le_of_ble_eq_true rfl⟩

def f_X6_volume_b63 (fu : Nat)  (σ : gSt) (x1 : Int32) (x2 : Int32) : Option (Nat × Int32 × gSt) :=
  if (σ 157 0 0) < (4 : Int32) then (gd (inb (σ 157 0 0) 4) (gd (isC x1) (gd (inb ((gU σ 120 ((σ 157 0 0).toNatClampNeg) 0 x1) 157 0 0) 4) (some (0, ((gU (gU σ 120 ((σ 157 0 0).toNatClampNeg) 0 x1) 121 (((gU σ 120 ((σ 157 0 0).toNatClampNeg) 0 x1) 157 0 0).toNatClampNeg) 0 x2) 157 0 0), (gU (gU (gU σ 120 ((σ 157 0 0).toNatClampNeg) 0 x1) 121 (((gU σ 120 ((σ 157 0 0).toNatClampNeg) 0 x1) 157 0 0).toNatClampNeg) 0 x2) 157 0 0 (((gU (gU σ 120 ((σ 157 0 0).toNatClampNeg) 0 x1) 121 (((gU σ 120 ((σ 157 0 0).toNatClampNeg) 0 x1) 157 0 0).toNatClampNeg) 0 x2) 157 0 0) + (1 : Int32)))))))) else (some (2, 0, σ))
set_option maxRecDepth 100000 in
theorem t_X6_volume_b63 {fu : Nat}  {r : Nat × Int32 × gSt} (hC : gCx p s m args meth c cX6_volume 3 RX6 (some .int) E) (hX : ∀ x ∈ c.exceptionTable.toList, False) (hflag : l.stackTraces = false)  {σ : gSt} {x1 : Int32} {x2 : Int32}  (hf : f_X6_volume_b63 fu  σ x1 x2 = some r) : G p l e rm_X6_volume s m args below meth c 3 0 0 (vx_MQ below (gQX E w 1 r) (gXC E w r) args s rm_X6_volume.cells rm_X6_volume.slots (fun q => eB E ≤ q)) E w σ 63 [(0, .ref (eB E + 0)), (1, .int x1), (2, .int x2)] [] := by
  unfold f_X6_volume_b63 at hf
  refine G_aload_n (q := 64) hC dX6_volume_63 rfl rfl ?_
  refine gf_RX6_150 (q := 67) hC dX6_volume_64 rfl ?_
  refine G_iconst (q := 68) hC dX6_volume_67 rfl ic_4 ?_
  refine G_icmp_lt (tgt := 81) (q := 71) hC dX6_volume_68 (by decide) rfl (fun c0 => ?_) (fun c0 => ?_)
  · have hf := (if_pos c0).symm.trans hf
    refine G_aload_n (q := 82) hC dX6_volume_81 rfl rfl ?_
    refine gf_RX6_24 (q := 85) hC dX6_volume_82 rfl ?_
    refine G_aload_n (q := 86) hC dX6_volume_85 rfl rfl ?_
    refine gf_RX6_150 (q := 89) hC dX6_volume_86 rfl ?_
    obtain ⟨g1, hf⟩ := gd_ok hf
    refine G_aldVol (q := 90) hC dX6_volume_89 rfl g1 ?_
    refine G_iload_n (q := 91) hC dX6_volume_90 rfl rfl ?_
    obtain ⟨g2, hf⟩ := gd_ok hf
    refine pf_RX6_153 (q := 94) hC dX6_volume_91 rfl (inb_lt g1) g2 ?_
    refine G_aload_n (q := 95) hC dX6_volume_94 rfl rfl ?_
    refine gf_RX6_24 (q := 98) hC dX6_volume_95 rfl ?_
    refine G_aload_n (q := 99) hC dX6_volume_98 rfl rfl ?_
    refine gf_RX6_150 (q := 102) hC dX6_volume_99 rfl ?_
    obtain ⟨g3, hf⟩ := gd_ok hf
    refine G_aldVol (q := 103) hC dX6_volume_102 rfl g3 ?_
    refine G_iload_n (q := 104) hC dX6_volume_103 rfl rfl ?_
    refine pf_RX6_161 (q := 107) hC dX6_volume_104 rfl (inb_lt g3) ?_
    refine G_aload_n (q := 108) hC dX6_volume_107 rfl rfl ?_
    refine G_dup (q := 109) hC dX6_volume_108 rfl rfl ?_
    refine gf_RX6_150 (q := 112) hC dX6_volume_109 rfl ?_
    refine G_dup_x1 (q := 113) hC dX6_volume_112 rfl rfl rfl ?_
    refine G_iconst (q := 114) hC dX6_volume_113 rfl ic_1 ?_
    refine G_iadd (q := 115) hC dX6_volume_114 rfl ?_
    refine pf_RX6_150 (q := 118) hC dX6_volume_115 rfl ?_
    exact G_iretX hC hf rfl rfl (Nat.le_of_ble_eq_true rfl) (Nat.le_of_ble_eq_true rfl) dX6_volume_118
  · have hf := (if_neg c0).symm.trans hf
    exact G_throw hC hX hflag (text := "no more volumes") hf (by decide) (by decide +kernel) (wall (by decide +kernel) rfl) (wall (by decide +kernel) rfl) (by decide) thA2 thB2 dX6_volume_71 dX6_volume_74 dX6_volume_75 dX6_volume_77 dX6_volume_80 (Nat.le_of_ble_eq_true rfl) (Nat.le_of_ble_eq_true rfl) ⟨Nat.le_of_ble_eq_true rfl, Nat.le_of_ble_eq_true rfl⟩ ⟨Nat.le_of_ble_eq_true rfl, Nat.le_of_ble_eq_true rfl⟩

def f_X6_volume (fu : Nat)  (σ : gSt) (x1 : Int32) (x2 : Int32) : Option (Nat × Int32 × gSt) :=
  bd (f_X6_isLetter fu σ x1) (fun v1 σ1 => if v1 = 0 then (f_X6_volume_b18 fu  σ1) else (if x2 < (1 : Int32) then (f_X6_volume_b18 fu  σ1) else (if x2 ≤ (99 : Int32) then (if (σ1 157 0 0) ≤ 0 then (f_X6_volume_b63 fu  σ1 x1 x2) else (gd (inb ((σ1 157 0 0) - (1 : Int32)) 4) (if (σ1 120 (((σ1 157 0 0) - (1 : Int32)).toNatClampNeg) 0) < x1 then (f_X6_volume_b63 fu  σ1 x1 x2) else (some (1, 0, σ1))))) else (f_X6_volume_b18 fu  σ1))))
set_option maxRecDepth 100000 in
theorem t_X6_volume {fu : Nat}  {r : Nat × Int32 × gSt} (hC : gCx p s m args meth c cX6_volume 3 RX6 (some .int) E) (hX : ∀ x ∈ c.exceptionTable.toList, False) (hflag : l.stackTraces = false)  {σ : gSt} {x1 : Int32} {x2 : Int32}  (hf : f_X6_volume fu  σ x1 x2 = some r) : G p l e rm_X6_volume s m args below meth c 3 0 0 (vx_MQ below (gQX E w 1 r) (gXC E w r) args s rm_X6_volume.cells rm_X6_volume.slots (fun q => eB E ≤ q)) E w σ 0 [(0, .ref (eB E + 0)), (1, .int x1), (2, .int x2)] [] := by
  unfold f_X6_volume at hf
  refine G_iload_n (q := 1) hC dX6_volume_0 rfl rfl ?_
  obtain ⟨v1, σ1, hm1, hf⟩ := bd_ok hf
  refine cl_RX6_44 (q := 4) hC dX6_volume_1 rfl (m_X6_isLetter hm1) ⟨Nat.le_of_ble_eq_true rfl, Nat.le_of_ble_eq_true rfl⟩ (Nat.le_of_ble_eq_true rfl) ⟨Nat.le_of_ble_eq_true rfl, Nat.le_of_ble_eq_true rfl⟩ ?_
  refine G_if_eq (tgt := 18) (q := 7) hC dX6_volume_4 (by decide) rfl (fun c1 => ?_) (fun c1 => ?_)
  · have hf := (if_pos c1).symm.trans hf
    refine G_lv (lv' := []) [] rfl ?_
    exact t_X6_volume_b18 hC hX hflag   hf
  · have hf := (if_neg c1).symm.trans hf
    refine G_iload_n (q := 8) hC dX6_volume_7 rfl rfl ?_
    refine G_iconst (q := 9) hC dX6_volume_8 rfl ic_1 ?_
    refine G_icmp_lt (tgt := 18) (q := 12) hC dX6_volume_9 (by decide) rfl (fun c2 => ?_) (fun c2 => ?_)
    · have hf := (if_pos c2).symm.trans hf
      refine G_lv (lv' := []) [] rfl ?_
      exact t_X6_volume_b18 hC hX hflag   hf
    · have hf := (if_neg c2).symm.trans hf
      refine G_iload_n (q := 13) hC dX6_volume_12 rfl rfl ?_
      refine G_bipush (q := 15) hC dX6_volume_13 rfl bp_99 ?_
      refine G_icmp_le (tgt := 28) (q := 18) hC dX6_volume_15 (by decide) rfl (fun c3 => ?_) (fun c3 => ?_)
      · have hf := (if_pos c3).symm.trans hf
        refine G_aload_n (q := 29) hC dX6_volume_28 rfl rfl ?_
        refine gf_RX6_150 (q := 32) hC dX6_volume_29 rfl ?_
        refine G_if_le (tgt := 63) (q := 35) hC dX6_volume_32 (by decide) rfl (fun c4 => ?_) (fun c4 => ?_)
        · have hf := (if_pos c4).symm.trans hf
          exact t_X6_volume_b63 hC hX hflag   hf
        · have hf := (if_neg c4).symm.trans hf
          refine G_iload_n (q := 36) hC dX6_volume_35 rfl rfl ?_
          refine G_aload_n (q := 37) hC dX6_volume_36 rfl rfl ?_
          refine gf_RX6_24 (q := 40) hC dX6_volume_37 rfl ?_
          refine G_aload_n (q := 41) hC dX6_volume_40 rfl rfl ?_
          refine gf_RX6_150 (q := 44) hC dX6_volume_41 rfl ?_
          refine G_iconst (q := 45) hC dX6_volume_44 rfl ic_1 ?_
          refine G_isub (q := 46) hC dX6_volume_45 rfl ?_
          obtain ⟨g1, hf⟩ := gd_ok hf
          refine G_aldVol (q := 47) hC dX6_volume_46 rfl g1 ?_
          refine gf_RX6_153 (q := 50) hC dX6_volume_47 rfl (inb_lt g1) ?_
          refine G_icmp_gt (tgt := 63) (q := 53) hC dX6_volume_50 (by decide) rfl (fun c5 => ?_) (fun c5 => ?_)
          · have hf := (if_pos c5).symm.trans hf
            exact t_X6_volume_b63 hC hX hflag   hf
          · have hf := (if_neg c5).symm.trans hf
            exact G_throw hC hX hflag (text := "not behind the volume ahead") hf (by decide) (by decide +kernel) (wall (by decide +kernel) rfl) (wall (by decide +kernel) rfl) (by decide) thA1 thB1 dX6_volume_53 dX6_volume_56 dX6_volume_57 dX6_volume_59 dX6_volume_62 (Nat.le_of_ble_eq_true rfl) (Nat.le_of_ble_eq_true rfl) ⟨Nat.le_of_ble_eq_true rfl, Nat.le_of_ble_eq_true rfl⟩ ⟨Nat.le_of_ble_eq_true rfl, Nat.le_of_ble_eq_true rfl⟩
      · have hf := (if_neg c3).symm.trans hf
        refine G_lv (lv' := []) [] rfl ?_
        exact t_X6_volume_b18 hC hX hflag   hf

theorem m_X6_volume {l : Launch} {fu : Nat} {E : gE} {w : Nat → Int64} {σ : gSt} {x1 : Int32} {x2 : Int32} {r : Nat × Int32 × gSt} (hflag : l.stackTraces = false)  (hf : f_X6_volume fu σ x1 x2 = some r) : gMX l yX6_volume cX6_volume 3 (some .int) rm_X6_volume 1 E w σ [.ref (eB E + 0), .int x1, .int x2] r :=
  gMX_of (by decide +kernel) (Nat.le_of_ble_eq_true rfl) (fun p e s m args below meth c hC hX => t_X6_volume hC hX hflag  hf)
def f_X6_contributor_b11 (fu : Nat)  (σ : gSt)  : Option (Nat × Int32 × gSt) :=
  some (1, 0, σ)
set_option maxRecDepth 100000 in
theorem t_X6_contributor_b11 {fu : Nat}  {r : Nat × Int32 × gSt} (hC : gCx p s m args meth c cX6_contributor 2 RX6 (some .int) E) (hX : ∀ x ∈ c.exceptionTable.toList, False) (hflag : l.stackTraces = false)  {σ : gSt}   (hf : f_X6_contributor_b11 fu  σ  = some r) : G p l e rm_X6_contributor s m args below meth c 2 0 0 (vx_MQ below (gQX E w 1 r) (gXC E w r) args s rm_X6_contributor.cells rm_X6_contributor.slots (fun q => eB E ≤ q)) E w σ 11 [] [] := by
  unfold f_X6_contributor_b11 at hf
  exact G_throw hC hX hflag (text := "pace out of range") hf (by decide) (by decide +kernel) (wall (by decide +kernel) rfl) (wall (by decide +kernel) rfl) (by decide) thA1 thB1 dX6_contributor_11 dX6_contributor_14 dX6_contributor_15 dX6_contributor_17 dX6_contributor_20 (Nat.le_of_ble_eq_true rfl) (Nat.le_of_ble_eq_true rfl) ⟨Nat.le_of_ble_eq_true rfl, Nat.le_of_ble_eq_true rfl⟩ ⟨Nat.le_of_ble_eq_true rfl, Nat.le_of_ble_eq_true rfl⟩

def f_X6_contributor (fu : Nat)  (σ : gSt) (x1 : Int32) : Option (Nat × Int32 × gSt) :=
  if x1 < (1 : Int32) then (f_X6_contributor_b11 fu  σ) else (if x1 ≤ (9 : Int32) then (if (σ 159 0 0) < (6 : Int32) then (gd (inb (σ 159 0 0) 6) (some (0, ((gU σ 33 ((σ 159 0 0).toNatClampNeg) 0 x1) 159 0 0), (gU (gU σ 33 ((σ 159 0 0).toNatClampNeg) 0 x1) 159 0 0 (((gU σ 33 ((σ 159 0 0).toNatClampNeg) 0 x1) 159 0 0) + (1 : Int32)))))) else (some (2, 0, σ))) else (f_X6_contributor_b11 fu  σ))
set_option maxRecDepth 100000 in
theorem t_X6_contributor {fu : Nat}  {r : Nat × Int32 × gSt} (hC : gCx p s m args meth c cX6_contributor 2 RX6 (some .int) E) (hX : ∀ x ∈ c.exceptionTable.toList, False) (hflag : l.stackTraces = false)  {σ : gSt} {x1 : Int32}  (hf : f_X6_contributor fu  σ x1 = some r) : G p l e rm_X6_contributor s m args below meth c 2 0 0 (vx_MQ below (gQX E w 1 r) (gXC E w r) args s rm_X6_contributor.cells rm_X6_contributor.slots (fun q => eB E ≤ q)) E w σ 0 [(0, .ref (eB E + 0)), (1, .int x1)] [] := by
  unfold f_X6_contributor at hf
  refine G_iload_n (q := 1) hC dX6_contributor_0 rfl rfl ?_
  refine G_iconst (q := 2) hC dX6_contributor_1 rfl ic_1 ?_
  refine G_icmp_lt (tgt := 11) (q := 5) hC dX6_contributor_2 (by decide) rfl (fun c0 => ?_) (fun c0 => ?_)
  · have hf := (if_pos c0).symm.trans hf
    refine G_lv (lv' := []) [] rfl ?_
    exact t_X6_contributor_b11 hC hX hflag   hf
  · have hf := (if_neg c0).symm.trans hf
    refine G_iload_n (q := 6) hC dX6_contributor_5 rfl rfl ?_
    refine G_bipush (q := 8) hC dX6_contributor_6 rfl bp_9 ?_
    refine G_icmp_le (tgt := 21) (q := 11) hC dX6_contributor_8 (by decide) rfl (fun c1 => ?_) (fun c1 => ?_)
    · have hf := (if_pos c1).symm.trans hf
      refine G_aload_n (q := 22) hC dX6_contributor_21 rfl rfl ?_
      refine gf_RX6_166 (q := 25) hC dX6_contributor_22 rfl ?_
      refine G_bipush (q := 27) hC dX6_contributor_25 rfl bp_6 ?_
      refine G_icmp_lt (tgt := 40) (q := 30) hC dX6_contributor_27 (by decide) rfl (fun c2 => ?_) (fun c2 => ?_)
      · have hf := (if_pos c2).symm.trans hf
        refine G_aload_n (q := 41) hC dX6_contributor_40 rfl rfl ?_
        refine gf_RX6_30 (q := 44) hC dX6_contributor_41 rfl ?_
        refine G_aload_n (q := 45) hC dX6_contributor_44 rfl rfl ?_
        refine gf_RX6_166 (q := 48) hC dX6_contributor_45 rfl ?_
        obtain ⟨g1, hf⟩ := gd_ok hf
        refine G_aldCon (q := 49) hC dX6_contributor_48 rfl g1 ?_
        refine G_iload_n (q := 50) hC dX6_contributor_49 rfl rfl ?_
        refine pf_RX6_171 (q := 53) hC dX6_contributor_50 rfl (inb_lt g1) ?_
        refine G_aload_n (q := 54) hC dX6_contributor_53 rfl rfl ?_
        refine G_dup (q := 55) hC dX6_contributor_54 rfl rfl ?_
        refine gf_RX6_166 (q := 58) hC dX6_contributor_55 rfl ?_
        refine G_dup_x1 (q := 59) hC dX6_contributor_58 rfl rfl rfl ?_
        refine G_iconst (q := 60) hC dX6_contributor_59 rfl ic_1 ?_
        refine G_iadd (q := 61) hC dX6_contributor_60 rfl ?_
        refine pf_RX6_166 (q := 64) hC dX6_contributor_61 rfl ?_
        exact G_iretX hC hf rfl rfl (Nat.le_of_ble_eq_true rfl) (Nat.le_of_ble_eq_true rfl) dX6_contributor_64
      · have hf := (if_neg c2).symm.trans hf
        exact G_throw hC hX hflag (text := "no more contributors") hf (by decide) (by decide +kernel) (wall (by decide +kernel) rfl) (wall (by decide +kernel) rfl) (by decide) thA2 thB2 dX6_contributor_30 dX6_contributor_33 dX6_contributor_34 dX6_contributor_36 dX6_contributor_39 (Nat.le_of_ble_eq_true rfl) (Nat.le_of_ble_eq_true rfl) ⟨Nat.le_of_ble_eq_true rfl, Nat.le_of_ble_eq_true rfl⟩ ⟨Nat.le_of_ble_eq_true rfl, Nat.le_of_ble_eq_true rfl⟩
    · have hf := (if_neg c1).symm.trans hf
      refine G_lv (lv' := []) [] rfl ?_
      exact t_X6_contributor_b11 hC hX hflag   hf

theorem m_X6_contributor {l : Launch} {fu : Nat} {E : gE} {w : Nat → Int64} {σ : gSt} {x1 : Int32} {r : Nat × Int32 × gSt} (hflag : l.stackTraces = false)  (hf : f_X6_contributor fu σ x1 = some r) : gMX l yX6_contributor cX6_contributor 2 (some .int) rm_X6_contributor 1 E w σ [.ref (eB E + 0), .int x1] r :=
  gMX_of (by decide +kernel) (Nat.le_of_ble_eq_true rfl) (fun p e s m args below meth c hC hX => t_X6_contributor hC hX hflag  hf)
def f_X6_requireContributor_b12 (fu : Nat)  (σ : gSt)  : Option (Nat × Int32 × gSt) :=
  some (3, 0, σ)
set_option maxRecDepth 100000 in
theorem t_X6_requireContributor_b12 {fu : Nat}  {r : Nat × Int32 × gSt} (hC : gCx p s m args meth c cX6_requireContributor 2 RX6 none E) (hX : ∀ x ∈ c.exceptionTable.toList, False) (hflag : l.stackTraces = false)  {σ : gSt}   (hf : f_X6_requireContributor_b12 fu  σ  = some r) : G p l e rm_X6_requireContributor s m args below meth c 2 0 0 (vx_MQ below (gQX E w 0 r) (gXC E w r) args s rm_X6_requireContributor.cells rm_X6_requireContributor.slots (fun q => eB E ≤ q)) E w σ 12 [] [] := by
  unfold f_X6_requireContributor_b12 at hf
  exact G_throwW hC hX hflag (text := "no such contributor") hf (by decide) (by decide +kernel) (wall (by decide +kernel) rfl) (wall (by decide +kernel) rfl) (by decide) thA3 thB3 dX6_requireContributor_12 dX6_requireContributor_15 dX6_requireContributor_16 dX6_requireContributor_19 dX6_requireContributor_22 (Nat.le_of_ble_eq_true rfl) (Nat.le_of_ble_eq_true rfl) ⟨Nat.le_of_ble_eq_true rfl, Nat.le_of_ble_eq_true rfl⟩ ⟨Nat.le_of_ble_eq_true rfl, Nat.le_of_ble_eq_true rfl⟩

def f_X6_requireContributor (fu : Nat)  (σ : gSt) (x1 : Int32) : Option (Nat × Int32 × gSt) :=
  if x1 < 0 then (f_X6_requireContributor_b12 fu  σ) else (if x1 < (σ 159 0 0) then (some (0, 0, σ)) else (f_X6_requireContributor_b12 fu  σ))
set_option maxRecDepth 100000 in
theorem t_X6_requireContributor {fu : Nat}  {r : Nat × Int32 × gSt} (hC : gCx p s m args meth c cX6_requireContributor 2 RX6 none E) (hX : ∀ x ∈ c.exceptionTable.toList, False) (hflag : l.stackTraces = false)  {σ : gSt} {x1 : Int32}  (hf : f_X6_requireContributor fu  σ x1 = some r) : G p l e rm_X6_requireContributor s m args below meth c 2 0 0 (vx_MQ below (gQX E w 0 r) (gXC E w r) args s rm_X6_requireContributor.cells rm_X6_requireContributor.slots (fun q => eB E ≤ q)) E w σ 0 [(0, .ref (eB E + 0)), (1, .int x1)] [] := by
  unfold f_X6_requireContributor at hf
  refine G_iload_n (q := 1) hC dX6_requireContributor_0 rfl rfl ?_
  refine G_if_lt (tgt := 12) (q := 4) hC dX6_requireContributor_1 (by decide) rfl (fun c0 => ?_) (fun c0 => ?_)
  · have hf := (if_pos c0).symm.trans hf
    refine G_lv (lv' := []) [] rfl ?_
    exact t_X6_requireContributor_b12 hC hX hflag   hf
  · have hf := (if_neg c0).symm.trans hf
    refine G_iload_n (q := 5) hC dX6_requireContributor_4 rfl rfl ?_
    refine G_aload_n (q := 6) hC dX6_requireContributor_5 rfl rfl ?_
    refine gf_RX6_166 (q := 9) hC dX6_requireContributor_6 rfl ?_
    refine G_icmp_lt (tgt := 23) (q := 12) hC dX6_requireContributor_9 (by decide) rfl (fun c1 => ?_) (fun c1 => ?_)
    · have hf := (if_pos c1).symm.trans hf
      exact G_vretX hC hf rfl (Nat.le_of_ble_eq_true rfl) (Nat.le_of_ble_eq_true rfl) dX6_requireContributor_23
    · have hf := (if_neg c1).symm.trans hf
      refine G_lv (lv' := []) [] rfl ?_
      exact t_X6_requireContributor_b12 hC hX hflag   hf

theorem m_X6_requireContributor {l : Launch} {fu : Nat} {E : gE} {w : Nat → Int64} {σ : gSt} {x1 : Int32} {r : Nat × Int32 × gSt} (hflag : l.stackTraces = false)  (hf : f_X6_requireContributor fu σ x1 = some r) : gMX l yX6_requireContributor cX6_requireContributor 2 none rm_X6_requireContributor 0 E w σ [.ref (eB E + 0), .int x1] r :=
  gMX_of (by decide +kernel) (Nat.le_of_ble_eq_true rfl) (fun p e s m args below meth c hC hX => t_X6_requireContributor hC hX hflag  hf)
def f_X6_quarrel (fu : Nat)  (σ : gSt) (x1 : Int32) (x2 : Int32) : Option (Nat × Int32 × gSt) :=
  bx (f_X6_requireContributor fu σ x1) (fun _ σ1 => bx (f_X6_requireContributor fu σ1 x2) (fun _ σ2 => if x1 = x2 then (some (1, 0, σ2)) else (gd (inb x1 6) (gd (inb x2 6) (gd (inb x1 6) (gd (inb x2 6) (gd (inb x2 6) (gd (inb x1 6) (gd (b01 (σ2 31 (x1.toNatClampNeg) x2.toNatClampNeg)) (some (0, (σ2 31 (x1.toNatClampNeg) x2.toNatClampNeg), (gU (gU σ2 31 (x1.toNatClampNeg) x2.toNatClampNeg (1 : Int32)) 31 (x2.toNatClampNeg) x1.toNatClampNeg (1 : Int32)))))))))))))
set_option maxRecDepth 100000 in
theorem t_X6_quarrel {fu : Nat}  {r : Nat × Int32 × gSt} (hC : gCx p s m args meth c cX6_quarrel 4 RX6 (some .boolean) E) (hX : ∀ x ∈ c.exceptionTable.toList, False) (hflag : l.stackTraces = false)  {σ : gSt} {x1 : Int32} {x2 : Int32}  (hf : f_X6_quarrel fu  σ x1 x2 = some r) : G p l e rm_X6_quarrel s m args below meth c 4 0 0 (vx_MQ below (gQX E w 1 r) (gXC E w r) args s rm_X6_quarrel.cells rm_X6_quarrel.slots (fun q => eB E ≤ q)) E w σ 0 [(0, .ref (eB E + 0)), (1, .int x1), (2, .int x2)] [] := by
  unfold f_X6_quarrel at hf
  refine G_aload_n (q := 1) hC dX6_quarrel_0 rfl rfl ?_
  refine G_iload_n (q := 2) hC dX6_quarrel_1 rfl rfl ?_
  obtain ⟨z1, hm1, hf, hx1⟩ := bx_ok hf
  refine cl_RX6_174 (q := 5) hC dX6_quarrel_2 rfl hX (m_X6_requireContributor hflag hm1) ⟨Nat.le_of_ble_eq_true rfl, Nat.le_of_ble_eq_true rfl⟩ (Nat.le_of_ble_eq_true rfl) ⟨Nat.le_of_ble_eq_true rfl, Nat.le_of_ble_eq_true rfl⟩ ⟨Nat.le_of_ble_eq_true rfl, Nat.le_of_ble_eq_true rfl⟩ hx1 (fun z0 => ?_)
  have hf := hf z0
  obtain ⟨v1, ev1⟩ : ∃ y, y = z1.2.1 := ⟨_, rfl⟩
  obtain ⟨σ1, eσ1⟩ : ∃ y, y = z1.2.2 := ⟨_, rfl⟩
  rw [← eσ1] at hf ⊢
  refine G_widen (k := 1) (n := 6) (Nat.le_of_ble_eq_true rfl) (Nat.le_of_ble_eq_true rfl) ?_
  refine G_aload_n (q := 6) hC dX6_quarrel_5 rfl rfl ?_
  refine G_iload_n (q := 7) hC dX6_quarrel_6 rfl rfl ?_
  obtain ⟨z2, hm2, hf, hx2⟩ := bx_ok hf
  refine cl_RX6_174 (q := 10) hC dX6_quarrel_7 rfl hX (m_X6_requireContributor hflag hm2) ⟨Nat.le_of_ble_eq_true rfl, Nat.le_of_ble_eq_true rfl⟩ (Nat.le_of_ble_eq_true rfl) ⟨Nat.le_of_ble_eq_true rfl, Nat.le_of_ble_eq_true rfl⟩ ⟨Nat.le_of_ble_eq_true rfl, Nat.le_of_ble_eq_true rfl⟩ hx2 (fun z0 => ?_)
  have hf := hf z0
  obtain ⟨v2, ev2⟩ : ∃ y, y = z2.2.1 := ⟨_, rfl⟩
  obtain ⟨σ2, eσ2⟩ : ∃ y, y = z2.2.2 := ⟨_, rfl⟩
  rw [← eσ2] at hf ⊢
  refine G_widen (k := 2) (n := 12) (Nat.le_of_ble_eq_true rfl) (Nat.le_of_ble_eq_true rfl) ?_
  refine G_iload_n (q := 11) hC dX6_quarrel_10 rfl rfl ?_
  refine G_iload_n (q := 12) hC dX6_quarrel_11 rfl rfl ?_
  refine G_icmp_ne (tgt := 25) (q := 15) hC dX6_quarrel_12 (by decide) rfl (fun c2 => ?_) (fun c2 => ?_)
  · have hf := (if_neg c2).symm.trans hf
    refine G_aload_n (q := 26) hC dX6_quarrel_25 rfl rfl ?_
    refine gf_RX6_30 (q := 29) hC dX6_quarrel_26 rfl ?_
    refine G_iload_n (q := 30) hC dX6_quarrel_29 rfl rfl ?_
    obtain ⟨g1, hf⟩ := gd_ok hf
    refine G_aldCon (q := 31) hC dX6_quarrel_30 rfl g1 ?_
    refine gf_RX6_179 (q := 34) hC dX6_quarrel_31 rfl (inb_lt g1) ?_
    refine G_iload_n (q := 35) hC dX6_quarrel_34 rfl rfl ?_
    obtain ⟨g2, hf⟩ := gd_ok hf
    refine G_zald (q := 36) hC dX6_quarrel_35 rfl (ok_31 (inb_lt g1) g2) ?_
    refine G_istore_n (q := 37) (lv' := [(3, .int (σ2 31 (x1.toNatClampNeg) x2.toNatClampNeg)), (0, .ref (eB E + 0)), (1, .int x1), (2, .int x2)]) hC dX6_quarrel_36 rfl (by decide) rfl ?_
    refine G_aload_n (q := 38) hC dX6_quarrel_37 rfl rfl ?_
    refine gf_RX6_30 (q := 41) hC dX6_quarrel_38 rfl ?_
    refine G_iload_n (q := 42) hC dX6_quarrel_41 rfl rfl ?_
    obtain ⟨g3, hf⟩ := gd_ok hf
    refine G_aldCon (q := 43) hC dX6_quarrel_42 rfl g3 ?_
    refine gf_RX6_179 (q := 46) hC dX6_quarrel_43 rfl (inb_lt g3) ?_
    refine G_iload_n (q := 47) hC dX6_quarrel_46 rfl rfl ?_
    refine G_iconst (q := 48) hC dX6_quarrel_47 rfl ic_1 ?_
    obtain ⟨g4, hf⟩ := gd_ok hf
    refine G_zast (q := 49) hC dX6_quarrel_48 rfl (ok_31 (inb_lt g3) g4) rfl ?_
    refine G_aload_n (q := 50) hC dX6_quarrel_49 rfl rfl ?_
    refine gf_RX6_30 (q := 53) hC dX6_quarrel_50 rfl ?_
    refine G_iload_n (q := 54) hC dX6_quarrel_53 rfl rfl ?_
    obtain ⟨g5, hf⟩ := gd_ok hf
    refine G_aldCon (q := 55) hC dX6_quarrel_54 rfl g5 ?_
    refine gf_RX6_179 (q := 58) hC dX6_quarrel_55 rfl (inb_lt g5) ?_
    refine G_iload_n (q := 59) hC dX6_quarrel_58 rfl rfl ?_
    refine G_iconst (q := 60) hC dX6_quarrel_59 rfl ic_1 ?_
    obtain ⟨g6, hf⟩ := gd_ok hf
    refine G_zast (q := 61) hC dX6_quarrel_60 rfl (ok_31 (inb_lt g5) g6) rfl ?_
    refine G_iload_n (q := 62) hC dX6_quarrel_61 rfl rfl ?_
    obtain ⟨g7, hf⟩ := gd_ok hf
    exact G_iretX hC hf rfl (b01_narrow g7) (Nat.le_of_ble_eq_true rfl) (Nat.le_of_ble_eq_true rfl) dX6_quarrel_62
  · have hf := (if_pos c2).symm.trans hf
    exact G_throw hC hX hflag (text := "nobody quarrels alone") hf (by decide) (by decide +kernel) (wall (by decide +kernel) rfl) (wall (by decide +kernel) rfl) (by decide) thA1 thB1 dX6_quarrel_15 dX6_quarrel_18 dX6_quarrel_19 dX6_quarrel_21 dX6_quarrel_24 (Nat.le_of_ble_eq_true rfl) (Nat.le_of_ble_eq_true rfl) ⟨Nat.le_of_ble_eq_true rfl, Nat.le_of_ble_eq_true rfl⟩ ⟨Nat.le_of_ble_eq_true rfl, Nat.le_of_ble_eq_true rfl⟩

theorem m_X6_quarrel {l : Launch} {fu : Nat} {E : gE} {w : Nat → Int64} {σ : gSt} {x1 : Int32} {x2 : Int32} {r : Nat × Int32 × gSt} (hflag : l.stackTraces = false)  (hf : f_X6_quarrel fu σ x1 x2 = some r) : gMX l yX6_quarrel cX6_quarrel 4 (some .boolean) rm_X6_quarrel 1 E w σ [.ref (eB E + 0), .int x1, .int x2] r :=
  gMX_of (by decide +kernel) (Nat.le_of_ble_eq_true rfl) (fun p e s m args below meth c hC hX => t_X6_quarrel hC hX hflag  hf)
def f_X6_volumeOf_b2_B (fu : Nat) (k2 : gSt → Nat → Int32 → Option (Int32 × gSt)) (σ : gSt) (i1 : Nat) (x2 : Int32) : Option (Int32 × gSt) :=
  if (σ 157 0 0) ≤ x2 then (some ((-1 : Int32), σ)) else (gd (inb x2 4) (bd (f_X3_firstLetter fu σ i1) (fun v2 σ2 => if (σ 120 (x2.toNatClampNeg) 0) < v2 then (k2 σ2 i1 (x2 + (1))) else (some (x2, σ2)))))
def f_X6_volumeOf_b2 (fu : Nat)  : Nat → gSt → Nat → Int32 → Option (Int32 × gSt)
  | 0 => fun _ _ _ => none
  | n + 1 => f_X6_volumeOf_b2_B fu  (f_X6_volumeOf_b2 fu  n)
set_option maxRecDepth 100000 in
theorem t_X6_volumeOf_b2_B {fu : Nat} {k2 : gSt → Nat → Int32 → Option (Int32 × gSt)} {r : Int32 × gSt} (hC : gCx p s m args meth c cX6_volumeOf 3 RX6 (some .int) E) (hk2 : ∀ (σ : gSt) (i1 : Nat) (x2 : Int32), i1 < 121 → k2 σ i1 x2 = some r → G p l e rm_X6_volumeOf s m args below meth c 3 0 0 (MQ below (gQ E w 1 r) args s 0 0 (fun q => eB E ≤ q)) E w σ 2 [(0, .ref (eB E + 0)), (1, .ref (eB E + oHw i1)), (2, .int x2)] []) {σ : gSt} {i1 : Nat} {x2 : Int32} (h1 : i1 < 121) (hf : f_X6_volumeOf_b2_B fu k2 σ i1 x2 = some r) : G p l e rm_X6_volumeOf s m args below meth c 3 0 0 (MQ below (gQ E w 1 r) args s 0 0 (fun q => eB E ≤ q)) E w σ 2 [(0, .ref (eB E + 0)), (1, .ref (eB E + oHw i1)), (2, .int x2)] [] := by
  unfold f_X6_volumeOf_b2_B at hf
  refine G_iload_n (q := 3) hC dX6_volumeOf_2 rfl rfl ?_
  refine G_aload_n (q := 4) hC dX6_volumeOf_3 rfl rfl ?_
  refine gf_RX6_150 (q := 7) hC dX6_volumeOf_4 rfl ?_
  refine G_icmp_ge (tgt := 34) (q := 10) hC dX6_volumeOf_7 (by decide) rfl (fun c0 => ?_) (fun c0 => ?_)
  · have hf := (if_pos c0).symm.trans hf
    refine G_iconst (q := 35) hC dX6_volumeOf_34 rfl ic_m1 ?_
    exact G_iret hC hf rfl rfl dX6_volumeOf_35
  · have hf := (if_neg c0).symm.trans hf
    refine G_aload_n (q := 11) hC dX6_volumeOf_10 rfl rfl ?_
    refine gf_RX6_24 (q := 14) hC dX6_volumeOf_11 rfl ?_
    refine G_iload_n (q := 15) hC dX6_volumeOf_14 rfl rfl ?_
    obtain ⟨g1, hf⟩ := gd_ok hf
    refine G_aldVol (q := 16) hC dX6_volumeOf_15 rfl g1 ?_
    refine gf_RX6_153 (q := 19) hC dX6_volumeOf_16 rfl (inb_lt g1) ?_
    refine G_aload_n (q := 20) hC dX6_volumeOf_19 rfl rfl ?_
    obtain ⟨v2, σ2, hm2, hf⟩ := bd_ok hf
    refine cl_RX6_319 (q := 23) hC dX6_volumeOf_20 rfl (m_X3_firstLetter h1 hm2) h1 ⟨Nat.le_of_ble_eq_true rfl, Nat.le_of_ble_eq_true rfl⟩ (Nat.le_of_ble_eq_true rfl) ⟨Nat.le_of_ble_eq_true rfl, Nat.le_of_ble_eq_true rfl⟩ ?_
    refine G_icmp_lt (tgt := 28) (q := 26) hC dX6_volumeOf_23 (by decide) rfl (fun c2 => ?_) (fun c2 => ?_)
    · have hf := (if_pos c2).symm.trans hf
      refine G_iinc (q := 31) (n := 2) (lv' := [(2, .int (x2 + (1))), (0, .ref (eB E + 0)), (1, .ref (eB E + oHw i1))]) hC dX6_volumeOf_28 rfl rfl (ii_1 _) (by decide) rfl ?_
      refine G_goto (tgt := 2) hC dX6_volumeOf_31 (by decide) ?_
      refine G_lv (lv' := [(0, .ref (eB E + 0)), (1, .ref (eB E + oHw i1)), (2, .int (x2 + (1)))]) [1, 2, 0] rfl ?_
      exact hk2 _ _ _ h1 hf
    · have hf := (if_neg c2).symm.trans hf
      refine G_iload_n (q := 27) hC dX6_volumeOf_26 rfl rfl ?_
      exact G_iret hC hf rfl rfl dX6_volumeOf_27

theorem t_X6_volumeOf_b2 {fu : Nat}  {r : Int32 × gSt} (hC : gCx p s m args meth c cX6_volumeOf 3 RX6 (some .int) E)  (n : Nat) : ∀ (σ : gSt) (i1 : Nat) (x2 : Int32), i1 < 121 → f_X6_volumeOf_b2 fu  n σ i1 x2 = some r → G p l e rm_X6_volumeOf s m args below meth c 3 0 0 (MQ below (gQ E w 1 r) args s 0 0 (fun q => eB E ≤ q)) E w σ 2 [(0, .ref (eB E + 0)), (1, .ref (eB E + oHw i1)), (2, .int x2)] [] := by
  induction n with
  | zero => intro σ i1 x2 h1 hf; cases hf
  | succ n ih => intro σ i1 x2 h1 hf; exact t_X6_volumeOf_b2_B hC  ih h1 hf
def f_X6_volumeOf (fu : Nat)  (σ : gSt) (i1 : Nat) : Option (Int32 × gSt) :=
  f_X6_volumeOf_b2 fu  fu σ i1 (0 : Int32)
set_option maxRecDepth 100000 in
theorem t_X6_volumeOf {fu : Nat}  {r : Int32 × gSt} (hC : gCx p s m args meth c cX6_volumeOf 3 RX6 (some .int) E)  {σ : gSt} {i1 : Nat} (h1 : i1 < 121) (hf : f_X6_volumeOf fu  σ i1 = some r) : G p l e rm_X6_volumeOf s m args below meth c 3 0 0 (MQ below (gQ E w 1 r) args s 0 0 (fun q => eB E ≤ q)) E w σ 0 [(0, .ref (eB E + 0)), (1, .ref (eB E + oHw i1))] [] := by
  unfold f_X6_volumeOf at hf
  refine G_iconst (q := 1) hC dX6_volumeOf_0 rfl ic_0 ?_
  refine G_istore_n (q := 2) (lv' := [(2, .int (0 : Int32)), (0, .ref (eB E + 0)), (1, .ref (eB E + oHw i1))]) hC dX6_volumeOf_1 rfl (by decide) rfl ?_
  refine G_lv (lv' := [(0, .ref (eB E + 0)), (1, .ref (eB E + oHw i1)), (2, .int (0 : Int32))]) [1, 2, 0] rfl ?_
  exact t_X6_volumeOf_b2 hC  fu _ _ _ h1 hf

theorem m_X6_volumeOf {l : Launch} {fu : Nat} {E : gE} {w : Nat → Int64} {σ : gSt} {i1 : Nat} {r : Int32 × gSt} (h1 : i1 < 121) (hf : f_X6_volumeOf fu σ i1 = some r) : gM l yX6_volumeOf cX6_volumeOf 3 (some .int) rm_X6_volumeOf 1 E w σ [.ref (eB E + 0), .ref (eB E + oHw i1)] r :=
  gM_of (by decide +kernel) (Nat.le_of_ble_eq_true rfl) (fun p e s m args below meth c hC => t_X6_volumeOf hC h1 hf)
def f_X6_isOfPrintedVolume_b24 (fu : Nat)  (σ : gSt) (xs0 : Int32) : Option (Int32 × gSt) :=
  gd (b01 xs0) (some (xs0, σ))
set_option maxRecDepth 100000 in
theorem t_X6_isOfPrintedVolume_b24 {fu : Nat}  {r : Int32 × gSt} (hC : gCx p s m args meth c cX6_isOfPrintedVolume 3 RX6 (some .boolean) E)  {σ : gSt} {xs0 : Int32}  (hf : f_X6_isOfPrintedVolume_b24 fu  σ xs0 = some r) : G p l e rm_X6_isOfPrintedVolume s m args below meth c 3 0 0 (MQ below (gQ E w 1 r) args s 0 0 (fun q => eB E ≤ q)) E w σ 24 [] [.int xs0] := by
  unfold f_X6_isOfPrintedVolume_b24 at hf
  obtain ⟨g1, hf⟩ := gd_ok hf
  exact G_iret hC hf rfl (b01_narrow g1) dX6_isOfPrintedVolume_24

def f_X6_isOfPrintedVolume_b23 (fu : Nat)  (σ : gSt)  : Option (Int32 × gSt) :=
  f_X6_isOfPrintedVolume_b24 fu  σ (0 : Int32)
set_option maxRecDepth 100000 in
theorem t_X6_isOfPrintedVolume_b23 {fu : Nat}  {r : Int32 × gSt} (hC : gCx p s m args meth c cX6_isOfPrintedVolume 3 RX6 (some .boolean) E)  {σ : gSt}   (hf : f_X6_isOfPrintedVolume_b23 fu  σ  = some r) : G p l e rm_X6_isOfPrintedVolume s m args below meth c 3 0 0 (MQ below (gQ E w 1 r) args s 0 0 (fun q => eB E ≤ q)) E w σ 23 [] [] := by
  unfold f_X6_isOfPrintedVolume_b23 at hf
  refine G_iconst (q := 24) hC dX6_isOfPrintedVolume_23 rfl ic_0 ?_
  exact t_X6_isOfPrintedVolume_b24 hC   hf

def f_X6_isOfPrintedVolume (fu : Nat)  (σ : gSt) (i1 : Nat) : Option (Int32 × gSt) :=
  bd (f_X6_volumeOf fu σ i1) (fun v1 σ1 => if v1 = (-1 : Int32) then (f_X6_isOfPrintedVolume_b23 fu  σ1) else (if (σ1 158 0 0) ≤ v1 then (f_X6_isOfPrintedVolume_b23 fu  σ1) else (f_X6_isOfPrintedVolume_b24 fu  σ1 (1 : Int32))))
set_option maxRecDepth 100000 in
theorem t_X6_isOfPrintedVolume {fu : Nat}  {r : Int32 × gSt} (hC : gCx p s m args meth c cX6_isOfPrintedVolume 3 RX6 (some .boolean) E)  {σ : gSt} {i1 : Nat} (h1 : i1 < 121) (hf : f_X6_isOfPrintedVolume fu  σ i1 = some r) : G p l e rm_X6_isOfPrintedVolume s m args below meth c 3 0 0 (MQ below (gQ E w 1 r) args s 0 0 (fun q => eB E ≤ q)) E w σ 0 [(0, .ref (eB E + 0)), (1, .ref (eB E + oHw i1))] [] := by
  unfold f_X6_isOfPrintedVolume at hf
  refine G_aload_n (q := 1) hC dX6_isOfPrintedVolume_0 rfl rfl ?_
  refine G_aload_n (q := 2) hC dX6_isOfPrintedVolume_1 rfl rfl ?_
  obtain ⟨v1, σ1, hm1, hf⟩ := bd_ok hf
  refine cl_RX6_259 (q := 5) hC dX6_isOfPrintedVolume_2 rfl (m_X6_volumeOf h1 hm1) ⟨Nat.le_of_ble_eq_true rfl, Nat.le_of_ble_eq_true rfl⟩ (Nat.le_of_ble_eq_true rfl) ⟨Nat.le_of_ble_eq_true rfl, Nat.le_of_ble_eq_true rfl⟩ ?_
  refine G_istore_n (q := 6) (lv' := [(2, .int v1), (0, .ref (eB E + 0)), (1, .ref (eB E + oHw i1))]) hC dX6_isOfPrintedVolume_5 rfl (by decide) rfl ?_
  refine G_iload_n (q := 7) hC dX6_isOfPrintedVolume_6 rfl rfl ?_
  refine G_iconst (q := 8) hC dX6_isOfPrintedVolume_7 rfl ic_m1 ?_
  refine G_icmp_eq (tgt := 23) (q := 11) hC dX6_isOfPrintedVolume_8 (by decide) rfl (fun c1 => ?_) (fun c1 => ?_)
  · have hf := (if_pos c1).symm.trans hf
    refine G_lv (lv' := []) [] rfl ?_
    exact t_X6_isOfPrintedVolume_b23 hC   hf
  · have hf := (if_neg c1).symm.trans hf
    refine G_iload_n (q := 12) hC dX6_isOfPrintedVolume_11 rfl rfl ?_
    refine G_aload_n (q := 13) hC dX6_isOfPrintedVolume_12 rfl rfl ?_
    refine gf_RX6_74 (q := 16) hC dX6_isOfPrintedVolume_13 rfl ?_
    refine G_icmp_ge (tgt := 23) (q := 19) hC dX6_isOfPrintedVolume_16 (by decide) rfl (fun c2 => ?_) (fun c2 => ?_)
    · have hf := (if_pos c2).symm.trans hf
      refine G_lv (lv' := []) [] rfl ?_
      exact t_X6_isOfPrintedVolume_b23 hC   hf
    · have hf := (if_neg c2).symm.trans hf
      refine G_iconst (q := 20) hC dX6_isOfPrintedVolume_19 rfl ic_1 ?_
      refine G_goto (tgt := 24) hC dX6_isOfPrintedVolume_20 (by decide) ?_
      refine G_lv (lv' := []) [] rfl ?_
      exact t_X6_isOfPrintedVolume_b24 hC   hf

theorem m_X6_isOfPrintedVolume {l : Launch} {fu : Nat} {E : gE} {w : Nat → Int64} {σ : gSt} {i1 : Nat} {r : Int32 × gSt} (h1 : i1 < 121) (hf : f_X6_isOfPrintedVolume fu σ i1 = some r) : gM l yX6_isOfPrintedVolume cX6_isOfPrintedVolume 3 (some .boolean) rm_X6_isOfPrintedVolume 1 E w σ [.ref (eB E + 0), .ref (eB E + oHw i1)] r :=
  gM_of (by decide +kernel) (Nat.le_of_ble_eq_true rfl) (fun p e s m args below meth c hC => t_X6_isOfPrintedVolume hC h1 hf)
def f_X6_isToBeGiven_b43 (fu : Nat)  (σ : gSt) (xs0 : Int32) : Option (Int32 × gSt) :=
  gd (b01 xs0) (some (xs0, σ))
set_option maxRecDepth 100000 in
theorem t_X6_isToBeGiven_b43 {fu : Nat}  {r : Int32 × gSt} (hC : gCx p s m args meth c cX6_isToBeGiven 2 RX6 (some .boolean) E)  {σ : gSt} {xs0 : Int32}  (hf : f_X6_isToBeGiven_b43 fu  σ xs0 = some r) : G p l e rm_X6_isToBeGiven s m args below meth c 2 0 0 (MQ below (gQ E w 1 r) args s 0 0 (fun q => eB E ≤ q)) E w σ 43 [] [.int xs0] := by
  unfold f_X6_isToBeGiven_b43 at hf
  obtain ⟨g1, hf⟩ := gd_ok hf
  exact G_iret hC hf rfl (b01_narrow g1) dX6_isToBeGiven_43

def f_X6_isToBeGiven_b42 (fu : Nat)  (σ : gSt)  : Option (Int32 × gSt) :=
  f_X6_isToBeGiven_b43 fu  σ (0 : Int32)
set_option maxRecDepth 100000 in
theorem t_X6_isToBeGiven_b42 {fu : Nat}  {r : Int32 × gSt} (hC : gCx p s m args meth c cX6_isToBeGiven 2 RX6 (some .boolean) E)  {σ : gSt}   (hf : f_X6_isToBeGiven_b42 fu  σ  = some r) : G p l e rm_X6_isToBeGiven s m args below meth c 2 0 0 (MQ below (gQ E w 1 r) args s 0 0 (fun q => eB E ≤ q)) E w σ 42 [] [] := by
  unfold f_X6_isToBeGiven_b42 at hf
  refine G_iconst (q := 43) hC dX6_isToBeGiven_42 rfl ic_0 ?_
  exact t_X6_isToBeGiven_b43 hC   hf

def f_X6_isToBeGiven (fu : Nat)  (σ : gSt) (i1 : Nat) : Option (Int32 × gSt) :=
  bd (f_X0_isBlind fu σ i1) (fun v1 σ1 => if v1 = 0 then (if (σ1 7 i1 0) = (-1 : Int32) then (bd (f_X6_volumeOf fu σ1 i1) (fun v4 σ4 => if v4 = (-1 : Int32) then (f_X6_isToBeGiven_b42 fu  σ4) else (bd (f_X6_isOfPrintedVolume fu σ4 i1) (fun v6 σ6 => if v6 = 0 then (f_X6_isToBeGiven_b43 fu  σ6 (1 : Int32)) else (f_X6_isToBeGiven_b42 fu  σ6))))) else (f_X6_isToBeGiven_b42 fu  σ1)) else (f_X6_isToBeGiven_b42 fu  σ1))
set_option maxRecDepth 100000 in
theorem t_X6_isToBeGiven {fu : Nat}  {r : Int32 × gSt} (hC : gCx p s m args meth c cX6_isToBeGiven 2 RX6 (some .boolean) E)  {σ : gSt} {i1 : Nat} (h1 : i1 < 24) (hf : f_X6_isToBeGiven fu  σ i1 = some r) : G p l e rm_X6_isToBeGiven s m args below meth c 2 0 0 (MQ below (gQ E w 1 r) args s 0 0 (fun q => eB E ≤ q)) E w σ 0 [(0, .ref (eB E + 0)), (1, .ref (eB E + oArt i1))] [] := by
  unfold f_X6_isToBeGiven at hf
  refine G_aload_n (q := 1) hC dX6_isToBeGiven_0 rfl rfl ?_
  obtain ⟨v1, σ1, hm1, hf⟩ := bd_ok hf
  refine cl_RX6_134 (q := 4) hC dX6_isToBeGiven_1 rfl (m_X0_isBlind h1 hm1) h1 ⟨Nat.le_of_ble_eq_true rfl, Nat.le_of_ble_eq_true rfl⟩ (Nat.le_of_ble_eq_true rfl) ⟨Nat.le_of_ble_eq_true rfl, Nat.le_of_ble_eq_true rfl⟩ ?_
  refine G_if_ne (tgt := 42) (q := 7) hC dX6_isToBeGiven_4 (by decide) rfl (fun c1 => ?_) (fun c1 => ?_)
  · have hf := (if_neg c1).symm.trans hf
    refine G_lv (lv' := []) [] rfl ?_
    exact t_X6_isToBeGiven_b42 hC   hf
  · have hf := (if_pos c1).symm.trans hf
    refine G_aload_n (q := 8) hC dX6_isToBeGiven_7 rfl rfl ?_
    refine gf_RX6_195 (q := 11) hC dX6_isToBeGiven_8 rfl h1 ?_
    refine G_iconst (q := 12) hC dX6_isToBeGiven_11 rfl ic_m1 ?_
    refine G_icmp_ne (tgt := 42) (q := 15) hC dX6_isToBeGiven_12 (by decide) rfl (fun c2 => ?_) (fun c2 => ?_)
    · have hf := (if_neg c2).symm.trans hf
      refine G_lv (lv' := []) [] rfl ?_
      exact t_X6_isToBeGiven_b42 hC   hf
    · have hf := (if_pos c2).symm.trans hf
      refine G_aload_n (q := 16) hC dX6_isToBeGiven_15 rfl rfl ?_
      refine G_aload_n (q := 17) hC dX6_isToBeGiven_16 rfl rfl ?_
      refine gf_RX6_104 (q := 20) hC dX6_isToBeGiven_17 rfl h1 ?_
      obtain ⟨v4, σ4, hm4, hf⟩ := bd_ok hf
      refine cl_RX6_259 (q := 23) hC dX6_isToBeGiven_20 rfl (m_X6_volumeOf (hwA h1) hm4) ⟨Nat.le_of_ble_eq_true rfl, Nat.le_of_ble_eq_true rfl⟩ (Nat.le_of_ble_eq_true rfl) ⟨Nat.le_of_ble_eq_true rfl, Nat.le_of_ble_eq_true rfl⟩ ?_
      refine G_iconst (q := 24) hC dX6_isToBeGiven_23 rfl ic_m1 ?_
      refine G_icmp_eq (tgt := 42) (q := 27) hC dX6_isToBeGiven_24 (by decide) rfl (fun c4 => ?_) (fun c4 => ?_)
      · have hf := (if_pos c4).symm.trans hf
        refine G_lv (lv' := []) [] rfl ?_
        exact t_X6_isToBeGiven_b42 hC   hf
      · have hf := (if_neg c4).symm.trans hf
        refine G_aload_n (q := 28) hC dX6_isToBeGiven_27 rfl rfl ?_
        refine G_aload_n (q := 29) hC dX6_isToBeGiven_28 rfl rfl ?_
        refine gf_RX6_104 (q := 32) hC dX6_isToBeGiven_29 rfl h1 ?_
        obtain ⟨v6, σ6, hm6, hf⟩ := bd_ok hf
        refine cl_RX6_326 (q := 35) hC dX6_isToBeGiven_32 rfl (m_X6_isOfPrintedVolume (hwA h1) hm6) ⟨Nat.le_of_ble_eq_true rfl, Nat.le_of_ble_eq_true rfl⟩ (Nat.le_of_ble_eq_true rfl) ⟨Nat.le_of_ble_eq_true rfl, Nat.le_of_ble_eq_true rfl⟩ ?_
        refine G_if_ne (tgt := 42) (q := 38) hC dX6_isToBeGiven_35 (by decide) rfl (fun c6 => ?_) (fun c6 => ?_)
        · have hf := (if_neg c6).symm.trans hf
          refine G_lv (lv' := []) [] rfl ?_
          exact t_X6_isToBeGiven_b42 hC   hf
        · have hf := (if_pos c6).symm.trans hf
          refine G_iconst (q := 39) hC dX6_isToBeGiven_38 rfl ic_1 ?_
          refine G_goto (tgt := 43) hC dX6_isToBeGiven_39 (by decide) ?_
          refine G_lv (lv' := []) [] rfl ?_
          exact t_X6_isToBeGiven_b43 hC   hf

theorem m_X6_isToBeGiven {l : Launch} {fu : Nat} {E : gE} {w : Nat → Int64} {σ : gSt} {i1 : Nat} {r : Int32 × gSt} (h1 : i1 < 24) (hf : f_X6_isToBeGiven fu σ i1 = some r) : gM l yX6_isToBeGiven cX6_isToBeGiven 2 (some .boolean) rm_X6_isToBeGiven 1 E w σ [.ref (eB E + 0), .ref (eB E + oArt i1)] r :=
  gM_of (by decide +kernel) (Nat.le_of_ble_eq_true rfl) (fun p e s m args below meth c hC => t_X6_isToBeGiven hC h1 hf)
end WK

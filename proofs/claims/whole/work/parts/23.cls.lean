/-! by program (wip/whole/gen_walk.py): the methods as functions over the store, and their walks -/
section WK
variable {p : Program} {l : Launch} {e : Env} {s : State} {m : MethodId} {args : Array Value} {below : List Frame} {meth : Method} {c : Code} {E : gE} {w : Nat → Int64}
def f_X6_tellFacts_b88 (fu : Nat) (k4 : gSt → Int32 → Int32 → Option (Int32 × gSt)) (k22 : gSt → Int32 → Int32 → Nat → Int32 → Option (Int32 × gSt)) (σ : gSt) (x1 : Int32) (x2 : Int32) (i3 : Nat) (x4 : Int32) : Option (Int32 × gSt) :=
  k22 σ x1 x2 i3 (x4 + (1))
set_option maxRecDepth 100000 in
theorem t_X6_tellFacts_b88 {fu : Nat} {k4 : gSt → Int32 → Int32 → Option (Int32 × gSt)} {k22 : gSt → Int32 → Int32 → Nat → Int32 → Option (Int32 × gSt)} {r : Int32 × gSt} (hC : gCx p s m args meth c cX6_tellFacts 5 RX6 (some .int) E) (hk4 : ∀ (σ : gSt) (x1 : Int32) (x2 : Int32), k4 σ x1 x2 = some r → G p l e rm_X6_tellFacts s m args below meth c 5 0 0 (MQ below (gQ E w 1 r) args s 0 0 (fun q => eB E ≤ q)) E w σ 4 [(0, .ref (eB E + 0)), (1, .int x1), (2, .int x2)] []) (hk22 : ∀ (σ : gSt) (x1 : Int32) (x2 : Int32) (i3 : Nat) (x4 : Int32), i3 < 24 → k22 σ x1 x2 i3 x4 = some r → G p l e rm_X6_tellFacts s m args below meth c 5 0 0 (MQ below (gQ E w 1 r) args s 0 0 (fun q => eB E ≤ q)) E w σ 22 [(0, .ref (eB E + 0)), (1, .int x1), (2, .int x2), (3, .ref (eB E + oArt i3)), (4, .int x4)] []) {σ : gSt} {x1 : Int32} {x2 : Int32} {i3 : Nat} {x4 : Int32} (h3 : i3 < 24) (hf : f_X6_tellFacts_b88 fu k4 k22 σ x1 x2 i3 x4 = some r) : G p l e rm_X6_tellFacts s m args below meth c 5 0 0 (MQ below (gQ E w 1 r) args s 0 0 (fun q => eB E ≤ q)) E w σ 88 [(0, .ref (eB E + 0)), (1, .int x1), (2, .int x2), (3, .ref (eB E + oArt i3)), (4, .int x4)] [] := by
  unfold f_X6_tellFacts_b88 at hf
  refine G_iinc (q := 91) (n := 4) (lv' := [(4, .int (x4 + (1))), (0, .ref (eB E + 0)), (1, .int x1), (2, .int x2), (3, .ref (eB E + oArt i3))]) hC dX6_tellFacts_88 rfl rfl (ii_1 _) (by decide) rfl ?_
  refine G_goto (tgt := 22) hC dX6_tellFacts_91 (by decide) ?_
  refine G_lv (lv' := [(0, .ref (eB E + 0)), (1, .int x1), (2, .int x2), (3, .ref (eB E + oArt i3)), (4, .int (x4 + (1)))]) [1, 2, 3, 4, 0] rfl ?_
  exact hk22 _ _ _ _ _ h3 hf

def f_X6_tellFacts_b22_B (fu : Nat) (k4 : gSt → Int32 → Int32 → Option (Int32 × gSt)) (k22 : gSt → Int32 → Int32 → Nat → Int32 → Option (Int32 × gSt)) (σ : gSt) (x1 : Int32) (x2 : Int32) (i3 : Nat) (x4 : Int32) : Option (Int32 × gSt) :=
  if (8 : Int32) ≤ x4 then (k4 σ x1 (x2 + (1))) else (if (σ 11 i3 0) = 0 then (f_X6_tellFacts_b88 fu k4 k22 σ x1 x2 i3 x4) else (gd (inb x4 8) (if (σ 2 i3 x4.toNatClampNeg) = 0 then (f_X6_tellFacts_b88 fu k4 k22 σ x1 x2 i3 x4) else (gd (inb x4 8) (gd (inb x4 8) (if (σ 3 i3 x4.toNatClampNeg) = (σ 155 0 x4.toNatClampNeg) then (f_X6_tellFacts_b88 fu k4 k22 σ x1 x2 i3 x4) else (gd (inb x4 8) (gd (inb x4 8) (bd (f_X6_addErratum fu (gU σ 3 i3 x4.toNatClampNeg (σ 155 0 x4.toNatClampNeg)) ((gU σ 3 i3 x4.toNatClampNeg (σ 155 0 x4.toNatClampNeg)) 7 i3 0)) (fun _ σ5 => f_X6_tellFacts_b88 fu k4 k22 σ5 (x1 + (1)) x2 i3 x4))))))))))
def f_X6_tellFacts_b22 (fu : Nat) (k4 : gSt → Int32 → Int32 → Option (Int32 × gSt)) : Nat → gSt → Int32 → Int32 → Nat → Int32 → Option (Int32 × gSt)
  | 0 => fun _ _ _ _ _ => none
  | n + 1 => f_X6_tellFacts_b22_B fu k4 (f_X6_tellFacts_b22 fu k4 n)
set_option maxRecDepth 100000 in
theorem t_X6_tellFacts_b22_B {fu : Nat} {k4 : gSt → Int32 → Int32 → Option (Int32 × gSt)} {k22 : gSt → Int32 → Int32 → Nat → Int32 → Option (Int32 × gSt)} {r : Int32 × gSt} (hC : gCx p s m args meth c cX6_tellFacts 5 RX6 (some .int) E) (hk4 : ∀ (σ : gSt) (x1 : Int32) (x2 : Int32), k4 σ x1 x2 = some r → G p l e rm_X6_tellFacts s m args below meth c 5 0 0 (MQ below (gQ E w 1 r) args s 0 0 (fun q => eB E ≤ q)) E w σ 4 [(0, .ref (eB E + 0)), (1, .int x1), (2, .int x2)] []) (hk22 : ∀ (σ : gSt) (x1 : Int32) (x2 : Int32) (i3 : Nat) (x4 : Int32), i3 < 24 → k22 σ x1 x2 i3 x4 = some r → G p l e rm_X6_tellFacts s m args below meth c 5 0 0 (MQ below (gQ E w 1 r) args s 0 0 (fun q => eB E ≤ q)) E w σ 22 [(0, .ref (eB E + 0)), (1, .int x1), (2, .int x2), (3, .ref (eB E + oArt i3)), (4, .int x4)] []) {σ : gSt} {x1 : Int32} {x2 : Int32} {i3 : Nat} {x4 : Int32} (h3 : i3 < 24) (hf : f_X6_tellFacts_b22_B fu k4 k22 σ x1 x2 i3 x4 = some r) : G p l e rm_X6_tellFacts s m args below meth c 5 0 0 (MQ below (gQ E w 1 r) args s 0 0 (fun q => eB E ≤ q)) E w σ 22 [(0, .ref (eB E + 0)), (1, .int x1), (2, .int x2), (3, .ref (eB E + oArt i3)), (4, .int x4)] [] := by
  unfold f_X6_tellFacts_b22_B at hf
  refine G_iload (q := 24) hC dX6_tellFacts_22 rfl rfl ?_
  refine G_bipush (q := 26) hC dX6_tellFacts_24 rfl bp_8 ?_
  refine G_icmp_ge (tgt := 94) (q := 29) hC dX6_tellFacts_26 (by decide) rfl (fun c0 => ?_) (fun c0 => ?_)
  · have hf := (if_pos c0).symm.trans hf
    refine G_iinc (q := 97) (n := 2) (lv' := [(2, .int (x2 + (1))), (0, .ref (eB E + 0)), (1, .int x1), (3, .ref (eB E + oArt i3)), (4, .int x4)]) hC dX6_tellFacts_94 rfl rfl (ii_1 _) (by decide) rfl ?_
    refine G_goto (tgt := 4) hC dX6_tellFacts_97 (by decide) ?_
    refine G_lv (lv' := [(0, .ref (eB E + 0)), (1, .int x1), (2, .int (x2 + (1)))]) [1, 2, 0] rfl ?_
    exact hk4 _ _ _  hf
  · have hf := (if_neg c0).symm.trans hf
    refine G_aload_n (q := 30) hC dX6_tellFacts_29 rfl rfl ?_
    refine gf_RX6_116 (q := 33) hC dX6_tellFacts_30 rfl h3 ?_
    refine G_if_eq (tgt := 88) (q := 36) hC dX6_tellFacts_33 (by decide) rfl (fun c1 => ?_) (fun c1 => ?_)
    · have hf := (if_pos c1).symm.trans hf
      exact t_X6_tellFacts_b88 hC hk4 hk22 h3 hf
    · have hf := (if_neg c1).symm.trans hf
      refine G_aload_n (q := 37) hC dX6_tellFacts_36 rfl rfl ?_
      refine gf_RX6_139 (q := 40) hC dX6_tellFacts_37 rfl h3 ?_
      refine G_iload (q := 42) hC dX6_tellFacts_40 rfl rfl ?_
      obtain ⟨g1, hf⟩ := gd_ok hf
      refine G_zald (q := 43) hC dX6_tellFacts_42 rfl (ok_2 h3 g1) ?_
      refine G_if_eq (tgt := 88) (q := 46) hC dX6_tellFacts_43 (by decide) rfl (fun c2 => ?_) (fun c2 => ?_)
      · have hf := (if_pos c2).symm.trans hf
        exact t_X6_tellFacts_b88 hC hk4 hk22 h3 hf
      · have hf := (if_neg c2).symm.trans hf
        refine G_aload_n (q := 47) hC dX6_tellFacts_46 rfl rfl ?_
        refine gf_RX6_377 (q := 50) hC dX6_tellFacts_47 rfl h3 ?_
        refine G_iload (q := 52) hC dX6_tellFacts_50 rfl rfl ?_
        obtain ⟨g2, hf⟩ := gd_ok hf
        refine G_iald (q := 53) hC dX6_tellFacts_52 rfl (ok_3 h3 g2) ?_
        refine G_aload_n (q := 54) hC dX6_tellFacts_53 rfl rfl ?_
        refine gf_RX6_38 (q := 57) hC dX6_tellFacts_54 rfl ?_
        refine G_iload (q := 59) hC dX6_tellFacts_57 rfl rfl ?_
        obtain ⟨g3, hf⟩ := gd_ok hf
        refine G_iald (q := 60) hC dX6_tellFacts_59 rfl (ok_155 g3) ?_
        refine G_icmp_eq (tgt := 88) (q := 63) hC dX6_tellFacts_60 (by decide) rfl (fun c3 => ?_) (fun c3 => ?_)
        · have hf := (if_pos c3).symm.trans hf
          exact t_X6_tellFacts_b88 hC hk4 hk22 h3 hf
        · have hf := (if_neg c3).symm.trans hf
          refine G_aload_n (q := 64) hC dX6_tellFacts_63 rfl rfl ?_
          refine gf_RX6_377 (q := 67) hC dX6_tellFacts_64 rfl h3 ?_
          refine G_iload (q := 69) hC dX6_tellFacts_67 rfl rfl ?_
          refine G_aload_n (q := 70) hC dX6_tellFacts_69 rfl rfl ?_
          refine gf_RX6_38 (q := 73) hC dX6_tellFacts_70 rfl ?_
          refine G_iload (q := 75) hC dX6_tellFacts_73 rfl rfl ?_
          obtain ⟨g4, hf⟩ := gd_ok hf
          refine G_iald (q := 76) hC dX6_tellFacts_75 rfl (ok_155 g4) ?_
          obtain ⟨g5, hf⟩ := gd_ok hf
          refine G_iast (q := 77) hC dX6_tellFacts_76 rfl (ok_3 h3 g5) ?_
          refine G_aload_n (q := 78) hC dX6_tellFacts_77 rfl rfl ?_
          refine G_aload_n (q := 79) hC dX6_tellFacts_78 rfl rfl ?_
          refine gf_RX6_195 (q := 82) hC dX6_tellFacts_79 rfl h3 ?_
          obtain ⟨v5, σ5, hm5, hf⟩ := bd_ok hf
          refine cl_RX6_380 (q := 85) hC dX6_tellFacts_82 rfl (m_X6_addErratum hm5) ⟨Nat.le_of_ble_eq_true rfl, Nat.le_of_ble_eq_true rfl⟩ (Nat.le_of_ble_eq_true rfl) ⟨Nat.le_of_ble_eq_true rfl, Nat.le_of_ble_eq_true rfl⟩ ?_
          refine G_iinc (q := 88) (n := 1) (lv' := [(1, .int (x1 + (1))), (0, .ref (eB E + 0)), (2, .int x2), (3, .ref (eB E + oArt i3)), (4, .int x4)]) hC dX6_tellFacts_85 rfl rfl (ii_1 _) (by decide) rfl ?_
          refine G_lv (lv' := [(0, .ref (eB E + 0)), (1, .int (x1 + (1))), (2, .int x2), (3, .ref (eB E + oArt i3)), (4, .int x4)]) [1, 0, 2, 3, 4] rfl ?_
          exact t_X6_tellFacts_b88 hC hk4 hk22 h3 hf

theorem t_X6_tellFacts_b22 {fu : Nat} {k4 : gSt → Int32 → Int32 → Option (Int32 × gSt)} {r : Int32 × gSt} (hC : gCx p s m args meth c cX6_tellFacts 5 RX6 (some .int) E) (hk4 : ∀ (σ : gSt) (x1 : Int32) (x2 : Int32), k4 σ x1 x2 = some r → G p l e rm_X6_tellFacts s m args below meth c 5 0 0 (MQ below (gQ E w 1 r) args s 0 0 (fun q => eB E ≤ q)) E w σ 4 [(0, .ref (eB E + 0)), (1, .int x1), (2, .int x2)] []) (n : Nat) : ∀ (σ : gSt) (x1 : Int32) (x2 : Int32) (i3 : Nat) (x4 : Int32), i3 < 24 → f_X6_tellFacts_b22 fu k4 n σ x1 x2 i3 x4 = some r → G p l e rm_X6_tellFacts s m args below meth c 5 0 0 (MQ below (gQ E w 1 r) args s 0 0 (fun q => eB E ≤ q)) E w σ 22 [(0, .ref (eB E + 0)), (1, .int x1), (2, .int x2), (3, .ref (eB E + oArt i3)), (4, .int x4)] [] := by
  induction n with
  | zero => intro σ x1 x2 i3 x4 h3 hf; cases hf
  | succ n ih => intro σ x1 x2 i3 x4 h3 hf; exact t_X6_tellFacts_b22_B hC hk4 ih h3 hf
def f_X6_tellFacts_b4_B (fu : Nat) (k4 : gSt → Int32 → Int32 → Option (Int32 × gSt)) (σ : gSt) (x1 : Int32) (x2 : Int32) : Option (Int32 × gSt) :=
  if (σ 156 0 0) ≤ x2 then (some (x1, σ)) else (gd (inb x2 24) (f_X6_tellFacts_b22 fu k4 fu σ x1 x2 (x2.toNatClampNeg) (0 : Int32)))
def f_X6_tellFacts_b4 (fu : Nat)  : Nat → gSt → Int32 → Int32 → Option (Int32 × gSt)
  | 0 => fun _ _ _ => none
  | n + 1 => f_X6_tellFacts_b4_B fu  (f_X6_tellFacts_b4 fu  n)
set_option maxRecDepth 100000 in
theorem t_X6_tellFacts_b4_B {fu : Nat} {k4 : gSt → Int32 → Int32 → Option (Int32 × gSt)} {r : Int32 × gSt} (hC : gCx p s m args meth c cX6_tellFacts 5 RX6 (some .int) E) (hk4 : ∀ (σ : gSt) (x1 : Int32) (x2 : Int32), k4 σ x1 x2 = some r → G p l e rm_X6_tellFacts s m args below meth c 5 0 0 (MQ below (gQ E w 1 r) args s 0 0 (fun q => eB E ≤ q)) E w σ 4 [(0, .ref (eB E + 0)), (1, .int x1), (2, .int x2)] []) {σ : gSt} {x1 : Int32} {x2 : Int32}  (hf : f_X6_tellFacts_b4_B fu k4 σ x1 x2 = some r) : G p l e rm_X6_tellFacts s m args below meth c 5 0 0 (MQ below (gQ E w 1 r) args s 0 0 (fun q => eB E ≤ q)) E w σ 4 [(0, .ref (eB E + 0)), (1, .int x1), (2, .int x2)] [] := by
  unfold f_X6_tellFacts_b4_B at hf
  refine G_iload_n (q := 5) hC dX6_tellFacts_4 rfl rfl ?_
  refine G_aload_n (q := 6) hC dX6_tellFacts_5 rfl rfl ?_
  refine gf_RX6_89 (q := 9) hC dX6_tellFacts_6 rfl ?_
  refine G_icmp_ge (tgt := 100) (q := 12) hC dX6_tellFacts_9 (by decide) rfl (fun c0 => ?_) (fun c0 => ?_)
  · have hf := (if_pos c0).symm.trans hf
    refine G_iload_n (q := 101) hC dX6_tellFacts_100 rfl rfl ?_
    exact G_iret hC hf rfl rfl dX6_tellFacts_101
  · have hf := (if_neg c0).symm.trans hf
    refine G_aload_n (q := 13) hC dX6_tellFacts_12 rfl rfl ?_
    refine gf_RX6_18 (q := 16) hC dX6_tellFacts_13 rfl ?_
    refine G_iload_n (q := 17) hC dX6_tellFacts_16 rfl rfl ?_
    obtain ⟨g1, hf⟩ := gd_ok hf
    refine G_aldArt (q := 18) hC dX6_tellFacts_17 rfl g1 ?_
    refine G_astore_n (q := 19) (lv' := [(3, .ref (eB E + oArt (x2.toNatClampNeg))), (0, .ref (eB E + 0)), (1, .int x1), (2, .int x2)]) hC dX6_tellFacts_18 rfl (by decide) rfl ?_
    refine G_iconst (q := 20) hC dX6_tellFacts_19 rfl ic_0 ?_
    refine G_istore (q := 22) (lv' := [(4, .int (0 : Int32)), (3, .ref (eB E + oArt (x2.toNatClampNeg))), (0, .ref (eB E + 0)), (1, .int x1), (2, .int x2)]) hC dX6_tellFacts_20 rfl (by decide) rfl ?_
    refine G_lv (lv' := [(0, .ref (eB E + 0)), (1, .int x1), (2, .int x2), (3, .ref (eB E + oArt (x2.toNatClampNeg))), (4, .int (0 : Int32))]) [2, 3, 4, 1, 0] rfl ?_
    exact t_X6_tellFacts_b22 hC hk4 fu _ _ _ _ _ (inb_lt g1) hf

theorem t_X6_tellFacts_b4 {fu : Nat}  {r : Int32 × gSt} (hC : gCx p s m args meth c cX6_tellFacts 5 RX6 (some .int) E)  (n : Nat) : ∀ (σ : gSt) (x1 : Int32) (x2 : Int32), f_X6_tellFacts_b4 fu  n σ x1 x2 = some r → G p l e rm_X6_tellFacts s m args below meth c 5 0 0 (MQ below (gQ E w 1 r) args s 0 0 (fun q => eB E ≤ q)) E w σ 4 [(0, .ref (eB E + 0)), (1, .int x1), (2, .int x2)] [] := by
  induction n with
  | zero => intro σ x1 x2  hf; cases hf
  | succ n ih => intro σ x1 x2  hf; exact t_X6_tellFacts_b4_B hC  ih  hf
def f_X6_tellFacts (fu : Nat)  (σ : gSt)  : Option (Int32 × gSt) :=
  f_X6_tellFacts_b4 fu  fu σ (0 : Int32) (0 : Int32)
set_option maxRecDepth 100000 in
theorem t_X6_tellFacts {fu : Nat}  {r : Int32 × gSt} (hC : gCx p s m args meth c cX6_tellFacts 5 RX6 (some .int) E)  {σ : gSt}   (hf : f_X6_tellFacts fu  σ  = some r) : G p l e rm_X6_tellFacts s m args below meth c 5 0 0 (MQ below (gQ E w 1 r) args s 0 0 (fun q => eB E ≤ q)) E w σ 0 [(0, .ref (eB E + 0))] [] := by
  unfold f_X6_tellFacts at hf
  refine G_iconst (q := 1) hC dX6_tellFacts_0 rfl ic_0 ?_
  refine G_istore_n (q := 2) (lv' := [(1, .int (0 : Int32)), (0, .ref (eB E + 0))]) hC dX6_tellFacts_1 rfl (by decide) rfl ?_
  refine G_iconst (q := 3) hC dX6_tellFacts_2 rfl ic_0 ?_
  refine G_istore_n (q := 4) (lv' := [(2, .int (0 : Int32)), (1, .int (0 : Int32)), (0, .ref (eB E + 0))]) hC dX6_tellFacts_3 rfl (by decide) rfl ?_
  refine G_lv (lv' := [(0, .ref (eB E + 0)), (1, .int (0 : Int32)), (2, .int (0 : Int32))]) [2, 1, 0] rfl ?_
  exact t_X6_tellFacts_b4 hC  fu _ _ _  hf

theorem m_X6_tellFacts {l : Launch} {fu : Nat} {E : gE} {w : Nat → Int64} {σ : gSt}  {r : Int32 × gSt}  (hf : f_X6_tellFacts fu σ  = some r) : gM l yX6_tellFacts cX6_tellFacts 5 (some .int) rm_X6_tellFacts 1 E w σ [.ref (eB E + 0)] r :=
  gM_of (by decide +kernel) (Nat.le_of_ble_eq_true rfl) (fun p e s m args below meth c hC => t_X6_tellFacts hC  hf)
def f_X6_isBroken_b37 (fu : Nat)  (σ : gSt) (xs0 : Int32) : Option (Int32 × gSt) :=
  gd (b01 xs0) (some (xs0, σ))
set_option maxRecDepth 100000 in
theorem t_X6_isBroken_b37 {fu : Nat}  {r : Int32 × gSt} (hC : gCx p s m args meth c cX6_isBroken 2 RX6 (some .boolean) E)  {σ : gSt} {xs0 : Int32}  (hf : f_X6_isBroken_b37 fu  σ xs0 = some r) : G p l e rm_X6_isBroken s m args below meth c 2 0 0 (MQ below (gQ E w 1 r) args s 0 0 (fun q => eB E ≤ q)) E w σ 37 [] [.int xs0] := by
  unfold f_X6_isBroken_b37 at hf
  obtain ⟨g1, hf⟩ := gd_ok hf
  exact G_iret hC hf rfl (b01_narrow g1) dX6_isBroken_37

def f_X6_isBroken_b36 (fu : Nat)  (σ : gSt)  : Option (Int32 × gSt) :=
  f_X6_isBroken_b37 fu  σ (0 : Int32)
set_option maxRecDepth 100000 in
theorem t_X6_isBroken_b36 {fu : Nat}  {r : Int32 × gSt} (hC : gCx p s m args meth c cX6_isBroken 2 RX6 (some .boolean) E)  {σ : gSt}   (hf : f_X6_isBroken_b36 fu  σ  = some r) : G p l e rm_X6_isBroken s m args below meth c 2 0 0 (MQ below (gQ E w 1 r) args s 0 0 (fun q => eB E ≤ q)) E w σ 36 [] [] := by
  unfold f_X6_isBroken_b36 at hf
  refine G_iconst (q := 37) hC dX6_isBroken_36 rfl ic_0 ?_
  exact t_X6_isBroken_b37 hC   hf

def f_X6_isBroken (fu : Nat)  (σ : gSt) (i1 : Nat) : Option (Int32 × gSt) :=
  gd (okF (σ 91 i1 0)) (gd (okF (2 : Int32)) (if (σ 91 i1 0) = (2 : Int32) then (bd (f_X6_isOfPrintedVolume fu σ (24 + i1)) (fun v2 σ2 => if v2 = 0 then (f_X6_isBroken_b36 fu  σ2) else (bd (f_X6_isThere fu σ2 (24 + i1)) (fun v4 σ4 => if v4 = 0 then (f_X6_isBroken_b37 fu  σ4 (1 : Int32)) else (f_X6_isBroken_b36 fu  σ4))))) else (f_X6_isBroken_b36 fu  σ)))
set_option maxRecDepth 100000 in
theorem t_X6_isBroken {fu : Nat}  {r : Int32 × gSt} (hC : gCx p s m args meth c cX6_isBroken 2 RX6 (some .boolean) E)  {σ : gSt} {i1 : Nat} (h1 : i1 < 96) (hf : f_X6_isBroken fu  σ i1 = some r) : G p l e rm_X6_isBroken s m args below meth c 2 0 0 (MQ below (gQ E w 1 r) args s 0 0 (fun q => eB E ≤ q)) E w σ 0 [(0, .ref (eB E + 0)), (1, .ref (eB E + oRef i1))] [] := by
  unfold f_X6_isBroken at hf
  refine G_aload_n (q := 1) hC dX6_isBroken_0 rfl rfl ?_
  refine gf_RX6_354 (q := 4) hC dX6_isBroken_1 rfl h1 ?_
  refine gs_RX6_370 (q := 7) hC dX6_isBroken_4 rfl ?_
  obtain ⟨g1, hf⟩ := gd_ok hf
  obtain ⟨g2, hf⟩ := gd_ok hf
  refine G_acmp_ne (tgt := 36) (q := 10) hC dX6_isBroken_7 (by decide) rfl g1 g2 (fun c0 => ?_) (fun c0 => ?_)
  · have hf := (if_neg c0).symm.trans hf
    refine G_lv (lv' := []) [] rfl ?_
    exact t_X6_isBroken_b36 hC   hf
  · have hf := (if_pos c0).symm.trans hf
    refine G_aload_n (q := 11) hC dX6_isBroken_10 rfl rfl ?_
    refine G_aload_n (q := 12) hC dX6_isBroken_11 rfl rfl ?_
    refine gf_RX6_128 (q := 15) hC dX6_isBroken_12 rfl h1 ?_
    obtain ⟨v2, σ2, hm2, hf⟩ := bd_ok hf
    refine cl_RX6_326 (q := 18) hC dX6_isBroken_15 rfl (m_X6_isOfPrintedVolume (hwR h1) hm2) ⟨Nat.le_of_ble_eq_true rfl, Nat.le_of_ble_eq_true rfl⟩ (Nat.le_of_ble_eq_true rfl) ⟨Nat.le_of_ble_eq_true rfl, Nat.le_of_ble_eq_true rfl⟩ ?_
    refine G_if_eq (tgt := 36) (q := 21) hC dX6_isBroken_18 (by decide) rfl (fun c2 => ?_) (fun c2 => ?_)
    · have hf := (if_pos c2).symm.trans hf
      refine G_lv (lv' := []) [] rfl ?_
      exact t_X6_isBroken_b36 hC   hf
    · have hf := (if_neg c2).symm.trans hf
      refine G_aload_n (q := 22) hC dX6_isBroken_21 rfl rfl ?_
      refine G_aload_n (q := 23) hC dX6_isBroken_22 rfl rfl ?_
      refine gf_RX6_128 (q := 26) hC dX6_isBroken_23 rfl h1 ?_
      obtain ⟨v4, σ4, hm4, hf⟩ := bd_ok hf
      refine cl_RX6_364 (q := 29) hC dX6_isBroken_26 rfl (m_X6_isThere (hwR h1) hm4) ⟨Nat.le_of_ble_eq_true rfl, Nat.le_of_ble_eq_true rfl⟩ (Nat.le_of_ble_eq_true rfl) ⟨Nat.le_of_ble_eq_true rfl, Nat.le_of_ble_eq_true rfl⟩ ?_
      refine G_if_ne (tgt := 36) (q := 32) hC dX6_isBroken_29 (by decide) rfl (fun c4 => ?_) (fun c4 => ?_)
      · have hf := (if_neg c4).symm.trans hf
        refine G_lv (lv' := []) [] rfl ?_
        exact t_X6_isBroken_b36 hC   hf
      · have hf := (if_pos c4).symm.trans hf
        refine G_iconst (q := 33) hC dX6_isBroken_32 rfl ic_1 ?_
        refine G_goto (tgt := 37) hC dX6_isBroken_33 (by decide) ?_
        refine G_lv (lv' := []) [] rfl ?_
        exact t_X6_isBroken_b37 hC   hf

theorem m_X6_isBroken {l : Launch} {fu : Nat} {E : gE} {w : Nat → Int64} {σ : gSt} {i1 : Nat} {r : Int32 × gSt} (h1 : i1 < 96) (hf : f_X6_isBroken fu σ i1 = some r) : gM l yX6_isBroken cX6_isBroken 2 (some .boolean) rm_X6_isBroken 1 E w σ [.ref (eB E + 0), .ref (eB E + oRef i1)] r :=
  gM_of (by decide +kernel) (Nat.le_of_ble_eq_true rfl) (fun p e s m args below meth c hC => t_X6_isBroken hC h1 hf)
def f_X6_tellPromises_b60 (fu : Nat) (k4 : gSt → Int32 → Int32 → Option (Int32 × gSt)) (k14 : gSt → Int32 → Int32 → Int32 → Option (Int32 × gSt)) (σ : gSt) (x1 : Int32) (x2 : Int32) (x3 : Int32) : Option (Int32 × gSt) :=
  k14 σ x1 x2 (x3 + (1))
set_option maxRecDepth 100000 in
theorem t_X6_tellPromises_b60 {fu : Nat} {k4 : gSt → Int32 → Int32 → Option (Int32 × gSt)} {k14 : gSt → Int32 → Int32 → Int32 → Option (Int32 × gSt)} {r : Int32 × gSt} (hC : gCx p s m args meth c cX6_tellPromises 5 RX6 (some .int) E) (hk4 : ∀ (σ : gSt) (x1 : Int32) (x2 : Int32), k4 σ x1 x2 = some r → G p l e rm_X6_tellPromises s m args below meth c 5 0 0 (MQ below (gQ E w 1 r) args s 0 0 (fun q => eB E ≤ q)) E w σ 4 [(0, .ref (eB E + 0)), (1, .int x1), (2, .int x2)] []) (hk14 : ∀ (σ : gSt) (x1 : Int32) (x2 : Int32) (x3 : Int32), k14 σ x1 x2 x3 = some r → G p l e rm_X6_tellPromises s m args below meth c 5 0 0 (MQ below (gQ E w 1 r) args s 0 0 (fun q => eB E ≤ q)) E w σ 14 [(0, .ref (eB E + 0)), (1, .int x1), (2, .int x2), (3, .int x3)] []) {σ : gSt} {x1 : Int32} {x2 : Int32} {x3 : Int32}  (hf : f_X6_tellPromises_b60 fu k4 k14 σ x1 x2 x3 = some r) : G p l e rm_X6_tellPromises s m args below meth c 5 0 0 (MQ below (gQ E w 1 r) args s 0 0 (fun q => eB E ≤ q)) E w σ 60 [(0, .ref (eB E + 0)), (1, .int x1), (2, .int x2), (3, .int x3)] [] := by
  unfold f_X6_tellPromises_b60 at hf
  refine G_iinc (q := 63) (n := 3) (lv' := [(3, .int (x3 + (1))), (0, .ref (eB E + 0)), (1, .int x1), (2, .int x2)]) hC dX6_tellPromises_60 rfl rfl (ii_1 _) (by decide) rfl ?_
  refine G_goto (tgt := 14) hC dX6_tellPromises_63 (by decide) ?_
  refine G_lv (lv' := [(0, .ref (eB E + 0)), (1, .int x1), (2, .int x2), (3, .int (x3 + (1)))]) [1, 2, 3, 0] rfl ?_
  exact hk14 _ _ _ _  hf

def f_X6_tellPromises_b14_B (fu : Nat) (k4 : gSt → Int32 → Int32 → Option (Int32 × gSt)) (k14 : gSt → Int32 → Int32 → Int32 → Option (Int32 × gSt)) (σ : gSt) (x1 : Int32) (x2 : Int32) (x3 : Int32) : Option (Int32 × gSt) :=
  gd (inb x2 24) (if (σ 4 (x2.toNatClampNeg) 0) ≤ x3 then (k4 σ x1 (x2 + (1))) else (gd (inb x2 24) (gd (inb x3 4) (bd (f_X6_isBroken fu σ (4 * (x2.toNatClampNeg) + x3.toNatClampNeg)) (fun v2 σ2 => if v2 = 0 then (f_X6_tellPromises_b60 fu k4 k14 σ2 x1 x2 x3) else (f_X6_tellPromises_b60 fu k4 k14 (gU σ2 91 (4 * (x2.toNatClampNeg) + x3.toNatClampNeg) 0 (4 : Int32)) (x1 + (1)) x2 x3))))))
def f_X6_tellPromises_b14 (fu : Nat) (k4 : gSt → Int32 → Int32 → Option (Int32 × gSt)) : Nat → gSt → Int32 → Int32 → Int32 → Option (Int32 × gSt)
  | 0 => fun _ _ _ _ => none
  | n + 1 => f_X6_tellPromises_b14_B fu k4 (f_X6_tellPromises_b14 fu k4 n)
set_option maxRecDepth 100000 in
theorem t_X6_tellPromises_b14_B {fu : Nat} {k4 : gSt → Int32 → Int32 → Option (Int32 × gSt)} {k14 : gSt → Int32 → Int32 → Int32 → Option (Int32 × gSt)} {r : Int32 × gSt} (hC : gCx p s m args meth c cX6_tellPromises 5 RX6 (some .int) E) (hk4 : ∀ (σ : gSt) (x1 : Int32) (x2 : Int32), k4 σ x1 x2 = some r → G p l e rm_X6_tellPromises s m args below meth c 5 0 0 (MQ below (gQ E w 1 r) args s 0 0 (fun q => eB E ≤ q)) E w σ 4 [(0, .ref (eB E + 0)), (1, .int x1), (2, .int x2)] []) (hk14 : ∀ (σ : gSt) (x1 : Int32) (x2 : Int32) (x3 : Int32), k14 σ x1 x2 x3 = some r → G p l e rm_X6_tellPromises s m args below meth c 5 0 0 (MQ below (gQ E w 1 r) args s 0 0 (fun q => eB E ≤ q)) E w σ 14 [(0, .ref (eB E + 0)), (1, .int x1), (2, .int x2), (3, .int x3)] []) {σ : gSt} {x1 : Int32} {x2 : Int32} {x3 : Int32}  (hf : f_X6_tellPromises_b14_B fu k4 k14 σ x1 x2 x3 = some r) : G p l e rm_X6_tellPromises s m args below meth c 5 0 0 (MQ below (gQ E w 1 r) args s 0 0 (fun q => eB E ≤ q)) E w σ 14 [(0, .ref (eB E + 0)), (1, .int x1), (2, .int x2), (3, .int x3)] [] := by
  unfold f_X6_tellPromises_b14_B at hf
  refine G_iload_n (q := 15) hC dX6_tellPromises_14 rfl rfl ?_
  refine G_aload_n (q := 16) hC dX6_tellPromises_15 rfl rfl ?_
  refine gf_RX6_18 (q := 19) hC dX6_tellPromises_16 rfl ?_
  refine G_iload_n (q := 20) hC dX6_tellPromises_19 rfl rfl ?_
  obtain ⟨g1, hf⟩ := gd_ok hf
  refine G_aldArt (q := 21) hC dX6_tellPromises_20 rfl g1 ?_
  refine gf_RX6_119 (q := 24) hC dX6_tellPromises_21 rfl (inb_lt g1) ?_
  refine G_icmp_ge (tgt := 66) (q := 27) hC dX6_tellPromises_24 (by decide) rfl (fun c0 => ?_) (fun c0 => ?_)
  · have hf := (if_pos c0).symm.trans hf
    refine G_iinc (q := 69) (n := 2) (lv' := [(2, .int (x2 + (1))), (0, .ref (eB E + 0)), (1, .int x1), (3, .int x3)]) hC dX6_tellPromises_66 rfl rfl (ii_1 _) (by decide) rfl ?_
    refine G_goto (tgt := 4) hC dX6_tellPromises_69 (by decide) ?_
    refine G_lv (lv' := [(0, .ref (eB E + 0)), (1, .int x1), (2, .int (x2 + (1)))]) [1, 2, 0] rfl ?_
    exact hk4 _ _ _  hf
  · have hf := (if_neg c0).symm.trans hf
    refine G_aload_n (q := 28) hC dX6_tellPromises_27 rfl rfl ?_
    refine gf_RX6_18 (q := 31) hC dX6_tellPromises_28 rfl ?_
    refine G_iload_n (q := 32) hC dX6_tellPromises_31 rfl rfl ?_
    obtain ⟨g2, hf⟩ := gd_ok hf
    refine G_aldArt (q := 33) hC dX6_tellPromises_32 rfl g2 ?_
    refine gf_RX6_124 (q := 36) hC dX6_tellPromises_33 rfl (inb_lt g2) ?_
    refine G_iload_n (q := 37) hC dX6_tellPromises_36 rfl rfl ?_
    obtain ⟨g3, hf⟩ := gd_ok hf
    refine G_aldRef (q := 38) hC dX6_tellPromises_37 rfl (inb_lt g2) g3 ?_
    refine G_astore (q := 40) (lv' := [(4, .ref (eB E + oRef (4 * (x2.toNatClampNeg) + x3.toNatClampNeg))), (0, .ref (eB E + 0)), (1, .int x1), (2, .int x2), (3, .int x3)]) hC dX6_tellPromises_38 rfl (by decide) rfl ?_
    refine G_aload_n (q := 41) hC dX6_tellPromises_40 rfl rfl ?_
    refine G_aload (q := 43) hC dX6_tellPromises_41 rfl rfl ?_
    obtain ⟨v2, σ2, hm2, hf⟩ := bd_ok hf
    refine cl_RX6_373 (q := 46) hC dX6_tellPromises_43 rfl (m_X6_isBroken (refB (inb_lt g2) g3) hm2) ⟨Nat.le_of_ble_eq_true rfl, Nat.le_of_ble_eq_true rfl⟩ (Nat.le_of_ble_eq_true rfl) ⟨Nat.le_of_ble_eq_true rfl, Nat.le_of_ble_eq_true rfl⟩ ?_
    refine G_if_eq (tgt := 60) (q := 49) hC dX6_tellPromises_46 (by decide) rfl (fun c2 => ?_) (fun c2 => ?_)
    · have hf := (if_pos c2).symm.trans hf
      refine G_lv (lv' := [(0, .ref (eB E + 0)), (1, .int x1), (2, .int x2), (3, .int x3)]) [1, 2, 3, 4] rfl ?_
      exact t_X6_tellPromises_b60 hC hk4 hk14  hf
    · have hf := (if_neg c2).symm.trans hf
      refine G_aload (q := 51) hC dX6_tellPromises_49 rfl rfl ?_
      refine gs_RX6_383 (q := 54) hC dX6_tellPromises_51 rfl ?_
      refine pf_RX6_354 (q := 57) hC dX6_tellPromises_54 rfl (refB (inb_lt g2) g3) ?_
      refine G_iinc (q := 60) (n := 2) (lv' := [(1, .int (x1 + (1))), (4, .ref (eB E + oRef (4 * (x2.toNatClampNeg) + x3.toNatClampNeg))), (0, .ref (eB E + 0)), (2, .int x2), (3, .int x3)]) hC dX6_tellPromises_57 rfl rfl (ii_1 _) (by decide) rfl ?_
      refine G_lv (lv' := [(0, .ref (eB E + 0)), (1, .int (x1 + (1))), (2, .int x2), (3, .int x3)]) [2, 0, 3, 4] rfl ?_
      exact t_X6_tellPromises_b60 hC hk4 hk14  hf

theorem t_X6_tellPromises_b14 {fu : Nat} {k4 : gSt → Int32 → Int32 → Option (Int32 × gSt)} {r : Int32 × gSt} (hC : gCx p s m args meth c cX6_tellPromises 5 RX6 (some .int) E) (hk4 : ∀ (σ : gSt) (x1 : Int32) (x2 : Int32), k4 σ x1 x2 = some r → G p l e rm_X6_tellPromises s m args below meth c 5 0 0 (MQ below (gQ E w 1 r) args s 0 0 (fun q => eB E ≤ q)) E w σ 4 [(0, .ref (eB E + 0)), (1, .int x1), (2, .int x2)] []) (n : Nat) : ∀ (σ : gSt) (x1 : Int32) (x2 : Int32) (x3 : Int32), f_X6_tellPromises_b14 fu k4 n σ x1 x2 x3 = some r → G p l e rm_X6_tellPromises s m args below meth c 5 0 0 (MQ below (gQ E w 1 r) args s 0 0 (fun q => eB E ≤ q)) E w σ 14 [(0, .ref (eB E + 0)), (1, .int x1), (2, .int x2), (3, .int x3)] [] := by
  induction n with
  | zero => intro σ x1 x2 x3  hf; cases hf
  | succ n ih => intro σ x1 x2 x3  hf; exact t_X6_tellPromises_b14_B hC hk4 ih  hf
def f_X6_tellPromises_b4_B (fu : Nat) (k4 : gSt → Int32 → Int32 → Option (Int32 × gSt)) (σ : gSt) (x1 : Int32) (x2 : Int32) : Option (Int32 × gSt) :=
  if (σ 156 0 0) ≤ x2 then (some (x1, σ)) else (f_X6_tellPromises_b14 fu k4 fu σ x1 x2 (0 : Int32))
def f_X6_tellPromises_b4 (fu : Nat)  : Nat → gSt → Int32 → Int32 → Option (Int32 × gSt)
  | 0 => fun _ _ _ => none
  | n + 1 => f_X6_tellPromises_b4_B fu  (f_X6_tellPromises_b4 fu  n)
set_option maxRecDepth 100000 in
theorem t_X6_tellPromises_b4_B {fu : Nat} {k4 : gSt → Int32 → Int32 → Option (Int32 × gSt)} {r : Int32 × gSt} (hC : gCx p s m args meth c cX6_tellPromises 5 RX6 (some .int) E) (hk4 : ∀ (σ : gSt) (x1 : Int32) (x2 : Int32), k4 σ x1 x2 = some r → G p l e rm_X6_tellPromises s m args below meth c 5 0 0 (MQ below (gQ E w 1 r) args s 0 0 (fun q => eB E ≤ q)) E w σ 4 [(0, .ref (eB E + 0)), (1, .int x1), (2, .int x2)] []) {σ : gSt} {x1 : Int32} {x2 : Int32}  (hf : f_X6_tellPromises_b4_B fu k4 σ x1 x2 = some r) : G p l e rm_X6_tellPromises s m args below meth c 5 0 0 (MQ below (gQ E w 1 r) args s 0 0 (fun q => eB E ≤ q)) E w σ 4 [(0, .ref (eB E + 0)), (1, .int x1), (2, .int x2)] [] := by
  unfold f_X6_tellPromises_b4_B at hf
  refine G_iload_n (q := 5) hC dX6_tellPromises_4 rfl rfl ?_
  refine G_aload_n (q := 6) hC dX6_tellPromises_5 rfl rfl ?_
  refine gf_RX6_89 (q := 9) hC dX6_tellPromises_6 rfl ?_
  refine G_icmp_ge (tgt := 72) (q := 12) hC dX6_tellPromises_9 (by decide) rfl (fun c0 => ?_) (fun c0 => ?_)
  · have hf := (if_pos c0).symm.trans hf
    refine G_iload_n (q := 73) hC dX6_tellPromises_72 rfl rfl ?_
    exact G_iret hC hf rfl rfl dX6_tellPromises_73
  · have hf := (if_neg c0).symm.trans hf
    refine G_iconst (q := 13) hC dX6_tellPromises_12 rfl ic_0 ?_
    refine G_istore_n (q := 14) (lv' := [(3, .int (0 : Int32)), (0, .ref (eB E + 0)), (1, .int x1), (2, .int x2)]) hC dX6_tellPromises_13 rfl (by decide) rfl ?_
    refine G_lv (lv' := [(0, .ref (eB E + 0)), (1, .int x1), (2, .int x2), (3, .int (0 : Int32))]) [1, 2, 3, 0] rfl ?_
    exact t_X6_tellPromises_b14 hC hk4 fu _ _ _ _  hf

theorem t_X6_tellPromises_b4 {fu : Nat}  {r : Int32 × gSt} (hC : gCx p s m args meth c cX6_tellPromises 5 RX6 (some .int) E)  (n : Nat) : ∀ (σ : gSt) (x1 : Int32) (x2 : Int32), f_X6_tellPromises_b4 fu  n σ x1 x2 = some r → G p l e rm_X6_tellPromises s m args below meth c 5 0 0 (MQ below (gQ E w 1 r) args s 0 0 (fun q => eB E ≤ q)) E w σ 4 [(0, .ref (eB E + 0)), (1, .int x1), (2, .int x2)] [] := by
  induction n with
  | zero => intro σ x1 x2  hf; cases hf
  | succ n ih => intro σ x1 x2  hf; exact t_X6_tellPromises_b4_B hC  ih  hf
def f_X6_tellPromises (fu : Nat)  (σ : gSt)  : Option (Int32 × gSt) :=
  f_X6_tellPromises_b4 fu  fu σ (0 : Int32) (0 : Int32)
set_option maxRecDepth 100000 in
theorem t_X6_tellPromises {fu : Nat}  {r : Int32 × gSt} (hC : gCx p s m args meth c cX6_tellPromises 5 RX6 (some .int) E)  {σ : gSt}   (hf : f_X6_tellPromises fu  σ  = some r) : G p l e rm_X6_tellPromises s m args below meth c 5 0 0 (MQ below (gQ E w 1 r) args s 0 0 (fun q => eB E ≤ q)) E w σ 0 [(0, .ref (eB E + 0))] [] := by
  unfold f_X6_tellPromises at hf
  refine G_iconst (q := 1) hC dX6_tellPromises_0 rfl ic_0 ?_
  refine G_istore_n (q := 2) (lv' := [(1, .int (0 : Int32)), (0, .ref (eB E + 0))]) hC dX6_tellPromises_1 rfl (by decide) rfl ?_
  refine G_iconst (q := 3) hC dX6_tellPromises_2 rfl ic_0 ?_
  refine G_istore_n (q := 4) (lv' := [(2, .int (0 : Int32)), (1, .int (0 : Int32)), (0, .ref (eB E + 0))]) hC dX6_tellPromises_3 rfl (by decide) rfl ?_
  refine G_lv (lv' := [(0, .ref (eB E + 0)), (1, .int (0 : Int32)), (2, .int (0 : Int32))]) [2, 1, 0] rfl ?_
  exact t_X6_tellPromises_b4 hC  fu _ _ _  hf

theorem m_X6_tellPromises {l : Launch} {fu : Nat} {E : gE} {w : Nat → Int64} {σ : gSt}  {r : Int32 × gSt}  (hf : f_X6_tellPromises fu σ  = some r) : gM l yX6_tellPromises cX6_tellPromises 5 (some .int) rm_X6_tellPromises 1 E w σ [.ref (eB E + 0)] r :=
  gM_of (by decide +kernel) (Nat.le_of_ble_eq_true rfl) (fun p e s m args below meth c hC => t_X6_tellPromises hC  hf)
def f_X6_supplement (fu : Nat)  (σ : gSt)  : Option (Nat × Int32 × gSt) :=
  if (σ 158 0 0) = 0 then (some (2, 0, σ)) else (bd (f_X6_putToPressFrom fu σ (0 : Int32)) (fun v2 σ2 => bd (f_X6_lookAtReferences fu σ2) (fun _ σ3 => bd (f_X6_tellFacts fu σ3) (fun v4 σ4 => bd (f_X6_tellPromises fu σ4) (fun v5 σ5 => some (0, ((((100 : Int32) * v2) + v4) + v5), σ5))))))
set_option maxRecDepth 100000 in
theorem t_X6_supplement {fu : Nat}  {r : Nat × Int32 × gSt} (hC : gCx p s m args meth c cX6_supplement 2 RX6 (some .int) E) (hX : ∀ x ∈ c.exceptionTable.toList, False) (hflag : l.stackTraces = false)  {σ : gSt}   (hf : f_X6_supplement fu  σ  = some r) : G p l e rm_X6_supplement s m args below meth c 2 0 0 (vx_MQ below (gQX E w 1 r) (gXC E w r) args s rm_X6_supplement.cells rm_X6_supplement.slots (fun q => eB E ≤ q)) E w σ 0 [(0, .ref (eB E + 0))] [] := by
  unfold f_X6_supplement at hf
  refine G_aload_n (q := 1) hC dX6_supplement_0 rfl rfl ?_
  refine gf_RX6_74 (q := 4) hC dX6_supplement_1 rfl ?_
  refine G_if_ne (tgt := 17) (q := 7) hC dX6_supplement_4 (by decide) rfl (fun c0 => ?_) (fun c0 => ?_)
  · have hf := (if_neg c0).symm.trans hf
    refine G_aload_n (q := 18) hC dX6_supplement_17 rfl rfl ?_
    refine G_iconst (q := 19) hC dX6_supplement_18 rfl ic_0 ?_
    obtain ⟨v2, σ2, hm2, hf⟩ := bd_ok hf
    refine cl_RX6_230 (q := 22) hC dX6_supplement_19 rfl (m_X6_putToPressFrom hm2) ⟨Nat.le_of_ble_eq_true rfl, Nat.le_of_ble_eq_true rfl⟩ (Nat.le_of_ble_eq_true rfl) ⟨Nat.le_of_ble_eq_true rfl, Nat.le_of_ble_eq_true rfl⟩ ?_
    refine G_istore_n (q := 23) (lv' := [(1, .int v2), (0, .ref (eB E + 0))]) hC dX6_supplement_22 rfl (by decide) rfl ?_
    refine G_aload_n (q := 24) hC dX6_supplement_23 rfl rfl ?_
    obtain ⟨v3, σ3, hm3, hf⟩ := bd_ok hf
    refine cl_RX6_234 (q := 27) hC dX6_supplement_24 rfl (m_X6_lookAtReferences hm3) ⟨Nat.le_of_ble_eq_true rfl, Nat.le_of_ble_eq_true rfl⟩ (Nat.le_of_ble_eq_true rfl) ⟨Nat.le_of_ble_eq_true rfl, Nat.le_of_ble_eq_true rfl⟩ ?_
    refine G_bipush (q := 29) hC dX6_supplement_27 rfl bp_100 ?_
    refine G_iload_n (q := 30) hC dX6_supplement_29 rfl rfl ?_
    refine G_imul (q := 31) hC dX6_supplement_30 rfl ?_
    refine G_aload_n (q := 32) hC dX6_supplement_31 rfl rfl ?_
    obtain ⟨v4, σ4, hm4, hf⟩ := bd_ok hf
    refine cl_RX6_239 (q := 35) hC dX6_supplement_32 rfl (m_X6_tellFacts hm4) ⟨Nat.le_of_ble_eq_true rfl, Nat.le_of_ble_eq_true rfl⟩ (Nat.le_of_ble_eq_true rfl) ⟨Nat.le_of_ble_eq_true rfl, Nat.le_of_ble_eq_true rfl⟩ ?_
    refine G_iadd (q := 36) hC dX6_supplement_35 rfl ?_
    refine G_aload_n (q := 37) hC dX6_supplement_36 rfl rfl ?_
    obtain ⟨v5, σ5, hm5, hf⟩ := bd_ok hf
    refine cl_RX6_243 (q := 40) hC dX6_supplement_37 rfl (m_X6_tellPromises hm5) ⟨Nat.le_of_ble_eq_true rfl, Nat.le_of_ble_eq_true rfl⟩ (Nat.le_of_ble_eq_true rfl) ⟨Nat.le_of_ble_eq_true rfl, Nat.le_of_ble_eq_true rfl⟩ ?_
    refine G_iadd (q := 41) hC dX6_supplement_40 rfl ?_
    exact G_iretX hC hf rfl rfl (Nat.le_of_ble_eq_true rfl) (Nat.le_of_ble_eq_true rfl) dX6_supplement_41
  · have hf := (if_pos c0).symm.trans hf
    exact G_throw hC hX hflag (text := "no volume is printed") hf (by decide) (by decide +kernel) (wall (by decide +kernel) rfl) (wall (by decide +kernel) rfl) (by decide) thA2 thB2 dX6_supplement_7 dX6_supplement_10 dX6_supplement_11 dX6_supplement_13 dX6_supplement_16 (Nat.le_of_ble_eq_true rfl) (Nat.le_of_ble_eq_true rfl) ⟨Nat.le_of_ble_eq_true rfl, Nat.le_of_ble_eq_true rfl⟩ ⟨Nat.le_of_ble_eq_true rfl, Nat.le_of_ble_eq_true rfl⟩

theorem m_X6_supplement {l : Launch} {fu : Nat} {E : gE} {w : Nat → Int64} {σ : gSt}  {r : Nat × Int32 × gSt} (hflag : l.stackTraces = false)  (hf : f_X6_supplement fu σ  = some r) : gMX l yX6_supplement cX6_supplement 2 (some .int) rm_X6_supplement 1 E w σ [.ref (eB E + 0)] r :=
  gMX_of (by decide +kernel) (Nat.le_of_ble_eq_true rfl) (fun p e s m args below meth c hC hX => t_X6_supplement hC hX hflag  hf)
def f_X6_month (fu : Nat)  (σ : gSt)  : Option (Int32 × gSt) :=
  some ((σ 160 0 0), σ)
set_option maxRecDepth 100000 in
theorem t_X6_month {fu : Nat}  {r : Int32 × gSt} (hC : gCx p s m args meth c cX6_month 1 RX6 (some .int) E)  {σ : gSt}   (hf : f_X6_month fu  σ  = some r) : G p l e rm_X6_month s m args below meth c 1 0 0 (MQ below (gQ E w 1 r) args s 0 0 (fun q => eB E ≤ q)) E w σ 0 [(0, .ref (eB E + 0))] [] := by
  unfold f_X6_month at hf
  refine G_aload_n (q := 1) hC dX6_month_0 rfl rfl ?_
  refine gf_RX6_218 (q := 4) hC dX6_month_1 rfl ?_
  exact G_iret hC hf rfl rfl dX6_month_4

theorem m_X6_month {l : Launch} {fu : Nat} {E : gE} {w : Nat → Int64} {σ : gSt}  {r : Int32 × gSt}  (hf : f_X6_month fu σ  = some r) : gM l yX6_month cX6_month 1 (some .int) rm_X6_month 1 E w σ [.ref (eB E + 0)] r :=
  gM_of (by decide +kernel) (Nat.le_of_ble_eq_true rfl) (fun p e s m args below meth c hC => t_X6_month hC  hf)
def f_X6_placeOf_b24 (fu : Nat) (k4 : gSt → Int32 → Int32 → Int32 → Option (Int32 × gSt)) (σ : gSt) (x1 : Int32) (x2 : Int32) (x3 : Int32) : Option (Int32 × gSt) :=
  k4 σ x1 x2 (x3 + (1))
set_option maxRecDepth 100000 in
theorem t_X6_placeOf_b24 {fu : Nat} {k4 : gSt → Int32 → Int32 → Int32 → Option (Int32 × gSt)} {r : Int32 × gSt} (hC : gCx p s m args meth c cX6_placeOf 4 RX6 (some .int) E) (hk4 : ∀ (σ : gSt) (x1 : Int32) (x2 : Int32) (x3 : Int32), k4 σ x1 x2 x3 = some r → G p l e rm_X6_placeOf s m args below meth c 4 0 0 (MQ below (gQ E w 1 r) args s 0 0 (fun q => eB E ≤ q)) E w σ 4 [(0, .ref (eB E + 0)), (1, .int x1), (2, .int x2), (3, .int x3)] []) {σ : gSt} {x1 : Int32} {x2 : Int32} {x3 : Int32}  (hf : f_X6_placeOf_b24 fu k4 σ x1 x2 x3 = some r) : G p l e rm_X6_placeOf s m args below meth c 4 0 0 (MQ below (gQ E w 1 r) args s 0 0 (fun q => eB E ≤ q)) E w σ 24 [(0, .ref (eB E + 0)), (1, .int x1), (2, .int x2), (3, .int x3)] [] := by
  unfold f_X6_placeOf_b24 at hf
  refine G_iinc (q := 27) (n := 3) (lv' := [(3, .int (x3 + (1))), (0, .ref (eB E + 0)), (1, .int x1), (2, .int x2)]) hC dX6_placeOf_24 rfl rfl (ii_1 _) (by decide) rfl ?_
  refine G_goto (tgt := 4) hC dX6_placeOf_27 (by decide) ?_
  refine G_lv (lv' := [(0, .ref (eB E + 0)), (1, .int x1), (2, .int x2), (3, .int (x3 + (1)))]) [1, 2, 3, 0] rfl ?_
  exact hk4 _ _ _ _  hf

def f_X6_placeOf_b4_B (fu : Nat) (k4 : gSt → Int32 → Int32 → Int32 → Option (Int32 × gSt)) (σ : gSt) (x1 : Int32) (x2 : Int32) (x3 : Int32) : Option (Int32 × gSt) :=
  if (σ 156 0 0) ≤ x3 then (some (x2, σ)) else (bd (f_X6_comesAhead fu σ x3 x1) (fun v2 σ2 => if v2 = 0 then (f_X6_placeOf_b24 fu k4 σ2 x1 x2 x3) else (f_X6_placeOf_b24 fu k4 σ2 x1 (x2 + (1)) x3)))
def f_X6_placeOf_b4 (fu : Nat)  : Nat → gSt → Int32 → Int32 → Int32 → Option (Int32 × gSt)
  | 0 => fun _ _ _ _ => none
  | n + 1 => f_X6_placeOf_b4_B fu  (f_X6_placeOf_b4 fu  n)
set_option maxRecDepth 100000 in
theorem t_X6_placeOf_b4_B {fu : Nat} {k4 : gSt → Int32 → Int32 → Int32 → Option (Int32 × gSt)} {r : Int32 × gSt} (hC : gCx p s m args meth c cX6_placeOf 4 RX6 (some .int) E) (hk4 : ∀ (σ : gSt) (x1 : Int32) (x2 : Int32) (x3 : Int32), k4 σ x1 x2 x3 = some r → G p l e rm_X6_placeOf s m args below meth c 4 0 0 (MQ below (gQ E w 1 r) args s 0 0 (fun q => eB E ≤ q)) E w σ 4 [(0, .ref (eB E + 0)), (1, .int x1), (2, .int x2), (3, .int x3)] []) {σ : gSt} {x1 : Int32} {x2 : Int32} {x3 : Int32}  (hf : f_X6_placeOf_b4_B fu k4 σ x1 x2 x3 = some r) : G p l e rm_X6_placeOf s m args below meth c 4 0 0 (MQ below (gQ E w 1 r) args s 0 0 (fun q => eB E ≤ q)) E w σ 4 [(0, .ref (eB E + 0)), (1, .int x1), (2, .int x2), (3, .int x3)] [] := by
  unfold f_X6_placeOf_b4_B at hf
  refine G_iload_n (q := 5) hC dX6_placeOf_4 rfl rfl ?_
  refine G_aload_n (q := 6) hC dX6_placeOf_5 rfl rfl ?_
  refine gf_RX6_89 (q := 9) hC dX6_placeOf_6 rfl ?_
  refine G_icmp_ge (tgt := 30) (q := 12) hC dX6_placeOf_9 (by decide) rfl (fun c0 => ?_) (fun c0 => ?_)
  · have hf := (if_pos c0).symm.trans hf
    refine G_iload_n (q := 31) hC dX6_placeOf_30 rfl rfl ?_
    exact G_iret hC hf rfl rfl dX6_placeOf_31
  · have hf := (if_neg c0).symm.trans hf
    refine G_aload_n (q := 13) hC dX6_placeOf_12 rfl rfl ?_
    refine G_iload_n (q := 14) hC dX6_placeOf_13 rfl rfl ?_
    refine G_iload_n (q := 15) hC dX6_placeOf_14 rfl rfl ?_
    obtain ⟨v2, σ2, hm2, hf⟩ := bd_ok hf
    refine cl_RX6_316 (q := 18) hC dX6_placeOf_15 rfl (m_X6_comesAhead hm2) ⟨Nat.le_of_ble_eq_true rfl, Nat.le_of_ble_eq_true rfl⟩ (Nat.le_of_ble_eq_true rfl) ⟨Nat.le_of_ble_eq_true rfl, Nat.le_of_ble_eq_true rfl⟩ ?_
    refine G_if_eq (tgt := 24) (q := 21) hC dX6_placeOf_18 (by decide) rfl (fun c2 => ?_) (fun c2 => ?_)
    · have hf := (if_pos c2).symm.trans hf
      exact t_X6_placeOf_b24 hC hk4  hf
    · have hf := (if_neg c2).symm.trans hf
      refine G_iinc (q := 24) (n := 2) (lv' := [(2, .int (x2 + (1))), (0, .ref (eB E + 0)), (1, .int x1), (3, .int x3)]) hC dX6_placeOf_21 rfl rfl (ii_1 _) (by decide) rfl ?_
      refine G_lv (lv' := [(0, .ref (eB E + 0)), (1, .int x1), (2, .int (x2 + (1))), (3, .int x3)]) [1, 2, 0, 3] rfl ?_
      exact t_X6_placeOf_b24 hC hk4  hf

theorem t_X6_placeOf_b4 {fu : Nat}  {r : Int32 × gSt} (hC : gCx p s m args meth c cX6_placeOf 4 RX6 (some .int) E)  (n : Nat) : ∀ (σ : gSt) (x1 : Int32) (x2 : Int32) (x3 : Int32), f_X6_placeOf_b4 fu  n σ x1 x2 x3 = some r → G p l e rm_X6_placeOf s m args below meth c 4 0 0 (MQ below (gQ E w 1 r) args s 0 0 (fun q => eB E ≤ q)) E w σ 4 [(0, .ref (eB E + 0)), (1, .int x1), (2, .int x2), (3, .int x3)] [] := by
  induction n with
  | zero => intro σ x1 x2 x3  hf; cases hf
  | succ n ih => intro σ x1 x2 x3  hf; exact t_X6_placeOf_b4_B hC  ih  hf
def f_X6_placeOf (fu : Nat)  (σ : gSt) (x1 : Int32) : Option (Int32 × gSt) :=
  f_X6_placeOf_b4 fu  fu σ x1 (0 : Int32) (0 : Int32)
set_option maxRecDepth 100000 in
theorem t_X6_placeOf {fu : Nat}  {r : Int32 × gSt} (hC : gCx p s m args meth c cX6_placeOf 4 RX6 (some .int) E)  {σ : gSt} {x1 : Int32}  (hf : f_X6_placeOf fu  σ x1 = some r) : G p l e rm_X6_placeOf s m args below meth c 4 0 0 (MQ below (gQ E w 1 r) args s 0 0 (fun q => eB E ≤ q)) E w σ 0 [(0, .ref (eB E + 0)), (1, .int x1)] [] := by
  unfold f_X6_placeOf at hf
  refine G_iconst (q := 1) hC dX6_placeOf_0 rfl ic_0 ?_
  refine G_istore_n (q := 2) (lv' := [(2, .int (0 : Int32)), (0, .ref (eB E + 0)), (1, .int x1)]) hC dX6_placeOf_1 rfl (by decide) rfl ?_
  refine G_iconst (q := 3) hC dX6_placeOf_2 rfl ic_0 ?_
  refine G_istore_n (q := 4) (lv' := [(3, .int (0 : Int32)), (2, .int (0 : Int32)), (0, .ref (eB E + 0)), (1, .int x1)]) hC dX6_placeOf_3 rfl (by decide) rfl ?_
  refine G_lv (lv' := [(0, .ref (eB E + 0)), (1, .int x1), (2, .int (0 : Int32)), (3, .int (0 : Int32))]) [2, 3, 1, 0] rfl ?_
  exact t_X6_placeOf_b4 hC  fu _ _ _ _  hf

theorem m_X6_placeOf {l : Launch} {fu : Nat} {E : gE} {w : Nat → Int64} {σ : gSt} {x1 : Int32} {r : Int32 × gSt}  (hf : f_X6_placeOf fu σ x1 = some r) : gM l yX6_placeOf cX6_placeOf 4 (some .int) rm_X6_placeOf 1 E w σ [.ref (eB E + 0), .int x1] r :=
  gM_of (by decide +kernel) (Nat.le_of_ble_eq_true rfl) (fun p e s m args below meth c hC => t_X6_placeOf hC  hf)
def f_X6_at_b16_B (fu : Nat) (k16 : gSt → Int32 → Int32 → Option (Nat × Int32 × gSt)) (σ : gSt) (x1 : Int32) (x2 : Int32) : Option (Nat × Int32 × gSt) :=
  if (σ 156 0 0) ≤ x2 then (some (0, (-1 : Int32), σ)) else (bd (f_X6_placeOf fu σ x2) (fun v2 σ2 => if v2 = x1 then (some (0, x2, σ2)) else (k16 σ2 x1 (x2 + (1)))))
def f_X6_at_b16 (fu : Nat)  : Nat → gSt → Int32 → Int32 → Option (Nat × Int32 × gSt)
  | 0 => fun _ _ _ => none
  | n + 1 => f_X6_at_b16_B fu  (f_X6_at_b16 fu  n)
set_option maxRecDepth 100000 in
theorem t_X6_at_b16_B {fu : Nat} {k16 : gSt → Int32 → Int32 → Option (Nat × Int32 × gSt)} {r : Nat × Int32 × gSt} (hC : gCx p s m args meth c cX6_at 3 RX6 (some .int) E) (hX : ∀ x ∈ c.exceptionTable.toList, False) (hflag : l.stackTraces = false) (hk16 : ∀ (σ : gSt) (x1 : Int32) (x2 : Int32), k16 σ x1 x2 = some r → G p l e rm_X6_at s m args below meth c 3 0 0 (vx_MQ below (gQX E w 1 r) (gXC E w r) args s rm_X6_at.cells rm_X6_at.slots (fun q => eB E ≤ q)) E w σ 16 [(0, .ref (eB E + 0)), (1, .int x1), (2, .int x2)] []) {σ : gSt} {x1 : Int32} {x2 : Int32}  (hf : f_X6_at_b16_B fu k16 σ x1 x2 = some r) : G p l e rm_X6_at s m args below meth c 3 0 0 (vx_MQ below (gQX E w 1 r) (gXC E w r) args s rm_X6_at.cells rm_X6_at.slots (fun q => eB E ≤ q)) E w σ 16 [(0, .ref (eB E + 0)), (1, .int x1), (2, .int x2)] [] := by
  unfold f_X6_at_b16_B at hf
  refine G_iload_n (q := 17) hC dX6_at_16 rfl rfl ?_
  refine G_aload_n (q := 18) hC dX6_at_17 rfl rfl ?_
  refine gf_RX6_89 (q := 21) hC dX6_at_18 rfl ?_
  refine G_icmp_ge (tgt := 41) (q := 24) hC dX6_at_21 (by decide) rfl (fun c0 => ?_) (fun c0 => ?_)
  · have hf := (if_pos c0).symm.trans hf
    refine G_iconst (q := 42) hC dX6_at_41 rfl ic_m1 ?_
    exact G_iretX hC hf rfl rfl (Nat.le_of_ble_eq_true rfl) (Nat.le_of_ble_eq_true rfl) dX6_at_42
  · have hf := (if_neg c0).symm.trans hf
    refine G_aload_n (q := 25) hC dX6_at_24 rfl rfl ?_
    refine G_iload_n (q := 26) hC dX6_at_25 rfl rfl ?_
    obtain ⟨v2, σ2, hm2, hf⟩ := bd_ok hf
    refine cl_RX6_251 (q := 29) hC dX6_at_26 rfl (m_X6_placeOf hm2) ⟨Nat.le_of_ble_eq_true rfl, Nat.le_of_ble_eq_true rfl⟩ (Nat.le_of_ble_eq_true rfl) ⟨Nat.le_of_ble_eq_true rfl, Nat.le_of_ble_eq_true rfl⟩ ?_
    refine G_iload_n (q := 30) hC dX6_at_29 rfl rfl ?_
    refine G_icmp_ne (tgt := 35) (q := 33) hC dX6_at_30 (by decide) rfl (fun c2 => ?_) (fun c2 => ?_)
    · have hf := (if_neg c2).symm.trans hf
      refine G_iinc (q := 38) (n := 2) (lv' := [(2, .int (x2 + (1))), (0, .ref (eB E + 0)), (1, .int x1)]) hC dX6_at_35 rfl rfl (ii_1 _) (by decide) rfl ?_
      refine G_goto (tgt := 16) hC dX6_at_38 (by decide) ?_
      refine G_lv (lv' := [(0, .ref (eB E + 0)), (1, .int x1), (2, .int (x2 + (1)))]) [1, 2, 0] rfl ?_
      exact hk16 _ _ _  hf
    · have hf := (if_pos c2).symm.trans hf
      refine G_iload_n (q := 34) hC dX6_at_33 rfl rfl ?_
      exact G_iretX hC hf rfl rfl (Nat.le_of_ble_eq_true rfl) (Nat.le_of_ble_eq_true rfl) dX6_at_34

theorem t_X6_at_b16 {fu : Nat}  {r : Nat × Int32 × gSt} (hC : gCx p s m args meth c cX6_at 3 RX6 (some .int) E) (hX : ∀ x ∈ c.exceptionTable.toList, False) (hflag : l.stackTraces = false)  (n : Nat) : ∀ (σ : gSt) (x1 : Int32) (x2 : Int32), f_X6_at_b16 fu  n σ x1 x2 = some r → G p l e rm_X6_at s m args below meth c 3 0 0 (vx_MQ below (gQX E w 1 r) (gXC E w r) args s rm_X6_at.cells rm_X6_at.slots (fun q => eB E ≤ q)) E w σ 16 [(0, .ref (eB E + 0)), (1, .int x1), (2, .int x2)] [] := by
  induction n with
  | zero => intro σ x1 x2  hf; cases hf
  | succ n ih => intro σ x1 x2  hf; exact t_X6_at_b16_B hC hX hflag  ih  hf
def f_X6_at (fu : Nat)  (σ : gSt) (x1 : Int32) : Option (Nat × Int32 × gSt) :=
  if 0 ≤ x1 then (f_X6_at_b16 fu  fu σ x1 (0 : Int32)) else (some (3, 0, σ))
set_option maxRecDepth 100000 in
theorem t_X6_at {fu : Nat}  {r : Nat × Int32 × gSt} (hC : gCx p s m args meth c cX6_at 3 RX6 (some .int) E) (hX : ∀ x ∈ c.exceptionTable.toList, False) (hflag : l.stackTraces = false)  {σ : gSt} {x1 : Int32}  (hf : f_X6_at fu  σ x1 = some r) : G p l e rm_X6_at s m args below meth c 3 0 0 (vx_MQ below (gQX E w 1 r) (gXC E w r) args s rm_X6_at.cells rm_X6_at.slots (fun q => eB E ≤ q)) E w σ 0 [(0, .ref (eB E + 0)), (1, .int x1)] [] := by
  unfold f_X6_at at hf
  refine G_iload_n (q := 1) hC dX6_at_0 rfl rfl ?_
  refine G_if_ge (tgt := 14) (q := 4) hC dX6_at_1 (by decide) rfl (fun c0 => ?_) (fun c0 => ?_)
  · have hf := (if_pos c0).symm.trans hf
    refine G_iconst (q := 15) hC dX6_at_14 rfl ic_0 ?_
    refine G_istore_n (q := 16) (lv' := [(2, .int (0 : Int32)), (0, .ref (eB E + 0)), (1, .int x1)]) hC dX6_at_15 rfl (by decide) rfl ?_
    refine G_lv (lv' := [(0, .ref (eB E + 0)), (1, .int x1), (2, .int (0 : Int32))]) [1, 2, 0] rfl ?_
    exact t_X6_at_b16 hC hX hflag  fu _ _ _  hf
  · have hf := (if_neg c0).symm.trans hf
    exact G_throw hC hX hflag (text := "no such place") hf (by decide) (by decide +kernel) (wall (by decide +kernel) rfl) (wall (by decide +kernel) rfl) (by decide) thA3 thB3 dX6_at_4 dX6_at_7 dX6_at_8 dX6_at_10 dX6_at_13 (Nat.le_of_ble_eq_true rfl) (Nat.le_of_ble_eq_true rfl) ⟨Nat.le_of_ble_eq_true rfl, Nat.le_of_ble_eq_true rfl⟩ ⟨Nat.le_of_ble_eq_true rfl, Nat.le_of_ble_eq_true rfl⟩

theorem m_X6_at {l : Launch} {fu : Nat} {E : gE} {w : Nat → Int64} {σ : gSt} {x1 : Int32} {r : Nat × Int32 × gSt} (hflag : l.stackTraces = false)  (hf : f_X6_at fu σ x1 = some r) : gMX l yX6_at cX6_at 3 (some .int) rm_X6_at 1 E w σ [.ref (eB E + 0), .int x1] r :=
  gMX_of (by decide +kernel) (Nat.le_of_ble_eq_true rfl) (fun p e s m args below meth c hC hX => t_X6_at hC hX hflag  hf)
def f_X6_about_b14 (fu : Nat)  (σ : gSt)  : Option (Nat × Int32 × gSt) :=
  some (1, 0, σ)
set_option maxRecDepth 100000 in
theorem t_X6_about_b14 {fu : Nat}  {r : Nat × Int32 × gSt} (hC : gCx p s m args meth c cX6_about 4 RX6 (some .int) E) (hX : ∀ x ∈ c.exceptionTable.toList, False) (hflag : l.stackTraces = false)  {σ : gSt}   (hf : f_X6_about_b14 fu  σ  = some r) : G p l e rm_X6_about s m args below meth c 4 1 6 (vx_MQ below (gQX E w 1 r) (gXC E w r) args s rm_X6_about.cells rm_X6_about.slots (fun q => eB E ≤ q)) E w σ 14 [] [] := by
  unfold f_X6_about_b14 at hf
  exact G_throw hC hX hflag (text := "no such question") hf (by decide) (by decide +kernel) (wall (by decide +kernel) rfl) (wall (by decide +kernel) rfl) (by decide) thA1 thB1 dX6_about_14 dX6_about_17 dX6_about_18 dX6_about_20 dX6_about_23 (Nat.le_of_ble_eq_true rfl) (Nat.le_of_ble_eq_true rfl) ⟨Nat.le_of_ble_eq_true rfl, Nat.le_of_ble_eq_true rfl⟩ ⟨Nat.le_of_ble_eq_true rfl, Nat.le_of_ble_eq_true rfl⟩

def f_X6_about (fu : Nat)  (σ : gSt) (x1 : Int32) (x2 : Int32) : Option (Nat × Int32 × gSt) :=
  bx (f_X6_requireArticle fu σ x1) (fun _ σ1 => if x2 < 0 then (f_X6_about_b14 fu  σ1) else (if x2 ≤ (4 : Int32) then (gd (inb x1 24) (if x2 = 0 then (bd (f_X0_state fu σ1 (x1.toNatClampNeg)) (fun v5 σ5 => some (0, v5, σ5))) else (if x2 = 1 then (bd (f_X6_volumeOf fu σ1 (x1.toNatClampNeg)) (fun v6 σ6 => some (0, v6, σ6))) else (if x2 = 2 then (bd (f_X6_columnsOf fu σ1 x1) (fun v7 σ7 => some (0, v7, σ7))) else (if x2 = 3 then (some (0, (σ1 7 (x1.toNatClampNeg) 0), σ1)) else (some (0, (σ1 8 (x1.toNatClampNeg) 0), σ1))))))) else (f_X6_about_b14 fu  σ1)))
set_option maxRecDepth 100000 in
theorem t_X6_about {fu : Nat}  {r : Nat × Int32 × gSt} (hC : gCx p s m args meth c cX6_about 4 RX6 (some .int) E) (hX : ∀ x ∈ c.exceptionTable.toList, False) (hflag : l.stackTraces = false)  {σ : gSt} {x1 : Int32} {x2 : Int32}  (hf : f_X6_about fu  σ x1 x2 = some r) : G p l e rm_X6_about s m args below meth c 4 0 0 (vx_MQ below (gQX E w 1 r) (gXC E w r) args s rm_X6_about.cells rm_X6_about.slots (fun q => eB E ≤ q)) E w σ 0 [(0, .ref (eB E + 0)), (1, .int x1), (2, .int x2)] [] := by
  unfold f_X6_about at hf
  refine G_aload_n (q := 1) hC dX6_about_0 rfl rfl ?_
  refine G_iload_n (q := 2) hC dX6_about_1 rfl rfl ?_
  obtain ⟨z1, hm1, hf, hx1⟩ := bx_ok hf
  refine cl_RX6_113 (q := 5) hC dX6_about_2 rfl hX (m_X6_requireArticle hflag hm1) ⟨Nat.le_of_ble_eq_true rfl, Nat.le_of_ble_eq_true rfl⟩ (Nat.le_of_ble_eq_true rfl) ⟨Nat.le_of_ble_eq_true rfl, Nat.le_of_ble_eq_true rfl⟩ ⟨Nat.le_of_ble_eq_true rfl, Nat.le_of_ble_eq_true rfl⟩ hx1 (fun z0 => ?_)
  have hf := hf z0
  obtain ⟨v1, ev1⟩ : ∃ y, y = z1.2.1 := ⟨_, rfl⟩
  obtain ⟨σ1, eσ1⟩ : ∃ y, y = z1.2.2 := ⟨_, rfl⟩
  rw [← eσ1] at hf ⊢
  refine G_widen (k := 1) (n := 6) (Nat.le_of_ble_eq_true rfl) (Nat.le_of_ble_eq_true rfl) ?_
  refine G_iload_n (q := 6) hC dX6_about_5 rfl rfl ?_
  refine G_if_lt (tgt := 14) (q := 9) hC dX6_about_6 (by decide) rfl (fun c1 => ?_) (fun c1 => ?_)
  · have hf := (if_pos c1).symm.trans hf
    refine G_lv (lv' := []) [] rfl ?_
    exact t_X6_about_b14 hC hX hflag   hf
  · have hf := (if_neg c1).symm.trans hf
    refine G_iload_n (q := 10) hC dX6_about_9 rfl rfl ?_
    refine G_iconst (q := 11) hC dX6_about_10 rfl ic_4 ?_
    refine G_icmp_le (tgt := 24) (q := 14) hC dX6_about_11 (by decide) rfl (fun c2 => ?_) (fun c2 => ?_)
    · have hf := (if_pos c2).symm.trans hf
      refine G_aload_n (q := 25) hC dX6_about_24 rfl rfl ?_
      refine gf_RX6_18 (q := 28) hC dX6_about_25 rfl ?_
      refine G_iload_n (q := 29) hC dX6_about_28 rfl rfl ?_
      obtain ⟨g1, hf⟩ := gd_ok hf
      refine G_aldArt (q := 30) hC dX6_about_29 rfl g1 ?_
      refine G_astore_n (q := 31) (lv' := [(3, .ref (eB E + oArt (x1.toNatClampNeg))), (0, .ref (eB E + 0)), (1, .int x1), (2, .int x2)]) hC dX6_about_30 rfl (by decide) rfl ?_
      refine G_iload_n (q := 32) hC dX6_about_31 rfl rfl ?_
      refine G_tab4 (x := x2) (t0 := 64) (t1 := 69) (t2 := 78) (t3 := 84) (td := 89) hC dX6_about_32 rfl (by decide) (by decide) (by decide) (by decide) (by decide) (fun c4 => ?_) (fun c4 => ?_) (fun c4 => ?_) (fun c4 => ?_) (fun c4_0 c4_1 c4_2 c4_3 => ?_)
      · have hf := (if_pos c4).symm.trans hf
        refine G_aload_n (q := 65) hC dX6_about_64 rfl rfl ?_
        obtain ⟨v5, σ5, hm5, hf⟩ := bd_ok hf
        refine cl_RX6_256 (q := 68) hC dX6_about_65 rfl (m_X0_state (inb_lt g1) hm5) (inb_lt g1) ⟨Nat.le_of_ble_eq_true rfl, Nat.le_of_ble_eq_true rfl⟩ (Nat.le_of_ble_eq_true rfl) ⟨Nat.le_of_ble_eq_true rfl, Nat.le_of_ble_eq_true rfl⟩ ?_
        exact G_iretX hC hf rfl rfl (Nat.le_of_ble_eq_true rfl) (Nat.le_of_ble_eq_true rfl) dX6_about_68
      · have hf := (if_neg (by rw [c4]; decide)).symm.trans hf
        have hf := (if_pos c4).symm.trans hf
        refine G_aload_n (q := 70) hC dX6_about_69 rfl rfl ?_
        refine G_aload_n (q := 71) hC dX6_about_70 rfl rfl ?_
        refine gf_RX6_104 (q := 74) hC dX6_about_71 rfl (inb_lt g1) ?_
        obtain ⟨v6, σ6, hm6, hf⟩ := bd_ok hf
        refine cl_RX6_259 (q := 77) hC dX6_about_74 rfl (m_X6_volumeOf (hwA (inb_lt g1)) hm6) ⟨Nat.le_of_ble_eq_true rfl, Nat.le_of_ble_eq_true rfl⟩ (Nat.le_of_ble_eq_true rfl) ⟨Nat.le_of_ble_eq_true rfl, Nat.le_of_ble_eq_true rfl⟩ ?_
        exact G_iretX hC hf rfl rfl (Nat.le_of_ble_eq_true rfl) (Nat.le_of_ble_eq_true rfl) dX6_about_77
      · have hf := (if_neg (by rw [c4]; decide)).symm.trans hf
        have hf := (if_neg (by rw [c4]; decide)).symm.trans hf
        have hf := (if_pos c4).symm.trans hf
        refine G_aload_n (q := 79) hC dX6_about_78 rfl rfl ?_
        refine G_iload_n (q := 80) hC dX6_about_79 rfl rfl ?_
        obtain ⟨v7, σ7, hm7, hf⟩ := bd_ok hf
        refine cl_RX6_263 (q := 83) hC dX6_about_80 rfl (m_X6_columnsOf hm7) ⟨Nat.le_of_ble_eq_true rfl, Nat.le_of_ble_eq_true rfl⟩ (Nat.le_of_ble_eq_true rfl) ⟨Nat.le_of_ble_eq_true rfl, Nat.le_of_ble_eq_true rfl⟩ ?_
        exact G_iretX hC hf rfl rfl (Nat.le_of_ble_eq_true rfl) (Nat.le_of_ble_eq_true rfl) dX6_about_83
      · have hf := (if_neg (by rw [c4]; decide)).symm.trans hf
        have hf := (if_neg (by rw [c4]; decide)).symm.trans hf
        have hf := (if_neg (by rw [c4]; decide)).symm.trans hf
        have hf := (if_pos c4).symm.trans hf
        refine G_aload_n (q := 85) hC dX6_about_84 rfl rfl ?_
        refine gf_RX6_195 (q := 88) hC dX6_about_85 rfl (inb_lt g1) ?_
        exact G_iretX hC hf rfl rfl (Nat.le_of_ble_eq_true rfl) (Nat.le_of_ble_eq_true rfl) dX6_about_88
      · have hf := (if_neg c4_0).symm.trans hf
        have hf := (if_neg c4_1).symm.trans hf
        have hf := (if_neg c4_2).symm.trans hf
        have hf := (if_neg c4_3).symm.trans hf
        refine G_aload_n (q := 90) hC dX6_about_89 rfl rfl ?_
        refine gf_RX6_213 (q := 93) hC dX6_about_90 rfl (inb_lt g1) ?_
        exact G_iretX hC hf rfl rfl (Nat.le_of_ble_eq_true rfl) (Nat.le_of_ble_eq_true rfl) dX6_about_93
    · have hf := (if_neg c2).symm.trans hf
      refine G_lv (lv' := []) [] rfl ?_
      exact t_X6_about_b14 hC hX hflag   hf

theorem m_X6_about {l : Launch} {fu : Nat} {E : gE} {w : Nat → Int64} {σ : gSt} {x1 : Int32} {x2 : Int32} {r : Nat × Int32 × gSt} (hflag : l.stackTraces = false)  (hf : f_X6_about fu σ x1 x2 = some r) : gMX l yX6_about cX6_about 4 (some .int) rm_X6_about 1 E w σ [.ref (eB E + 0), .int x1, .int x2] r :=
  gMX_of (by decide +kernel) (Nat.le_of_ble_eq_true rfl) (fun p e s m args below meth c hC hX => t_X6_about hC hX hflag  hf)
def f_X6_struck_b4_B (fu : Nat) (k4 : gSt → Int32 → Int32 → Option (Int32 × gSt)) (σ : gSt) (x1 : Int32) (x2 : Int32) : Option (Int32 × gSt) :=
  if (σ 156 0 0) ≤ x2 then (some (x1, σ)) else (gd (inb x2 24) (bd (f_X0_countReferences fu σ (x2.toNatClampNeg) (3 : Int32)) (fun v2 σ2 => k4 σ2 (x1 + v2) (x2 + (1)))))
def f_X6_struck_b4 (fu : Nat)  : Nat → gSt → Int32 → Int32 → Option (Int32 × gSt)
  | 0 => fun _ _ _ => none
  | n + 1 => f_X6_struck_b4_B fu  (f_X6_struck_b4 fu  n)
set_option maxRecDepth 100000 in
theorem t_X6_struck_b4_B {fu : Nat} {k4 : gSt → Int32 → Int32 → Option (Int32 × gSt)} {r : Int32 × gSt} (hC : gCx p s m args meth c cX6_struck 3 RX6 (some .int) E) (hk4 : ∀ (σ : gSt) (x1 : Int32) (x2 : Int32), k4 σ x1 x2 = some r → G p l e rm_X6_struck s m args below meth c 3 0 0 (MQ below (gQ E w 1 r) args s 0 0 (fun q => eB E ≤ q)) E w σ 4 [(0, .ref (eB E + 0)), (1, .int x1), (2, .int x2)] []) {σ : gSt} {x1 : Int32} {x2 : Int32}  (hf : f_X6_struck_b4_B fu k4 σ x1 x2 = some r) : G p l e rm_X6_struck s m args below meth c 3 0 0 (MQ below (gQ E w 1 r) args s 0 0 (fun q => eB E ≤ q)) E w σ 4 [(0, .ref (eB E + 0)), (1, .int x1), (2, .int x2)] [] := by
  unfold f_X6_struck_b4_B at hf
  refine G_iload_n (q := 5) hC dX6_struck_4 rfl rfl ?_
  refine G_aload_n (q := 6) hC dX6_struck_5 rfl rfl ?_
  refine gf_RX6_89 (q := 9) hC dX6_struck_6 rfl ?_
  refine G_icmp_ge (tgt := 33) (q := 12) hC dX6_struck_9 (by decide) rfl (fun c0 => ?_) (fun c0 => ?_)
  · have hf := (if_pos c0).symm.trans hf
    refine G_iload_n (q := 34) hC dX6_struck_33 rfl rfl ?_
    exact G_iret hC hf rfl rfl dX6_struck_34
  · have hf := (if_neg c0).symm.trans hf
    refine G_iload_n (q := 13) hC dX6_struck_12 rfl rfl ?_
    refine G_aload_n (q := 14) hC dX6_struck_13 rfl rfl ?_
    refine gf_RX6_18 (q := 17) hC dX6_struck_14 rfl ?_
    refine G_iload_n (q := 18) hC dX6_struck_17 rfl rfl ?_
    obtain ⟨g1, hf⟩ := gd_ok hf
    refine G_aldArt (q := 19) hC dX6_struck_18 rfl g1 ?_
    refine gs_RX6_266 (q := 22) hC dX6_struck_19 rfl ?_
    obtain ⟨v2, σ2, hm2, hf⟩ := bd_ok hf
    refine cl_RX6_272 (q := 25) hC dX6_struck_22 rfl (m_X0_countReferences (inb_lt g1) hm2) (inb_lt g1) ⟨Nat.le_of_ble_eq_true rfl, Nat.le_of_ble_eq_true rfl⟩ (Nat.le_of_ble_eq_true rfl) ⟨Nat.le_of_ble_eq_true rfl, Nat.le_of_ble_eq_true rfl⟩ ?_
    refine G_iadd (q := 26) hC dX6_struck_25 rfl ?_
    refine G_istore_n (q := 27) (lv' := [(1, .int (x1 + v2)), (0, .ref (eB E + 0)), (2, .int x2)]) hC dX6_struck_26 rfl (by decide) rfl ?_
    refine G_iinc (q := 30) (n := 2) (lv' := [(2, .int (x2 + (1))), (1, .int (x1 + v2)), (0, .ref (eB E + 0))]) hC dX6_struck_27 rfl rfl (ii_1 _) (by decide) rfl ?_
    refine G_goto (tgt := 4) hC dX6_struck_30 (by decide) ?_
    refine G_lv (lv' := [(0, .ref (eB E + 0)), (1, .int (x1 + v2)), (2, .int (x2 + (1)))]) [2, 1, 0] rfl ?_
    exact hk4 _ _ _  hf

theorem t_X6_struck_b4 {fu : Nat}  {r : Int32 × gSt} (hC : gCx p s m args meth c cX6_struck 3 RX6 (some .int) E)  (n : Nat) : ∀ (σ : gSt) (x1 : Int32) (x2 : Int32), f_X6_struck_b4 fu  n σ x1 x2 = some r → G p l e rm_X6_struck s m args below meth c 3 0 0 (MQ below (gQ E w 1 r) args s 0 0 (fun q => eB E ≤ q)) E w σ 4 [(0, .ref (eB E + 0)), (1, .int x1), (2, .int x2)] [] := by
  induction n with
  | zero => intro σ x1 x2  hf; cases hf
  | succ n ih => intro σ x1 x2  hf; exact t_X6_struck_b4_B hC  ih  hf
def f_X6_struck (fu : Nat)  (σ : gSt)  : Option (Int32 × gSt) :=
  f_X6_struck_b4 fu  fu σ (0 : Int32) (0 : Int32)
set_option maxRecDepth 100000 in
theorem t_X6_struck {fu : Nat}  {r : Int32 × gSt} (hC : gCx p s m args meth c cX6_struck 3 RX6 (some .int) E)  {σ : gSt}   (hf : f_X6_struck fu  σ  = some r) : G p l e rm_X6_struck s m args below meth c 3 0 0 (MQ below (gQ E w 1 r) args s 0 0 (fun q => eB E ≤ q)) E w σ 0 [(0, .ref (eB E + 0))] [] := by
  unfold f_X6_struck at hf
  refine G_iconst (q := 1) hC dX6_struck_0 rfl ic_0 ?_
  refine G_istore_n (q := 2) (lv' := [(1, .int (0 : Int32)), (0, .ref (eB E + 0))]) hC dX6_struck_1 rfl (by decide) rfl ?_
  refine G_iconst (q := 3) hC dX6_struck_2 rfl ic_0 ?_
  refine G_istore_n (q := 4) (lv' := [(2, .int (0 : Int32)), (1, .int (0 : Int32)), (0, .ref (eB E + 0))]) hC dX6_struck_3 rfl (by decide) rfl ?_
  refine G_lv (lv' := [(0, .ref (eB E + 0)), (1, .int (0 : Int32)), (2, .int (0 : Int32))]) [2, 1, 0] rfl ?_
  exact t_X6_struck_b4 hC  fu _ _ _  hf

theorem m_X6_struck {l : Launch} {fu : Nat} {E : gE} {w : Nat → Int64} {σ : gSt}  {r : Int32 × gSt}  (hf : f_X6_struck fu σ  = some r) : gM l yX6_struck cX6_struck 3 (some .int) rm_X6_struck 1 E w σ [.ref (eB E + 0)] r :=
  gM_of (by decide +kernel) (Nat.le_of_ble_eq_true rfl) (fun p e s m args below meth c hC => t_X6_struck hC  hf)
def f_X6_errata (fu : Nat)  (σ : gSt) (x1 : Int32) : Option (Nat × Int32 × gSt) :=
  bx (f_X6_requireContributor fu σ x1) (fun _ σ1 => gd (inb x1 6) (some (0, (σ1 34 (x1.toNatClampNeg) 0), σ1)))
set_option maxRecDepth 100000 in
theorem t_X6_errata {fu : Nat}  {r : Nat × Int32 × gSt} (hC : gCx p s m args meth c cX6_errata 2 RX6 (some .int) E) (hX : ∀ x ∈ c.exceptionTable.toList, False) (hflag : l.stackTraces = false)  {σ : gSt} {x1 : Int32}  (hf : f_X6_errata fu  σ x1 = some r) : G p l e rm_X6_errata s m args below meth c 2 0 0 (vx_MQ below (gQX E w 1 r) (gXC E w r) args s rm_X6_errata.cells rm_X6_errata.slots (fun q => eB E ≤ q)) E w σ 0 [(0, .ref (eB E + 0)), (1, .int x1)] [] := by
  unfold f_X6_errata at hf
  refine G_aload_n (q := 1) hC dX6_errata_0 rfl rfl ?_
  refine G_iload_n (q := 2) hC dX6_errata_1 rfl rfl ?_
  obtain ⟨z1, hm1, hf, hx1⟩ := bx_ok hf
  refine cl_RX6_174 (q := 5) hC dX6_errata_2 rfl hX (m_X6_requireContributor hflag hm1) ⟨Nat.le_of_ble_eq_true rfl, Nat.le_of_ble_eq_true rfl⟩ (Nat.le_of_ble_eq_true rfl) ⟨Nat.le_of_ble_eq_true rfl, Nat.le_of_ble_eq_true rfl⟩ ⟨Nat.le_of_ble_eq_true rfl, Nat.le_of_ble_eq_true rfl⟩ hx1 (fun z0 => ?_)
  have hf := hf z0
  obtain ⟨v1, ev1⟩ : ∃ y, y = z1.2.1 := ⟨_, rfl⟩
  obtain ⟨σ1, eσ1⟩ : ∃ y, y = z1.2.2 := ⟨_, rfl⟩
  rw [← eσ1] at hf ⊢
  refine G_widen (k := 1) (n := 6) (Nat.le_of_ble_eq_true rfl) (Nat.le_of_ble_eq_true rfl) ?_
  refine G_aload_n (q := 6) hC dX6_errata_5 rfl rfl ?_
  refine gf_RX6_30 (q := 9) hC dX6_errata_6 rfl ?_
  refine G_iload_n (q := 10) hC dX6_errata_9 rfl rfl ?_
  obtain ⟨g1, hf⟩ := gd_ok hf
  refine G_aldCon (q := 11) hC dX6_errata_10 rfl g1 ?_
  refine gf_RX6_276 (q := 14) hC dX6_errata_11 rfl (inb_lt g1) ?_
  exact G_iretX hC hf rfl rfl (Nat.le_of_ble_eq_true rfl) (Nat.le_of_ble_eq_true rfl) dX6_errata_14

theorem m_X6_errata {l : Launch} {fu : Nat} {E : gE} {w : Nat → Int64} {σ : gSt} {x1 : Int32} {r : Nat × Int32 × gSt} (hflag : l.stackTraces = false)  (hf : f_X6_errata fu σ x1 = some r) : gMX l yX6_errata cX6_errata 2 (some .int) rm_X6_errata 1 E w σ [.ref (eB E + 0), .int x1] r :=
  gMX_of (by decide +kernel) (Nat.le_of_ble_eq_true rfl) (fun p e s m args below meth c hC hX => t_X6_errata hC hX hflag  hf)
def f_X6_countBroken_b28 (fu : Nat) (k4 : gSt → Nat → Int32 → Int32 → Option (Int32 × gSt)) (σ : gSt) (i1 : Nat) (x2 : Int32) (x3 : Int32) : Option (Int32 × gSt) :=
  k4 σ i1 x2 (x3 + (1))
set_option maxRecDepth 100000 in
theorem t_X6_countBroken_b28 {fu : Nat} {k4 : gSt → Nat → Int32 → Int32 → Option (Int32 × gSt)} {r : Int32 × gSt} (hC : gCx p s m args meth c cX6_countBroken 4 RX6 (some .int) E) (hk4 : ∀ (σ : gSt) (i1 : Nat) (x2 : Int32) (x3 : Int32), i1 < 24 → k4 σ i1 x2 x3 = some r → G p l e rm_X6_countBroken s m args below meth c 4 0 0 (MQ below (gQ E w 1 r) args s 0 0 (fun q => eB E ≤ q)) E w σ 4 [(0, .ref (eB E + 0)), (1, .ref (eB E + oArt i1)), (2, .int x2), (3, .int x3)] []) {σ : gSt} {i1 : Nat} {x2 : Int32} {x3 : Int32} (h1 : i1 < 24) (hf : f_X6_countBroken_b28 fu k4 σ i1 x2 x3 = some r) : G p l e rm_X6_countBroken s m args below meth c 4 0 0 (MQ below (gQ E w 1 r) args s 0 0 (fun q => eB E ≤ q)) E w σ 28 [(0, .ref (eB E + 0)), (1, .ref (eB E + oArt i1)), (2, .int x2), (3, .int x3)] [] := by
  unfold f_X6_countBroken_b28 at hf
  refine G_iinc (q := 31) (n := 3) (lv' := [(3, .int (x3 + (1))), (0, .ref (eB E + 0)), (1, .ref (eB E + oArt i1)), (2, .int x2)]) hC dX6_countBroken_28 rfl rfl (ii_1 _) (by decide) rfl ?_
  refine G_goto (tgt := 4) hC dX6_countBroken_31 (by decide) ?_
  refine G_lv (lv' := [(0, .ref (eB E + 0)), (1, .ref (eB E + oArt i1)), (2, .int x2), (3, .int (x3 + (1)))]) [1, 2, 3, 0] rfl ?_
  exact hk4 _ _ _ _ h1 hf

def f_X6_countBroken_b4_B (fu : Nat) (k4 : gSt → Nat → Int32 → Int32 → Option (Int32 × gSt)) (σ : gSt) (i1 : Nat) (x2 : Int32) (x3 : Int32) : Option (Int32 × gSt) :=
  if (σ 4 i1 0) ≤ x3 then (some (x2, σ)) else (gd (inb x3 4) (bd (f_X6_isBroken fu σ (4 * i1 + x3.toNatClampNeg)) (fun v2 σ2 => if v2 = 0 then (f_X6_countBroken_b28 fu k4 σ2 i1 x2 x3) else (f_X6_countBroken_b28 fu k4 σ2 i1 (x2 + (1)) x3))))
def f_X6_countBroken_b4 (fu : Nat)  : Nat → gSt → Nat → Int32 → Int32 → Option (Int32 × gSt)
  | 0 => fun _ _ _ _ => none
  | n + 1 => f_X6_countBroken_b4_B fu  (f_X6_countBroken_b4 fu  n)
set_option maxRecDepth 100000 in
theorem t_X6_countBroken_b4_B {fu : Nat} {k4 : gSt → Nat → Int32 → Int32 → Option (Int32 × gSt)} {r : Int32 × gSt} (hC : gCx p s m args meth c cX6_countBroken 4 RX6 (some .int) E) (hk4 : ∀ (σ : gSt) (i1 : Nat) (x2 : Int32) (x3 : Int32), i1 < 24 → k4 σ i1 x2 x3 = some r → G p l e rm_X6_countBroken s m args below meth c 4 0 0 (MQ below (gQ E w 1 r) args s 0 0 (fun q => eB E ≤ q)) E w σ 4 [(0, .ref (eB E + 0)), (1, .ref (eB E + oArt i1)), (2, .int x2), (3, .int x3)] []) {σ : gSt} {i1 : Nat} {x2 : Int32} {x3 : Int32} (h1 : i1 < 24) (hf : f_X6_countBroken_b4_B fu k4 σ i1 x2 x3 = some r) : G p l e rm_X6_countBroken s m args below meth c 4 0 0 (MQ below (gQ E w 1 r) args s 0 0 (fun q => eB E ≤ q)) E w σ 4 [(0, .ref (eB E + 0)), (1, .ref (eB E + oArt i1)), (2, .int x2), (3, .int x3)] [] := by
  unfold f_X6_countBroken_b4_B at hf
  refine G_iload_n (q := 5) hC dX6_countBroken_4 rfl rfl ?_
  refine G_aload_n (q := 6) hC dX6_countBroken_5 rfl rfl ?_
  refine gf_RX6_119 (q := 9) hC dX6_countBroken_6 rfl h1 ?_
  refine G_icmp_ge (tgt := 34) (q := 12) hC dX6_countBroken_9 (by decide) rfl (fun c0 => ?_) (fun c0 => ?_)
  · have hf := (if_pos c0).symm.trans hf
    refine G_iload_n (q := 35) hC dX6_countBroken_34 rfl rfl ?_
    exact G_iret hC hf rfl rfl dX6_countBroken_35
  · have hf := (if_neg c0).symm.trans hf
    refine G_aload_n (q := 13) hC dX6_countBroken_12 rfl rfl ?_
    refine G_aload_n (q := 14) hC dX6_countBroken_13 rfl rfl ?_
    refine gf_RX6_124 (q := 17) hC dX6_countBroken_14 rfl h1 ?_
    refine G_iload_n (q := 18) hC dX6_countBroken_17 rfl rfl ?_
    obtain ⟨g1, hf⟩ := gd_ok hf
    refine G_aldRef (q := 19) hC dX6_countBroken_18 rfl h1 g1 ?_
    obtain ⟨v2, σ2, hm2, hf⟩ := bd_ok hf
    refine cl_RX6_373 (q := 22) hC dX6_countBroken_19 rfl (m_X6_isBroken (refB h1 g1) hm2) ⟨Nat.le_of_ble_eq_true rfl, Nat.le_of_ble_eq_true rfl⟩ (Nat.le_of_ble_eq_true rfl) ⟨Nat.le_of_ble_eq_true rfl, Nat.le_of_ble_eq_true rfl⟩ ?_
    refine G_if_eq (tgt := 28) (q := 25) hC dX6_countBroken_22 (by decide) rfl (fun c2 => ?_) (fun c2 => ?_)
    · have hf := (if_pos c2).symm.trans hf
      exact t_X6_countBroken_b28 hC hk4 h1 hf
    · have hf := (if_neg c2).symm.trans hf
      refine G_iinc (q := 28) (n := 2) (lv' := [(2, .int (x2 + (1))), (0, .ref (eB E + 0)), (1, .ref (eB E + oArt i1)), (3, .int x3)]) hC dX6_countBroken_25 rfl rfl (ii_1 _) (by decide) rfl ?_
      refine G_lv (lv' := [(0, .ref (eB E + 0)), (1, .ref (eB E + oArt i1)), (2, .int (x2 + (1))), (3, .int x3)]) [1, 2, 0, 3] rfl ?_
      exact t_X6_countBroken_b28 hC hk4 h1 hf

theorem t_X6_countBroken_b4 {fu : Nat}  {r : Int32 × gSt} (hC : gCx p s m args meth c cX6_countBroken 4 RX6 (some .int) E)  (n : Nat) : ∀ (σ : gSt) (i1 : Nat) (x2 : Int32) (x3 : Int32), i1 < 24 → f_X6_countBroken_b4 fu  n σ i1 x2 x3 = some r → G p l e rm_X6_countBroken s m args below meth c 4 0 0 (MQ below (gQ E w 1 r) args s 0 0 (fun q => eB E ≤ q)) E w σ 4 [(0, .ref (eB E + 0)), (1, .ref (eB E + oArt i1)), (2, .int x2), (3, .int x3)] [] := by
  induction n with
  | zero => intro σ i1 x2 x3 h1 hf; cases hf
  | succ n ih => intro σ i1 x2 x3 h1 hf; exact t_X6_countBroken_b4_B hC  ih h1 hf
def f_X6_countBroken (fu : Nat)  (σ : gSt) (i1 : Nat) : Option (Int32 × gSt) :=
  f_X6_countBroken_b4 fu  fu σ i1 (0 : Int32) (0 : Int32)
set_option maxRecDepth 100000 in
theorem t_X6_countBroken {fu : Nat}  {r : Int32 × gSt} (hC : gCx p s m args meth c cX6_countBroken 4 RX6 (some .int) E)  {σ : gSt} {i1 : Nat} (h1 : i1 < 24) (hf : f_X6_countBroken fu  σ i1 = some r) : G p l e rm_X6_countBroken s m args below meth c 4 0 0 (MQ below (gQ E w 1 r) args s 0 0 (fun q => eB E ≤ q)) E w σ 0 [(0, .ref (eB E + 0)), (1, .ref (eB E + oArt i1))] [] := by
  unfold f_X6_countBroken at hf
  refine G_iconst (q := 1) hC dX6_countBroken_0 rfl ic_0 ?_
  refine G_istore_n (q := 2) (lv' := [(2, .int (0 : Int32)), (0, .ref (eB E + 0)), (1, .ref (eB E + oArt i1))]) hC dX6_countBroken_1 rfl (by decide) rfl ?_
  refine G_iconst (q := 3) hC dX6_countBroken_2 rfl ic_0 ?_
  refine G_istore_n (q := 4) (lv' := [(3, .int (0 : Int32)), (2, .int (0 : Int32)), (0, .ref (eB E + 0)), (1, .ref (eB E + oArt i1))]) hC dX6_countBroken_3 rfl (by decide) rfl ?_
  refine G_lv (lv' := [(0, .ref (eB E + 0)), (1, .ref (eB E + oArt i1)), (2, .int (0 : Int32)), (3, .int (0 : Int32))]) [2, 3, 1, 0] rfl ?_
  exact t_X6_countBroken_b4 hC  fu _ _ _ _ h1 hf

theorem m_X6_countBroken {l : Launch} {fu : Nat} {E : gE} {w : Nat → Int64} {σ : gSt} {i1 : Nat} {r : Int32 × gSt} (h1 : i1 < 24) (hf : f_X6_countBroken fu σ i1 = some r) : gM l yX6_countBroken cX6_countBroken 4 (some .int) rm_X6_countBroken 1 E w σ [.ref (eB E + 0), .ref (eB E + oArt i1)] r :=
  gM_of (by decide +kernel) (Nat.le_of_ble_eq_true rfl) (fun p e s m args below meth c hC => t_X6_countBroken hC h1 hf)
def f_X6_open_b38 (fu : Nat) (k4 : gSt → Int32 → Int32 → Int32 → Option (Int32 × gSt)) (σ : gSt) (x1 : Int32) (x2 : Int32) (x3 : Int32) : Option (Int32 × gSt) :=
  k4 σ x1 x2 (x3 + (1))
set_option maxRecDepth 100000 in
theorem t_X6_open_b38 {fu : Nat} {k4 : gSt → Int32 → Int32 → Int32 → Option (Int32 × gSt)} {r : Int32 × gSt} (hC : gCx p s m args meth c cX6_open 4 RX6 (some .int) E) (hk4 : ∀ (σ : gSt) (x1 : Int32) (x2 : Int32) (x3 : Int32), k4 σ x1 x2 x3 = some r → G p l e rm_X6_open s m args below meth c 4 0 0 (MQ below (gQ E w 1 r) args s 0 0 (fun q => eB E ≤ q)) E w σ 4 [(0, .ref (eB E + 0)), (1, .int x1), (2, .int x2), (3, .int x3)] []) {σ : gSt} {x1 : Int32} {x2 : Int32} {x3 : Int32}  (hf : f_X6_open_b38 fu k4 σ x1 x2 x3 = some r) : G p l e rm_X6_open s m args below meth c 4 0 0 (MQ below (gQ E w 1 r) args s 0 0 (fun q => eB E ≤ q)) E w σ 38 [(0, .ref (eB E + 0)), (1, .int x1), (2, .int x2), (3, .int x3)] [] := by
  unfold f_X6_open_b38 at hf
  refine G_iinc (q := 41) (n := 3) (lv' := [(3, .int (x3 + (1))), (0, .ref (eB E + 0)), (1, .int x1), (2, .int x2)]) hC dX6_open_38 rfl rfl (ii_1 _) (by decide) rfl ?_
  refine G_goto (tgt := 4) hC dX6_open_41 (by decide) ?_
  refine G_lv (lv' := [(0, .ref (eB E + 0)), (1, .int x1), (2, .int x2), (3, .int (x3 + (1)))]) [1, 2, 3, 0] rfl ?_
  exact hk4 _ _ _ _  hf

def f_X6_open_b4_B (fu : Nat) (k4 : gSt → Int32 → Int32 → Int32 → Option (Int32 × gSt)) (σ : gSt) (x1 : Int32) (x2 : Int32) (x3 : Int32) : Option (Int32 × gSt) :=
  if (σ 156 0 0) ≤ x3 then (some (x2, σ)) else (gd (inb x3 24) (bd (f_X0_isReadIn fu σ (x3.toNatClampNeg) x1) (fun v2 σ2 => if v2 = 0 then (f_X6_open_b38 fu k4 σ2 x1 x2 x3) else (gd (inb x3 24) (bd (f_X6_countBroken fu σ2 (x3.toNatClampNeg)) (fun v4 σ4 => f_X6_open_b38 fu k4 σ4 x1 (x2 + v4) x3))))))
def f_X6_open_b4 (fu : Nat)  : Nat → gSt → Int32 → Int32 → Int32 → Option (Int32 × gSt)
  | 0 => fun _ _ _ _ => none
  | n + 1 => f_X6_open_b4_B fu  (f_X6_open_b4 fu  n)
set_option maxRecDepth 100000 in
theorem t_X6_open_b4_B {fu : Nat} {k4 : gSt → Int32 → Int32 → Int32 → Option (Int32 × gSt)} {r : Int32 × gSt} (hC : gCx p s m args meth c cX6_open 4 RX6 (some .int) E) (hk4 : ∀ (σ : gSt) (x1 : Int32) (x2 : Int32) (x3 : Int32), k4 σ x1 x2 x3 = some r → G p l e rm_X6_open s m args below meth c 4 0 0 (MQ below (gQ E w 1 r) args s 0 0 (fun q => eB E ≤ q)) E w σ 4 [(0, .ref (eB E + 0)), (1, .int x1), (2, .int x2), (3, .int x3)] []) {σ : gSt} {x1 : Int32} {x2 : Int32} {x3 : Int32}  (hf : f_X6_open_b4_B fu k4 σ x1 x2 x3 = some r) : G p l e rm_X6_open s m args below meth c 4 0 0 (MQ below (gQ E w 1 r) args s 0 0 (fun q => eB E ≤ q)) E w σ 4 [(0, .ref (eB E + 0)), (1, .int x1), (2, .int x2), (3, .int x3)] [] := by
  unfold f_X6_open_b4_B at hf
  refine G_iload_n (q := 5) hC dX6_open_4 rfl rfl ?_
  refine G_aload_n (q := 6) hC dX6_open_5 rfl rfl ?_
  refine gf_RX6_89 (q := 9) hC dX6_open_6 rfl ?_
  refine G_icmp_ge (tgt := 44) (q := 12) hC dX6_open_9 (by decide) rfl (fun c0 => ?_) (fun c0 => ?_)
  · have hf := (if_pos c0).symm.trans hf
    refine G_iload_n (q := 45) hC dX6_open_44 rfl rfl ?_
    exact G_iret hC hf rfl rfl dX6_open_45
  · have hf := (if_neg c0).symm.trans hf
    refine G_aload_n (q := 13) hC dX6_open_12 rfl rfl ?_
    refine gf_RX6_18 (q := 16) hC dX6_open_13 rfl ?_
    refine G_iload_n (q := 17) hC dX6_open_16 rfl rfl ?_
    obtain ⟨g1, hf⟩ := gd_ok hf
    refine G_aldArt (q := 18) hC dX6_open_17 rfl g1 ?_
    refine G_iload_n (q := 19) hC dX6_open_18 rfl rfl ?_
    obtain ⟨v2, σ2, hm2, hf⟩ := bd_ok hf
    refine cl_RX6_279 (q := 22) hC dX6_open_19 rfl (m_X0_isReadIn (inb_lt g1) hm2) (inb_lt g1) ⟨Nat.le_of_ble_eq_true rfl, Nat.le_of_ble_eq_true rfl⟩ (Nat.le_of_ble_eq_true rfl) ⟨Nat.le_of_ble_eq_true rfl, Nat.le_of_ble_eq_true rfl⟩ ?_
    refine G_if_eq (tgt := 38) (q := 25) hC dX6_open_22 (by decide) rfl (fun c2 => ?_) (fun c2 => ?_)
    · have hf := (if_pos c2).symm.trans hf
      exact t_X6_open_b38 hC hk4  hf
    · have hf := (if_neg c2).symm.trans hf
      refine G_iload_n (q := 26) hC dX6_open_25 rfl rfl ?_
      refine G_aload_n (q := 27) hC dX6_open_26 rfl rfl ?_
      refine G_aload_n (q := 28) hC dX6_open_27 rfl rfl ?_
      refine gf_RX6_18 (q := 31) hC dX6_open_28 rfl ?_
      refine G_iload_n (q := 32) hC dX6_open_31 rfl rfl ?_
      obtain ⟨g2, hf⟩ := gd_ok hf
      refine G_aldArt (q := 33) hC dX6_open_32 rfl g2 ?_
      obtain ⟨v4, σ4, hm4, hf⟩ := bd_ok hf
      refine cl_RX6_283 (q := 36) hC dX6_open_33 rfl (m_X6_countBroken (inb_lt g2) hm4) ⟨Nat.le_of_ble_eq_true rfl, Nat.le_of_ble_eq_true rfl⟩ (Nat.le_of_ble_eq_true rfl) ⟨Nat.le_of_ble_eq_true rfl, Nat.le_of_ble_eq_true rfl⟩ ?_
      refine G_iadd (q := 37) hC dX6_open_36 rfl ?_
      refine G_istore_n (q := 38) (lv' := [(2, .int (x2 + v4)), (0, .ref (eB E + 0)), (1, .int x1), (3, .int x3)]) hC dX6_open_37 rfl (by decide) rfl ?_
      refine G_lv (lv' := [(0, .ref (eB E + 0)), (1, .int x1), (2, .int (x2 + v4)), (3, .int x3)]) [1, 2, 0, 3] rfl ?_
      exact t_X6_open_b38 hC hk4  hf

theorem t_X6_open_b4 {fu : Nat}  {r : Int32 × gSt} (hC : gCx p s m args meth c cX6_open 4 RX6 (some .int) E)  (n : Nat) : ∀ (σ : gSt) (x1 : Int32) (x2 : Int32) (x3 : Int32), f_X6_open_b4 fu  n σ x1 x2 x3 = some r → G p l e rm_X6_open s m args below meth c 4 0 0 (MQ below (gQ E w 1 r) args s 0 0 (fun q => eB E ≤ q)) E w σ 4 [(0, .ref (eB E + 0)), (1, .int x1), (2, .int x2), (3, .int x3)] [] := by
  induction n with
  | zero => intro σ x1 x2 x3  hf; cases hf
  | succ n ih => intro σ x1 x2 x3  hf; exact t_X6_open_b4_B hC  ih  hf
def f_X6_open (fu : Nat)  (σ : gSt) (x1 : Int32) : Option (Int32 × gSt) :=
  f_X6_open_b4 fu  fu σ x1 (0 : Int32) (0 : Int32)
set_option maxRecDepth 100000 in
theorem t_X6_open {fu : Nat}  {r : Int32 × gSt} (hC : gCx p s m args meth c cX6_open 4 RX6 (some .int) E)  {σ : gSt} {x1 : Int32}  (hf : f_X6_open fu  σ x1 = some r) : G p l e rm_X6_open s m args below meth c 4 0 0 (MQ below (gQ E w 1 r) args s 0 0 (fun q => eB E ≤ q)) E w σ 0 [(0, .ref (eB E + 0)), (1, .int x1)] [] := by
  unfold f_X6_open at hf
  refine G_iconst (q := 1) hC dX6_open_0 rfl ic_0 ?_
  refine G_istore_n (q := 2) (lv' := [(2, .int (0 : Int32)), (0, .ref (eB E + 0)), (1, .int x1)]) hC dX6_open_1 rfl (by decide) rfl ?_
  refine G_iconst (q := 3) hC dX6_open_2 rfl ic_0 ?_
  refine G_istore_n (q := 4) (lv' := [(3, .int (0 : Int32)), (2, .int (0 : Int32)), (0, .ref (eB E + 0)), (1, .int x1)]) hC dX6_open_3 rfl (by decide) rfl ?_
  refine G_lv (lv' := [(0, .ref (eB E + 0)), (1, .int x1), (2, .int (0 : Int32)), (3, .int (0 : Int32))]) [2, 3, 1, 0] rfl ?_
  exact t_X6_open_b4 hC  fu _ _ _ _  hf

theorem m_X6_open {l : Launch} {fu : Nat} {E : gE} {w : Nat → Int64} {σ : gSt} {x1 : Int32} {r : Int32 × gSt}  (hf : f_X6_open fu σ x1 = some r) : gM l yX6_open cX6_open 4 (some .int) rm_X6_open 1 E w σ [.ref (eB E + 0), .int x1] r :=
  gM_of (by decide +kernel) (Nat.le_of_ble_eq_true rfl) (fun p e s m args below meth c hC => t_X6_open hC  hf)
def f_X6_isContradicted_b74 (fu : Nat) (k8 : gSt → Int32 → Int32 → Int32 → Int32 → Int32 → Option (Int32 × gSt)) (σ : gSt) (x1 : Int32) (x2 : Int32) (x3 : Int32) (x4 : Int32) (x5 : Int32) : Option (Int32 × gSt) :=
  k8 σ x1 x2 x3 x4 (x5 + (1))
set_option maxRecDepth 100000 in
theorem t_X6_isContradicted_b74 {fu : Nat} {k8 : gSt → Int32 → Int32 → Int32 → Int32 → Int32 → Option (Int32 × gSt)} {r : Int32 × gSt} (hC : gCx p s m args meth c cX6_isContradicted 7 RX6 (some .boolean) E) (hk8 : ∀ (σ : gSt) (x1 : Int32) (x2 : Int32) (x3 : Int32) (x4 : Int32) (x5 : Int32), k8 σ x1 x2 x3 x4 x5 = some r → G p l e rm_X6_isContradicted s m args below meth c 7 0 0 (MQ below (gQ E w 1 r) args s 0 0 (fun q => eB E ≤ q)) E w σ 8 [(0, .ref (eB E + 0)), (1, .int x1), (2, .int x2), (3, .int x3), (4, .int x4), (5, .int x5)] []) {σ : gSt} {x1 : Int32} {x2 : Int32} {x3 : Int32} {x4 : Int32} {x5 : Int32}  (hf : f_X6_isContradicted_b74 fu k8 σ x1 x2 x3 x4 x5 = some r) : G p l e rm_X6_isContradicted s m args below meth c 7 0 0 (MQ below (gQ E w 1 r) args s 0 0 (fun q => eB E ≤ q)) E w σ 74 [(0, .ref (eB E + 0)), (1, .int x1), (2, .int x2), (3, .int x3), (4, .int x4), (5, .int x5)] [] := by
  unfold f_X6_isContradicted_b74 at hf
  refine G_iinc (q := 77) (n := 5) (lv' := [(5, .int (x5 + (1))), (0, .ref (eB E + 0)), (1, .int x1), (2, .int x2), (3, .int x3), (4, .int x4)]) hC dX6_isContradicted_74 rfl rfl (ii_1 _) (by decide) rfl ?_
  refine G_goto (tgt := 8) hC dX6_isContradicted_77 (by decide) ?_
  refine G_lv (lv' := [(0, .ref (eB E + 0)), (1, .int x1), (2, .int x2), (3, .int x3), (4, .int x4), (5, .int (x5 + (1)))]) [1, 2, 3, 4, 5, 0] rfl ?_
  exact hk8 _ _ _ _ _ _  hf

def f_X6_isContradicted_b63 (fu : Nat) (k8 : gSt → Int32 → Int32 → Int32 → Int32 → Int32 → Option (Int32 × gSt)) (σ : gSt) (x1 : Int32) (x2 : Int32) (x5 : Int32) (i6 : Nat) : Option (Int32 × gSt) :=
  gd (inb x1 8) (f_X6_isContradicted_b74 fu k8 σ x1 x2 (1 : Int32) (σ 3 i6 x1.toNatClampNeg) x5)
set_option maxRecDepth 100000 in
theorem t_X6_isContradicted_b63 {fu : Nat} {k8 : gSt → Int32 → Int32 → Int32 → Int32 → Int32 → Option (Int32 × gSt)} {r : Int32 × gSt} (hC : gCx p s m args meth c cX6_isContradicted 7 RX6 (some .boolean) E) (hk8 : ∀ (σ : gSt) (x1 : Int32) (x2 : Int32) (x3 : Int32) (x4 : Int32) (x5 : Int32), k8 σ x1 x2 x3 x4 x5 = some r → G p l e rm_X6_isContradicted s m args below meth c 7 0 0 (MQ below (gQ E w 1 r) args s 0 0 (fun q => eB E ≤ q)) E w σ 8 [(0, .ref (eB E + 0)), (1, .int x1), (2, .int x2), (3, .int x3), (4, .int x4), (5, .int x5)] []) {σ : gSt} {x1 : Int32} {x2 : Int32} {x5 : Int32} {i6 : Nat} (h6 : i6 < 24) (hf : f_X6_isContradicted_b63 fu k8 σ x1 x2 x5 i6 = some r) : G p l e rm_X6_isContradicted s m args below meth c 7 0 0 (MQ below (gQ E w 1 r) args s 0 0 (fun q => eB E ≤ q)) E w σ 63 [(0, .ref (eB E + 0)), (1, .int x1), (2, .int x2), (5, .int x5), (6, .ref (eB E + oArt i6))] [] := by
  unfold f_X6_isContradicted_b63 at hf
  refine G_iconst (q := 64) hC dX6_isContradicted_63 rfl ic_1 ?_
  refine G_istore_n (q := 65) (lv' := [(3, .int (1 : Int32)), (0, .ref (eB E + 0)), (1, .int x1), (2, .int x2), (5, .int x5), (6, .ref (eB E + oArt i6))]) hC dX6_isContradicted_64 rfl (by decide) rfl ?_
  refine G_aload (q := 67) hC dX6_isContradicted_65 rfl rfl ?_
  refine gf_RX6_377 (q := 70) hC dX6_isContradicted_67 rfl h6 ?_
  refine G_iload_n (q := 71) hC dX6_isContradicted_70 rfl rfl ?_
  obtain ⟨g1, hf⟩ := gd_ok hf
  refine G_iald (q := 72) hC dX6_isContradicted_71 rfl (ok_3 h6 g1) ?_
  refine G_istore (q := 74) (lv' := [(4, .int (σ 3 i6 x1.toNatClampNeg)), (3, .int (1 : Int32)), (0, .ref (eB E + 0)), (1, .int x1), (2, .int x2), (5, .int x5), (6, .ref (eB E + oArt i6))]) hC dX6_isContradicted_72 rfl (by decide) rfl ?_
  refine G_lv (lv' := [(0, .ref (eB E + 0)), (1, .int x1), (2, .int x2), (3, .int (1 : Int32)), (4, .int (σ 3 i6 x1.toNatClampNeg)), (5, .int x5)]) [2, 3, 4, 1, 0, 5] rfl ?_
  exact t_X6_isContradicted_b74 hC hk8  hf

def f_X6_isContradicted_b8_B (fu : Nat) (k8 : gSt → Int32 → Int32 → Int32 → Int32 → Int32 → Option (Int32 × gSt)) (σ : gSt) (x1 : Int32) (x2 : Int32) (x3 : Int32) (x4 : Int32) (x5 : Int32) : Option (Int32 × gSt) :=
  if (σ 156 0 0) ≤ x5 then (some ((0 : Int32), σ)) else (gd (inb x5 24) (bd (f_X0_isReadIn fu σ (x5.toNatClampNeg) x2) (fun v2 σ2 => if v2 = 0 then (f_X6_isContradicted_b74 fu k8 σ2 x1 x2 x3 x4 x5) else (gd (inb x1 8) (if (σ2 2 (x5.toNatClampNeg) x1.toNatClampNeg) = 0 then (f_X6_isContradicted_b74 fu k8 σ2 x1 x2 x3 x4 x5) else (if x3 = 0 then (f_X6_isContradicted_b63 fu k8 σ2 x1 x2 x5 (x5.toNatClampNeg)) else (gd (inb x1 8) (if (σ2 3 (x5.toNatClampNeg) x1.toNatClampNeg) = x4 then (f_X6_isContradicted_b63 fu k8 σ2 x1 x2 x5 (x5.toNatClampNeg)) else (some ((1 : Int32), σ2))))))))))
def f_X6_isContradicted_b8 (fu : Nat)  : Nat → gSt → Int32 → Int32 → Int32 → Int32 → Int32 → Option (Int32 × gSt)
  | 0 => fun _ _ _ _ _ _ => none
  | n + 1 => f_X6_isContradicted_b8_B fu  (f_X6_isContradicted_b8 fu  n)
set_option maxRecDepth 100000 in
theorem t_X6_isContradicted_b8_B {fu : Nat} {k8 : gSt → Int32 → Int32 → Int32 → Int32 → Int32 → Option (Int32 × gSt)} {r : Int32 × gSt} (hC : gCx p s m args meth c cX6_isContradicted 7 RX6 (some .boolean) E) (hk8 : ∀ (σ : gSt) (x1 : Int32) (x2 : Int32) (x3 : Int32) (x4 : Int32) (x5 : Int32), k8 σ x1 x2 x3 x4 x5 = some r → G p l e rm_X6_isContradicted s m args below meth c 7 0 0 (MQ below (gQ E w 1 r) args s 0 0 (fun q => eB E ≤ q)) E w σ 8 [(0, .ref (eB E + 0)), (1, .int x1), (2, .int x2), (3, .int x3), (4, .int x4), (5, .int x5)] []) {σ : gSt} {x1 : Int32} {x2 : Int32} {x3 : Int32} {x4 : Int32} {x5 : Int32}  (hf : f_X6_isContradicted_b8_B fu k8 σ x1 x2 x3 x4 x5 = some r) : G p l e rm_X6_isContradicted s m args below meth c 7 0 0 (MQ below (gQ E w 1 r) args s 0 0 (fun q => eB E ≤ q)) E w σ 8 [(0, .ref (eB E + 0)), (1, .int x1), (2, .int x2), (3, .int x3), (4, .int x4), (5, .int x5)] [] := by
  unfold f_X6_isContradicted_b8_B at hf
  refine G_iload (q := 10) hC dX6_isContradicted_8 rfl rfl ?_
  refine G_aload_n (q := 11) hC dX6_isContradicted_10 rfl rfl ?_
  refine gf_RX6_89 (q := 14) hC dX6_isContradicted_11 rfl ?_
  refine G_icmp_ge (tgt := 80) (q := 17) hC dX6_isContradicted_14 (by decide) rfl (fun c0 => ?_) (fun c0 => ?_)
  · have hf := (if_pos c0).symm.trans hf
    refine G_iconst (q := 81) hC dX6_isContradicted_80 rfl ic_0 ?_
    exact G_iret hC hf rfl rfl dX6_isContradicted_81
  · have hf := (if_neg c0).symm.trans hf
    refine G_aload_n (q := 18) hC dX6_isContradicted_17 rfl rfl ?_
    refine gf_RX6_18 (q := 21) hC dX6_isContradicted_18 rfl ?_
    refine G_iload (q := 23) hC dX6_isContradicted_21 rfl rfl ?_
    obtain ⟨g1, hf⟩ := gd_ok hf
    refine G_aldArt (q := 24) hC dX6_isContradicted_23 rfl g1 ?_
    refine G_astore (q := 26) (lv' := [(6, .ref (eB E + oArt (x5.toNatClampNeg))), (0, .ref (eB E + 0)), (1, .int x1), (2, .int x2), (3, .int x3), (4, .int x4), (5, .int x5)]) hC dX6_isContradicted_24 rfl (by decide) rfl ?_
    refine G_aload (q := 28) hC dX6_isContradicted_26 rfl rfl ?_
    refine G_iload_n (q := 29) hC dX6_isContradicted_28 rfl rfl ?_
    obtain ⟨v2, σ2, hm2, hf⟩ := bd_ok hf
    refine cl_RX6_279 (q := 32) hC dX6_isContradicted_29 rfl (m_X0_isReadIn (inb_lt g1) hm2) (inb_lt g1) ⟨Nat.le_of_ble_eq_true rfl, Nat.le_of_ble_eq_true rfl⟩ (Nat.le_of_ble_eq_true rfl) ⟨Nat.le_of_ble_eq_true rfl, Nat.le_of_ble_eq_true rfl⟩ ?_
    refine G_if_eq (tgt := 74) (q := 35) hC dX6_isContradicted_32 (by decide) rfl (fun c2 => ?_) (fun c2 => ?_)
    · have hf := (if_pos c2).symm.trans hf
      refine G_lv (lv' := [(0, .ref (eB E + 0)), (1, .int x1), (2, .int x2), (3, .int x3), (4, .int x4), (5, .int x5)]) [1, 2, 3, 4, 5, 6] rfl ?_
      exact t_X6_isContradicted_b74 hC hk8  hf
    · have hf := (if_neg c2).symm.trans hf
      refine G_aload (q := 37) hC dX6_isContradicted_35 rfl rfl ?_
      refine gf_RX6_139 (q := 40) hC dX6_isContradicted_37 rfl (inb_lt g1) ?_
      refine G_iload_n (q := 41) hC dX6_isContradicted_40 rfl rfl ?_
      obtain ⟨g2, hf⟩ := gd_ok hf
      refine G_zald (q := 42) hC dX6_isContradicted_41 rfl (ok_2 (inb_lt g1) g2) ?_
      refine G_if_eq (tgt := 74) (q := 45) hC dX6_isContradicted_42 (by decide) rfl (fun c3 => ?_) (fun c3 => ?_)
      · have hf := (if_pos c3).symm.trans hf
        refine G_lv (lv' := [(0, .ref (eB E + 0)), (1, .int x1), (2, .int x2), (3, .int x3), (4, .int x4), (5, .int x5)]) [1, 2, 3, 4, 5, 6] rfl ?_
        exact t_X6_isContradicted_b74 hC hk8  hf
      · have hf := (if_neg c3).symm.trans hf
        refine G_iload_n (q := 46) hC dX6_isContradicted_45 rfl rfl ?_
        refine G_if_eq (tgt := 63) (q := 49) hC dX6_isContradicted_46 (by decide) rfl (fun c4 => ?_) (fun c4 => ?_)
        · have hf := (if_pos c4).symm.trans hf
          refine G_lv (lv' := [(0, .ref (eB E + 0)), (1, .int x1), (2, .int x2), (5, .int x5), (6, .ref (eB E + oArt (x5.toNatClampNeg)))]) [1, 2, 3, 6, 0] rfl ?_
          exact t_X6_isContradicted_b63 hC hk8 (inb_lt g1) hf
        · have hf := (if_neg c4).symm.trans hf
          refine G_aload (q := 51) hC dX6_isContradicted_49 rfl rfl ?_
          refine gf_RX6_377 (q := 54) hC dX6_isContradicted_51 rfl (inb_lt g1) ?_
          refine G_iload_n (q := 55) hC dX6_isContradicted_54 rfl rfl ?_
          obtain ⟨g3, hf⟩ := gd_ok hf
          refine G_iald (q := 56) hC dX6_isContradicted_55 rfl (ok_3 (inb_lt g1) g3) ?_
          refine G_iload (q := 58) hC dX6_isContradicted_56 rfl rfl ?_
          refine G_icmp_eq (tgt := 63) (q := 61) hC dX6_isContradicted_58 (by decide) rfl (fun c5 => ?_) (fun c5 => ?_)
          · have hf := (if_pos c5).symm.trans hf
            refine G_lv (lv' := [(0, .ref (eB E + 0)), (1, .int x1), (2, .int x2), (5, .int x5), (6, .ref (eB E + oArt (x5.toNatClampNeg)))]) [1, 2, 3, 6, 0] rfl ?_
            exact t_X6_isContradicted_b63 hC hk8 (inb_lt g1) hf
          · have hf := (if_neg c5).symm.trans hf
            refine G_iconst (q := 62) hC dX6_isContradicted_61 rfl ic_1 ?_
            exact G_iret hC hf rfl rfl dX6_isContradicted_62

theorem t_X6_isContradicted_b8 {fu : Nat}  {r : Int32 × gSt} (hC : gCx p s m args meth c cX6_isContradicted 7 RX6 (some .boolean) E)  (n : Nat) : ∀ (σ : gSt) (x1 : Int32) (x2 : Int32) (x3 : Int32) (x4 : Int32) (x5 : Int32), f_X6_isContradicted_b8 fu  n σ x1 x2 x3 x4 x5 = some r → G p l e rm_X6_isContradicted s m args below meth c 7 0 0 (MQ below (gQ E w 1 r) args s 0 0 (fun q => eB E ≤ q)) E w σ 8 [(0, .ref (eB E + 0)), (1, .int x1), (2, .int x2), (3, .int x3), (4, .int x4), (5, .int x5)] [] := by
  induction n with
  | zero => intro σ x1 x2 x3 x4 x5  hf; cases hf
  | succ n ih => intro σ x1 x2 x3 x4 x5  hf; exact t_X6_isContradicted_b8_B hC  ih  hf
def f_X6_isContradicted (fu : Nat)  (σ : gSt) (x1 : Int32) (x2 : Int32) : Option (Int32 × gSt) :=
  f_X6_isContradicted_b8 fu  fu σ x1 x2 (0 : Int32) (0 : Int32) (0 : Int32)
set_option maxRecDepth 100000 in
theorem t_X6_isContradicted {fu : Nat}  {r : Int32 × gSt} (hC : gCx p s m args meth c cX6_isContradicted 7 RX6 (some .boolean) E)  {σ : gSt} {x1 : Int32} {x2 : Int32}  (hf : f_X6_isContradicted fu  σ x1 x2 = some r) : G p l e rm_X6_isContradicted s m args below meth c 7 0 0 (MQ below (gQ E w 1 r) args s 0 0 (fun q => eB E ≤ q)) E w σ 0 [(0, .ref (eB E + 0)), (1, .int x1), (2, .int x2)] [] := by
  unfold f_X6_isContradicted at hf
  refine G_iconst (q := 1) hC dX6_isContradicted_0 rfl ic_0 ?_
  refine G_istore_n (q := 2) (lv' := [(3, .int (0 : Int32)), (0, .ref (eB E + 0)), (1, .int x1), (2, .int x2)]) hC dX6_isContradicted_1 rfl (by decide) rfl ?_
  refine G_iconst (q := 3) hC dX6_isContradicted_2 rfl ic_0 ?_
  refine G_istore (q := 5) (lv' := [(4, .int (0 : Int32)), (3, .int (0 : Int32)), (0, .ref (eB E + 0)), (1, .int x1), (2, .int x2)]) hC dX6_isContradicted_3 rfl (by decide) rfl ?_
  refine G_iconst (q := 6) hC dX6_isContradicted_5 rfl ic_0 ?_
  refine G_istore (q := 8) (lv' := [(5, .int (0 : Int32)), (4, .int (0 : Int32)), (3, .int (0 : Int32)), (0, .ref (eB E + 0)), (1, .int x1), (2, .int x2)]) hC dX6_isContradicted_6 rfl (by decide) rfl ?_
  refine G_lv (lv' := [(0, .ref (eB E + 0)), (1, .int x1), (2, .int x2), (3, .int (0 : Int32)), (4, .int (0 : Int32)), (5, .int (0 : Int32))]) [3, 4, 5, 2, 1, 0] rfl ?_
  exact t_X6_isContradicted_b8 hC  fu _ _ _ _ _ _  hf

theorem m_X6_isContradicted {l : Launch} {fu : Nat} {E : gE} {w : Nat → Int64} {σ : gSt} {x1 : Int32} {x2 : Int32} {r : Int32 × gSt}  (hf : f_X6_isContradicted fu σ x1 x2 = some r) : gM l yX6_isContradicted cX6_isContradicted 7 (some .boolean) rm_X6_isContradicted 1 E w σ [.ref (eB E + 0), .int x1, .int x2] r :=
  gM_of (by decide +kernel) (Nat.le_of_ble_eq_true rfl) (fun p e s m args below meth c hC => t_X6_isContradicted hC  hf)
def f_X6_contradictions_b22 (fu : Nat) (k4 : gSt → Int32 → Int32 → Int32 → Option (Int32 × gSt)) (σ : gSt) (x1 : Int32) (x2 : Int32) (x3 : Int32) : Option (Int32 × gSt) :=
  k4 σ x1 x2 (x3 + (1))
set_option maxRecDepth 100000 in
theorem t_X6_contradictions_b22 {fu : Nat} {k4 : gSt → Int32 → Int32 → Int32 → Option (Int32 × gSt)} {r : Int32 × gSt} (hC : gCx p s m args meth c cX6_contradictions 4 RX6 (some .int) E) (hk4 : ∀ (σ : gSt) (x1 : Int32) (x2 : Int32) (x3 : Int32), k4 σ x1 x2 x3 = some r → G p l e rm_X6_contradictions s m args below meth c 4 0 0 (MQ below (gQ E w 1 r) args s 0 0 (fun q => eB E ≤ q)) E w σ 4 [(0, .ref (eB E + 0)), (1, .int x1), (2, .int x2), (3, .int x3)] []) {σ : gSt} {x1 : Int32} {x2 : Int32} {x3 : Int32}  (hf : f_X6_contradictions_b22 fu k4 σ x1 x2 x3 = some r) : G p l e rm_X6_contradictions s m args below meth c 4 0 0 (MQ below (gQ E w 1 r) args s 0 0 (fun q => eB E ≤ q)) E w σ 22 [(0, .ref (eB E + 0)), (1, .int x1), (2, .int x2), (3, .int x3)] [] := by
  unfold f_X6_contradictions_b22 at hf
  refine G_iinc (q := 25) (n := 3) (lv' := [(3, .int (x3 + (1))), (0, .ref (eB E + 0)), (1, .int x1), (2, .int x2)]) hC dX6_contradictions_22 rfl rfl (ii_1 _) (by decide) rfl ?_
  refine G_goto (tgt := 4) hC dX6_contradictions_25 (by decide) ?_
  refine G_lv (lv' := [(0, .ref (eB E + 0)), (1, .int x1), (2, .int x2), (3, .int (x3 + (1)))]) [1, 2, 3, 0] rfl ?_
  exact hk4 _ _ _ _  hf

def f_X6_contradictions_b4_B (fu : Nat) (k4 : gSt → Int32 → Int32 → Int32 → Option (Int32 × gSt)) (σ : gSt) (x1 : Int32) (x2 : Int32) (x3 : Int32) : Option (Int32 × gSt) :=
  if (8 : Int32) ≤ x3 then (some (x2, σ)) else (bd (f_X6_isContradicted fu σ x3 x1) (fun v2 σ2 => if v2 = 0 then (f_X6_contradictions_b22 fu k4 σ2 x1 x2 x3) else (f_X6_contradictions_b22 fu k4 σ2 x1 (x2 + (1)) x3)))
def f_X6_contradictions_b4 (fu : Nat)  : Nat → gSt → Int32 → Int32 → Int32 → Option (Int32 × gSt)
  | 0 => fun _ _ _ _ => none
  | n + 1 => f_X6_contradictions_b4_B fu  (f_X6_contradictions_b4 fu  n)
set_option maxRecDepth 100000 in
theorem t_X6_contradictions_b4_B {fu : Nat} {k4 : gSt → Int32 → Int32 → Int32 → Option (Int32 × gSt)} {r : Int32 × gSt} (hC : gCx p s m args meth c cX6_contradictions 4 RX6 (some .int) E) (hk4 : ∀ (σ : gSt) (x1 : Int32) (x2 : Int32) (x3 : Int32), k4 σ x1 x2 x3 = some r → G p l e rm_X6_contradictions s m args below meth c 4 0 0 (MQ below (gQ E w 1 r) args s 0 0 (fun q => eB E ≤ q)) E w σ 4 [(0, .ref (eB E + 0)), (1, .int x1), (2, .int x2), (3, .int x3)] []) {σ : gSt} {x1 : Int32} {x2 : Int32} {x3 : Int32}  (hf : f_X6_contradictions_b4_B fu k4 σ x1 x2 x3 = some r) : G p l e rm_X6_contradictions s m args below meth c 4 0 0 (MQ below (gQ E w 1 r) args s 0 0 (fun q => eB E ≤ q)) E w σ 4 [(0, .ref (eB E + 0)), (1, .int x1), (2, .int x2), (3, .int x3)] [] := by
  unfold f_X6_contradictions_b4_B at hf
  refine G_iload_n (q := 5) hC dX6_contradictions_4 rfl rfl ?_
  refine G_bipush (q := 7) hC dX6_contradictions_5 rfl bp_8 ?_
  refine G_icmp_ge (tgt := 28) (q := 10) hC dX6_contradictions_7 (by decide) rfl (fun c0 => ?_) (fun c0 => ?_)
  · have hf := (if_pos c0).symm.trans hf
    refine G_iload_n (q := 29) hC dX6_contradictions_28 rfl rfl ?_
    exact G_iret hC hf rfl rfl dX6_contradictions_29
  · have hf := (if_neg c0).symm.trans hf
    refine G_aload_n (q := 11) hC dX6_contradictions_10 rfl rfl ?_
    refine G_iload_n (q := 12) hC dX6_contradictions_11 rfl rfl ?_
    refine G_iload_n (q := 13) hC dX6_contradictions_12 rfl rfl ?_
    obtain ⟨v2, σ2, hm2, hf⟩ := bd_ok hf
    refine cl_RX6_287 (q := 16) hC dX6_contradictions_13 rfl (m_X6_isContradicted hm2) ⟨Nat.le_of_ble_eq_true rfl, Nat.le_of_ble_eq_true rfl⟩ (Nat.le_of_ble_eq_true rfl) ⟨Nat.le_of_ble_eq_true rfl, Nat.le_of_ble_eq_true rfl⟩ ?_
    refine G_if_eq (tgt := 22) (q := 19) hC dX6_contradictions_16 (by decide) rfl (fun c2 => ?_) (fun c2 => ?_)
    · have hf := (if_pos c2).symm.trans hf
      exact t_X6_contradictions_b22 hC hk4  hf
    · have hf := (if_neg c2).symm.trans hf
      refine G_iinc (q := 22) (n := 2) (lv' := [(2, .int (x2 + (1))), (0, .ref (eB E + 0)), (1, .int x1), (3, .int x3)]) hC dX6_contradictions_19 rfl rfl (ii_1 _) (by decide) rfl ?_
      refine G_lv (lv' := [(0, .ref (eB E + 0)), (1, .int x1), (2, .int (x2 + (1))), (3, .int x3)]) [1, 2, 0, 3] rfl ?_
      exact t_X6_contradictions_b22 hC hk4  hf

theorem t_X6_contradictions_b4 {fu : Nat}  {r : Int32 × gSt} (hC : gCx p s m args meth c cX6_contradictions 4 RX6 (some .int) E)  (n : Nat) : ∀ (σ : gSt) (x1 : Int32) (x2 : Int32) (x3 : Int32), f_X6_contradictions_b4 fu  n σ x1 x2 x3 = some r → G p l e rm_X6_contradictions s m args below meth c 4 0 0 (MQ below (gQ E w 1 r) args s 0 0 (fun q => eB E ≤ q)) E w σ 4 [(0, .ref (eB E + 0)), (1, .int x1), (2, .int x2), (3, .int x3)] [] := by
  induction n with
  | zero => intro σ x1 x2 x3  hf; cases hf
  | succ n ih => intro σ x1 x2 x3  hf; exact t_X6_contradictions_b4_B hC  ih  hf
def f_X6_contradictions (fu : Nat)  (σ : gSt) (x1 : Int32) : Option (Int32 × gSt) :=
  f_X6_contradictions_b4 fu  fu σ x1 (0 : Int32) (0 : Int32)
set_option maxRecDepth 100000 in
theorem t_X6_contradictions {fu : Nat}  {r : Int32 × gSt} (hC : gCx p s m args meth c cX6_contradictions 4 RX6 (some .int) E)  {σ : gSt} {x1 : Int32}  (hf : f_X6_contradictions fu  σ x1 = some r) : G p l e rm_X6_contradictions s m args below meth c 4 0 0 (MQ below (gQ E w 1 r) args s 0 0 (fun q => eB E ≤ q)) E w σ 0 [(0, .ref (eB E + 0)), (1, .int x1)] [] := by
  unfold f_X6_contradictions at hf
  refine G_iconst (q := 1) hC dX6_contradictions_0 rfl ic_0 ?_
  refine G_istore_n (q := 2) (lv' := [(2, .int (0 : Int32)), (0, .ref (eB E + 0)), (1, .int x1)]) hC dX6_contradictions_1 rfl (by decide) rfl ?_
  refine G_iconst (q := 3) hC dX6_contradictions_2 rfl ic_0 ?_
  refine G_istore_n (q := 4) (lv' := [(3, .int (0 : Int32)), (2, .int (0 : Int32)), (0, .ref (eB E + 0)), (1, .int x1)]) hC dX6_contradictions_3 rfl (by decide) rfl ?_
  refine G_lv (lv' := [(0, .ref (eB E + 0)), (1, .int x1), (2, .int (0 : Int32)), (3, .int (0 : Int32))]) [2, 3, 1, 0] rfl ?_
  exact t_X6_contradictions_b4 hC  fu _ _ _ _  hf

theorem m_X6_contradictions {l : Launch} {fu : Nat} {E : gE} {w : Nat → Int64} {σ : gSt} {x1 : Int32} {r : Int32 × gSt}  (hf : f_X6_contradictions fu σ x1 = some r) : gM l yX6_contradictions cX6_contradictions 4 (some .int) rm_X6_contradictions 1 E w σ [.ref (eB E + 0), .int x1] r :=
  gM_of (by decide +kernel) (Nat.le_of_ble_eq_true rfl) (fun p e s m args below meth c hC => t_X6_contradictions hC  hf)
def f_X6_readAnew (fu : Nat)  (σ : gSt) (x1 : Int32) : Option (Int32 × gSt) :=
  bd (f_X6_open fu σ x1) (fun v1 σ1 => bd (f_X6_contradictions fu σ1 x1) (fun v2 σ2 => some ((((100 : Int32) * v1) + v2), σ2)))
set_option maxRecDepth 100000 in
theorem t_X6_readAnew {fu : Nat}  {r : Int32 × gSt} (hC : gCx p s m args meth c cX6_readAnew 2 RX6 (some .int) E)  {σ : gSt} {x1 : Int32}  (hf : f_X6_readAnew fu  σ x1 = some r) : G p l e rm_X6_readAnew s m args below meth c 2 0 0 (MQ below (gQ E w 1 r) args s 0 0 (fun q => eB E ≤ q)) E w σ 0 [(0, .ref (eB E + 0)), (1, .int x1)] [] := by
  unfold f_X6_readAnew at hf
  refine G_bipush (q := 2) hC dX6_readAnew_0 rfl bp_100 ?_
  refine G_aload_n (q := 3) hC dX6_readAnew_2 rfl rfl ?_
  refine G_iload_n (q := 4) hC dX6_readAnew_3 rfl rfl ?_
  obtain ⟨v1, σ1, hm1, hf⟩ := bd_ok hf
  refine cl_RX6_291 (q := 7) hC dX6_readAnew_4 rfl (m_X6_open hm1) ⟨Nat.le_of_ble_eq_true rfl, Nat.le_of_ble_eq_true rfl⟩ (Nat.le_of_ble_eq_true rfl) ⟨Nat.le_of_ble_eq_true rfl, Nat.le_of_ble_eq_true rfl⟩ ?_
  refine G_imul (q := 8) hC dX6_readAnew_7 rfl ?_
  refine G_aload_n (q := 9) hC dX6_readAnew_8 rfl rfl ?_
  refine G_iload_n (q := 10) hC dX6_readAnew_9 rfl rfl ?_
  obtain ⟨v2, σ2, hm2, hf⟩ := bd_ok hf
  refine cl_RX6_295 (q := 13) hC dX6_readAnew_10 rfl (m_X6_contradictions hm2) ⟨Nat.le_of_ble_eq_true rfl, Nat.le_of_ble_eq_true rfl⟩ (Nat.le_of_ble_eq_true rfl) ⟨Nat.le_of_ble_eq_true rfl, Nat.le_of_ble_eq_true rfl⟩ ?_
  refine G_iadd (q := 14) hC dX6_readAnew_13 rfl ?_
  exact G_iret hC hf rfl rfl dX6_readAnew_14

theorem m_X6_readAnew {l : Launch} {fu : Nat} {E : gE} {w : Nat → Int64} {σ : gSt} {x1 : Int32} {r : Int32 × gSt}  (hf : f_X6_readAnew fu σ x1 = some r) : gM l yX6_readAnew cX6_readAnew 2 (some .int) rm_X6_readAnew 1 E w σ [.ref (eB E + 0), .int x1] r :=
  gM_of (by decide +kernel) (Nat.le_of_ble_eq_true rfl) (fun p e s m args below meth c hC => t_X6_readAnew hC  hf)
def f_X6_isWithin_b37 (fu : Nat)  (σ : gSt)  : Option (Int32 × gSt) :=
  some ((0 : Int32), σ)
set_option maxRecDepth 100000 in
theorem t_X6_isWithin_b37 {fu : Nat}  {r : Int32 × gSt} (hC : gCx p s m args meth c cX6_isWithin 5 RX6 (some .boolean) E)  {σ : gSt}   (hf : f_X6_isWithin_b37 fu  σ  = some r) : G p l e rm_X6_isWithin s m args below meth c 5 0 0 (MQ below (gQ E w 1 r) args s 0 0 (fun q => eB E ≤ q)) E w σ 37 [] [] := by
  unfold f_X6_isWithin_b37 at hf
  refine G_iconst (q := 38) hC dX6_isWithin_37 rfl ic_0 ?_
  exact G_iret hC hf rfl rfl dX6_isWithin_38

def f_X6_isWithin_b5_B (fu : Nat) (k5 : gSt → Int32 → Int32 → Int32 → Option (Int32 × gSt)) (σ : gSt) (x2 : Int32) (x3 : Int32) (x4 : Int32) : Option (Int32 × gSt) :=
  if (10 : Int32) ≤ x4 then (f_X6_isWithin_b37 fu  σ) else (if x3 = (-1 : Int32) then (f_X6_isWithin_b37 fu  σ) else (if x3 = x2 then (some ((1 : Int32), σ)) else (gd (inb x3 10) (k5 σ x2 (σ 154 0 x3.toNatClampNeg) (x4 + (1))))))
def f_X6_isWithin_b5 (fu : Nat)  : Nat → gSt → Int32 → Int32 → Int32 → Option (Int32 × gSt)
  | 0 => fun _ _ _ _ => none
  | n + 1 => f_X6_isWithin_b5_B fu  (f_X6_isWithin_b5 fu  n)
set_option maxRecDepth 100000 in
theorem t_X6_isWithin_b5_B {fu : Nat} {k5 : gSt → Int32 → Int32 → Int32 → Option (Int32 × gSt)} {r : Int32 × gSt} (hC : gCx p s m args meth c cX6_isWithin 5 RX6 (some .boolean) E) (hk5 : ∀ (σ : gSt) (x2 : Int32) (x3 : Int32) (x4 : Int32), k5 σ x2 x3 x4 = some r → G p l e rm_X6_isWithin s m args below meth c 5 0 0 (MQ below (gQ E w 1 r) args s 0 0 (fun q => eB E ≤ q)) E w σ 5 [(0, .ref (eB E + 0)), (2, .int x2), (3, .int x3), (4, .int x4)] []) {σ : gSt} {x2 : Int32} {x3 : Int32} {x4 : Int32}  (hf : f_X6_isWithin_b5_B fu k5 σ x2 x3 x4 = some r) : G p l e rm_X6_isWithin s m args below meth c 5 0 0 (MQ below (gQ E w 1 r) args s 0 0 (fun q => eB E ≤ q)) E w σ 5 [(0, .ref (eB E + 0)), (2, .int x2), (3, .int x3), (4, .int x4)] [] := by
  unfold f_X6_isWithin_b5_B at hf
  refine G_iload (q := 7) hC dX6_isWithin_5 rfl rfl ?_
  refine G_bipush (q := 9) hC dX6_isWithin_7 rfl bp_10 ?_
  refine G_icmp_ge (tgt := 37) (q := 12) hC dX6_isWithin_9 (by decide) rfl (fun c0 => ?_) (fun c0 => ?_)
  · have hf := (if_pos c0).symm.trans hf
    refine G_lv (lv' := []) [] rfl ?_
    exact t_X6_isWithin_b37 hC   hf
  · have hf := (if_neg c0).symm.trans hf
    refine G_iload_n (q := 13) hC dX6_isWithin_12 rfl rfl ?_
    refine G_iconst (q := 14) hC dX6_isWithin_13 rfl ic_m1 ?_
    refine G_icmp_eq (tgt := 37) (q := 17) hC dX6_isWithin_14 (by decide) rfl (fun c1 => ?_) (fun c1 => ?_)
    · have hf := (if_pos c1).symm.trans hf
      refine G_lv (lv' := []) [] rfl ?_
      exact t_X6_isWithin_b37 hC   hf
    · have hf := (if_neg c1).symm.trans hf
      refine G_iload_n (q := 18) hC dX6_isWithin_17 rfl rfl ?_
      refine G_iload_n (q := 19) hC dX6_isWithin_18 rfl rfl ?_
      refine G_icmp_ne (tgt := 24) (q := 22) hC dX6_isWithin_19 (by decide) rfl (fun c2 => ?_) (fun c2 => ?_)
      · have hf := (if_neg c2).symm.trans hf
        refine G_aload_n (q := 25) hC dX6_isWithin_24 rfl rfl ?_
        refine gf_RX6_34 (q := 28) hC dX6_isWithin_25 rfl ?_
        refine G_iload_n (q := 29) hC dX6_isWithin_28 rfl rfl ?_
        obtain ⟨g1, hf⟩ := gd_ok hf
        refine G_iald (q := 30) hC dX6_isWithin_29 rfl (ok_154 g1) ?_
        refine G_istore_n (q := 31) (lv' := [(3, .int (σ 154 0 x3.toNatClampNeg)), (0, .ref (eB E + 0)), (2, .int x2), (4, .int x4)]) hC dX6_isWithin_30 rfl (by decide) rfl ?_
        refine G_iinc (q := 34) (n := 3) (lv' := [(4, .int (x4 + (1))), (3, .int (σ 154 0 x3.toNatClampNeg)), (0, .ref (eB E + 0)), (2, .int x2)]) hC dX6_isWithin_31 rfl rfl (ii_1 _) (by decide) rfl ?_
        refine G_goto (tgt := 5) hC dX6_isWithin_34 (by decide) ?_
        refine G_lv (lv' := [(0, .ref (eB E + 0)), (2, .int x2), (3, .int (σ 154 0 x3.toNatClampNeg)), (4, .int (x4 + (1)))]) [2, 3, 1, 0] rfl ?_
        exact hk5 _ _ _ _  hf
      · have hf := (if_pos c2).symm.trans hf
        refine G_iconst (q := 23) hC dX6_isWithin_22 rfl ic_1 ?_
        exact G_iret hC hf rfl rfl dX6_isWithin_23

theorem t_X6_isWithin_b5 {fu : Nat}  {r : Int32 × gSt} (hC : gCx p s m args meth c cX6_isWithin 5 RX6 (some .boolean) E)  (n : Nat) : ∀ (σ : gSt) (x2 : Int32) (x3 : Int32) (x4 : Int32), f_X6_isWithin_b5 fu  n σ x2 x3 x4 = some r → G p l e rm_X6_isWithin s m args below meth c 5 0 0 (MQ below (gQ E w 1 r) args s 0 0 (fun q => eB E ≤ q)) E w σ 5 [(0, .ref (eB E + 0)), (2, .int x2), (3, .int x3), (4, .int x4)] [] := by
  induction n with
  | zero => intro σ x2 x3 x4  hf; cases hf
  | succ n ih => intro σ x2 x3 x4  hf; exact t_X6_isWithin_b5_B hC  ih  hf
def f_X6_isWithin (fu : Nat)  (σ : gSt) (x1 : Int32) (x2 : Int32) : Option (Int32 × gSt) :=
  f_X6_isWithin_b5 fu  fu σ x2 x1 (0 : Int32)
set_option maxRecDepth 100000 in
theorem t_X6_isWithin {fu : Nat}  {r : Int32 × gSt} (hC : gCx p s m args meth c cX6_isWithin 5 RX6 (some .boolean) E)  {σ : gSt} {x1 : Int32} {x2 : Int32}  (hf : f_X6_isWithin fu  σ x1 x2 = some r) : G p l e rm_X6_isWithin s m args below meth c 5 0 0 (MQ below (gQ E w 1 r) args s 0 0 (fun q => eB E ≤ q)) E w σ 0 [(0, .ref (eB E + 0)), (1, .int x1), (2, .int x2)] [] := by
  unfold f_X6_isWithin at hf
  refine G_iload_n (q := 1) hC dX6_isWithin_0 rfl rfl ?_
  refine G_istore_n (q := 2) (lv' := [(3, .int x1), (0, .ref (eB E + 0)), (1, .int x1), (2, .int x2)]) hC dX6_isWithin_1 rfl (by decide) rfl ?_
  refine G_iconst (q := 3) hC dX6_isWithin_2 rfl ic_0 ?_
  refine G_istore (q := 5) (lv' := [(4, .int (0 : Int32)), (3, .int x1), (0, .ref (eB E + 0)), (1, .int x1), (2, .int x2)]) hC dX6_isWithin_3 rfl (by decide) rfl ?_
  refine G_lv (lv' := [(0, .ref (eB E + 0)), (2, .int x2), (3, .int x1), (4, .int (0 : Int32))]) [2, 4, 1, 0] rfl ?_
  exact t_X6_isWithin_b5 hC  fu _ _ _ _  hf

theorem m_X6_isWithin {l : Launch} {fu : Nat} {E : gE} {w : Nat → Int64} {σ : gSt} {x1 : Int32} {x2 : Int32} {r : Int32 × gSt}  (hf : f_X6_isWithin fu σ x1 x2 = some r) : gM l yX6_isWithin cX6_isWithin 5 (some .boolean) rm_X6_isWithin 1 E w σ [.ref (eB E + 0), .int x1, .int x2] r :=
  gM_of (by decide +kernel) (Nat.le_of_ble_eq_true rfl) (fun p e s m args below meth c hC => t_X6_isWithin hC  hf)
def f_X6_synopsis_b48 (fu : Nat) (k8 : gSt → Int32 → Int32 → Int32 → Option (Nat × Int32 × gSt)) (σ : gSt) (x1 : Int32) (x2 : Int32) (x3 : Int32) : Option (Nat × Int32 × gSt) :=
  k8 σ x1 x2 (x3 + (1))
set_option maxRecDepth 100000 in
theorem t_X6_synopsis_b48 {fu : Nat} {k8 : gSt → Int32 → Int32 → Int32 → Option (Nat × Int32 × gSt)} {r : Nat × Int32 × gSt} (hC : gCx p s m args meth c cX6_synopsis 4 RX6 (some .int) E) (hX : ∀ x ∈ c.exceptionTable.toList, False) (hflag : l.stackTraces = false) (hk8 : ∀ (σ : gSt) (x1 : Int32) (x2 : Int32) (x3 : Int32), k8 σ x1 x2 x3 = some r → G p l e rm_X6_synopsis s m args below meth c 4 1 6 (vx_MQ below (gQX E w 1 r) (gXC E w r) args s rm_X6_synopsis.cells rm_X6_synopsis.slots (fun q => eB E ≤ q)) E w σ 8 [(0, .ref (eB E + 0)), (1, .int x1), (2, .int x2), (3, .int x3)] []) {σ : gSt} {x1 : Int32} {x2 : Int32} {x3 : Int32}  (hf : f_X6_synopsis_b48 fu k8 σ x1 x2 x3 = some r) : G p l e rm_X6_synopsis s m args below meth c 4 1 6 (vx_MQ below (gQX E w 1 r) (gXC E w r) args s rm_X6_synopsis.cells rm_X6_synopsis.slots (fun q => eB E ≤ q)) E w σ 48 [(0, .ref (eB E + 0)), (1, .int x1), (2, .int x2), (3, .int x3)] [] := by
  unfold f_X6_synopsis_b48 at hf
  refine G_iinc (q := 51) (n := 3) (lv' := [(3, .int (x3 + (1))), (0, .ref (eB E + 0)), (1, .int x1), (2, .int x2)]) hC dX6_synopsis_48 rfl rfl (ii_1 _) (by decide) rfl ?_
  refine G_goto (tgt := 8) hC dX6_synopsis_51 (by decide) ?_
  refine G_lv (lv' := [(0, .ref (eB E + 0)), (1, .int x1), (2, .int x2), (3, .int (x3 + (1)))]) [1, 2, 3, 0] rfl ?_
  exact hk8 _ _ _ _  hf

def f_X6_synopsis_b8_B (fu : Nat) (k8 : gSt → Int32 → Int32 → Int32 → Option (Nat × Int32 × gSt)) (σ : gSt) (x1 : Int32) (x2 : Int32) (x3 : Int32) : Option (Nat × Int32 × gSt) :=
  if (σ 156 0 0) ≤ x3 then (some (0, x2, σ)) else (gd (inb x3 24) (if (σ 11 (x3.toNatClampNeg) 0) = 0 then (f_X6_synopsis_b48 fu k8 σ x1 x2 x3) else (gd (inb x3 24) (bd (f_X6_isWithin fu σ (σ 5 (x3.toNatClampNeg) 0) x1) (fun v3 σ3 => if v3 = 0 then (f_X6_synopsis_b48 fu k8 σ3 x1 x2 x3) else (f_X6_synopsis_b48 fu k8 σ3 x1 (x2 + (1)) x3))))))
def f_X6_synopsis_b8 (fu : Nat)  : Nat → gSt → Int32 → Int32 → Int32 → Option (Nat × Int32 × gSt)
  | 0 => fun _ _ _ _ => none
  | n + 1 => f_X6_synopsis_b8_B fu  (f_X6_synopsis_b8 fu  n)
set_option maxRecDepth 100000 in
theorem t_X6_synopsis_b8_B {fu : Nat} {k8 : gSt → Int32 → Int32 → Int32 → Option (Nat × Int32 × gSt)} {r : Nat × Int32 × gSt} (hC : gCx p s m args meth c cX6_synopsis 4 RX6 (some .int) E) (hX : ∀ x ∈ c.exceptionTable.toList, False) (hflag : l.stackTraces = false) (hk8 : ∀ (σ : gSt) (x1 : Int32) (x2 : Int32) (x3 : Int32), k8 σ x1 x2 x3 = some r → G p l e rm_X6_synopsis s m args below meth c 4 1 6 (vx_MQ below (gQX E w 1 r) (gXC E w r) args s rm_X6_synopsis.cells rm_X6_synopsis.slots (fun q => eB E ≤ q)) E w σ 8 [(0, .ref (eB E + 0)), (1, .int x1), (2, .int x2), (3, .int x3)] []) {σ : gSt} {x1 : Int32} {x2 : Int32} {x3 : Int32}  (hf : f_X6_synopsis_b8_B fu k8 σ x1 x2 x3 = some r) : G p l e rm_X6_synopsis s m args below meth c 4 1 6 (vx_MQ below (gQX E w 1 r) (gXC E w r) args s rm_X6_synopsis.cells rm_X6_synopsis.slots (fun q => eB E ≤ q)) E w σ 8 [(0, .ref (eB E + 0)), (1, .int x1), (2, .int x2), (3, .int x3)] [] := by
  unfold f_X6_synopsis_b8_B at hf
  refine G_iload_n (q := 9) hC dX6_synopsis_8 rfl rfl ?_
  refine G_aload_n (q := 10) hC dX6_synopsis_9 rfl rfl ?_
  refine gf_RX6_89 (q := 13) hC dX6_synopsis_10 rfl ?_
  refine G_icmp_ge (tgt := 54) (q := 16) hC dX6_synopsis_13 (by decide) rfl (fun c0 => ?_) (fun c0 => ?_)
  · have hf := (if_pos c0).symm.trans hf
    refine G_iload_n (q := 55) hC dX6_synopsis_54 rfl rfl ?_
    exact G_iretX hC hf rfl rfl (Nat.le_of_ble_eq_true rfl) (Nat.le_of_ble_eq_true rfl) dX6_synopsis_55
  · have hf := (if_neg c0).symm.trans hf
    refine G_aload_n (q := 17) hC dX6_synopsis_16 rfl rfl ?_
    refine gf_RX6_18 (q := 20) hC dX6_synopsis_17 rfl ?_
    refine G_iload_n (q := 21) hC dX6_synopsis_20 rfl rfl ?_
    obtain ⟨g1, hf⟩ := gd_ok hf
    refine G_aldArt (q := 22) hC dX6_synopsis_21 rfl g1 ?_
    refine gf_RX6_116 (q := 25) hC dX6_synopsis_22 rfl (inb_lt g1) ?_
    refine G_if_eq (tgt := 48) (q := 28) hC dX6_synopsis_25 (by decide) rfl (fun c1 => ?_) (fun c1 => ?_)
    · have hf := (if_pos c1).symm.trans hf
      exact t_X6_synopsis_b48 hC hX hflag hk8  hf
    · have hf := (if_neg c1).symm.trans hf
      refine G_aload_n (q := 29) hC dX6_synopsis_28 rfl rfl ?_
      refine G_aload_n (q := 30) hC dX6_synopsis_29 rfl rfl ?_
      refine gf_RX6_18 (q := 33) hC dX6_synopsis_30 rfl ?_
      refine G_iload_n (q := 34) hC dX6_synopsis_33 rfl rfl ?_
      obtain ⟨g2, hf⟩ := gd_ok hf
      refine G_aldArt (q := 35) hC dX6_synopsis_34 rfl g2 ?_
      refine gf_RX6_98 (q := 38) hC dX6_synopsis_35 rfl (inb_lt g2) ?_
      refine G_iload_n (q := 39) hC dX6_synopsis_38 rfl rfl ?_
      obtain ⟨v3, σ3, hm3, hf⟩ := bd_ok hf
      refine cl_RX6_298 (q := 42) hC dX6_synopsis_39 rfl (m_X6_isWithin hm3) ⟨Nat.le_of_ble_eq_true rfl, Nat.le_of_ble_eq_true rfl⟩ (Nat.le_of_ble_eq_true rfl) ⟨Nat.le_of_ble_eq_true rfl, Nat.le_of_ble_eq_true rfl⟩ ?_
      refine G_if_eq (tgt := 48) (q := 45) hC dX6_synopsis_42 (by decide) rfl (fun c3 => ?_) (fun c3 => ?_)
      · have hf := (if_pos c3).symm.trans hf
        exact t_X6_synopsis_b48 hC hX hflag hk8  hf
      · have hf := (if_neg c3).symm.trans hf
        refine G_iinc (q := 48) (n := 2) (lv' := [(2, .int (x2 + (1))), (0, .ref (eB E + 0)), (1, .int x1), (3, .int x3)]) hC dX6_synopsis_45 rfl rfl (ii_1 _) (by decide) rfl ?_
        refine G_lv (lv' := [(0, .ref (eB E + 0)), (1, .int x1), (2, .int (x2 + (1))), (3, .int x3)]) [1, 2, 0, 3] rfl ?_
        exact t_X6_synopsis_b48 hC hX hflag hk8  hf

theorem t_X6_synopsis_b8 {fu : Nat}  {r : Nat × Int32 × gSt} (hC : gCx p s m args meth c cX6_synopsis 4 RX6 (some .int) E) (hX : ∀ x ∈ c.exceptionTable.toList, False) (hflag : l.stackTraces = false)  (n : Nat) : ∀ (σ : gSt) (x1 : Int32) (x2 : Int32) (x3 : Int32), f_X6_synopsis_b8 fu  n σ x1 x2 x3 = some r → G p l e rm_X6_synopsis s m args below meth c 4 1 6 (vx_MQ below (gQX E w 1 r) (gXC E w r) args s rm_X6_synopsis.cells rm_X6_synopsis.slots (fun q => eB E ≤ q)) E w σ 8 [(0, .ref (eB E + 0)), (1, .int x1), (2, .int x2), (3, .int x3)] [] := by
  induction n with
  | zero => intro σ x1 x2 x3  hf; cases hf
  | succ n ih => intro σ x1 x2 x3  hf; exact t_X6_synopsis_b8_B hC hX hflag  ih  hf
def f_X6_synopsis (fu : Nat)  (σ : gSt) (x1 : Int32) : Option (Nat × Int32 × gSt) :=
  bx (f_X6_requireSubject fu σ x1) (fun _ σ1 => f_X6_synopsis_b8 fu  fu σ1 x1 (0 : Int32) (0 : Int32))
set_option maxRecDepth 100000 in
theorem t_X6_synopsis {fu : Nat}  {r : Nat × Int32 × gSt} (hC : gCx p s m args meth c cX6_synopsis 4 RX6 (some .int) E) (hX : ∀ x ∈ c.exceptionTable.toList, False) (hflag : l.stackTraces = false)  {σ : gSt} {x1 : Int32}  (hf : f_X6_synopsis fu  σ x1 = some r) : G p l e rm_X6_synopsis s m args below meth c 4 0 0 (vx_MQ below (gQX E w 1 r) (gXC E w r) args s rm_X6_synopsis.cells rm_X6_synopsis.slots (fun q => eB E ≤ q)) E w σ 0 [(0, .ref (eB E + 0)), (1, .int x1)] [] := by
  unfold f_X6_synopsis at hf
  refine G_iload_n (q := 1) hC dX6_synopsis_0 rfl rfl ?_
  obtain ⟨z1, hm1, hf, hx1⟩ := bx_ok hf
  refine cl_RX6_83 (q := 4) hC dX6_synopsis_1 rfl hX (m_X6_requireSubject hflag hm1) ⟨Nat.le_of_ble_eq_true rfl, Nat.le_of_ble_eq_true rfl⟩ (Nat.le_of_ble_eq_true rfl) ⟨Nat.le_of_ble_eq_true rfl, Nat.le_of_ble_eq_true rfl⟩ ⟨Nat.le_of_ble_eq_true rfl, Nat.le_of_ble_eq_true rfl⟩ hx1 (fun z0 => ?_)
  have hf := hf z0
  obtain ⟨v1, ev1⟩ : ∃ y, y = z1.2.1 := ⟨_, rfl⟩
  obtain ⟨σ1, eσ1⟩ : ∃ y, y = z1.2.2 := ⟨_, rfl⟩
  rw [← eσ1] at hf ⊢
  refine G_widen (k := 1) (n := 6) (Nat.le_of_ble_eq_true rfl) (Nat.le_of_ble_eq_true rfl) ?_
  refine G_iconst (q := 5) hC dX6_synopsis_4 rfl ic_0 ?_
  refine G_istore_n (q := 6) (lv' := [(2, .int (0 : Int32)), (0, .ref (eB E + 0)), (1, .int x1)]) hC dX6_synopsis_5 rfl (by decide) rfl ?_
  refine G_iconst (q := 7) hC dX6_synopsis_6 rfl ic_0 ?_
  refine G_istore_n (q := 8) (lv' := [(3, .int (0 : Int32)), (2, .int (0 : Int32)), (0, .ref (eB E + 0)), (1, .int x1)]) hC dX6_synopsis_7 rfl (by decide) rfl ?_
  refine G_lv (lv' := [(0, .ref (eB E + 0)), (1, .int x1), (2, .int (0 : Int32)), (3, .int (0 : Int32))]) [2, 3, 1, 0] rfl ?_
  exact t_X6_synopsis_b8 hC hX hflag  fu _ _ _ _  hf

theorem m_X6_synopsis {l : Launch} {fu : Nat} {E : gE} {w : Nat → Int64} {σ : gSt} {x1 : Int32} {r : Nat × Int32 × gSt} (hflag : l.stackTraces = false)  (hf : f_X6_synopsis fu σ x1 = some r) : gMX l yX6_synopsis cX6_synopsis 4 (some .int) rm_X6_synopsis 1 E w σ [.ref (eB E + 0), .int x1] r :=
  gMX_of (by decide +kernel) (Nat.le_of_ble_eq_true rfl) (fun p e s m args below meth c hC hX => t_X6_synopsis hC hX hflag  hf)
end WK

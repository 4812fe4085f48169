/-! by program (wip/whole/gen_walk.py): the methods as functions over the store, and their walks -/
section WK
variable {p : Program} {l : Launch} {e : Env} {s : State} {m : MethodId} {args : Array Value} {below : List Frame} {meth : Method} {c : Code} {E : gE} {w : Nat → Int64}
def f_X7_refer_b49 (fu : Nat)  (σ : gSt) (x1 : Int32) (xs1 : Int32) : Option (Int32 × gSt) :=
  bd (f_X7_goes fu σ xs1) (fun v1 σ1 => if v1 = 0 then (some ((0 : Int32), σ1)) else (gd (inb x1 24) (bd (f_X7_reference fu σ1 x1 (σ1 191 0 x1.toNatClampNeg)) (fun v3 σ3 => bd (f_X7_takes fu σ3 v3) (fun _ σ4 => gd (inb x1 24) (gd (inb x1 24) (gd (inb x1 24) (some (((gU σ4 191 0 x1.toNatClampNeg ((σ4 191 0 x1.toNatClampNeg) + (1 : Int32))) 191 0 x1.toNatClampNeg), (gU σ4 191 0 x1.toNatClampNeg ((σ4 191 0 x1.toNatClampNeg) + (1 : Int32))))))))))))
set_option maxRecDepth 100000 in
theorem t_X7_refer_b49 {fu : Nat}  {r : Int32 × gSt} (hC : gCx p s m args meth c cX7_refer 3 RX7 (some .int) E)  {σ : gSt} {x1 : Int32} {xs1 : Int32}  (hf : f_X7_refer_b49 fu  σ x1 xs1 = some r) : G p l e rm_X7_refer s m args below meth c 3 0 0 (MQ below (gQ E w 1 r) args s 0 0 (fun q => eB E ≤ q)) E w σ 49 [(0, .ref (eB E + 583)), (1, .int x1)] [.int xs1, .ref (eB E + 583)] := by
  unfold f_X7_refer_b49 at hf
  obtain ⟨v1, σ1, hm1, hf⟩ := bd_ok hf
  refine cl_RX7_103 (q := 52) hC dX7_refer_49 rfl (m_X7_goes hm1) ⟨Nat.le_of_ble_eq_true rfl, Nat.le_of_ble_eq_true rfl⟩ (Nat.le_of_ble_eq_true rfl) ⟨Nat.le_of_ble_eq_true rfl, Nat.le_of_ble_eq_true rfl⟩ ?_
  refine G_if_ne (tgt := 57) (q := 55) hC dX7_refer_52 (by decide) rfl (fun c1 => ?_) (fun c1 => ?_)
  · have hf := (if_neg c1).symm.trans hf
    refine G_aload_n (q := 58) hC dX7_refer_57 rfl rfl ?_
    refine G_iload_n (q := 59) hC dX7_refer_58 rfl rfl ?_
    refine G_aload_n (q := 60) hC dX7_refer_59 rfl rfl ?_
    refine gf_RX7_38 (q := 63) hC dX7_refer_60 rfl ?_
    refine G_iload_n (q := 64) hC dX7_refer_63 rfl rfl ?_
    obtain ⟨g1, hf⟩ := gd_ok hf
    refine G_iald (q := 65) hC dX7_refer_64 rfl (ok_191 g1) ?_
    obtain ⟨v3, σ3, hm3, hf⟩ := bd_ok hf
    refine cl_RX7_120 (q := 68) hC dX7_refer_65 rfl (m_X7_reference hm3) ⟨Nat.le_of_ble_eq_true rfl, Nat.le_of_ble_eq_true rfl⟩ (Nat.le_of_ble_eq_true rfl) ⟨Nat.le_of_ble_eq_true rfl, Nat.le_of_ble_eq_true rfl⟩ ?_
    obtain ⟨v4, σ4, hm4, hf⟩ := bd_ok hf
    refine cl_RX7_113 (q := 71) hC dX7_refer_68 rfl (m_X7_takes hm4) ⟨Nat.le_of_ble_eq_true rfl, Nat.le_of_ble_eq_true rfl⟩ (Nat.le_of_ble_eq_true rfl) ⟨Nat.le_of_ble_eq_true rfl, Nat.le_of_ble_eq_true rfl⟩ ?_
    refine G_aload_n (q := 72) hC dX7_refer_71 rfl rfl ?_
    refine gf_RX7_38 (q := 75) hC dX7_refer_72 rfl ?_
    refine G_iload_n (q := 76) hC dX7_refer_75 rfl rfl ?_
    refine G_dup2 (q := 77) hC dX7_refer_76 rfl rfl rfl ?_
    obtain ⟨g2, hf⟩ := gd_ok hf
    refine G_iald (q := 78) hC dX7_refer_77 rfl (ok_191 g2) ?_
    refine G_iconst (q := 79) hC dX7_refer_78 rfl ic_1 ?_
    refine G_iadd (q := 80) hC dX7_refer_79 rfl ?_
    obtain ⟨g3, hf⟩ := gd_ok hf
    refine G_iast (q := 81) hC dX7_refer_80 rfl (ok_191 g3) ?_
    refine G_aload_n (q := 82) hC dX7_refer_81 rfl rfl ?_
    refine gf_RX7_38 (q := 85) hC dX7_refer_82 rfl ?_
    refine G_iload_n (q := 86) hC dX7_refer_85 rfl rfl ?_
    obtain ⟨g4, hf⟩ := gd_ok hf
    refine G_iald (q := 87) hC dX7_refer_86 rfl (ok_191 g4) ?_
    exact G_iret hC hf rfl rfl dX7_refer_87
  · have hf := (if_pos c1).symm.trans hf
    refine G_iconst (q := 56) hC dX7_refer_55 rfl ic_0 ?_
    exact G_iret hC hf rfl rfl dX7_refer_56

def f_X7_refer_b44 (fu : Nat)  (σ : gSt) (x1 : Int32) : Option (Int32 × gSt) :=
  f_X7_refer_b49 fu  σ x1 (2 : Int32)
set_option maxRecDepth 100000 in
theorem t_X7_refer_b44 {fu : Nat}  {r : Int32 × gSt} (hC : gCx p s m args meth c cX7_refer 3 RX7 (some .int) E)  {σ : gSt} {x1 : Int32}  (hf : f_X7_refer_b44 fu  σ x1 = some r) : G p l e rm_X7_refer s m args below meth c 3 0 0 (MQ below (gQ E w 1 r) args s 0 0 (fun q => eB E ≤ q)) E w σ 44 [(0, .ref (eB E + 583)), (1, .int x1)] [.ref (eB E + 583)] := by
  unfold f_X7_refer_b44 at hf
  refine G_iconst (q := 45) hC dX7_refer_44 rfl ic_2 ?_
  refine G_goto (tgt := 49) hC dX7_refer_45 (by decide) ?_
  exact t_X7_refer_b49 hC   hf

def f_X7_refer (fu : Nat)  (σ : gSt) (x1 : Int32) : Option (Int32 × gSt) :=
  bd (f_X7_isArticle fu σ x1) (fun v1 σ1 => if v1 = 0 then (f_X7_refer_b49 fu  σ1 x1 (1 : Int32)) else (gd (inb x1 24) (if (σ1 186 0 x1.toNatClampNeg) = (3 : Int32) then (f_X7_refer_b44 fu  σ1 x1) else (gd (inb x1 24) (if (σ1 191 0 x1.toNatClampNeg) = (4 : Int32) then (f_X7_refer_b44 fu  σ1 x1) else (bd (f_X7_firstLetter fu σ1 (120 : Int32)) (fun v5 σ5 => if v5 = 0 then (f_X7_refer_b44 fu  σ5 x1) else (f_X7_refer_b49 fu  σ5 x1 (0 : Int32)))))))))
set_option maxRecDepth 100000 in
theorem t_X7_refer {fu : Nat}  {r : Int32 × gSt} (hC : gCx p s m args meth c cX7_refer 3 RX7 (some .int) E)  {σ : gSt} {x1 : Int32}  (hf : f_X7_refer fu  σ x1 = some r) : G p l e rm_X7_refer s m args below meth c 3 0 0 (MQ below (gQ E w 1 r) args s 0 0 (fun q => eB E ≤ q)) E w σ 0 [(0, .ref (eB E + 583)), (1, .int x1)] [] := by
  unfold f_X7_refer at hf
  refine G_aload_n (q := 1) hC dX7_refer_0 rfl rfl ?_
  refine G_iload_n (q := 2) hC dX7_refer_1 rfl rfl ?_
  obtain ⟨v1, σ1, hm1, hf⟩ := bd_ok hf
  refine cl_RX7_117 (q := 5) hC dX7_refer_2 rfl (m_X7_isArticle hm1) ⟨Nat.le_of_ble_eq_true rfl, Nat.le_of_ble_eq_true rfl⟩ (Nat.le_of_ble_eq_true rfl) ⟨Nat.le_of_ble_eq_true rfl, Nat.le_of_ble_eq_true rfl⟩ ?_
  refine G_istore_n (q := 6) (lv' := [(2, .int v1), (0, .ref (eB E + 583)), (1, .int x1)]) hC dX7_refer_5 rfl (by decide) rfl ?_
  refine G_aload_n (q := 7) hC dX7_refer_6 rfl rfl ?_
  refine G_iload_n (q := 8) hC dX7_refer_7 rfl rfl ?_
  refine G_if_ne (tgt := 15) (q := 11) hC dX7_refer_8 (by decide) rfl (fun c1 => ?_) (fun c1 => ?_)
  · have hf := (if_neg c1).symm.trans hf
    refine G_aload_n (q := 16) hC dX7_refer_15 rfl rfl ?_
    refine gf_RX7_22 (q := 19) hC dX7_refer_16 rfl ?_
    refine G_iload_n (q := 20) hC dX7_refer_19 rfl rfl ?_
    obtain ⟨g1, hf⟩ := gd_ok hf
    refine G_iald (q := 21) hC dX7_refer_20 rfl (ok_186 g1) ?_
    refine G_iconst (q := 22) hC dX7_refer_21 rfl ic_3 ?_
    refine G_icmp_eq (tgt := 44) (q := 25) hC dX7_refer_22 (by decide) rfl (fun c2 => ?_) (fun c2 => ?_)
    · have hf := (if_pos c2).symm.trans hf
      refine G_lv (lv' := [(0, .ref (eB E + 583)), (1, .int x1)]) [1, 2] rfl ?_
      exact t_X7_refer_b44 hC   hf
    · have hf := (if_neg c2).symm.trans hf
      refine G_aload_n (q := 26) hC dX7_refer_25 rfl rfl ?_
      refine gf_RX7_38 (q := 29) hC dX7_refer_26 rfl ?_
      refine G_iload_n (q := 30) hC dX7_refer_29 rfl rfl ?_
      obtain ⟨g2, hf⟩ := gd_ok hf
      refine G_iald (q := 31) hC dX7_refer_30 rfl (ok_191 g2) ?_
      refine G_iconst (q := 32) hC dX7_refer_31 rfl ic_4 ?_
      refine G_icmp_eq (tgt := 44) (q := 35) hC dX7_refer_32 (by decide) rfl (fun c3 => ?_) (fun c3 => ?_)
      · have hf := (if_pos c3).symm.trans hf
        refine G_lv (lv' := [(0, .ref (eB E + 583)), (1, .int x1)]) [1, 2] rfl ?_
        exact t_X7_refer_b44 hC   hf
      · have hf := (if_neg c3).symm.trans hf
        refine G_aload_n (q := 36) hC dX7_refer_35 rfl rfl ?_
        refine G_bipush (q := 38) hC dX7_refer_36 rfl bp_120 ?_
        obtain ⟨v5, σ5, hm5, hf⟩ := bd_ok hf
        refine cl_RX7_99 (q := 41) hC dX7_refer_38 rfl (m_X7_firstLetter hm5) ⟨Nat.le_of_ble_eq_true rfl, Nat.le_of_ble_eq_true rfl⟩ (Nat.le_of_ble_eq_true rfl) ⟨Nat.le_of_ble_eq_true rfl, Nat.le_of_ble_eq_true rfl⟩ ?_
        refine G_if_ne (tgt := 48) (q := 44) hC dX7_refer_41 (by decide) rfl (fun c5 => ?_) (fun c5 => ?_)
        · have hf := (if_neg c5).symm.trans hf
          refine G_iconst (q := 49) hC dX7_refer_48 rfl ic_0 ?_
          refine G_lv (lv' := [(0, .ref (eB E + 583)), (1, .int x1)]) [1, 2] rfl ?_
          exact t_X7_refer_b49 hC   hf
        · have hf := (if_pos c5).symm.trans hf
          refine G_lv (lv' := [(0, .ref (eB E + 583)), (1, .int x1)]) [1, 2] rfl ?_
          exact t_X7_refer_b44 hC   hf
  · have hf := (if_pos c1).symm.trans hf
    refine G_iconst (q := 12) hC dX7_refer_11 rfl ic_1 ?_
    refine G_goto (tgt := 49) hC dX7_refer_12 (by decide) ?_
    refine G_lv (lv' := [(0, .ref (eB E + 583)), (1, .int x1)]) [1, 2] rfl ?_
    exact t_X7_refer_b49 hC   hf

theorem m_X7_refer {l : Launch} {fu : Nat} {E : gE} {w : Nat → Int64} {σ : gSt} {x1 : Int32} {r : Int32 × gSt}  (hf : f_X7_refer fu σ x1 = some r) : gM l yX7_refer cX7_refer 3 (some .int) rm_X7_refer 1 E w σ [.ref (eB E + 583), .int x1] r :=
  gM_of (by decide +kernel) (Nat.le_of_ble_eq_true rfl) (fun p e s m args below meth c hC => t_X7_refer hC  hf)
def f_X7_use_b97 (fu : Nat)  (σ : gSt) (xs0 : Int32) : Option (Int32 × gSt) :=
  gd (b01 xs0) (some (xs0, σ))
set_option maxRecDepth 100000 in
theorem t_X7_use_b97 {fu : Nat}  {r : Int32 × gSt} (hC : gCx p s m args meth c cX7_use 5 RX7 (some .boolean) E)  {σ : gSt} {xs0 : Int32}  (hf : f_X7_use_b97 fu  σ xs0 = some r) : G p l e rm_X7_use s m args below meth c 5 0 0 (MQ below (gQ E w 1 r) args s 0 0 (fun q => eB E ≤ q)) E w σ 97 [] [.int xs0] := by
  unfold f_X7_use_b97 at hf
  obtain ⟨g1, hf⟩ := gd_ok hf
  exact G_iret hC hf rfl (b01_narrow g1) dX7_use_97

def f_X7_use_b54 (fu : Nat)  (σ : gSt) (x1 : Int32) (x2 : Int32) (xs1 : Int32) : Option (Int32 × gSt) :=
  bd (f_X7_goes fu σ xs1) (fun v1 σ1 => if v1 = 0 then (some ((0 : Int32), σ1)) else (gd (inb (((8 : Int32) * x1) + x2) 192) (gd (inb (((8 : Int32) * x1) + x2) 192) (if (σ1 193 0 (((8 : Int32) * x1) + x2).toNatClampNeg) = 0 then (f_X7_use_b97 fu  (gU σ1 193 0 (((8 : Int32) * x1) + x2).toNatClampNeg (1 : Int32)) (1 : Int32)) else (f_X7_use_b97 fu  (gU σ1 193 0 (((8 : Int32) * x1) + x2).toNatClampNeg (1 : Int32)) (0 : Int32))))))
set_option maxRecDepth 100000 in
theorem t_X7_use_b54 {fu : Nat}  {r : Int32 × gSt} (hC : gCx p s m args meth c cX7_use 5 RX7 (some .boolean) E)  {σ : gSt} {x1 : Int32} {x2 : Int32} {xs1 : Int32}  (hf : f_X7_use_b54 fu  σ x1 x2 xs1 = some r) : G p l e rm_X7_use s m args below meth c 5 0 0 (MQ below (gQ E w 1 r) args s 0 0 (fun q => eB E ≤ q)) E w σ 54 [(0, .ref (eB E + 583)), (1, .int x1), (2, .int x2)] [.int xs1, .ref (eB E + 583)] := by
  unfold f_X7_use_b54 at hf
  obtain ⟨v1, σ1, hm1, hf⟩ := bd_ok hf
  refine cl_RX7_103 (q := 57) hC dX7_use_54 rfl (m_X7_goes hm1) ⟨Nat.le_of_ble_eq_true rfl, Nat.le_of_ble_eq_true rfl⟩ (Nat.le_of_ble_eq_true rfl) ⟨Nat.le_of_ble_eq_true rfl, Nat.le_of_ble_eq_true rfl⟩ ?_
  refine G_if_ne (tgt := 62) (q := 60) hC dX7_use_57 (by decide) rfl (fun c1 => ?_) (fun c1 => ?_)
  · have hf := (if_neg c1).symm.trans hf
    refine G_aload_n (q := 63) hC dX7_use_62 rfl rfl ?_
    refine gf_RX7_44 (q := 66) hC dX7_use_63 rfl ?_
    refine G_bipush (q := 68) hC dX7_use_66 rfl bp_8 ?_
    refine G_iload_n (q := 69) hC dX7_use_68 rfl rfl ?_
    refine G_imul (q := 70) hC dX7_use_69 rfl ?_
    refine G_iload_n (q := 71) hC dX7_use_70 rfl rfl ?_
    refine G_iadd (q := 72) hC dX7_use_71 rfl ?_
    obtain ⟨g1, hf⟩ := gd_ok hf
    refine G_zald (q := 73) hC dX7_use_72 rfl (ok_193 g1) ?_
    refine G_istore (q := 75) (lv' := [(4, .int (σ1 193 0 (((8 : Int32) * x1) + x2).toNatClampNeg)), (0, .ref (eB E + 583)), (1, .int x1), (2, .int x2)]) hC dX7_use_73 rfl (by decide) rfl ?_
    refine G_aload_n (q := 76) hC dX7_use_75 rfl rfl ?_
    refine gf_RX7_44 (q := 79) hC dX7_use_76 rfl ?_
    refine G_bipush (q := 81) hC dX7_use_79 rfl bp_8 ?_
    refine G_iload_n (q := 82) hC dX7_use_81 rfl rfl ?_
    refine G_imul (q := 83) hC dX7_use_82 rfl ?_
    refine G_iload_n (q := 84) hC dX7_use_83 rfl rfl ?_
    refine G_iadd (q := 85) hC dX7_use_84 rfl ?_
    refine G_iconst (q := 86) hC dX7_use_85 rfl ic_1 ?_
    obtain ⟨g2, hf⟩ := gd_ok hf
    refine G_zast (q := 87) hC dX7_use_86 rfl (ok_193 g2) rfl ?_
    refine G_iload (q := 89) hC dX7_use_87 rfl rfl ?_
    refine G_if_ne (tgt := 96) (q := 92) hC dX7_use_89 (by decide) rfl (fun c2 => ?_) (fun c2 => ?_)
    · have hf := (if_neg c2).symm.trans hf
      refine G_iconst (q := 97) hC dX7_use_96 rfl ic_0 ?_
      refine G_lv (lv' := []) [] rfl ?_
      exact t_X7_use_b97 hC   hf
    · have hf := (if_pos c2).symm.trans hf
      refine G_iconst (q := 93) hC dX7_use_92 rfl ic_1 ?_
      refine G_goto (tgt := 97) hC dX7_use_93 (by decide) ?_
      refine G_lv (lv' := []) [] rfl ?_
      exact t_X7_use_b97 hC   hf
  · have hf := (if_pos c1).symm.trans hf
    refine G_iconst (q := 61) hC dX7_use_60 rfl ic_0 ?_
    exact G_iret hC hf rfl rfl dX7_use_61

def f_X7_use_b49 (fu : Nat)  (σ : gSt) (x1 : Int32) (x2 : Int32) : Option (Int32 × gSt) :=
  f_X7_use_b54 fu  σ x1 x2 (2 : Int32)
set_option maxRecDepth 100000 in
theorem t_X7_use_b49 {fu : Nat}  {r : Int32 × gSt} (hC : gCx p s m args meth c cX7_use 5 RX7 (some .boolean) E)  {σ : gSt} {x1 : Int32} {x2 : Int32}  (hf : f_X7_use_b49 fu  σ x1 x2 = some r) : G p l e rm_X7_use s m args below meth c 5 0 0 (MQ below (gQ E w 1 r) args s 0 0 (fun q => eB E ≤ q)) E w σ 49 [(0, .ref (eB E + 583)), (1, .int x1), (2, .int x2)] [.ref (eB E + 583)] := by
  unfold f_X7_use_b49 at hf
  refine G_iconst (q := 50) hC dX7_use_49 rfl ic_2 ?_
  refine G_goto (tgt := 54) hC dX7_use_50 (by decide) ?_
  exact t_X7_use_b54 hC   hf

def f_X7_use_b20 (fu : Nat)  (σ : gSt) (x1 : Int32) (x2 : Int32) (xs0 : Int32) : Option (Int32 × gSt) :=
  if xs0 = 0 then (f_X7_use_b54 fu  σ x1 x2 (1 : Int32)) else (gd (inb x1 24) (if (σ 186 0 x1.toNatClampNeg) = (3 : Int32) then (f_X7_use_b49 fu  σ x1 x2) else (gd (inb x1 24) (if (σ 185 0 x1.toNatClampNeg) = 0 then (f_X7_use_b49 fu  σ x1 x2) else (f_X7_use_b54 fu  σ x1 x2 (0 : Int32))))))
set_option maxRecDepth 100000 in
theorem t_X7_use_b20 {fu : Nat}  {r : Int32 × gSt} (hC : gCx p s m args meth c cX7_use 5 RX7 (some .boolean) E)  {σ : gSt} {x1 : Int32} {x2 : Int32} {xs0 : Int32}  (hf : f_X7_use_b20 fu  σ x1 x2 xs0 = some r) : G p l e rm_X7_use s m args below meth c 5 0 0 (MQ below (gQ E w 1 r) args s 0 0 (fun q => eB E ≤ q)) E w σ 20 [(0, .ref (eB E + 583)), (1, .int x1), (2, .int x2)] [.int xs0] := by
  unfold f_X7_use_b20 at hf
  refine G_istore_n (q := 21) (lv' := [(3, .int xs0), (0, .ref (eB E + 583)), (1, .int x1), (2, .int x2)]) hC dX7_use_20 rfl (by decide) rfl ?_
  refine G_aload_n (q := 22) hC dX7_use_21 rfl rfl ?_
  refine G_iload_n (q := 23) hC dX7_use_22 rfl rfl ?_
  refine G_if_ne (tgt := 30) (q := 26) hC dX7_use_23 (by decide) rfl (fun c0 => ?_) (fun c0 => ?_)
  · have hf := (if_neg c0).symm.trans hf
    refine G_aload_n (q := 31) hC dX7_use_30 rfl rfl ?_
    refine gf_RX7_22 (q := 34) hC dX7_use_31 rfl ?_
    refine G_iload_n (q := 35) hC dX7_use_34 rfl rfl ?_
    obtain ⟨g1, hf⟩ := gd_ok hf
    refine G_iald (q := 36) hC dX7_use_35 rfl (ok_186 g1) ?_
    refine G_iconst (q := 37) hC dX7_use_36 rfl ic_3 ?_
    refine G_icmp_eq (tgt := 49) (q := 40) hC dX7_use_37 (by decide) rfl (fun c1 => ?_) (fun c1 => ?_)
    · have hf := (if_pos c1).symm.trans hf
      refine G_lv (lv' := [(0, .ref (eB E + 583)), (1, .int x1), (2, .int x2)]) [1, 2, 3] rfl ?_
      exact t_X7_use_b49 hC   hf
    · have hf := (if_neg c1).symm.trans hf
      refine G_aload_n (q := 41) hC dX7_use_40 rfl rfl ?_
      refine gf_RX7_19 (q := 44) hC dX7_use_41 rfl ?_
      refine G_iload_n (q := 45) hC dX7_use_44 rfl rfl ?_
      obtain ⟨g2, hf⟩ := gd_ok hf
      refine G_iald (q := 46) hC dX7_use_45 rfl (ok_185 g2) ?_
      refine G_if_ne (tgt := 53) (q := 49) hC dX7_use_46 (by decide) rfl (fun c2 => ?_) (fun c2 => ?_)
      · have hf := (if_neg c2).symm.trans hf
        refine G_iconst (q := 54) hC dX7_use_53 rfl ic_0 ?_
        refine G_lv (lv' := [(0, .ref (eB E + 583)), (1, .int x1), (2, .int x2)]) [1, 2, 3] rfl ?_
        exact t_X7_use_b54 hC   hf
      · have hf := (if_pos c2).symm.trans hf
        refine G_lv (lv' := [(0, .ref (eB E + 583)), (1, .int x1), (2, .int x2)]) [1, 2, 3] rfl ?_
        exact t_X7_use_b49 hC   hf
  · have hf := (if_pos c0).symm.trans hf
    refine G_iconst (q := 27) hC dX7_use_26 rfl ic_1 ?_
    refine G_goto (tgt := 54) hC dX7_use_27 (by decide) ?_
    refine G_lv (lv' := [(0, .ref (eB E + 583)), (1, .int x1), (2, .int x2)]) [1, 2, 3] rfl ?_
    exact t_X7_use_b54 hC   hf

def f_X7_use_b19 (fu : Nat)  (σ : gSt) (x1 : Int32) (x2 : Int32) : Option (Int32 × gSt) :=
  f_X7_use_b20 fu  σ x1 x2 (0 : Int32)
set_option maxRecDepth 100000 in
theorem t_X7_use_b19 {fu : Nat}  {r : Int32 × gSt} (hC : gCx p s m args meth c cX7_use 5 RX7 (some .boolean) E)  {σ : gSt} {x1 : Int32} {x2 : Int32}  (hf : f_X7_use_b19 fu  σ x1 x2 = some r) : G p l e rm_X7_use s m args below meth c 5 0 0 (MQ below (gQ E w 1 r) args s 0 0 (fun q => eB E ≤ q)) E w σ 19 [(0, .ref (eB E + 583)), (1, .int x1), (2, .int x2)] [] := by
  unfold f_X7_use_b19 at hf
  refine G_iconst (q := 20) hC dX7_use_19 rfl ic_0 ?_
  exact t_X7_use_b20 hC   hf

def f_X7_use (fu : Nat)  (σ : gSt) (x1 : Int32) (x2 : Int32) : Option (Int32 × gSt) :=
  bd (f_X7_isArticle fu σ x1) (fun v1 σ1 => if v1 = 0 then (f_X7_use_b19 fu  σ1 x1 x2) else (bd (f_X7_isFact fu σ1 x2) (fun v3 σ3 => if v3 = 0 then (f_X7_use_b19 fu  σ3 x1 x2) else (f_X7_use_b20 fu  σ3 x1 x2 (1 : Int32)))))
set_option maxRecDepth 100000 in
theorem t_X7_use {fu : Nat}  {r : Int32 × gSt} (hC : gCx p s m args meth c cX7_use 5 RX7 (some .boolean) E)  {σ : gSt} {x1 : Int32} {x2 : Int32}  (hf : f_X7_use fu  σ x1 x2 = some r) : G p l e rm_X7_use s m args below meth c 5 0 0 (MQ below (gQ E w 1 r) args s 0 0 (fun q => eB E ≤ q)) E w σ 0 [(0, .ref (eB E + 583)), (1, .int x1), (2, .int x2)] [] := by
  unfold f_X7_use at hf
  refine G_aload_n (q := 1) hC dX7_use_0 rfl rfl ?_
  refine G_iload_n (q := 2) hC dX7_use_1 rfl rfl ?_
  obtain ⟨v1, σ1, hm1, hf⟩ := bd_ok hf
  refine cl_RX7_117 (q := 5) hC dX7_use_2 rfl (m_X7_isArticle hm1) ⟨Nat.le_of_ble_eq_true rfl, Nat.le_of_ble_eq_true rfl⟩ (Nat.le_of_ble_eq_true rfl) ⟨Nat.le_of_ble_eq_true rfl, Nat.le_of_ble_eq_true rfl⟩ ?_
  refine G_if_eq (tgt := 19) (q := 8) hC dX7_use_5 (by decide) rfl (fun c1 => ?_) (fun c1 => ?_)
  · have hf := (if_pos c1).symm.trans hf
    exact t_X7_use_b19 hC   hf
  · have hf := (if_neg c1).symm.trans hf
    refine G_iload_n (q := 9) hC dX7_use_8 rfl rfl ?_
    obtain ⟨v3, σ3, hm3, hf⟩ := bd_ok hf
    refine cl_RX7_123 (q := 12) hC dX7_use_9 rfl (m_X7_isFact hm3) ⟨Nat.le_of_ble_eq_true rfl, Nat.le_of_ble_eq_true rfl⟩ (Nat.le_of_ble_eq_true rfl) ⟨Nat.le_of_ble_eq_true rfl, Nat.le_of_ble_eq_true rfl⟩ ?_
    refine G_if_eq (tgt := 19) (q := 15) hC dX7_use_12 (by decide) rfl (fun c3 => ?_) (fun c3 => ?_)
    · have hf := (if_pos c3).symm.trans hf
      exact t_X7_use_b19 hC   hf
    · have hf := (if_neg c3).symm.trans hf
      refine G_iconst (q := 16) hC dX7_use_15 rfl ic_1 ?_
      refine G_goto (tgt := 20) hC dX7_use_16 (by decide) ?_
      exact t_X7_use_b20 hC   hf

theorem m_X7_use {l : Launch} {fu : Nat} {E : gE} {w : Nat → Int64} {σ : gSt} {x1 : Int32} {x2 : Int32} {r : Int32 × gSt}  (hf : f_X7_use fu σ x1 x2 = some r) : gM l yX7_use cX7_use 5 (some .boolean) rm_X7_use 1 E w σ [.ref (eB E + 583), .int x1, .int x2] r :=
  gM_of (by decide +kernel) (Nat.le_of_ble_eq_true rfl) (fun p e s m args below meth c hC => t_X7_use hC  hf)
def f_X7_change_b13 (fu : Nat)  (σ : gSt) (x1 : Int32) (x2 : Int32) (xs1 : Int32) : Option (Int32 × gSt) :=
  bd (f_X7_goes fu σ xs1) (fun v1 σ1 => if v1 = 0 then (some ((0 : Int32), σ1)) else (gd (inb x1 8) (gd (inb x1 8) (some ((σ1 196 0 x1.toNatClampNeg), (gU σ1 196 0 x1.toNatClampNeg x2))))))
set_option maxRecDepth 100000 in
theorem t_X7_change_b13 {fu : Nat}  {r : Int32 × gSt} (hC : gCx p s m args meth c cX7_change 4 RX7 (some .int) E)  {σ : gSt} {x1 : Int32} {x2 : Int32} {xs1 : Int32}  (hf : f_X7_change_b13 fu  σ x1 x2 xs1 = some r) : G p l e rm_X7_change s m args below meth c 4 0 0 (MQ below (gQ E w 1 r) args s 0 0 (fun q => eB E ≤ q)) E w σ 13 [(0, .ref (eB E + 583)), (1, .int x1), (2, .int x2)] [.int xs1, .ref (eB E + 583)] := by
  unfold f_X7_change_b13 at hf
  obtain ⟨v1, σ1, hm1, hf⟩ := bd_ok hf
  refine cl_RX7_103 (q := 16) hC dX7_change_13 rfl (m_X7_goes hm1) ⟨Nat.le_of_ble_eq_true rfl, Nat.le_of_ble_eq_true rfl⟩ (Nat.le_of_ble_eq_true rfl) ⟨Nat.le_of_ble_eq_true rfl, Nat.le_of_ble_eq_true rfl⟩ ?_
  refine G_if_ne (tgt := 21) (q := 19) hC dX7_change_16 (by decide) rfl (fun c1 => ?_) (fun c1 => ?_)
  · have hf := (if_neg c1).symm.trans hf
    refine G_aload_n (q := 22) hC dX7_change_21 rfl rfl ?_
    refine gf_RX7_53 (q := 25) hC dX7_change_22 rfl ?_
    refine G_iload_n (q := 26) hC dX7_change_25 rfl rfl ?_
    obtain ⟨g1, hf⟩ := gd_ok hf
    refine G_iald (q := 27) hC dX7_change_26 rfl (ok_196 g1) ?_
    refine G_istore_n (q := 28) (lv' := [(3, .int (σ1 196 0 x1.toNatClampNeg)), (0, .ref (eB E + 583)), (1, .int x1), (2, .int x2)]) hC dX7_change_27 rfl (by decide) rfl ?_
    refine G_aload_n (q := 29) hC dX7_change_28 rfl rfl ?_
    refine gf_RX7_53 (q := 32) hC dX7_change_29 rfl ?_
    refine G_iload_n (q := 33) hC dX7_change_32 rfl rfl ?_
    refine G_iload_n (q := 34) hC dX7_change_33 rfl rfl ?_
    obtain ⟨g2, hf⟩ := gd_ok hf
    refine G_iast (q := 35) hC dX7_change_34 rfl (ok_196 g2) ?_
    refine G_iload_n (q := 36) hC dX7_change_35 rfl rfl ?_
    exact G_iret hC hf rfl rfl dX7_change_36
  · have hf := (if_pos c1).symm.trans hf
    refine G_iconst (q := 20) hC dX7_change_19 rfl ic_0 ?_
    exact G_iret hC hf rfl rfl dX7_change_20

def f_X7_change (fu : Nat)  (σ : gSt) (x1 : Int32) (x2 : Int32) : Option (Int32 × gSt) :=
  bd (f_X7_isFact fu σ x1) (fun v1 σ1 => if v1 = 0 then (f_X7_change_b13 fu  σ1 x1 x2 (1 : Int32)) else (f_X7_change_b13 fu  σ1 x1 x2 (0 : Int32)))
set_option maxRecDepth 100000 in
theorem t_X7_change {fu : Nat}  {r : Int32 × gSt} (hC : gCx p s m args meth c cX7_change 4 RX7 (some .int) E)  {σ : gSt} {x1 : Int32} {x2 : Int32}  (hf : f_X7_change fu  σ x1 x2 = some r) : G p l e rm_X7_change s m args below meth c 4 0 0 (MQ below (gQ E w 1 r) args s 0 0 (fun q => eB E ≤ q)) E w σ 0 [(0, .ref (eB E + 583)), (1, .int x1), (2, .int x2)] [] := by
  unfold f_X7_change at hf
  refine G_aload_n (q := 1) hC dX7_change_0 rfl rfl ?_
  refine G_iload_n (q := 2) hC dX7_change_1 rfl rfl ?_
  obtain ⟨v1, σ1, hm1, hf⟩ := bd_ok hf
  refine cl_RX7_123 (q := 5) hC dX7_change_2 rfl (m_X7_isFact hm1) ⟨Nat.le_of_ble_eq_true rfl, Nat.le_of_ble_eq_true rfl⟩ (Nat.le_of_ble_eq_true rfl) ⟨Nat.le_of_ble_eq_true rfl, Nat.le_of_ble_eq_true rfl⟩ ?_
  refine G_if_eq (tgt := 12) (q := 8) hC dX7_change_5 (by decide) rfl (fun c1 => ?_) (fun c1 => ?_)
  · have hf := (if_pos c1).symm.trans hf
    refine G_iconst (q := 13) hC dX7_change_12 rfl ic_1 ?_
    exact t_X7_change_b13 hC   hf
  · have hf := (if_neg c1).symm.trans hf
    refine G_iconst (q := 9) hC dX7_change_8 rfl ic_0 ?_
    refine G_goto (tgt := 13) hC dX7_change_9 (by decide) ?_
    exact t_X7_change_b13 hC   hf

theorem m_X7_change {l : Launch} {fu : Nat} {E : gE} {w : Nat → Int64} {σ : gSt} {x1 : Int32} {x2 : Int32} {r : Int32 × gSt}  (hf : f_X7_change fu σ x1 x2 = some r) : gM l yX7_change cX7_change 4 (some .int) rm_X7_change 1 E w σ [.ref (eB E + 583), .int x1, .int x2] r :=
  gM_of (by decide +kernel) (Nat.le_of_ble_eq_true rfl) (fun p e s m args below meth c hC => t_X7_change hC  hf)
def f_X7_forbid_b28 (fu : Nat)  (σ : gSt) (x1 : Int32) (x2 : Int32) (xs1 : Int32) : Option (Int32 × gSt) :=
  bd (f_X7_goes fu σ xs1) (fun v1 σ1 => if v1 = 0 then (some ((0 : Int32), σ1)) else (gd (inb x1 24) (gd (inb x1 24) (gd (b01 x2) (gd (b01 (σ1 190 0 x1.toNatClampNeg)) (some ((σ1 190 0 x1.toNatClampNeg), (gU σ1 190 0 x1.toNatClampNeg x2))))))))
set_option maxRecDepth 100000 in
theorem t_X7_forbid_b28 {fu : Nat}  {r : Int32 × gSt} (hC : gCx p s m args meth c cX7_forbid 4 RX7 (some .boolean) E)  {σ : gSt} {x1 : Int32} {x2 : Int32} {xs1 : Int32}  (hf : f_X7_forbid_b28 fu  σ x1 x2 xs1 = some r) : G p l e rm_X7_forbid s m args below meth c 4 0 0 (MQ below (gQ E w 1 r) args s 0 0 (fun q => eB E ≤ q)) E w σ 28 [(0, .ref (eB E + 583)), (1, .int x1), (2, .int x2)] [.int xs1, .ref (eB E + 583)] := by
  unfold f_X7_forbid_b28 at hf
  obtain ⟨v1, σ1, hm1, hf⟩ := bd_ok hf
  refine cl_RX7_103 (q := 31) hC dX7_forbid_28 rfl (m_X7_goes hm1) ⟨Nat.le_of_ble_eq_true rfl, Nat.le_of_ble_eq_true rfl⟩ (Nat.le_of_ble_eq_true rfl) ⟨Nat.le_of_ble_eq_true rfl, Nat.le_of_ble_eq_true rfl⟩ ?_
  refine G_if_ne (tgt := 36) (q := 34) hC dX7_forbid_31 (by decide) rfl (fun c1 => ?_) (fun c1 => ?_)
  · have hf := (if_neg c1).symm.trans hf
    refine G_aload_n (q := 37) hC dX7_forbid_36 rfl rfl ?_
    refine gf_RX7_34 (q := 40) hC dX7_forbid_37 rfl ?_
    refine G_iload_n (q := 41) hC dX7_forbid_40 rfl rfl ?_
    obtain ⟨g1, hf⟩ := gd_ok hf
    refine G_zald (q := 42) hC dX7_forbid_41 rfl (ok_190 g1) ?_
    refine G_istore_n (q := 43) (lv' := [(3, .int (σ1 190 0 x1.toNatClampNeg)), (0, .ref (eB E + 583)), (1, .int x1), (2, .int x2)]) hC dX7_forbid_42 rfl (by decide) rfl ?_
    refine G_aload_n (q := 44) hC dX7_forbid_43 rfl rfl ?_
    refine gf_RX7_34 (q := 47) hC dX7_forbid_44 rfl ?_
    refine G_iload_n (q := 48) hC dX7_forbid_47 rfl rfl ?_
    refine G_iload_n (q := 49) hC dX7_forbid_48 rfl rfl ?_
    obtain ⟨g2, hf⟩ := gd_ok hf
    obtain ⟨g3, hf⟩ := gd_ok hf
    refine G_zast (q := 50) hC dX7_forbid_49 rfl (ok_190 g2) g3 ?_
    refine G_iload_n (q := 51) hC dX7_forbid_50 rfl rfl ?_
    obtain ⟨g4, hf⟩ := gd_ok hf
    exact G_iret hC hf rfl (b01_narrow g4) dX7_forbid_51
  · have hf := (if_pos c1).symm.trans hf
    refine G_iconst (q := 35) hC dX7_forbid_34 rfl ic_0 ?_
    exact G_iret hC hf rfl rfl dX7_forbid_35

def f_X7_forbid (fu : Nat)  (σ : gSt) (x1 : Int32) (x2 : Int32) : Option (Int32 × gSt) :=
  bd (f_X7_isArticle fu σ x1) (fun v1 σ1 => if v1 = 0 then (f_X7_forbid_b28 fu  σ1 x1 x2 (1 : Int32)) else (gd (inb x1 24) (if (σ1 186 0 x1.toNatClampNeg) = (3 : Int32) then (f_X7_forbid_b28 fu  σ1 x1 x2 (2 : Int32)) else (f_X7_forbid_b28 fu  σ1 x1 x2 (0 : Int32)))))
set_option maxRecDepth 100000 in
theorem t_X7_forbid {fu : Nat}  {r : Int32 × gSt} (hC : gCx p s m args meth c cX7_forbid 4 RX7 (some .boolean) E)  {σ : gSt} {x1 : Int32} {x2 : Int32}  (hf : f_X7_forbid fu  σ x1 x2 = some r) : G p l e rm_X7_forbid s m args below meth c 4 0 0 (MQ below (gQ E w 1 r) args s 0 0 (fun q => eB E ≤ q)) E w σ 0 [(0, .ref (eB E + 583)), (1, .int x1), (2, .int x2)] [] := by
  unfold f_X7_forbid at hf
  refine G_aload_n (q := 1) hC dX7_forbid_0 rfl rfl ?_
  refine G_aload_n (q := 2) hC dX7_forbid_1 rfl rfl ?_
  refine G_iload_n (q := 3) hC dX7_forbid_2 rfl rfl ?_
  obtain ⟨v1, σ1, hm1, hf⟩ := bd_ok hf
  refine cl_RX7_117 (q := 6) hC dX7_forbid_3 rfl (m_X7_isArticle hm1) ⟨Nat.le_of_ble_eq_true rfl, Nat.le_of_ble_eq_true rfl⟩ (Nat.le_of_ble_eq_true rfl) ⟨Nat.le_of_ble_eq_true rfl, Nat.le_of_ble_eq_true rfl⟩ ?_
  refine G_if_ne (tgt := 13) (q := 9) hC dX7_forbid_6 (by decide) rfl (fun c1 => ?_) (fun c1 => ?_)
  · have hf := (if_neg c1).symm.trans hf
    refine G_aload_n (q := 14) hC dX7_forbid_13 rfl rfl ?_
    refine gf_RX7_22 (q := 17) hC dX7_forbid_14 rfl ?_
    refine G_iload_n (q := 18) hC dX7_forbid_17 rfl rfl ?_
    obtain ⟨g1, hf⟩ := gd_ok hf
    refine G_iald (q := 19) hC dX7_forbid_18 rfl (ok_186 g1) ?_
    refine G_iconst (q := 20) hC dX7_forbid_19 rfl ic_3 ?_
    refine G_icmp_ne (tgt := 27) (q := 23) hC dX7_forbid_20 (by decide) rfl (fun c2 => ?_) (fun c2 => ?_)
    · have hf := (if_neg c2).symm.trans hf
      refine G_iconst (q := 28) hC dX7_forbid_27 rfl ic_0 ?_
      exact t_X7_forbid_b28 hC   hf
    · have hf := (if_pos c2).symm.trans hf
      refine G_iconst (q := 24) hC dX7_forbid_23 rfl ic_2 ?_
      refine G_goto (tgt := 28) hC dX7_forbid_24 (by decide) ?_
      exact t_X7_forbid_b28 hC   hf
  · have hf := (if_pos c1).symm.trans hf
    refine G_iconst (q := 10) hC dX7_forbid_9 rfl ic_1 ?_
    refine G_goto (tgt := 28) hC dX7_forbid_10 (by decide) ?_
    exact t_X7_forbid_b28 hC   hf

theorem m_X7_forbid {l : Launch} {fu : Nat} {E : gE} {w : Nat → Int64} {σ : gSt} {x1 : Int32} {x2 : Int32} {r : Int32 × gSt}  (hf : f_X7_forbid fu σ x1 x2 = some r) : gM l yX7_forbid cX7_forbid 4 (some .boolean) rm_X7_forbid 1 E w σ [.ref (eB E + 583), .int x1, .int x2] r :=
  gM_of (by decide +kernel) (Nat.le_of_ble_eq_true rfl) (fun p e s m args below meth c hC => t_X7_forbid hC  hf)
def f_X7_volume_b77 (fu : Nat)  (σ : gSt) (x1 : Int32) (x2 : Int32) (xs1 : Int32) : Option (Int32 × gSt) :=
  bd (f_X7_goes fu σ xs1) (fun v1 σ1 => if v1 = 0 then (some ((0 : Int32), σ1)) else (gd (inb (σ1 197 0 0) 4) (gd (inb ((gU σ1 198 0 (σ1 197 0 0).toNatClampNeg ((x1 - (97 : Int32)) + (1 : Int32))) 197 0 0) 4) (some ((((gU (gU (gU σ1 198 0 (σ1 197 0 0).toNatClampNeg ((x1 - (97 : Int32)) + (1 : Int32))) 199 0 ((gU σ1 198 0 (σ1 197 0 0).toNatClampNeg ((x1 - (97 : Int32)) + (1 : Int32))) 197 0 0).toNatClampNeg x2) 197 0 0 (((gU (gU σ1 198 0 (σ1 197 0 0).toNatClampNeg ((x1 - (97 : Int32)) + (1 : Int32))) 199 0 ((gU σ1 198 0 (σ1 197 0 0).toNatClampNeg ((x1 - (97 : Int32)) + (1 : Int32))) 197 0 0).toNatClampNeg x2) 197 0 0) + (1 : Int32))) 197 0 0) - (1 : Int32)), (gU (gU (gU σ1 198 0 (σ1 197 0 0).toNatClampNeg ((x1 - (97 : Int32)) + (1 : Int32))) 199 0 ((gU σ1 198 0 (σ1 197 0 0).toNatClampNeg ((x1 - (97 : Int32)) + (1 : Int32))) 197 0 0).toNatClampNeg x2) 197 0 0 (((gU (gU σ1 198 0 (σ1 197 0 0).toNatClampNeg ((x1 - (97 : Int32)) + (1 : Int32))) 199 0 ((gU σ1 198 0 (σ1 197 0 0).toNatClampNeg ((x1 - (97 : Int32)) + (1 : Int32))) 197 0 0).toNatClampNeg x2) 197 0 0) + (1 : Int32))))))))
set_option maxRecDepth 100000 in
theorem t_X7_volume_b77 {fu : Nat}  {r : Int32 × gSt} (hC : gCx p s m args meth c cX7_volume 4 RX7 (some .int) E)  {σ : gSt} {x1 : Int32} {x2 : Int32} {xs1 : Int32}  (hf : f_X7_volume_b77 fu  σ x1 x2 xs1 = some r) : G p l e rm_X7_volume s m args below meth c 4 0 0 (MQ below (gQ E w 1 r) args s 0 0 (fun q => eB E ≤ q)) E w σ 77 [(0, .ref (eB E + 583)), (1, .int x1), (2, .int x2)] [.int xs1, .ref (eB E + 583)] := by
  unfold f_X7_volume_b77 at hf
  obtain ⟨v1, σ1, hm1, hf⟩ := bd_ok hf
  refine cl_RX7_103 (q := 80) hC dX7_volume_77 rfl (m_X7_goes hm1) ⟨Nat.le_of_ble_eq_true rfl, Nat.le_of_ble_eq_true rfl⟩ (Nat.le_of_ble_eq_true rfl) ⟨Nat.le_of_ble_eq_true rfl, Nat.le_of_ble_eq_true rfl⟩ ?_
  refine G_if_ne (tgt := 85) (q := 83) hC dX7_volume_80 (by decide) rfl (fun c1 => ?_) (fun c1 => ?_)
  · have hf := (if_neg c1).symm.trans hf
    refine G_aload_n (q := 86) hC dX7_volume_85 rfl rfl ?_
    refine gf_RX7_56 (q := 89) hC dX7_volume_86 rfl ?_
    refine G_aload_n (q := 90) hC dX7_volume_89 rfl rfl ?_
    refine gf_RX7_96 (q := 93) hC dX7_volume_90 rfl ?_
    refine G_iload_n (q := 94) hC dX7_volume_93 rfl rfl ?_
    refine G_bipush (q := 96) hC dX7_volume_94 rfl bp_97 ?_
    refine G_isub (q := 97) hC dX7_volume_96 rfl ?_
    refine G_iconst (q := 98) hC dX7_volume_97 rfl ic_1 ?_
    refine G_iadd (q := 99) hC dX7_volume_98 rfl ?_
    obtain ⟨g1, hf⟩ := gd_ok hf
    refine G_iast (q := 100) hC dX7_volume_99 rfl (ok_198 g1) ?_
    refine G_aload_n (q := 101) hC dX7_volume_100 rfl rfl ?_
    refine gf_RX7_59 (q := 104) hC dX7_volume_101 rfl ?_
    refine G_aload_n (q := 105) hC dX7_volume_104 rfl rfl ?_
    refine gf_RX7_96 (q := 108) hC dX7_volume_105 rfl ?_
    refine G_iload_n (q := 109) hC dX7_volume_108 rfl rfl ?_
    obtain ⟨g2, hf⟩ := gd_ok hf
    refine G_iast (q := 110) hC dX7_volume_109 rfl (ok_199 g2) ?_
    refine G_aload_n (q := 111) hC dX7_volume_110 rfl rfl ?_
    refine G_dup (q := 112) hC dX7_volume_111 rfl rfl ?_
    refine gf_RX7_96 (q := 115) hC dX7_volume_112 rfl ?_
    refine G_iconst (q := 116) hC dX7_volume_115 rfl ic_1 ?_
    refine G_iadd (q := 117) hC dX7_volume_116 rfl ?_
    refine pf_RX7_96 (q := 120) hC dX7_volume_117 rfl ?_
    refine G_aload_n (q := 121) hC dX7_volume_120 rfl rfl ?_
    refine gf_RX7_96 (q := 124) hC dX7_volume_121 rfl ?_
    refine G_iconst (q := 125) hC dX7_volume_124 rfl ic_1 ?_
    refine G_isub (q := 126) hC dX7_volume_125 rfl ?_
    exact G_iret hC hf rfl rfl dX7_volume_126
  · have hf := (if_pos c1).symm.trans hf
    refine G_iconst (q := 84) hC dX7_volume_83 rfl ic_0 ?_
    exact G_iret hC hf rfl rfl dX7_volume_84

def f_X7_volume_b54 (fu : Nat)  (σ : gSt) (x1 : Int32) (x2 : Int32) (xs0 : Int32) : Option (Int32 × gSt) :=
  if xs0 = 0 then (f_X7_volume_b77 fu  σ x1 x2 (1 : Int32)) else (if (σ 197 0 0) = (4 : Int32) then (f_X7_volume_b77 fu  σ x1 x2 (2 : Int32)) else (f_X7_volume_b77 fu  σ x1 x2 (0 : Int32)))
set_option maxRecDepth 100000 in
theorem t_X7_volume_b54 {fu : Nat}  {r : Int32 × gSt} (hC : gCx p s m args meth c cX7_volume 4 RX7 (some .int) E)  {σ : gSt} {x1 : Int32} {x2 : Int32} {xs0 : Int32}  (hf : f_X7_volume_b54 fu  σ x1 x2 xs0 = some r) : G p l e rm_X7_volume s m args below meth c 4 0 0 (MQ below (gQ E w 1 r) args s 0 0 (fun q => eB E ≤ q)) E w σ 54 [(0, .ref (eB E + 583)), (1, .int x1), (2, .int x2)] [.int xs0] := by
  unfold f_X7_volume_b54 at hf
  refine G_istore_n (q := 55) (lv' := [(3, .int xs0), (0, .ref (eB E + 583)), (1, .int x1), (2, .int x2)]) hC dX7_volume_54 rfl (by decide) rfl ?_
  refine G_aload_n (q := 56) hC dX7_volume_55 rfl rfl ?_
  refine G_iload_n (q := 57) hC dX7_volume_56 rfl rfl ?_
  refine G_if_ne (tgt := 64) (q := 60) hC dX7_volume_57 (by decide) rfl (fun c0 => ?_) (fun c0 => ?_)
  · have hf := (if_neg c0).symm.trans hf
    refine G_aload_n (q := 65) hC dX7_volume_64 rfl rfl ?_
    refine gf_RX7_96 (q := 68) hC dX7_volume_65 rfl ?_
    refine G_iconst (q := 69) hC dX7_volume_68 rfl ic_4 ?_
    refine G_icmp_ne (tgt := 76) (q := 72) hC dX7_volume_69 (by decide) rfl (fun c1 => ?_) (fun c1 => ?_)
    · have hf := (if_neg c1).symm.trans hf
      refine G_iconst (q := 77) hC dX7_volume_76 rfl ic_0 ?_
      refine G_lv (lv' := [(0, .ref (eB E + 583)), (1, .int x1), (2, .int x2)]) [1, 2, 3] rfl ?_
      exact t_X7_volume_b77 hC   hf
    · have hf := (if_pos c1).symm.trans hf
      refine G_iconst (q := 73) hC dX7_volume_72 rfl ic_2 ?_
      refine G_goto (tgt := 77) hC dX7_volume_73 (by decide) ?_
      refine G_lv (lv' := [(0, .ref (eB E + 583)), (1, .int x1), (2, .int x2)]) [1, 2, 3] rfl ?_
      exact t_X7_volume_b77 hC   hf
  · have hf := (if_pos c0).symm.trans hf
    refine G_iconst (q := 61) hC dX7_volume_60 rfl ic_1 ?_
    refine G_goto (tgt := 77) hC dX7_volume_61 (by decide) ?_
    refine G_lv (lv' := [(0, .ref (eB E + 583)), (1, .int x1), (2, .int x2)]) [1, 2, 3] rfl ?_
    exact t_X7_volume_b77 hC   hf

def f_X7_volume_b53 (fu : Nat)  (σ : gSt) (x1 : Int32) (x2 : Int32) : Option (Int32 × gSt) :=
  f_X7_volume_b54 fu  σ x1 x2 (0 : Int32)
set_option maxRecDepth 100000 in
theorem t_X7_volume_b53 {fu : Nat}  {r : Int32 × gSt} (hC : gCx p s m args meth c cX7_volume 4 RX7 (some .int) E)  {σ : gSt} {x1 : Int32} {x2 : Int32}  (hf : f_X7_volume_b53 fu  σ x1 x2 = some r) : G p l e rm_X7_volume s m args below meth c 4 0 0 (MQ below (gQ E w 1 r) args s 0 0 (fun q => eB E ≤ q)) E w σ 53 [(0, .ref (eB E + 583)), (1, .int x1), (2, .int x2)] [] := by
  unfold f_X7_volume_b53 at hf
  refine G_iconst (q := 54) hC dX7_volume_53 rfl ic_0 ?_
  exact t_X7_volume_b54 hC   hf

def f_X7_volume_b39 (fu : Nat)  (σ : gSt) (x1 : Int32) (x2 : Int32) : Option (Int32 × gSt) :=
  bd (f_X7_isIn fu σ x2 (1 : Int32) (99 : Int32)) (fun v1 σ1 => if v1 = 0 then (f_X7_volume_b53 fu  σ1 x1 x2) else (f_X7_volume_b54 fu  σ1 x1 x2 (1 : Int32)))
set_option maxRecDepth 100000 in
theorem t_X7_volume_b39 {fu : Nat}  {r : Int32 × gSt} (hC : gCx p s m args meth c cX7_volume 4 RX7 (some .int) E)  {σ : gSt} {x1 : Int32} {x2 : Int32}  (hf : f_X7_volume_b39 fu  σ x1 x2 = some r) : G p l e rm_X7_volume s m args below meth c 4 0 0 (MQ below (gQ E w 1 r) args s 0 0 (fun q => eB E ≤ q)) E w σ 39 [(0, .ref (eB E + 583)), (1, .int x1), (2, .int x2)] [] := by
  unfold f_X7_volume_b39 at hf
  refine G_iload_n (q := 40) hC dX7_volume_39 rfl rfl ?_
  refine G_iconst (q := 41) hC dX7_volume_40 rfl ic_1 ?_
  refine G_bipush (q := 43) hC dX7_volume_41 rfl bp_99 ?_
  obtain ⟨v1, σ1, hm1, hf⟩ := bd_ok hf
  refine cl_RX7_81 (q := 46) hC dX7_volume_43 rfl (m_X7_isIn hm1) ⟨Nat.le_of_ble_eq_true rfl, Nat.le_of_ble_eq_true rfl⟩ (Nat.le_of_ble_eq_true rfl) ⟨Nat.le_of_ble_eq_true rfl, Nat.le_of_ble_eq_true rfl⟩ ?_
  refine G_if_eq (tgt := 53) (q := 49) hC dX7_volume_46 (by decide) rfl (fun c1 => ?_) (fun c1 => ?_)
  · have hf := (if_pos c1).symm.trans hf
    exact t_X7_volume_b53 hC   hf
  · have hf := (if_neg c1).symm.trans hf
    refine G_iconst (q := 50) hC dX7_volume_49 rfl ic_1 ?_
    refine G_goto (tgt := 54) hC dX7_volume_50 (by decide) ?_
    exact t_X7_volume_b54 hC   hf

def f_X7_volume (fu : Nat)  (σ : gSt) (x1 : Int32) (x2 : Int32) : Option (Int32 × gSt) :=
  if x1 < (97 : Int32) then (f_X7_volume_b53 fu  σ x1 x2) else (if (122 : Int32) < x1 then (f_X7_volume_b53 fu  σ x1 x2) else (if (σ 197 0 0) = 0 then (f_X7_volume_b39 fu  σ x1 x2) else (gd (inb ((σ 197 0 0) - (1 : Int32)) 4) (if ((x1 - (97 : Int32)) + (1 : Int32)) ≤ (σ 198 0 ((σ 197 0 0) - (1 : Int32)).toNatClampNeg) then (f_X7_volume_b53 fu  σ x1 x2) else (f_X7_volume_b39 fu  σ x1 x2)))))
set_option maxRecDepth 100000 in
theorem t_X7_volume {fu : Nat}  {r : Int32 × gSt} (hC : gCx p s m args meth c cX7_volume 4 RX7 (some .int) E)  {σ : gSt} {x1 : Int32} {x2 : Int32}  (hf : f_X7_volume fu  σ x1 x2 = some r) : G p l e rm_X7_volume s m args below meth c 4 0 0 (MQ below (gQ E w 1 r) args s 0 0 (fun q => eB E ≤ q)) E w σ 0 [(0, .ref (eB E + 583)), (1, .int x1), (2, .int x2)] [] := by
  unfold f_X7_volume at hf
  refine G_iload_n (q := 1) hC dX7_volume_0 rfl rfl ?_
  refine G_bipush (q := 3) hC dX7_volume_1 rfl bp_97 ?_
  refine G_icmp_lt (tgt := 53) (q := 6) hC dX7_volume_3 (by decide) rfl (fun c0 => ?_) (fun c0 => ?_)
  · have hf := (if_pos c0).symm.trans hf
    exact t_X7_volume_b53 hC   hf
  · have hf := (if_neg c0).symm.trans hf
    refine G_iload_n (q := 7) hC dX7_volume_6 rfl rfl ?_
    refine G_bipush (q := 9) hC dX7_volume_7 rfl bp_122 ?_
    refine G_icmp_gt (tgt := 53) (q := 12) hC dX7_volume_9 (by decide) rfl (fun c1 => ?_) (fun c1 => ?_)
    · have hf := (if_pos c1).symm.trans hf
      exact t_X7_volume_b53 hC   hf
    · have hf := (if_neg c1).symm.trans hf
      refine G_aload_n (q := 13) hC dX7_volume_12 rfl rfl ?_
      refine gf_RX7_96 (q := 16) hC dX7_volume_13 rfl ?_
      refine G_if_eq (tgt := 39) (q := 19) hC dX7_volume_16 (by decide) rfl (fun c2 => ?_) (fun c2 => ?_)
      · have hf := (if_pos c2).symm.trans hf
        exact t_X7_volume_b39 hC   hf
      · have hf := (if_neg c2).symm.trans hf
        refine G_iload_n (q := 20) hC dX7_volume_19 rfl rfl ?_
        refine G_bipush (q := 22) hC dX7_volume_20 rfl bp_97 ?_
        refine G_isub (q := 23) hC dX7_volume_22 rfl ?_
        refine G_iconst (q := 24) hC dX7_volume_23 rfl ic_1 ?_
        refine G_iadd (q := 25) hC dX7_volume_24 rfl ?_
        refine G_aload_n (q := 26) hC dX7_volume_25 rfl rfl ?_
        refine gf_RX7_56 (q := 29) hC dX7_volume_26 rfl ?_
        refine G_aload_n (q := 30) hC dX7_volume_29 rfl rfl ?_
        refine gf_RX7_96 (q := 33) hC dX7_volume_30 rfl ?_
        refine G_iconst (q := 34) hC dX7_volume_33 rfl ic_1 ?_
        refine G_isub (q := 35) hC dX7_volume_34 rfl ?_
        obtain ⟨g1, hf⟩ := gd_ok hf
        refine G_iald (q := 36) hC dX7_volume_35 rfl (ok_198 g1) ?_
        refine G_icmp_le (tgt := 53) (q := 39) hC dX7_volume_36 (by decide) rfl (fun c3 => ?_) (fun c3 => ?_)
        · have hf := (if_pos c3).symm.trans hf
          exact t_X7_volume_b53 hC   hf
        · have hf := (if_neg c3).symm.trans hf
          exact t_X7_volume_b39 hC   hf

theorem m_X7_volume {l : Launch} {fu : Nat} {E : gE} {w : Nat → Int64} {σ : gSt} {x1 : Int32} {x2 : Int32} {r : Int32 × gSt}  (hf : f_X7_volume fu σ x1 x2 = some r) : gM l yX7_volume cX7_volume 4 (some .int) rm_X7_volume 1 E w σ [.ref (eB E + 583), .int x1, .int x2] r :=
  gM_of (by decide +kernel) (Nat.le_of_ble_eq_true rfl) (fun p e s m args below meth c hC => t_X7_volume hC  hf)
def f_X7_isAhead_b25 (fu : Nat)  (σ : gSt) (xs0 : Int32) : Option (Int32 × gSt) :=
  gd (b01 xs0) (some (xs0, σ))
set_option maxRecDepth 100000 in
theorem t_X7_isAhead_b25 {fu : Nat}  {r : Int32 × gSt} (hC : gCx p s m args meth c cX7_isAhead 4 RX7 (some .boolean) E)  {σ : gSt} {xs0 : Int32}  (hf : f_X7_isAhead_b25 fu  σ xs0 = some r) : G p l e rm_X7_isAhead s m args below meth c 4 0 0 (MQ below (gQ E w 1 r) args s 0 0 (fun q => eB E ≤ q)) E w σ 25 [] [.int xs0] := by
  unfold f_X7_isAhead_b25 at hf
  obtain ⟨g1, hf⟩ := gd_ok hf
  exact G_iret hC hf rfl (b01_narrow g1) dX7_isAhead_25

def f_X7_isAhead_b20 (fu : Nat)  (σ : gSt)  : Option (Int32 × gSt) :=
  f_X7_isAhead_b25 fu  σ (1 : Int32)
set_option maxRecDepth 100000 in
theorem t_X7_isAhead_b20 {fu : Nat}  {r : Int32 × gSt} (hC : gCx p s m args meth c cX7_isAhead 4 RX7 (some .boolean) E)  {σ : gSt}   (hf : f_X7_isAhead_b20 fu  σ  = some r) : G p l e rm_X7_isAhead s m args below meth c 4 0 0 (MQ below (gQ E w 1 r) args s 0 0 (fun q => eB E ≤ q)) E w σ 20 [] [] := by
  unfold f_X7_isAhead_b20 at hf
  refine G_iconst (q := 21) hC dX7_isAhead_20 rfl ic_1 ?_
  refine G_goto (tgt := 25) hC dX7_isAhead_21 (by decide) ?_
  exact t_X7_isAhead_b25 hC   hf

def f_X7_isAhead_b24 (fu : Nat)  (σ : gSt)  : Option (Int32 × gSt) :=
  f_X7_isAhead_b25 fu  σ (0 : Int32)
set_option maxRecDepth 100000 in
theorem t_X7_isAhead_b24 {fu : Nat}  {r : Int32 × gSt} (hC : gCx p s m args meth c cX7_isAhead 4 RX7 (some .boolean) E)  {σ : gSt}   (hf : f_X7_isAhead_b24 fu  σ  = some r) : G p l e rm_X7_isAhead s m args below meth c 4 0 0 (MQ below (gQ E w 1 r) args s 0 0 (fun q => eB E ≤ q)) E w σ 24 [] [] := by
  unfold f_X7_isAhead_b24 at hf
  refine G_iconst (q := 25) hC dX7_isAhead_24 rfl ic_0 ?_
  exact t_X7_isAhead_b25 hC   hf

def f_X7_isAhead (fu : Nat)  (σ : gSt) (x1 : Int32) (x2 : Int32) : Option (Int32 × gSt) :=
  bd (f_X7_order fu σ x1 x2) (fun v1 σ1 => if v1 < 0 then (f_X7_isAhead_b20 fu  σ1) else (if v1 = 0 then (if x2 ≤ x1 then (f_X7_isAhead_b24 fu  σ1) else (f_X7_isAhead_b20 fu  σ1)) else (f_X7_isAhead_b24 fu  σ1)))
set_option maxRecDepth 100000 in
theorem t_X7_isAhead {fu : Nat}  {r : Int32 × gSt} (hC : gCx p s m args meth c cX7_isAhead 4 RX7 (some .boolean) E)  {σ : gSt} {x1 : Int32} {x2 : Int32}  (hf : f_X7_isAhead fu  σ x1 x2 = some r) : G p l e rm_X7_isAhead s m args below meth c 4 0 0 (MQ below (gQ E w 1 r) args s 0 0 (fun q => eB E ≤ q)) E w σ 0 [(0, .ref (eB E + 583)), (1, .int x1), (2, .int x2)] [] := by
  unfold f_X7_isAhead at hf
  refine G_aload_n (q := 1) hC dX7_isAhead_0 rfl rfl ?_
  refine G_iload_n (q := 2) hC dX7_isAhead_1 rfl rfl ?_
  refine G_iload_n (q := 3) hC dX7_isAhead_2 rfl rfl ?_
  obtain ⟨v1, σ1, hm1, hf⟩ := bd_ok hf
  refine cl_RX7_126 (q := 6) hC dX7_isAhead_3 rfl (m_X7_order hm1) ⟨Nat.le_of_ble_eq_true rfl, Nat.le_of_ble_eq_true rfl⟩ (Nat.le_of_ble_eq_true rfl) ⟨Nat.le_of_ble_eq_true rfl, Nat.le_of_ble_eq_true rfl⟩ ?_
  refine G_istore_n (q := 7) (lv' := [(3, .int v1), (0, .ref (eB E + 583)), (1, .int x1), (2, .int x2)]) hC dX7_isAhead_6 rfl (by decide) rfl ?_
  refine G_iload_n (q := 8) hC dX7_isAhead_7 rfl rfl ?_
  refine G_if_lt (tgt := 20) (q := 11) hC dX7_isAhead_8 (by decide) rfl (fun c1 => ?_) (fun c1 => ?_)
  · have hf := (if_pos c1).symm.trans hf
    refine G_lv (lv' := []) [] rfl ?_
    exact t_X7_isAhead_b20 hC   hf
  · have hf := (if_neg c1).symm.trans hf
    refine G_iload_n (q := 12) hC dX7_isAhead_11 rfl rfl ?_
    refine G_if_ne (tgt := 24) (q := 15) hC dX7_isAhead_12 (by decide) rfl (fun c2 => ?_) (fun c2 => ?_)
    · have hf := (if_neg c2).symm.trans hf
      refine G_lv (lv' := []) [] rfl ?_
      exact t_X7_isAhead_b24 hC   hf
    · have hf := (if_pos c2).symm.trans hf
      refine G_iload_n (q := 16) hC dX7_isAhead_15 rfl rfl ?_
      refine G_iload_n (q := 17) hC dX7_isAhead_16 rfl rfl ?_
      refine G_icmp_ge (tgt := 24) (q := 20) hC dX7_isAhead_17 (by decide) rfl (fun c3 => ?_) (fun c3 => ?_)
      · have hf := (if_pos c3).symm.trans hf
        refine G_lv (lv' := []) [] rfl ?_
        exact t_X7_isAhead_b24 hC   hf
      · have hf := (if_neg c3).symm.trans hf
        refine G_lv (lv' := []) [] rfl ?_
        exact t_X7_isAhead_b20 hC   hf

theorem m_X7_isAhead {l : Launch} {fu : Nat} {E : gE} {w : Nat → Int64} {σ : gSt} {x1 : Int32} {x2 : Int32} {r : Int32 × gSt}  (hf : f_X7_isAhead fu σ x1 x2 = some r) : gM l yX7_isAhead cX7_isAhead 4 (some .boolean) rm_X7_isAhead 1 E w σ [.ref (eB E + 583), .int x1, .int x2] r :=
  gM_of (by decide +kernel) (Nat.le_of_ble_eq_true rfl) (fun p e s m args below meth c hC => t_X7_isAhead hC  hf)
def f_X7_columns_b113 (fu : Nat) (k72 : gSt → Int32 → Int32 → Int32 → Int32 → Int32 → Option (Int32 × gSt)) (σ : gSt) (x1 : Int32) (x2 : Int32) (x3 : Int32) (x5 : Int32) (xs0 : Int32) (xs1 : Int32) : Option (Int32 × gSt) :=
  k72 σ x1 x2 x3 (xs0 - xs1) (x5 + (1))
set_option maxRecDepth 100000 in
theorem t_X7_columns_b113 {fu : Nat} {k72 : gSt → Int32 → Int32 → Int32 → Int32 → Int32 → Option (Int32 × gSt)} {r : Int32 × gSt} (hC : gCx p s m args meth c cX7_columns 9 RX7 (some .int) E) (hk72 : ∀ (σ : gSt) (x1 : Int32) (x2 : Int32) (x3 : Int32) (x4 : Int32) (x5 : Int32), k72 σ x1 x2 x3 x4 x5 = some r → G p l e rm_X7_columns s m args below meth c 9 0 0 (MQ below (gQ E w 1 r) args s 0 0 (fun q => eB E ≤ q)) E w σ 72 [(0, .ref (eB E + 583)), (1, .int x1), (2, .int x2), (3, .int x3), (4, .int x4), (5, .int x5)] []) {σ : gSt} {x1 : Int32} {x2 : Int32} {x3 : Int32} {x5 : Int32} {xs0 : Int32} {xs1 : Int32}  (hf : f_X7_columns_b113 fu k72 σ x1 x2 x3 x5 xs0 xs1 = some r) : G p l e rm_X7_columns s m args below meth c 9 0 0 (MQ below (gQ E w 1 r) args s 0 0 (fun q => eB E ≤ q)) E w σ 113 [(0, .ref (eB E + 583)), (1, .int x1), (2, .int x2), (3, .int x3), (5, .int x5)] [.int xs1, .int xs0] := by
  unfold f_X7_columns_b113 at hf
  refine G_isub (q := 114) hC dX7_columns_113 rfl ?_
  refine G_istore (q := 116) (lv' := [(4, .int (xs0 - xs1)), (0, .ref (eB E + 583)), (1, .int x1), (2, .int x2), (3, .int x3), (5, .int x5)]) hC dX7_columns_114 rfl (by decide) rfl ?_
  refine G_iinc (q := 119) (n := 5) (lv' := [(5, .int (x5 + (1))), (4, .int (xs0 - xs1)), (0, .ref (eB E + 583)), (1, .int x1), (2, .int x2), (3, .int x3)]) hC dX7_columns_116 rfl rfl (ii_1 _) (by decide) rfl ?_
  refine G_goto (tgt := 72) hC dX7_columns_119 (by decide) ?_
  refine G_lv (lv' := [(0, .ref (eB E + 583)), (1, .int x1), (2, .int x2), (3, .int x3), (4, .int (xs0 - xs1)), (5, .int (x5 + (1)))]) [2, 3, 4, 5, 1, 0] rfl ?_
  exact hk72 _ _ _ _ _ _  hf

def f_X7_columns_b233 (fu : Nat) (k145 : gSt → Int32 → Int32 → Int32 → Int32 → Int32 → Int32 → Int32 → Option (Int32 × gSt)) (σ : gSt) (x1 : Int32) (x2 : Int32) (x3 : Int32) (x4 : Int32) (x5 : Int32) (x7 : Int32) (xs0 : Int32) (xs1 : Int32) : Option (Int32 × gSt) :=
  k145 σ x1 x2 x3 x4 x5 (xs0 + xs1) (x7 + (1))
set_option maxRecDepth 100000 in
theorem t_X7_columns_b233 {fu : Nat} {k145 : gSt → Int32 → Int32 → Int32 → Int32 → Int32 → Int32 → Int32 → Option (Int32 × gSt)} {r : Int32 × gSt} (hC : gCx p s m args meth c cX7_columns 9 RX7 (some .int) E) (hk145 : ∀ (σ : gSt) (x1 : Int32) (x2 : Int32) (x3 : Int32) (x4 : Int32) (x5 : Int32) (x6 : Int32) (x7 : Int32), k145 σ x1 x2 x3 x4 x5 x6 x7 = some r → G p l e rm_X7_columns s m args below meth c 9 0 0 (MQ below (gQ E w 1 r) args s 0 0 (fun q => eB E ≤ q)) E w σ 145 [(0, .ref (eB E + 583)), (1, .int x1), (2, .int x2), (3, .int x3), (4, .int x4), (5, .int x5), (6, .int x6), (7, .int x7)] []) {σ : gSt} {x1 : Int32} {x2 : Int32} {x3 : Int32} {x4 : Int32} {x5 : Int32} {x7 : Int32} {xs0 : Int32} {xs1 : Int32}  (hf : f_X7_columns_b233 fu k145 σ x1 x2 x3 x4 x5 x7 xs0 xs1 = some r) : G p l e rm_X7_columns s m args below meth c 9 0 0 (MQ below (gQ E w 1 r) args s 0 0 (fun q => eB E ≤ q)) E w σ 233 [(0, .ref (eB E + 583)), (1, .int x1), (2, .int x2), (3, .int x3), (4, .int x4), (5, .int x5), (7, .int x7)] [.int xs1, .int xs0] := by
  unfold f_X7_columns_b233 at hf
  refine G_iadd (q := 234) hC dX7_columns_233 rfl ?_
  refine G_istore (q := 236) (lv' := [(6, .int (xs0 + xs1)), (0, .ref (eB E + 583)), (1, .int x1), (2, .int x2), (3, .int x3), (4, .int x4), (5, .int x5), (7, .int x7)]) hC dX7_columns_234 rfl (by decide) rfl ?_
  refine G_iinc (q := 239) (n := 7) (lv' := [(7, .int (x7 + (1))), (6, .int (xs0 + xs1)), (0, .ref (eB E + 583)), (1, .int x1), (2, .int x2), (3, .int x3), (4, .int x4), (5, .int x5)]) hC dX7_columns_236 rfl rfl (ii_1 _) (by decide) rfl ?_
  refine G_goto (tgt := 145) hC dX7_columns_239 (by decide) ?_
  refine G_lv (lv' := [(0, .ref (eB E + 583)), (1, .int x1), (2, .int x2), (3, .int x3), (4, .int x4), (5, .int x5), (6, .int (xs0 + xs1)), (7, .int (x7 + (1)))]) [2, 3, 4, 5, 6, 7, 1, 0] rfl ?_
  exact hk145 _ _ _ _ _ _ _ _  hf

def f_X7_columns_b232 (fu : Nat) (k145 : gSt → Int32 → Int32 → Int32 → Int32 → Int32 → Int32 → Int32 → Option (Int32 × gSt)) (σ : gSt) (x1 : Int32) (x2 : Int32) (x3 : Int32) (x4 : Int32) (x5 : Int32) (x7 : Int32) (xs0 : Int32) : Option (Int32 × gSt) :=
  f_X7_columns_b233 fu k145 σ x1 x2 x3 x4 x5 x7 xs0 (0 : Int32)
set_option maxRecDepth 100000 in
theorem t_X7_columns_b232 {fu : Nat} {k145 : gSt → Int32 → Int32 → Int32 → Int32 → Int32 → Int32 → Int32 → Option (Int32 × gSt)} {r : Int32 × gSt} (hC : gCx p s m args meth c cX7_columns 9 RX7 (some .int) E) (hk145 : ∀ (σ : gSt) (x1 : Int32) (x2 : Int32) (x3 : Int32) (x4 : Int32) (x5 : Int32) (x6 : Int32) (x7 : Int32), k145 σ x1 x2 x3 x4 x5 x6 x7 = some r → G p l e rm_X7_columns s m args below meth c 9 0 0 (MQ below (gQ E w 1 r) args s 0 0 (fun q => eB E ≤ q)) E w σ 145 [(0, .ref (eB E + 583)), (1, .int x1), (2, .int x2), (3, .int x3), (4, .int x4), (5, .int x5), (6, .int x6), (7, .int x7)] []) {σ : gSt} {x1 : Int32} {x2 : Int32} {x3 : Int32} {x4 : Int32} {x5 : Int32} {x7 : Int32} {xs0 : Int32}  (hf : f_X7_columns_b232 fu k145 σ x1 x2 x3 x4 x5 x7 xs0 = some r) : G p l e rm_X7_columns s m args below meth c 9 0 0 (MQ below (gQ E w 1 r) args s 0 0 (fun q => eB E ≤ q)) E w σ 232 [(0, .ref (eB E + 583)), (1, .int x1), (2, .int x2), (3, .int x3), (4, .int x4), (5, .int x5), (7, .int x7)] [.int xs0] := by
  unfold f_X7_columns_b232 at hf
  refine G_iconst (q := 233) hC dX7_columns_232 rfl ic_0 ?_
  exact t_X7_columns_b233 hC hk145  hf

def f_X7_columns_b228 (fu : Nat) (k145 : gSt → Int32 → Int32 → Int32 → Int32 → Int32 → Int32 → Int32 → Option (Int32 × gSt)) (σ : gSt) (x1 : Int32) (x2 : Int32) (x3 : Int32) (x4 : Int32) (x5 : Int32) (x7 : Int32) (xs0 : Int32) : Option (Int32 × gSt) :=
  f_X7_columns_b233 fu k145 σ x1 x2 x3 x4 x5 x7 xs0 (1 : Int32)
set_option maxRecDepth 100000 in
theorem t_X7_columns_b228 {fu : Nat} {k145 : gSt → Int32 → Int32 → Int32 → Int32 → Int32 → Int32 → Int32 → Option (Int32 × gSt)} {r : Int32 × gSt} (hC : gCx p s m args meth c cX7_columns 9 RX7 (some .int) E) (hk145 : ∀ (σ : gSt) (x1 : Int32) (x2 : Int32) (x3 : Int32) (x4 : Int32) (x5 : Int32) (x6 : Int32) (x7 : Int32), k145 σ x1 x2 x3 x4 x5 x6 x7 = some r → G p l e rm_X7_columns s m args below meth c 9 0 0 (MQ below (gQ E w 1 r) args s 0 0 (fun q => eB E ≤ q)) E w σ 145 [(0, .ref (eB E + 583)), (1, .int x1), (2, .int x2), (3, .int x3), (4, .int x4), (5, .int x5), (6, .int x6), (7, .int x7)] []) {σ : gSt} {x1 : Int32} {x2 : Int32} {x3 : Int32} {x4 : Int32} {x5 : Int32} {x7 : Int32} {xs0 : Int32}  (hf : f_X7_columns_b228 fu k145 σ x1 x2 x3 x4 x5 x7 xs0 = some r) : G p l e rm_X7_columns s m args below meth c 9 0 0 (MQ below (gQ E w 1 r) args s 0 0 (fun q => eB E ≤ q)) E w σ 228 [(0, .ref (eB E + 583)), (1, .int x1), (2, .int x2), (3, .int x3), (4, .int x4), (5, .int x5), (7, .int x7)] [.int xs0] := by
  unfold f_X7_columns_b228 at hf
  refine G_iconst (q := 229) hC dX7_columns_228 rfl ic_1 ?_
  refine G_goto (tgt := 233) hC dX7_columns_229 (by decide) ?_
  exact t_X7_columns_b233 hC hk145  hf

def f_X7_columns_b194 (fu : Nat) (k145 : gSt → Int32 → Int32 → Int32 → Int32 → Int32 → Int32 → Int32 → Option (Int32 × gSt)) (σ : gSt) (x1 : Int32) (x2 : Int32) (x3 : Int32) (x4 : Int32) (x5 : Int32) (x6 : Int32) (x7 : Int32) (xs0 : Int32) : Option (Int32 × gSt) :=
  if x7 = x1 then (f_X7_columns_b232 fu k145 σ x1 x2 x3 x4 x5 x7 x6) else (if x5 < xs0 then (f_X7_columns_b228 fu k145 σ x1 x2 x3 x4 x5 x7 x6) else (if xs0 = x5 then (bd (f_X7_isAhead fu σ x7 x1) (fun v4 σ4 => if v4 = 0 then (f_X7_columns_b232 fu k145 σ4 x1 x2 x3 x4 x5 x7 x6) else (f_X7_columns_b228 fu k145 σ4 x1 x2 x3 x4 x5 x7 x6))) else (f_X7_columns_b232 fu k145 σ x1 x2 x3 x4 x5 x7 x6)))
set_option maxRecDepth 100000 in
theorem t_X7_columns_b194 {fu : Nat} {k145 : gSt → Int32 → Int32 → Int32 → Int32 → Int32 → Int32 → Int32 → Option (Int32 × gSt)} {r : Int32 × gSt} (hC : gCx p s m args meth c cX7_columns 9 RX7 (some .int) E) (hk145 : ∀ (σ : gSt) (x1 : Int32) (x2 : Int32) (x3 : Int32) (x4 : Int32) (x5 : Int32) (x6 : Int32) (x7 : Int32), k145 σ x1 x2 x3 x4 x5 x6 x7 = some r → G p l e rm_X7_columns s m args below meth c 9 0 0 (MQ below (gQ E w 1 r) args s 0 0 (fun q => eB E ≤ q)) E w σ 145 [(0, .ref (eB E + 583)), (1, .int x1), (2, .int x2), (3, .int x3), (4, .int x4), (5, .int x5), (6, .int x6), (7, .int x7)] []) {σ : gSt} {x1 : Int32} {x2 : Int32} {x3 : Int32} {x4 : Int32} {x5 : Int32} {x6 : Int32} {x7 : Int32} {xs0 : Int32}  (hf : f_X7_columns_b194 fu k145 σ x1 x2 x3 x4 x5 x6 x7 xs0 = some r) : G p l e rm_X7_columns s m args below meth c 9 0 0 (MQ below (gQ E w 1 r) args s 0 0 (fun q => eB E ≤ q)) E w σ 194 [(0, .ref (eB E + 583)), (1, .int x1), (2, .int x2), (3, .int x3), (4, .int x4), (5, .int x5), (6, .int x6), (7, .int x7)] [.int xs0] := by
  unfold f_X7_columns_b194 at hf
  refine G_istore (q := 196) (lv' := [(8, .int xs0), (0, .ref (eB E + 583)), (1, .int x1), (2, .int x2), (3, .int x3), (4, .int x4), (5, .int x5), (6, .int x6), (7, .int x7)]) hC dX7_columns_194 rfl (by decide) rfl ?_
  refine G_iload (q := 198) hC dX7_columns_196 rfl rfl ?_
  refine G_iload (q := 200) hC dX7_columns_198 rfl rfl ?_
  refine G_iload_n (q := 201) hC dX7_columns_200 rfl rfl ?_
  refine G_icmp_eq (tgt := 232) (q := 204) hC dX7_columns_201 (by decide) rfl (fun c0 => ?_) (fun c0 => ?_)
  · have hf := (if_pos c0).symm.trans hf
    refine G_lv (lv' := [(0, .ref (eB E + 583)), (1, .int x1), (2, .int x2), (3, .int x3), (4, .int x4), (5, .int x5), (7, .int x7)]) [1, 2, 3, 4, 5, 6, 8] rfl ?_
    exact t_X7_columns_b232 hC hk145  hf
  · have hf := (if_neg c0).symm.trans hf
    refine G_iload (q := 206) hC dX7_columns_204 rfl rfl ?_
    refine G_iload (q := 208) hC dX7_columns_206 rfl rfl ?_
    refine G_icmp_gt (tgt := 228) (q := 211) hC dX7_columns_208 (by decide) rfl (fun c1 => ?_) (fun c1 => ?_)
    · have hf := (if_pos c1).symm.trans hf
      refine G_lv (lv' := [(0, .ref (eB E + 583)), (1, .int x1), (2, .int x2), (3, .int x3), (4, .int x4), (5, .int x5), (7, .int x7)]) [1, 2, 3, 4, 5, 6, 8] rfl ?_
      exact t_X7_columns_b228 hC hk145  hf
    · have hf := (if_neg c1).symm.trans hf
      refine G_iload (q := 213) hC dX7_columns_211 rfl rfl ?_
      refine G_iload (q := 215) hC dX7_columns_213 rfl rfl ?_
      refine G_icmp_ne (tgt := 232) (q := 218) hC dX7_columns_215 (by decide) rfl (fun c2 => ?_) (fun c2 => ?_)
      · have hf := (if_neg c2).symm.trans hf
        refine G_lv (lv' := [(0, .ref (eB E + 583)), (1, .int x1), (2, .int x2), (3, .int x3), (4, .int x4), (5, .int x5), (7, .int x7)]) [1, 2, 3, 4, 5, 6, 8] rfl ?_
        exact t_X7_columns_b232 hC hk145  hf
      · have hf := (if_pos c2).symm.trans hf
        refine G_aload_n (q := 219) hC dX7_columns_218 rfl rfl ?_
        refine G_iload (q := 221) hC dX7_columns_219 rfl rfl ?_
        refine G_iload_n (q := 222) hC dX7_columns_221 rfl rfl ?_
        obtain ⟨v4, σ4, hm4, hf⟩ := bd_ok hf
        refine cl_RX7_132 (q := 225) hC dX7_columns_222 rfl (m_X7_isAhead hm4) ⟨Nat.le_of_ble_eq_true rfl, Nat.le_of_ble_eq_true rfl⟩ (Nat.le_of_ble_eq_true rfl) ⟨Nat.le_of_ble_eq_true rfl, Nat.le_of_ble_eq_true rfl⟩ ?_
        refine G_if_eq (tgt := 232) (q := 228) hC dX7_columns_225 (by decide) rfl (fun c4 => ?_) (fun c4 => ?_)
        · have hf := (if_pos c4).symm.trans hf
          refine G_lv (lv' := [(0, .ref (eB E + 583)), (1, .int x1), (2, .int x2), (3, .int x3), (4, .int x4), (5, .int x5), (7, .int x7)]) [1, 2, 3, 4, 5, 6, 8] rfl ?_
          exact t_X7_columns_b232 hC hk145  hf
        · have hf := (if_neg c4).symm.trans hf
          refine G_lv (lv' := [(0, .ref (eB E + 583)), (1, .int x1), (2, .int x2), (3, .int x3), (4, .int x4), (5, .int x5), (7, .int x7)]) [1, 2, 3, 4, 5, 6, 8] rfl ?_
          exact t_X7_columns_b228 hC hk145  hf

def f_X7_columns_b193 (fu : Nat) (k145 : gSt → Int32 → Int32 → Int32 → Int32 → Int32 → Int32 → Int32 → Option (Int32 × gSt)) (σ : gSt) (x1 : Int32) (x2 : Int32) (x3 : Int32) (x4 : Int32) (x5 : Int32) (x6 : Int32) (x7 : Int32) : Option (Int32 × gSt) :=
  f_X7_columns_b194 fu k145 σ x1 x2 x3 x4 x5 x6 x7 (-1 : Int32)
set_option maxRecDepth 100000 in
theorem t_X7_columns_b193 {fu : Nat} {k145 : gSt → Int32 → Int32 → Int32 → Int32 → Int32 → Int32 → Int32 → Option (Int32 × gSt)} {r : Int32 × gSt} (hC : gCx p s m args meth c cX7_columns 9 RX7 (some .int) E) (hk145 : ∀ (σ : gSt) (x1 : Int32) (x2 : Int32) (x3 : Int32) (x4 : Int32) (x5 : Int32) (x6 : Int32) (x7 : Int32), k145 σ x1 x2 x3 x4 x5 x6 x7 = some r → G p l e rm_X7_columns s m args below meth c 9 0 0 (MQ below (gQ E w 1 r) args s 0 0 (fun q => eB E ≤ q)) E w σ 145 [(0, .ref (eB E + 583)), (1, .int x1), (2, .int x2), (3, .int x3), (4, .int x4), (5, .int x5), (6, .int x6), (7, .int x7)] []) {σ : gSt} {x1 : Int32} {x2 : Int32} {x3 : Int32} {x4 : Int32} {x5 : Int32} {x6 : Int32} {x7 : Int32}  (hf : f_X7_columns_b193 fu k145 σ x1 x2 x3 x4 x5 x6 x7 = some r) : G p l e rm_X7_columns s m args below meth c 9 0 0 (MQ below (gQ E w 1 r) args s 0 0 (fun q => eB E ≤ q)) E w σ 193 [(0, .ref (eB E + 583)), (1, .int x1), (2, .int x2), (3, .int x3), (4, .int x4), (5, .int x5), (6, .int x6), (7, .int x7)] [] := by
  unfold f_X7_columns_b193 at hf
  refine G_iconst (q := 194) hC dX7_columns_193 rfl ic_m1 ?_
  exact t_X7_columns_b194 hC hk145  hf

def f_X7_columns_b278 (fu : Nat)  (σ : gSt) (xs0 : Int32) (xs1 : Int32) : Option (Int32 × gSt) :=
  some ((xs0 + xs1), σ)
set_option maxRecDepth 100000 in
theorem t_X7_columns_b278 {fu : Nat}  {r : Int32 × gSt} (hC : gCx p s m args meth c cX7_columns 9 RX7 (some .int) E)  {σ : gSt} {xs0 : Int32} {xs1 : Int32}  (hf : f_X7_columns_b278 fu  σ xs0 xs1 = some r) : G p l e rm_X7_columns s m args below meth c 9 0 0 (MQ below (gQ E w 1 r) args s 0 0 (fun q => eB E ≤ q)) E w σ 278 [] [.int xs1, .int xs0] := by
  unfold f_X7_columns_b278 at hf
  refine G_iadd (q := 279) hC dX7_columns_278 rfl ?_
  exact G_iret hC hf rfl rfl dX7_columns_279

def f_X7_columns_b277 (fu : Nat)  (σ : gSt) (xs0 : Int32) : Option (Int32 × gSt) :=
  f_X7_columns_b278 fu  σ xs0 (0 : Int32)
set_option maxRecDepth 100000 in
theorem t_X7_columns_b277 {fu : Nat}  {r : Int32 × gSt} (hC : gCx p s m args meth c cX7_columns 9 RX7 (some .int) E)  {σ : gSt} {xs0 : Int32}  (hf : f_X7_columns_b277 fu  σ xs0 = some r) : G p l e rm_X7_columns s m args below meth c 9 0 0 (MQ below (gQ E w 1 r) args s 0 0 (fun q => eB E ≤ q)) E w σ 277 [] [.int xs0] := by
  unfold f_X7_columns_b277 at hf
  refine G_iconst (q := 278) hC dX7_columns_277 rfl ic_0 ?_
  exact t_X7_columns_b278 hC   hf

def f_X7_columns_b145_B (fu : Nat) (k145 : gSt → Int32 → Int32 → Int32 → Int32 → Int32 → Int32 → Int32 → Option (Int32 × gSt)) (σ : gSt) (x1 : Int32) (x2 : Int32) (x3 : Int32) (x4 : Int32) (x5 : Int32) (x6 : Int32) (x7 : Int32) : Option (Int32 × gSt) :=
  if (σ 183 0 0) ≤ x7 then (gd (inb x2 4) (gd (inb x1 24) (gd (!decide (x3 = 0)) (gd (inb x1 24) (if (σ 185 0 x1.toNatClampNeg) ≤ 0 then (f_X7_columns_b277 fu  σ (((σ 199 0 x2.toNatClampNeg) * (σ 185 0 x1.toNatClampNeg)) / x3)) else (if x4 ≤ x6 then (f_X7_columns_b277 fu  σ (((σ 199 0 x2.toNatClampNeg) * (σ 185 0 x1.toNatClampNeg)) / x3)) else (f_X7_columns_b278 fu  σ (((σ 199 0 x2.toNatClampNeg) * (σ 185 0 x1.toNatClampNeg)) / x3) (1 : Int32)))))))) else (bd (f_X7_volumeOf fu σ x7) (fun v4 σ4 => if v4 = x2 then (gd (inb x7 24) (if (σ4 185 0 x7.toNatClampNeg) ≤ 0 then (f_X7_columns_b193 fu k145 σ4 x1 x2 x3 x4 x5 x6 x7) else (gd (inb x2 4) (gd (inb x7 24) (gd (!decide (x3 = 0)) (f_X7_columns_b194 fu k145 σ4 x1 x2 x3 x4 x5 x6 x7 (((σ4 199 0 x2.toNatClampNeg) * (σ4 185 0 x7.toNatClampNeg)) - (((σ4 199 0 x2.toNatClampNeg) * (σ4 185 0 x7.toNatClampNeg)) / x3) * x3))))))) else (f_X7_columns_b193 fu k145 σ4 x1 x2 x3 x4 x5 x6 x7)))
def f_X7_columns_b145 (fu : Nat)  : Nat → gSt → Int32 → Int32 → Int32 → Int32 → Int32 → Int32 → Int32 → Option (Int32 × gSt)
  | 0 => fun _ _ _ _ _ _ _ _ => none
  | n + 1 => f_X7_columns_b145_B fu  (f_X7_columns_b145 fu  n)
set_option maxRecDepth 100000 in
theorem t_X7_columns_b145_B {fu : Nat} {k145 : gSt → Int32 → Int32 → Int32 → Int32 → Int32 → Int32 → Int32 → Option (Int32 × gSt)} {r : Int32 × gSt} (hC : gCx p s m args meth c cX7_columns 9 RX7 (some .int) E) (hk145 : ∀ (σ : gSt) (x1 : Int32) (x2 : Int32) (x3 : Int32) (x4 : Int32) (x5 : Int32) (x6 : Int32) (x7 : Int32), k145 σ x1 x2 x3 x4 x5 x6 x7 = some r → G p l e rm_X7_columns s m args below meth c 9 0 0 (MQ below (gQ E w 1 r) args s 0 0 (fun q => eB E ≤ q)) E w σ 145 [(0, .ref (eB E + 583)), (1, .int x1), (2, .int x2), (3, .int x3), (4, .int x4), (5, .int x5), (6, .int x6), (7, .int x7)] []) {σ : gSt} {x1 : Int32} {x2 : Int32} {x3 : Int32} {x4 : Int32} {x5 : Int32} {x6 : Int32} {x7 : Int32}  (hf : f_X7_columns_b145_B fu k145 σ x1 x2 x3 x4 x5 x6 x7 = some r) : G p l e rm_X7_columns s m args below meth c 9 0 0 (MQ below (gQ E w 1 r) args s 0 0 (fun q => eB E ≤ q)) E w σ 145 [(0, .ref (eB E + 583)), (1, .int x1), (2, .int x2), (3, .int x3), (4, .int x4), (5, .int x5), (6, .int x6), (7, .int x7)] [] := by
  unfold f_X7_columns_b145_B at hf
  refine G_iload (q := 147) hC dX7_columns_145 rfl rfl ?_
  refine G_aload_n (q := 148) hC dX7_columns_147 rfl rfl ?_
  refine gf_RX7_78 (q := 151) hC dX7_columns_148 rfl ?_
  refine G_icmp_ge (tgt := 242) (q := 154) hC dX7_columns_151 (by decide) rfl (fun c0 => ?_) (fun c0 => ?_)
  · have hf := (if_pos c0).symm.trans hf
    refine G_aload_n (q := 243) hC dX7_columns_242 rfl rfl ?_
    refine gf_RX7_59 (q := 246) hC dX7_columns_243 rfl ?_
    refine G_iload_n (q := 247) hC dX7_columns_246 rfl rfl ?_
    obtain ⟨g1, hf⟩ := gd_ok hf
    refine G_iald (q := 248) hC dX7_columns_247 rfl (ok_199 g1) ?_
    refine G_aload_n (q := 249) hC dX7_columns_248 rfl rfl ?_
    refine gf_RX7_19 (q := 252) hC dX7_columns_249 rfl ?_
    refine G_iload_n (q := 253) hC dX7_columns_252 rfl rfl ?_
    obtain ⟨g2, hf⟩ := gd_ok hf
    refine G_iald (q := 254) hC dX7_columns_253 rfl (ok_185 g2) ?_
    refine G_imul (q := 255) hC dX7_columns_254 rfl ?_
    refine G_iload_n (q := 256) hC dX7_columns_255 rfl rfl ?_
    obtain ⟨g3, hf⟩ := gd_ok hf
    refine G_idiv (q := 257) hC dX7_columns_256 rfl (by simpa using g3) ?_
    refine G_aload_n (q := 258) hC dX7_columns_257 rfl rfl ?_
    refine gf_RX7_19 (q := 261) hC dX7_columns_258 rfl ?_
    refine G_iload_n (q := 262) hC dX7_columns_261 rfl rfl ?_
    obtain ⟨g4, hf⟩ := gd_ok hf
    refine G_iald (q := 263) hC dX7_columns_262 rfl (ok_185 g4) ?_
    refine G_if_le (tgt := 277) (q := 266) hC dX7_columns_263 (by decide) rfl (fun c1 => ?_) (fun c1 => ?_)
    · have hf := (if_pos c1).symm.trans hf
      refine G_lv (lv' := []) [] rfl ?_
      exact t_X7_columns_b277 hC   hf
    · have hf := (if_neg c1).symm.trans hf
      refine G_iload (q := 268) hC dX7_columns_266 rfl rfl ?_
      refine G_iload (q := 270) hC dX7_columns_268 rfl rfl ?_
      refine G_icmp_ge (tgt := 277) (q := 273) hC dX7_columns_270 (by decide) rfl (fun c2 => ?_) (fun c2 => ?_)
      · have hf := (if_pos c2).symm.trans hf
        refine G_lv (lv' := []) [] rfl ?_
        exact t_X7_columns_b277 hC   hf
      · have hf := (if_neg c2).symm.trans hf
        refine G_iconst (q := 274) hC dX7_columns_273 rfl ic_1 ?_
        refine G_goto (tgt := 278) hC dX7_columns_274 (by decide) ?_
        refine G_lv (lv' := []) [] rfl ?_
        exact t_X7_columns_b278 hC   hf
  · have hf := (if_neg c0).symm.trans hf
    refine G_aload_n (q := 155) hC dX7_columns_154 rfl rfl ?_
    refine G_iload (q := 157) hC dX7_columns_155 rfl rfl ?_
    obtain ⟨v4, σ4, hm4, hf⟩ := bd_ok hf
    refine cl_RX7_129 (q := 160) hC dX7_columns_157 rfl (m_X7_volumeOf hm4) ⟨Nat.le_of_ble_eq_true rfl, Nat.le_of_ble_eq_true rfl⟩ (Nat.le_of_ble_eq_true rfl) ⟨Nat.le_of_ble_eq_true rfl, Nat.le_of_ble_eq_true rfl⟩ ?_
    refine G_iload_n (q := 161) hC dX7_columns_160 rfl rfl ?_
    refine G_icmp_ne (tgt := 193) (q := 164) hC dX7_columns_161 (by decide) rfl (fun c4 => ?_) (fun c4 => ?_)
    · have hf := (if_neg c4).symm.trans hf
      exact t_X7_columns_b193 hC hk145  hf
    · have hf := (if_pos c4).symm.trans hf
      refine G_aload_n (q := 165) hC dX7_columns_164 rfl rfl ?_
      refine gf_RX7_19 (q := 168) hC dX7_columns_165 rfl ?_
      refine G_iload (q := 170) hC dX7_columns_168 rfl rfl ?_
      obtain ⟨g5, hf⟩ := gd_ok hf
      refine G_iald (q := 171) hC dX7_columns_170 rfl (ok_185 g5) ?_
      refine G_if_le (tgt := 193) (q := 174) hC dX7_columns_171 (by decide) rfl (fun c5 => ?_) (fun c5 => ?_)
      · have hf := (if_pos c5).symm.trans hf
        exact t_X7_columns_b193 hC hk145  hf
      · have hf := (if_neg c5).symm.trans hf
        refine G_aload_n (q := 175) hC dX7_columns_174 rfl rfl ?_
        refine gf_RX7_59 (q := 178) hC dX7_columns_175 rfl ?_
        refine G_iload_n (q := 179) hC dX7_columns_178 rfl rfl ?_
        obtain ⟨g6, hf⟩ := gd_ok hf
        refine G_iald (q := 180) hC dX7_columns_179 rfl (ok_199 g6) ?_
        refine G_aload_n (q := 181) hC dX7_columns_180 rfl rfl ?_
        refine gf_RX7_19 (q := 184) hC dX7_columns_181 rfl ?_
        refine G_iload (q := 186) hC dX7_columns_184 rfl rfl ?_
        obtain ⟨g7, hf⟩ := gd_ok hf
        refine G_iald (q := 187) hC dX7_columns_186 rfl (ok_185 g7) ?_
        refine G_imul (q := 188) hC dX7_columns_187 rfl ?_
        refine G_iload_n (q := 189) hC dX7_columns_188 rfl rfl ?_
        obtain ⟨g8, hf⟩ := gd_ok hf
        refine G_irem (q := 190) hC dX7_columns_189 rfl (by simpa using g8) ?_
        refine G_goto (tgt := 194) hC dX7_columns_190 (by decide) ?_
        exact t_X7_columns_b194 hC hk145  hf

theorem t_X7_columns_b145 {fu : Nat}  {r : Int32 × gSt} (hC : gCx p s m args meth c cX7_columns 9 RX7 (some .int) E)  (n : Nat) : ∀ (σ : gSt) (x1 : Int32) (x2 : Int32) (x3 : Int32) (x4 : Int32) (x5 : Int32) (x6 : Int32) (x7 : Int32), f_X7_columns_b145 fu  n σ x1 x2 x3 x4 x5 x6 x7 = some r → G p l e rm_X7_columns s m args below meth c 9 0 0 (MQ below (gQ E w 1 r) args s 0 0 (fun q => eB E ≤ q)) E w σ 145 [(0, .ref (eB E + 583)), (1, .int x1), (2, .int x2), (3, .int x3), (4, .int x4), (5, .int x5), (6, .int x6), (7, .int x7)] [] := by
  induction n with
  | zero => intro σ x1 x2 x3 x4 x5 x6 x7  hf; cases hf
  | succ n ih => intro σ x1 x2 x3 x4 x5 x6 x7  hf; exact t_X7_columns_b145_B hC  ih  hf
def f_X7_columns_b72_B (fu : Nat) (k72 : gSt → Int32 → Int32 → Int32 → Int32 → Int32 → Option (Int32 × gSt)) (σ : gSt) (x1 : Int32) (x2 : Int32) (x3 : Int32) (x4 : Int32) (x5 : Int32) : Option (Int32 × gSt) :=
  if (σ 183 0 0) ≤ x5 then (gd (inb x2 4) (gd (inb x1 24) (gd (!decide (x3 = 0)) (f_X7_columns_b145 fu  fu σ x1 x2 x3 x4 (((σ 199 0 x2.toNatClampNeg) * (σ 185 0 x1.toNatClampNeg)) - (((σ 199 0 x2.toNatClampNeg) * (σ 185 0 x1.toNatClampNeg)) / x3) * x3) (0 : Int32) (0 : Int32))))) else (bd (f_X7_volumeOf fu σ x5) (fun v2 σ2 => if v2 = x2 then (gd (inb x2 4) (gd (inb x5 24) (gd (!decide (x3 = 0)) (f_X7_columns_b113 fu k72 σ2 x1 x2 x3 x5 x4 (((σ2 199 0 x2.toNatClampNeg) * (σ2 185 0 x5.toNatClampNeg)) / x3))))) else (f_X7_columns_b113 fu k72 σ2 x1 x2 x3 x5 x4 (0 : Int32))))
def f_X7_columns_b72 (fu : Nat)  : Nat → gSt → Int32 → Int32 → Int32 → Int32 → Int32 → Option (Int32 × gSt)
  | 0 => fun _ _ _ _ _ _ => none
  | n + 1 => f_X7_columns_b72_B fu  (f_X7_columns_b72 fu  n)
set_option maxRecDepth 100000 in
theorem t_X7_columns_b72_B {fu : Nat} {k72 : gSt → Int32 → Int32 → Int32 → Int32 → Int32 → Option (Int32 × gSt)} {r : Int32 × gSt} (hC : gCx p s m args meth c cX7_columns 9 RX7 (some .int) E) (hk72 : ∀ (σ : gSt) (x1 : Int32) (x2 : Int32) (x3 : Int32) (x4 : Int32) (x5 : Int32), k72 σ x1 x2 x3 x4 x5 = some r → G p l e rm_X7_columns s m args below meth c 9 0 0 (MQ below (gQ E w 1 r) args s 0 0 (fun q => eB E ≤ q)) E w σ 72 [(0, .ref (eB E + 583)), (1, .int x1), (2, .int x2), (3, .int x3), (4, .int x4), (5, .int x5)] []) {σ : gSt} {x1 : Int32} {x2 : Int32} {x3 : Int32} {x4 : Int32} {x5 : Int32}  (hf : f_X7_columns_b72_B fu k72 σ x1 x2 x3 x4 x5 = some r) : G p l e rm_X7_columns s m args below meth c 9 0 0 (MQ below (gQ E w 1 r) args s 0 0 (fun q => eB E ≤ q)) E w σ 72 [(0, .ref (eB E + 583)), (1, .int x1), (2, .int x2), (3, .int x3), (4, .int x4), (5, .int x5)] [] := by
  unfold f_X7_columns_b72_B at hf
  refine G_iload (q := 74) hC dX7_columns_72 rfl rfl ?_
  refine G_aload_n (q := 75) hC dX7_columns_74 rfl rfl ?_
  refine gf_RX7_78 (q := 78) hC dX7_columns_75 rfl ?_
  refine G_icmp_ge (tgt := 122) (q := 81) hC dX7_columns_78 (by decide) rfl (fun c0 => ?_) (fun c0 => ?_)
  · have hf := (if_pos c0).symm.trans hf
    refine G_aload_n (q := 123) hC dX7_columns_122 rfl rfl ?_
    refine gf_RX7_59 (q := 126) hC dX7_columns_123 rfl ?_
    refine G_iload_n (q := 127) hC dX7_columns_126 rfl rfl ?_
    obtain ⟨g1, hf⟩ := gd_ok hf
    refine G_iald (q := 128) hC dX7_columns_127 rfl (ok_199 g1) ?_
    refine G_aload_n (q := 129) hC dX7_columns_128 rfl rfl ?_
    refine gf_RX7_19 (q := 132) hC dX7_columns_129 rfl ?_
    refine G_iload_n (q := 133) hC dX7_columns_132 rfl rfl ?_
    obtain ⟨g2, hf⟩ := gd_ok hf
    refine G_iald (q := 134) hC dX7_columns_133 rfl (ok_185 g2) ?_
    refine G_imul (q := 135) hC dX7_columns_134 rfl ?_
    refine G_iload_n (q := 136) hC dX7_columns_135 rfl rfl ?_
    obtain ⟨g3, hf⟩ := gd_ok hf
    refine G_irem (q := 137) hC dX7_columns_136 rfl (by simpa using g3) ?_
    refine G_istore (q := 139) (lv' := [(5, .int (((σ 199 0 x2.toNatClampNeg) * (σ 185 0 x1.toNatClampNeg)) - (((σ 199 0 x2.toNatClampNeg) * (σ 185 0 x1.toNatClampNeg)) / x3) * x3)), (0, .ref (eB E + 583)), (1, .int x1), (2, .int x2), (3, .int x3), (4, .int x4)]) hC dX7_columns_137 rfl (by decide) rfl ?_
    refine G_iconst (q := 140) hC dX7_columns_139 rfl ic_0 ?_
    refine G_istore (q := 142) (lv' := [(6, .int (0 : Int32)), (5, .int (((σ 199 0 x2.toNatClampNeg) * (σ 185 0 x1.toNatClampNeg)) - (((σ 199 0 x2.toNatClampNeg) * (σ 185 0 x1.toNatClampNeg)) / x3) * x3)), (0, .ref (eB E + 583)), (1, .int x1), (2, .int x2), (3, .int x3), (4, .int x4)]) hC dX7_columns_140 rfl (by decide) rfl ?_
    refine G_iconst (q := 143) hC dX7_columns_142 rfl ic_0 ?_
    refine G_istore (q := 145) (lv' := [(7, .int (0 : Int32)), (6, .int (0 : Int32)), (5, .int (((σ 199 0 x2.toNatClampNeg) * (σ 185 0 x1.toNatClampNeg)) - (((σ 199 0 x2.toNatClampNeg) * (σ 185 0 x1.toNatClampNeg)) / x3) * x3)), (0, .ref (eB E + 583)), (1, .int x1), (2, .int x2), (3, .int x3), (4, .int x4)]) hC dX7_columns_143 rfl (by decide) rfl ?_
    refine G_lv (lv' := [(0, .ref (eB E + 583)), (1, .int x1), (2, .int x2), (3, .int x3), (4, .int x4), (5, .int (((σ 199 0 x2.toNatClampNeg) * (σ 185 0 x1.toNatClampNeg)) - (((σ 199 0 x2.toNatClampNeg) * (σ 185 0 x1.toNatClampNeg)) / x3) * x3)), (6, .int (0 : Int32)), (7, .int (0 : Int32))]) [3, 4, 5, 6, 7, 2, 1, 0] rfl ?_
    exact t_X7_columns_b145 hC  fu _ _ _ _ _ _ _ _  hf
  · have hf := (if_neg c0).symm.trans hf
    refine G_iload (q := 83) hC dX7_columns_81 rfl rfl ?_
    refine G_aload_n (q := 84) hC dX7_columns_83 rfl rfl ?_
    refine G_iload (q := 86) hC dX7_columns_84 rfl rfl ?_
    obtain ⟨v2, σ2, hm2, hf⟩ := bd_ok hf
    refine cl_RX7_129 (q := 89) hC dX7_columns_86 rfl (m_X7_volumeOf hm2) ⟨Nat.le_of_ble_eq_true rfl, Nat.le_of_ble_eq_true rfl⟩ (Nat.le_of_ble_eq_true rfl) ⟨Nat.le_of_ble_eq_true rfl, Nat.le_of_ble_eq_true rfl⟩ ?_
    refine G_iload_n (q := 90) hC dX7_columns_89 rfl rfl ?_
    refine G_icmp_ne (tgt := 112) (q := 93) hC dX7_columns_90 (by decide) rfl (fun c2 => ?_) (fun c2 => ?_)
    · have hf := (if_neg c2).symm.trans hf
      refine G_iconst (q := 113) hC dX7_columns_112 rfl ic_0 ?_
      refine G_lv (lv' := [(0, .ref (eB E + 583)), (1, .int x1), (2, .int x2), (3, .int x3), (5, .int x5)]) [0, 1, 2, 3, 5] rfl ?_
      exact t_X7_columns_b113 hC hk72  hf
    · have hf := (if_pos c2).symm.trans hf
      refine G_aload_n (q := 94) hC dX7_columns_93 rfl rfl ?_
      refine gf_RX7_59 (q := 97) hC dX7_columns_94 rfl ?_
      refine G_iload_n (q := 98) hC dX7_columns_97 rfl rfl ?_
      obtain ⟨g4, hf⟩ := gd_ok hf
      refine G_iald (q := 99) hC dX7_columns_98 rfl (ok_199 g4) ?_
      refine G_aload_n (q := 100) hC dX7_columns_99 rfl rfl ?_
      refine gf_RX7_19 (q := 103) hC dX7_columns_100 rfl ?_
      refine G_iload (q := 105) hC dX7_columns_103 rfl rfl ?_
      obtain ⟨g5, hf⟩ := gd_ok hf
      refine G_iald (q := 106) hC dX7_columns_105 rfl (ok_185 g5) ?_
      refine G_imul (q := 107) hC dX7_columns_106 rfl ?_
      refine G_iload_n (q := 108) hC dX7_columns_107 rfl rfl ?_
      obtain ⟨g6, hf⟩ := gd_ok hf
      refine G_idiv (q := 109) hC dX7_columns_108 rfl (by simpa using g6) ?_
      refine G_goto (tgt := 113) hC dX7_columns_109 (by decide) ?_
      refine G_lv (lv' := [(0, .ref (eB E + 583)), (1, .int x1), (2, .int x2), (3, .int x3), (5, .int x5)]) [0, 1, 2, 3, 5] rfl ?_
      exact t_X7_columns_b113 hC hk72  hf

theorem t_X7_columns_b72 {fu : Nat}  {r : Int32 × gSt} (hC : gCx p s m args meth c cX7_columns 9 RX7 (some .int) E)  (n : Nat) : ∀ (σ : gSt) (x1 : Int32) (x2 : Int32) (x3 : Int32) (x4 : Int32) (x5 : Int32), f_X7_columns_b72 fu  n σ x1 x2 x3 x4 x5 = some r → G p l e rm_X7_columns s m args below meth c 9 0 0 (MQ below (gQ E w 1 r) args s 0 0 (fun q => eB E ≤ q)) E w σ 72 [(0, .ref (eB E + 583)), (1, .int x1), (2, .int x2), (3, .int x3), (4, .int x4), (5, .int x5)] [] := by
  induction n with
  | zero => intro σ x1 x2 x3 x4 x5  hf; cases hf
  | succ n ih => intro σ x1 x2 x3 x4 x5  hf; exact t_X7_columns_b72_B hC  ih  hf
def f_X7_columns_b55 (fu : Nat)  (σ : gSt) (x1 : Int32) (x2 : Int32) (x3 : Int32) : Option (Int32 × gSt) :=
  if x3 = 0 then (some ((0 : Int32), σ)) else (gd (inb x2 4) (f_X7_columns_b72 fu  fu σ x1 x2 x3 (σ 199 0 x2.toNatClampNeg) (0 : Int32)))
set_option maxRecDepth 100000 in
theorem t_X7_columns_b55 {fu : Nat}  {r : Int32 × gSt} (hC : gCx p s m args meth c cX7_columns 9 RX7 (some .int) E)  {σ : gSt} {x1 : Int32} {x2 : Int32} {x3 : Int32}  (hf : f_X7_columns_b55 fu  σ x1 x2 x3 = some r) : G p l e rm_X7_columns s m args below meth c 9 0 0 (MQ below (gQ E w 1 r) args s 0 0 (fun q => eB E ≤ q)) E w σ 55 [(0, .ref (eB E + 583)), (1, .int x1), (2, .int x2), (3, .int x3)] [] := by
  unfold f_X7_columns_b55 at hf
  refine G_iload_n (q := 56) hC dX7_columns_55 rfl rfl ?_
  refine G_if_ne (tgt := 61) (q := 59) hC dX7_columns_56 (by decide) rfl (fun c0 => ?_) (fun c0 => ?_)
  · have hf := (if_neg c0).symm.trans hf
    refine G_aload_n (q := 62) hC dX7_columns_61 rfl rfl ?_
    refine gf_RX7_59 (q := 65) hC dX7_columns_62 rfl ?_
    refine G_iload_n (q := 66) hC dX7_columns_65 rfl rfl ?_
    obtain ⟨g1, hf⟩ := gd_ok hf
    refine G_iald (q := 67) hC dX7_columns_66 rfl (ok_199 g1) ?_
    refine G_istore (q := 69) (lv' := [(4, .int (σ 199 0 x2.toNatClampNeg)), (0, .ref (eB E + 583)), (1, .int x1), (2, .int x2), (3, .int x3)]) hC dX7_columns_67 rfl (by decide) rfl ?_
    refine G_iconst (q := 70) hC dX7_columns_69 rfl ic_0 ?_
    refine G_istore (q := 72) (lv' := [(5, .int (0 : Int32)), (4, .int (σ 199 0 x2.toNatClampNeg)), (0, .ref (eB E + 583)), (1, .int x1), (2, .int x2), (3, .int x3)]) hC dX7_columns_70 rfl (by decide) rfl ?_
    refine G_lv (lv' := [(0, .ref (eB E + 583)), (1, .int x1), (2, .int x2), (3, .int x3), (4, .int (σ 199 0 x2.toNatClampNeg)), (5, .int (0 : Int32))]) [2, 3, 4, 5, 1, 0] rfl ?_
    exact t_X7_columns_b72 hC  fu _ _ _ _ _ _  hf
  · have hf := (if_pos c0).symm.trans hf
    refine G_iconst (q := 60) hC dX7_columns_59 rfl ic_0 ?_
    exact G_iret hC hf rfl rfl dX7_columns_60

def f_X7_columns_b47 (fu : Nat) (k11 : gSt → Int32 → Int32 → Int32 → Int32 → Option (Int32 × gSt)) (σ : gSt) (x1 : Int32) (x2 : Int32) (x4 : Int32) (xs0 : Int32) (xs1 : Int32) : Option (Int32 × gSt) :=
  k11 σ x1 x2 (xs0 + xs1) (x4 + (1))
set_option maxRecDepth 100000 in
theorem t_X7_columns_b47 {fu : Nat} {k11 : gSt → Int32 → Int32 → Int32 → Int32 → Option (Int32 × gSt)} {r : Int32 × gSt} (hC : gCx p s m args meth c cX7_columns 9 RX7 (some .int) E) (hk11 : ∀ (σ : gSt) (x1 : Int32) (x2 : Int32) (x3 : Int32) (x4 : Int32), k11 σ x1 x2 x3 x4 = some r → G p l e rm_X7_columns s m args below meth c 9 0 0 (MQ below (gQ E w 1 r) args s 0 0 (fun q => eB E ≤ q)) E w σ 11 [(0, .ref (eB E + 583)), (1, .int x1), (2, .int x2), (3, .int x3), (4, .int x4)] []) {σ : gSt} {x1 : Int32} {x2 : Int32} {x4 : Int32} {xs0 : Int32} {xs1 : Int32}  (hf : f_X7_columns_b47 fu k11 σ x1 x2 x4 xs0 xs1 = some r) : G p l e rm_X7_columns s m args below meth c 9 0 0 (MQ below (gQ E w 1 r) args s 0 0 (fun q => eB E ≤ q)) E w σ 47 [(0, .ref (eB E + 583)), (1, .int x1), (2, .int x2), (4, .int x4)] [.int xs1, .int xs0] := by
  unfold f_X7_columns_b47 at hf
  refine G_iadd (q := 48) hC dX7_columns_47 rfl ?_
  refine G_istore_n (q := 49) (lv' := [(3, .int (xs0 + xs1)), (0, .ref (eB E + 583)), (1, .int x1), (2, .int x2), (4, .int x4)]) hC dX7_columns_48 rfl (by decide) rfl ?_
  refine G_iinc (q := 52) (n := 4) (lv' := [(4, .int (x4 + (1))), (3, .int (xs0 + xs1)), (0, .ref (eB E + 583)), (1, .int x1), (2, .int x2)]) hC dX7_columns_49 rfl rfl (ii_1 _) (by decide) rfl ?_
  refine G_goto (tgt := 11) hC dX7_columns_52 (by decide) ?_
  refine G_lv (lv' := [(0, .ref (eB E + 583)), (1, .int x1), (2, .int x2), (3, .int (xs0 + xs1)), (4, .int (x4 + (1)))]) [2, 3, 4, 1, 0] rfl ?_
  exact hk11 _ _ _ _ _  hf

def f_X7_columns_b11_B (fu : Nat) (k11 : gSt → Int32 → Int32 → Int32 → Int32 → Option (Int32 × gSt)) (σ : gSt) (x1 : Int32) (x2 : Int32) (x3 : Int32) (x4 : Int32) : Option (Int32 × gSt) :=
  if (σ 183 0 0) ≤ x4 then (f_X7_columns_b55 fu  σ x1 x2 x3) else (if x2 = (-1 : Int32) then (f_X7_columns_b55 fu  σ x1 x2 x3) else (bd (f_X7_volumeOf fu σ x4) (fun v3 σ3 => if v3 = x2 then (gd (inb x4 24) (f_X7_columns_b47 fu k11 σ3 x1 x2 x4 x3 (σ3 185 0 x4.toNatClampNeg))) else (f_X7_columns_b47 fu k11 σ3 x1 x2 x4 x3 (0 : Int32)))))
def f_X7_columns_b11 (fu : Nat)  : Nat → gSt → Int32 → Int32 → Int32 → Int32 → Option (Int32 × gSt)
  | 0 => fun _ _ _ _ _ => none
  | n + 1 => f_X7_columns_b11_B fu  (f_X7_columns_b11 fu  n)
set_option maxRecDepth 100000 in
theorem t_X7_columns_b11_B {fu : Nat} {k11 : gSt → Int32 → Int32 → Int32 → Int32 → Option (Int32 × gSt)} {r : Int32 × gSt} (hC : gCx p s m args meth c cX7_columns 9 RX7 (some .int) E) (hk11 : ∀ (σ : gSt) (x1 : Int32) (x2 : Int32) (x3 : Int32) (x4 : Int32), k11 σ x1 x2 x3 x4 = some r → G p l e rm_X7_columns s m args below meth c 9 0 0 (MQ below (gQ E w 1 r) args s 0 0 (fun q => eB E ≤ q)) E w σ 11 [(0, .ref (eB E + 583)), (1, .int x1), (2, .int x2), (3, .int x3), (4, .int x4)] []) {σ : gSt} {x1 : Int32} {x2 : Int32} {x3 : Int32} {x4 : Int32}  (hf : f_X7_columns_b11_B fu k11 σ x1 x2 x3 x4 = some r) : G p l e rm_X7_columns s m args below meth c 9 0 0 (MQ below (gQ E w 1 r) args s 0 0 (fun q => eB E ≤ q)) E w σ 11 [(0, .ref (eB E + 583)), (1, .int x1), (2, .int x2), (3, .int x3), (4, .int x4)] [] := by
  unfold f_X7_columns_b11_B at hf
  refine G_iload (q := 13) hC dX7_columns_11 rfl rfl ?_
  refine G_aload_n (q := 14) hC dX7_columns_13 rfl rfl ?_
  refine gf_RX7_78 (q := 17) hC dX7_columns_14 rfl ?_
  refine G_icmp_ge (tgt := 55) (q := 20) hC dX7_columns_17 (by decide) rfl (fun c0 => ?_) (fun c0 => ?_)
  · have hf := (if_pos c0).symm.trans hf
    refine G_lv (lv' := [(0, .ref (eB E + 583)), (1, .int x1), (2, .int x2), (3, .int x3)]) [0, 1, 2, 3] rfl ?_
    exact t_X7_columns_b55 hC   hf
  · have hf := (if_neg c0).symm.trans hf
    refine G_iload_n (q := 21) hC dX7_columns_20 rfl rfl ?_
    refine G_iconst (q := 22) hC dX7_columns_21 rfl ic_m1 ?_
    refine G_icmp_eq (tgt := 55) (q := 25) hC dX7_columns_22 (by decide) rfl (fun c1 => ?_) (fun c1 => ?_)
    · have hf := (if_pos c1).symm.trans hf
      refine G_lv (lv' := [(0, .ref (eB E + 583)), (1, .int x1), (2, .int x2), (3, .int x3)]) [0, 1, 2, 3] rfl ?_
      exact t_X7_columns_b55 hC   hf
    · have hf := (if_neg c1).symm.trans hf
      refine G_iload_n (q := 26) hC dX7_columns_25 rfl rfl ?_
      refine G_aload_n (q := 27) hC dX7_columns_26 rfl rfl ?_
      refine G_iload (q := 29) hC dX7_columns_27 rfl rfl ?_
      obtain ⟨v3, σ3, hm3, hf⟩ := bd_ok hf
      refine cl_RX7_129 (q := 32) hC dX7_columns_29 rfl (m_X7_volumeOf hm3) ⟨Nat.le_of_ble_eq_true rfl, Nat.le_of_ble_eq_true rfl⟩ (Nat.le_of_ble_eq_true rfl) ⟨Nat.le_of_ble_eq_true rfl, Nat.le_of_ble_eq_true rfl⟩ ?_
      refine G_iload_n (q := 33) hC dX7_columns_32 rfl rfl ?_
      refine G_icmp_ne (tgt := 46) (q := 36) hC dX7_columns_33 (by decide) rfl (fun c3 => ?_) (fun c3 => ?_)
      · have hf := (if_neg c3).symm.trans hf
        refine G_iconst (q := 47) hC dX7_columns_46 rfl ic_0 ?_
        refine G_lv (lv' := [(0, .ref (eB E + 583)), (1, .int x1), (2, .int x2), (4, .int x4)]) [0, 1, 2, 4] rfl ?_
        exact t_X7_columns_b47 hC hk11  hf
      · have hf := (if_pos c3).symm.trans hf
        refine G_aload_n (q := 37) hC dX7_columns_36 rfl rfl ?_
        refine gf_RX7_19 (q := 40) hC dX7_columns_37 rfl ?_
        refine G_iload (q := 42) hC dX7_columns_40 rfl rfl ?_
        obtain ⟨g1, hf⟩ := gd_ok hf
        refine G_iald (q := 43) hC dX7_columns_42 rfl (ok_185 g1) ?_
        refine G_goto (tgt := 47) hC dX7_columns_43 (by decide) ?_
        refine G_lv (lv' := [(0, .ref (eB E + 583)), (1, .int x1), (2, .int x2), (4, .int x4)]) [0, 1, 2, 4] rfl ?_
        exact t_X7_columns_b47 hC hk11  hf

theorem t_X7_columns_b11 {fu : Nat}  {r : Int32 × gSt} (hC : gCx p s m args meth c cX7_columns 9 RX7 (some .int) E)  (n : Nat) : ∀ (σ : gSt) (x1 : Int32) (x2 : Int32) (x3 : Int32) (x4 : Int32), f_X7_columns_b11 fu  n σ x1 x2 x3 x4 = some r → G p l e rm_X7_columns s m args below meth c 9 0 0 (MQ below (gQ E w 1 r) args s 0 0 (fun q => eB E ≤ q)) E w σ 11 [(0, .ref (eB E + 583)), (1, .int x1), (2, .int x2), (3, .int x3), (4, .int x4)] [] := by
  induction n with
  | zero => intro σ x1 x2 x3 x4  hf; cases hf
  | succ n ih => intro σ x1 x2 x3 x4  hf; exact t_X7_columns_b11_B hC  ih  hf
def f_X7_columns (fu : Nat)  (σ : gSt) (x1 : Int32) : Option (Int32 × gSt) :=
  bd (f_X7_volumeOf fu σ x1) (fun v1 σ1 => f_X7_columns_b11 fu  fu σ1 x1 v1 (0 : Int32) (0 : Int32))
set_option maxRecDepth 100000 in
theorem t_X7_columns {fu : Nat}  {r : Int32 × gSt} (hC : gCx p s m args meth c cX7_columns 9 RX7 (some .int) E)  {σ : gSt} {x1 : Int32}  (hf : f_X7_columns fu  σ x1 = some r) : G p l e rm_X7_columns s m args below meth c 9 0 0 (MQ below (gQ E w 1 r) args s 0 0 (fun q => eB E ≤ q)) E w σ 0 [(0, .ref (eB E + 583)), (1, .int x1)] [] := by
  unfold f_X7_columns at hf
  refine G_aload_n (q := 1) hC dX7_columns_0 rfl rfl ?_
  refine G_iload_n (q := 2) hC dX7_columns_1 rfl rfl ?_
  obtain ⟨v1, σ1, hm1, hf⟩ := bd_ok hf
  refine cl_RX7_129 (q := 5) hC dX7_columns_2 rfl (m_X7_volumeOf hm1) ⟨Nat.le_of_ble_eq_true rfl, Nat.le_of_ble_eq_true rfl⟩ (Nat.le_of_ble_eq_true rfl) ⟨Nat.le_of_ble_eq_true rfl, Nat.le_of_ble_eq_true rfl⟩ ?_
  refine G_istore_n (q := 6) (lv' := [(2, .int v1), (0, .ref (eB E + 583)), (1, .int x1)]) hC dX7_columns_5 rfl (by decide) rfl ?_
  refine G_iconst (q := 7) hC dX7_columns_6 rfl ic_0 ?_
  refine G_istore_n (q := 8) (lv' := [(3, .int (0 : Int32)), (2, .int v1), (0, .ref (eB E + 583)), (1, .int x1)]) hC dX7_columns_7 rfl (by decide) rfl ?_
  refine G_iconst (q := 9) hC dX7_columns_8 rfl ic_0 ?_
  refine G_istore (q := 11) (lv' := [(4, .int (0 : Int32)), (3, .int (0 : Int32)), (2, .int v1), (0, .ref (eB E + 583)), (1, .int x1)]) hC dX7_columns_9 rfl (by decide) rfl ?_
  refine G_lv (lv' := [(0, .ref (eB E + 583)), (1, .int x1), (2, .int v1), (3, .int (0 : Int32)), (4, .int (0 : Int32))]) [3, 4, 2, 1, 0] rfl ?_
  exact t_X7_columns_b11 hC  fu _ _ _ _ _  hf

theorem m_X7_columns {l : Launch} {fu : Nat} {E : gE} {w : Nat → Int64} {σ : gSt} {x1 : Int32} {r : Int32 × gSt}  (hf : f_X7_columns fu σ x1 = some r) : gM l yX7_columns cX7_columns 9 (some .int) rm_X7_columns 1 E w σ [.ref (eB E + 583), .int x1] r :=
  gM_of (by decide +kernel) (Nat.le_of_ble_eq_true rfl) (fun p e s m args below meth c hC => t_X7_columns hC  hf)
def f_X7_contributor_b29 (fu : Nat)  (σ : gSt) (x1 : Int32) (xs1 : Int32) : Option (Int32 × gSt) :=
  bd (f_X7_goes fu σ xs1) (fun v1 σ1 => if v1 = 0 then (some ((0 : Int32), σ1)) else (gd (inb (σ1 201 0 0) 6) (some ((((gU (gU σ1 202 0 (σ1 201 0 0).toNatClampNeg x1) 201 0 0 (((gU σ1 202 0 (σ1 201 0 0).toNatClampNeg x1) 201 0 0) + (1 : Int32))) 201 0 0) - (1 : Int32)), (gU (gU σ1 202 0 (σ1 201 0 0).toNatClampNeg x1) 201 0 0 (((gU σ1 202 0 (σ1 201 0 0).toNatClampNeg x1) 201 0 0) + (1 : Int32)))))))
set_option maxRecDepth 100000 in
theorem t_X7_contributor_b29 {fu : Nat}  {r : Int32 × gSt} (hC : gCx p s m args meth c cX7_contributor 2 RX7 (some .int) E)  {σ : gSt} {x1 : Int32} {xs1 : Int32}  (hf : f_X7_contributor_b29 fu  σ x1 xs1 = some r) : G p l e rm_X7_contributor s m args below meth c 2 0 0 (MQ below (gQ E w 1 r) args s 0 0 (fun q => eB E ≤ q)) E w σ 29 [(0, .ref (eB E + 583)), (1, .int x1)] [.int xs1, .ref (eB E + 583)] := by
  unfold f_X7_contributor_b29 at hf
  obtain ⟨v1, σ1, hm1, hf⟩ := bd_ok hf
  refine cl_RX7_103 (q := 32) hC dX7_contributor_29 rfl (m_X7_goes hm1) ⟨Nat.le_of_ble_eq_true rfl, Nat.le_of_ble_eq_true rfl⟩ (Nat.le_of_ble_eq_true rfl) ⟨Nat.le_of_ble_eq_true rfl, Nat.le_of_ble_eq_true rfl⟩ ?_
  refine G_if_ne (tgt := 37) (q := 35) hC dX7_contributor_32 (by decide) rfl (fun c1 => ?_) (fun c1 => ?_)
  · have hf := (if_neg c1).symm.trans hf
    refine G_aload_n (q := 38) hC dX7_contributor_37 rfl rfl ?_
    refine gf_RX7_62 (q := 41) hC dX7_contributor_38 rfl ?_
    refine G_aload_n (q := 42) hC dX7_contributor_41 rfl rfl ?_
    refine gf_RX7_85 (q := 45) hC dX7_contributor_42 rfl ?_
    refine G_iload_n (q := 46) hC dX7_contributor_45 rfl rfl ?_
    obtain ⟨g1, hf⟩ := gd_ok hf
    refine G_iast (q := 47) hC dX7_contributor_46 rfl (ok_202 g1) ?_
    refine G_aload_n (q := 48) hC dX7_contributor_47 rfl rfl ?_
    refine G_dup (q := 49) hC dX7_contributor_48 rfl rfl ?_
    refine gf_RX7_85 (q := 52) hC dX7_contributor_49 rfl ?_
    refine G_iconst (q := 53) hC dX7_contributor_52 rfl ic_1 ?_
    refine G_iadd (q := 54) hC dX7_contributor_53 rfl ?_
    refine pf_RX7_85 (q := 57) hC dX7_contributor_54 rfl ?_
    refine G_aload_n (q := 58) hC dX7_contributor_57 rfl rfl ?_
    refine gf_RX7_85 (q := 61) hC dX7_contributor_58 rfl ?_
    refine G_iconst (q := 62) hC dX7_contributor_61 rfl ic_1 ?_
    refine G_isub (q := 63) hC dX7_contributor_62 rfl ?_
    exact G_iret hC hf rfl rfl dX7_contributor_63
  · have hf := (if_pos c1).symm.trans hf
    refine G_iconst (q := 36) hC dX7_contributor_35 rfl ic_0 ?_
    exact G_iret hC hf rfl rfl dX7_contributor_36

def f_X7_contributor (fu : Nat)  (σ : gSt) (x1 : Int32) : Option (Int32 × gSt) :=
  bd (f_X7_isIn fu σ x1 (1 : Int32) (9 : Int32)) (fun v1 σ1 => if v1 = 0 then (f_X7_contributor_b29 fu  σ1 x1 (1 : Int32)) else (if (σ1 201 0 0) = (6 : Int32) then (f_X7_contributor_b29 fu  σ1 x1 (2 : Int32)) else (f_X7_contributor_b29 fu  σ1 x1 (0 : Int32))))
set_option maxRecDepth 100000 in
theorem t_X7_contributor {fu : Nat}  {r : Int32 × gSt} (hC : gCx p s m args meth c cX7_contributor 2 RX7 (some .int) E)  {σ : gSt} {x1 : Int32}  (hf : f_X7_contributor fu  σ x1 = some r) : G p l e rm_X7_contributor s m args below meth c 2 0 0 (MQ below (gQ E w 1 r) args s 0 0 (fun q => eB E ≤ q)) E w σ 0 [(0, .ref (eB E + 583)), (1, .int x1)] [] := by
  unfold f_X7_contributor at hf
  refine G_aload_n (q := 1) hC dX7_contributor_0 rfl rfl ?_
  refine G_iload_n (q := 2) hC dX7_contributor_1 rfl rfl ?_
  refine G_iconst (q := 3) hC dX7_contributor_2 rfl ic_1 ?_
  refine G_bipush (q := 5) hC dX7_contributor_3 rfl bp_9 ?_
  obtain ⟨v1, σ1, hm1, hf⟩ := bd_ok hf
  refine cl_RX7_81 (q := 8) hC dX7_contributor_5 rfl (m_X7_isIn hm1) ⟨Nat.le_of_ble_eq_true rfl, Nat.le_of_ble_eq_true rfl⟩ (Nat.le_of_ble_eq_true rfl) ⟨Nat.le_of_ble_eq_true rfl, Nat.le_of_ble_eq_true rfl⟩ ?_
  refine G_if_ne (tgt := 15) (q := 11) hC dX7_contributor_8 (by decide) rfl (fun c1 => ?_) (fun c1 => ?_)
  · have hf := (if_neg c1).symm.trans hf
    refine G_aload_n (q := 16) hC dX7_contributor_15 rfl rfl ?_
    refine gf_RX7_85 (q := 19) hC dX7_contributor_16 rfl ?_
    refine G_bipush (q := 21) hC dX7_contributor_19 rfl bp_6 ?_
    refine G_icmp_ne (tgt := 28) (q := 24) hC dX7_contributor_21 (by decide) rfl (fun c2 => ?_) (fun c2 => ?_)
    · have hf := (if_neg c2).symm.trans hf
      refine G_iconst (q := 29) hC dX7_contributor_28 rfl ic_0 ?_
      exact t_X7_contributor_b29 hC   hf
    · have hf := (if_pos c2).symm.trans hf
      refine G_iconst (q := 25) hC dX7_contributor_24 rfl ic_2 ?_
      refine G_goto (tgt := 29) hC dX7_contributor_25 (by decide) ?_
      exact t_X7_contributor_b29 hC   hf
  · have hf := (if_pos c1).symm.trans hf
    refine G_iconst (q := 12) hC dX7_contributor_11 rfl ic_1 ?_
    refine G_goto (tgt := 29) hC dX7_contributor_12 (by decide) ?_
    exact t_X7_contributor_b29 hC   hf

theorem m_X7_contributor {l : Launch} {fu : Nat} {E : gE} {w : Nat → Int64} {σ : gSt} {x1 : Int32} {r : Int32 × gSt}  (hf : f_X7_contributor fu σ x1 = some r) : gM l yX7_contributor cX7_contributor 2 (some .int) rm_X7_contributor 1 E w σ [.ref (eB E + 583), .int x1] r :=
  gM_of (by decide +kernel) (Nat.le_of_ble_eq_true rfl) (fun p e s m args below meth c hC => t_X7_contributor hC  hf)
def f_X7_quarrel_b41 (fu : Nat)  (σ : gSt) (x1 : Int32) (x2 : Int32) (xs1 : Int32) : Option (Int32 × gSt) :=
  bd (f_X7_goes fu σ xs1) (fun v1 σ1 => if v1 = 0 then (some ((0 : Int32), σ1)) else (gd (inb (((6 : Int32) * x1) + x2) 36) (gd (inb (((6 : Int32) * x1) + x2) 36) (gd (inb (((6 : Int32) * x2) + x1) 36) (gd (b01 (σ1 204 0 (((6 : Int32) * x1) + x2).toNatClampNeg)) (some ((σ1 204 0 (((6 : Int32) * x1) + x2).toNatClampNeg), (gU (gU σ1 204 0 (((6 : Int32) * x1) + x2).toNatClampNeg (1 : Int32)) 204 0 (((6 : Int32) * x2) + x1).toNatClampNeg (1 : Int32)))))))))
set_option maxRecDepth 100000 in
theorem t_X7_quarrel_b41 {fu : Nat}  {r : Int32 × gSt} (hC : gCx p s m args meth c cX7_quarrel 5 RX7 (some .boolean) E)  {σ : gSt} {x1 : Int32} {x2 : Int32} {xs1 : Int32}  (hf : f_X7_quarrel_b41 fu  σ x1 x2 xs1 = some r) : G p l e rm_X7_quarrel s m args below meth c 5 0 0 (MQ below (gQ E w 1 r) args s 0 0 (fun q => eB E ≤ q)) E w σ 41 [(0, .ref (eB E + 583)), (1, .int x1), (2, .int x2)] [.int xs1, .ref (eB E + 583)] := by
  unfold f_X7_quarrel_b41 at hf
  obtain ⟨v1, σ1, hm1, hf⟩ := bd_ok hf
  refine cl_RX7_103 (q := 44) hC dX7_quarrel_41 rfl (m_X7_goes hm1) ⟨Nat.le_of_ble_eq_true rfl, Nat.le_of_ble_eq_true rfl⟩ (Nat.le_of_ble_eq_true rfl) ⟨Nat.le_of_ble_eq_true rfl, Nat.le_of_ble_eq_true rfl⟩ ?_
  refine G_if_ne (tgt := 49) (q := 47) hC dX7_quarrel_44 (by decide) rfl (fun c1 => ?_) (fun c1 => ?_)
  · have hf := (if_neg c1).symm.trans hf
    refine G_aload_n (q := 50) hC dX7_quarrel_49 rfl rfl ?_
    refine gf_RX7_68 (q := 53) hC dX7_quarrel_50 rfl ?_
    refine G_bipush (q := 55) hC dX7_quarrel_53 rfl bp_6 ?_
    refine G_iload_n (q := 56) hC dX7_quarrel_55 rfl rfl ?_
    refine G_imul (q := 57) hC dX7_quarrel_56 rfl ?_
    refine G_iload_n (q := 58) hC dX7_quarrel_57 rfl rfl ?_
    refine G_iadd (q := 59) hC dX7_quarrel_58 rfl ?_
    obtain ⟨g1, hf⟩ := gd_ok hf
    refine G_zald (q := 60) hC dX7_quarrel_59 rfl (ok_204 g1) ?_
    refine G_istore (q := 62) (lv' := [(4, .int (σ1 204 0 (((6 : Int32) * x1) + x2).toNatClampNeg)), (0, .ref (eB E + 583)), (1, .int x1), (2, .int x2)]) hC dX7_quarrel_60 rfl (by decide) rfl ?_
    refine G_aload_n (q := 63) hC dX7_quarrel_62 rfl rfl ?_
    refine gf_RX7_68 (q := 66) hC dX7_quarrel_63 rfl ?_
    refine G_bipush (q := 68) hC dX7_quarrel_66 rfl bp_6 ?_
    refine G_iload_n (q := 69) hC dX7_quarrel_68 rfl rfl ?_
    refine G_imul (q := 70) hC dX7_quarrel_69 rfl ?_
    refine G_iload_n (q := 71) hC dX7_quarrel_70 rfl rfl ?_
    refine G_iadd (q := 72) hC dX7_quarrel_71 rfl ?_
    refine G_iconst (q := 73) hC dX7_quarrel_72 rfl ic_1 ?_
    obtain ⟨g2, hf⟩ := gd_ok hf
    refine G_zast (q := 74) hC dX7_quarrel_73 rfl (ok_204 g2) rfl ?_
    refine G_aload_n (q := 75) hC dX7_quarrel_74 rfl rfl ?_
    refine gf_RX7_68 (q := 78) hC dX7_quarrel_75 rfl ?_
    refine G_bipush (q := 80) hC dX7_quarrel_78 rfl bp_6 ?_
    refine G_iload_n (q := 81) hC dX7_quarrel_80 rfl rfl ?_
    refine G_imul (q := 82) hC dX7_quarrel_81 rfl ?_
    refine G_iload_n (q := 83) hC dX7_quarrel_82 rfl rfl ?_
    refine G_iadd (q := 84) hC dX7_quarrel_83 rfl ?_
    refine G_iconst (q := 85) hC dX7_quarrel_84 rfl ic_1 ?_
    obtain ⟨g3, hf⟩ := gd_ok hf
    refine G_zast (q := 86) hC dX7_quarrel_85 rfl (ok_204 g3) rfl ?_
    refine G_iload (q := 88) hC dX7_quarrel_86 rfl rfl ?_
    obtain ⟨g4, hf⟩ := gd_ok hf
    exact G_iret hC hf rfl (b01_narrow g4) dX7_quarrel_88
  · have hf := (if_pos c1).symm.trans hf
    refine G_iconst (q := 48) hC dX7_quarrel_47 rfl ic_0 ?_
    exact G_iret hC hf rfl rfl dX7_quarrel_48

def f_X7_quarrel_b21 (fu : Nat)  (σ : gSt) (x1 : Int32) (x2 : Int32) (xs0 : Int32) : Option (Int32 × gSt) :=
  if xs0 = 0 then (f_X7_quarrel_b41 fu  σ x1 x2 (1 : Int32)) else (if x1 = x2 then (f_X7_quarrel_b41 fu  σ x1 x2 (2 : Int32)) else (f_X7_quarrel_b41 fu  σ x1 x2 (0 : Int32)))
set_option maxRecDepth 100000 in
theorem t_X7_quarrel_b21 {fu : Nat}  {r : Int32 × gSt} (hC : gCx p s m args meth c cX7_quarrel 5 RX7 (some .boolean) E)  {σ : gSt} {x1 : Int32} {x2 : Int32} {xs0 : Int32}  (hf : f_X7_quarrel_b21 fu  σ x1 x2 xs0 = some r) : G p l e rm_X7_quarrel s m args below meth c 5 0 0 (MQ below (gQ E w 1 r) args s 0 0 (fun q => eB E ≤ q)) E w σ 21 [(0, .ref (eB E + 583)), (1, .int x1), (2, .int x2)] [.int xs0] := by
  unfold f_X7_quarrel_b21 at hf
  refine G_istore_n (q := 22) (lv' := [(3, .int xs0), (0, .ref (eB E + 583)), (1, .int x1), (2, .int x2)]) hC dX7_quarrel_21 rfl (by decide) rfl ?_
  refine G_aload_n (q := 23) hC dX7_quarrel_22 rfl rfl ?_
  refine G_iload_n (q := 24) hC dX7_quarrel_23 rfl rfl ?_
  refine G_if_ne (tgt := 31) (q := 27) hC dX7_quarrel_24 (by decide) rfl (fun c0 => ?_) (fun c0 => ?_)
  · have hf := (if_neg c0).symm.trans hf
    refine G_iload_n (q := 32) hC dX7_quarrel_31 rfl rfl ?_
    refine G_iload_n (q := 33) hC dX7_quarrel_32 rfl rfl ?_
    refine G_icmp_ne (tgt := 40) (q := 36) hC dX7_quarrel_33 (by decide) rfl (fun c1 => ?_) (fun c1 => ?_)
    · have hf := (if_neg c1).symm.trans hf
      refine G_iconst (q := 41) hC dX7_quarrel_40 rfl ic_0 ?_
      refine G_lv (lv' := [(0, .ref (eB E + 583)), (1, .int x1), (2, .int x2)]) [1, 2, 3] rfl ?_
      exact t_X7_quarrel_b41 hC   hf
    · have hf := (if_pos c1).symm.trans hf
      refine G_iconst (q := 37) hC dX7_quarrel_36 rfl ic_2 ?_
      refine G_goto (tgt := 41) hC dX7_quarrel_37 (by decide) ?_
      refine G_lv (lv' := [(0, .ref (eB E + 583)), (1, .int x1), (2, .int x2)]) [1, 2, 3] rfl ?_
      exact t_X7_quarrel_b41 hC   hf
  · have hf := (if_pos c0).symm.trans hf
    refine G_iconst (q := 28) hC dX7_quarrel_27 rfl ic_1 ?_
    refine G_goto (tgt := 41) hC dX7_quarrel_28 (by decide) ?_
    refine G_lv (lv' := [(0, .ref (eB E + 583)), (1, .int x1), (2, .int x2)]) [1, 2, 3] rfl ?_
    exact t_X7_quarrel_b41 hC   hf

def f_X7_quarrel_b20 (fu : Nat)  (σ : gSt) (x1 : Int32) (x2 : Int32) : Option (Int32 × gSt) :=
  f_X7_quarrel_b21 fu  σ x1 x2 (0 : Int32)
set_option maxRecDepth 100000 in
theorem t_X7_quarrel_b20 {fu : Nat}  {r : Int32 × gSt} (hC : gCx p s m args meth c cX7_quarrel 5 RX7 (some .boolean) E)  {σ : gSt} {x1 : Int32} {x2 : Int32}  (hf : f_X7_quarrel_b20 fu  σ x1 x2 = some r) : G p l e rm_X7_quarrel s m args below meth c 5 0 0 (MQ below (gQ E w 1 r) args s 0 0 (fun q => eB E ≤ q)) E w σ 20 [(0, .ref (eB E + 583)), (1, .int x1), (2, .int x2)] [] := by
  unfold f_X7_quarrel_b20 at hf
  refine G_iconst (q := 21) hC dX7_quarrel_20 rfl ic_0 ?_
  exact t_X7_quarrel_b21 hC   hf

def f_X7_quarrel (fu : Nat)  (σ : gSt) (x1 : Int32) (x2 : Int32) : Option (Int32 × gSt) :=
  bd (f_X7_isContributor fu σ x1) (fun v1 σ1 => if v1 = 0 then (f_X7_quarrel_b20 fu  σ1 x1 x2) else (bd (f_X7_isContributor fu σ1 x2) (fun v3 σ3 => if v3 = 0 then (f_X7_quarrel_b20 fu  σ3 x1 x2) else (f_X7_quarrel_b21 fu  σ3 x1 x2 (1 : Int32)))))
set_option maxRecDepth 100000 in
theorem t_X7_quarrel {fu : Nat}  {r : Int32 × gSt} (hC : gCx p s m args meth c cX7_quarrel 5 RX7 (some .boolean) E)  {σ : gSt} {x1 : Int32} {x2 : Int32}  (hf : f_X7_quarrel fu  σ x1 x2 = some r) : G p l e rm_X7_quarrel s m args below meth c 5 0 0 (MQ below (gQ E w 1 r) args s 0 0 (fun q => eB E ≤ q)) E w σ 0 [(0, .ref (eB E + 583)), (1, .int x1), (2, .int x2)] [] := by
  unfold f_X7_quarrel at hf
  refine G_aload_n (q := 1) hC dX7_quarrel_0 rfl rfl ?_
  refine G_iload_n (q := 2) hC dX7_quarrel_1 rfl rfl ?_
  obtain ⟨v1, σ1, hm1, hf⟩ := bd_ok hf
  refine cl_RX7_136 (q := 5) hC dX7_quarrel_2 rfl (m_X7_isContributor hm1) ⟨Nat.le_of_ble_eq_true rfl, Nat.le_of_ble_eq_true rfl⟩ (Nat.le_of_ble_eq_true rfl) ⟨Nat.le_of_ble_eq_true rfl, Nat.le_of_ble_eq_true rfl⟩ ?_
  refine G_if_eq (tgt := 20) (q := 8) hC dX7_quarrel_5 (by decide) rfl (fun c1 => ?_) (fun c1 => ?_)
  · have hf := (if_pos c1).symm.trans hf
    exact t_X7_quarrel_b20 hC   hf
  · have hf := (if_neg c1).symm.trans hf
    refine G_aload_n (q := 9) hC dX7_quarrel_8 rfl rfl ?_
    refine G_iload_n (q := 10) hC dX7_quarrel_9 rfl rfl ?_
    obtain ⟨v3, σ3, hm3, hf⟩ := bd_ok hf
    refine cl_RX7_136 (q := 13) hC dX7_quarrel_10 rfl (m_X7_isContributor hm3) ⟨Nat.le_of_ble_eq_true rfl, Nat.le_of_ble_eq_true rfl⟩ (Nat.le_of_ble_eq_true rfl) ⟨Nat.le_of_ble_eq_true rfl, Nat.le_of_ble_eq_true rfl⟩ ?_
    refine G_if_eq (tgt := 20) (q := 16) hC dX7_quarrel_13 (by decide) rfl (fun c3 => ?_) (fun c3 => ?_)
    · have hf := (if_pos c3).symm.trans hf
      exact t_X7_quarrel_b20 hC   hf
    · have hf := (if_neg c3).symm.trans hf
      refine G_iconst (q := 17) hC dX7_quarrel_16 rfl ic_1 ?_
      refine G_goto (tgt := 21) hC dX7_quarrel_17 (by decide) ?_
      exact t_X7_quarrel_b21 hC   hf

theorem m_X7_quarrel {l : Launch} {fu : Nat} {E : gE} {w : Nat → Int64} {σ : gSt} {x1 : Int32} {x2 : Int32} {r : Int32 × gSt}  (hf : f_X7_quarrel fu σ x1 x2 = some r) : gM l yX7_quarrel cX7_quarrel 5 (some .boolean) rm_X7_quarrel 1 E w σ [.ref (eB E + 583), .int x1, .int x2] r :=
  gM_of (by decide +kernel) (Nat.le_of_ble_eq_true rfl) (fun p e s m args below meth c hC => t_X7_quarrel hC  hf)
def f_X7_refersTo_b39 (fu : Nat) (k5 : gSt → Int32 → Int32 → Int32 → Int32 → Option (Int32 × gSt)) (σ : gSt) (x1 : Int32) (x2 : Int32) (x4 : Int32) (xs0 : Int32) : Option (Int32 × gSt) :=
  k5 σ x1 x2 xs0 (x4 + (1))
set_option maxRecDepth 100000 in
theorem t_X7_refersTo_b39 {fu : Nat} {k5 : gSt → Int32 → Int32 → Int32 → Int32 → Option (Int32 × gSt)} {r : Int32 × gSt} (hC : gCx p s m args meth c cX7_refersTo 5 RX7 (some .boolean) E) (hk5 : ∀ (σ : gSt) (x1 : Int32) (x2 : Int32) (x3 : Int32) (x4 : Int32), k5 σ x1 x2 x3 x4 = some r → G p l e rm_X7_refersTo s m args below meth c 5 0 0 (MQ below (gQ E w 1 r) args s 0 0 (fun q => eB E ≤ q)) E w σ 5 [(0, .ref (eB E + 583)), (1, .int x1), (2, .int x2), (3, .int x3), (4, .int x4)] []) {σ : gSt} {x1 : Int32} {x2 : Int32} {x4 : Int32} {xs0 : Int32}  (hf : f_X7_refersTo_b39 fu k5 σ x1 x2 x4 xs0 = some r) : G p l e rm_X7_refersTo s m args below meth c 5 0 0 (MQ below (gQ E w 1 r) args s 0 0 (fun q => eB E ≤ q)) E w σ 39 [(0, .ref (eB E + 583)), (1, .int x1), (2, .int x2), (4, .int x4)] [.int xs0] := by
  unfold f_X7_refersTo_b39 at hf
  refine G_istore_n (q := 40) (lv' := [(3, .int xs0), (0, .ref (eB E + 583)), (1, .int x1), (2, .int x2), (4, .int x4)]) hC dX7_refersTo_39 rfl (by decide) rfl ?_
  refine G_iinc (q := 43) (n := 4) (lv' := [(4, .int (x4 + (1))), (3, .int xs0), (0, .ref (eB E + 583)), (1, .int x1), (2, .int x2)]) hC dX7_refersTo_40 rfl rfl (ii_1 _) (by decide) rfl ?_
  refine G_goto (tgt := 5) hC dX7_refersTo_43 (by decide) ?_
  refine G_lv (lv' := [(0, .ref (eB E + 583)), (1, .int x1), (2, .int x2), (3, .int xs0), (4, .int (x4 + (1)))]) [2, 3, 4, 1, 0] rfl ?_
  exact hk5 _ _ _ _ _  hf

def f_X7_refersTo_b34 (fu : Nat) (k5 : gSt → Int32 → Int32 → Int32 → Int32 → Option (Int32 × gSt)) (σ : gSt) (x1 : Int32) (x2 : Int32) (x4 : Int32) : Option (Int32 × gSt) :=
  f_X7_refersTo_b39 fu k5 σ x1 x2 x4 (1 : Int32)
set_option maxRecDepth 100000 in
theorem t_X7_refersTo_b34 {fu : Nat} {k5 : gSt → Int32 → Int32 → Int32 → Int32 → Option (Int32 × gSt)} {r : Int32 × gSt} (hC : gCx p s m args meth c cX7_refersTo 5 RX7 (some .boolean) E) (hk5 : ∀ (σ : gSt) (x1 : Int32) (x2 : Int32) (x3 : Int32) (x4 : Int32), k5 σ x1 x2 x3 x4 = some r → G p l e rm_X7_refersTo s m args below meth c 5 0 0 (MQ below (gQ E w 1 r) args s 0 0 (fun q => eB E ≤ q)) E w σ 5 [(0, .ref (eB E + 583)), (1, .int x1), (2, .int x2), (3, .int x3), (4, .int x4)] []) {σ : gSt} {x1 : Int32} {x2 : Int32} {x4 : Int32}  (hf : f_X7_refersTo_b34 fu k5 σ x1 x2 x4 = some r) : G p l e rm_X7_refersTo s m args below meth c 5 0 0 (MQ below (gQ E w 1 r) args s 0 0 (fun q => eB E ≤ q)) E w σ 34 [(0, .ref (eB E + 583)), (1, .int x1), (2, .int x2), (4, .int x4)] [] := by
  unfold f_X7_refersTo_b34 at hf
  refine G_iconst (q := 35) hC dX7_refersTo_34 rfl ic_1 ?_
  refine G_goto (tgt := 39) hC dX7_refersTo_35 (by decide) ?_
  exact t_X7_refersTo_b39 hC hk5  hf

def f_X7_refersTo_b5_B (fu : Nat) (k5 : gSt → Int32 → Int32 → Int32 → Int32 → Option (Int32 × gSt)) (σ : gSt) (x1 : Int32) (x2 : Int32) (x3 : Int32) (x4 : Int32) : Option (Int32 × gSt) :=
  gd (inb x1 24) (if (σ 191 0 x1.toNatClampNeg) ≤ x4 then (gd (b01 x3) (some (x3, σ))) else (if x3 = 0 then (bd (f_X7_reference fu σ x1 x4) (fun v3 σ3 => bd (f_X7_order fu σ3 v3 x2) (fun v4 σ4 => if v4 = 0 then (f_X7_refersTo_b34 fu k5 σ4 x1 x2 x4) else (f_X7_refersTo_b39 fu k5 σ4 x1 x2 x4 (0 : Int32))))) else (f_X7_refersTo_b34 fu k5 σ x1 x2 x4)))
def f_X7_refersTo_b5 (fu : Nat)  : Nat → gSt → Int32 → Int32 → Int32 → Int32 → Option (Int32 × gSt)
  | 0 => fun _ _ _ _ _ => none
  | n + 1 => f_X7_refersTo_b5_B fu  (f_X7_refersTo_b5 fu  n)
set_option maxRecDepth 100000 in
theorem t_X7_refersTo_b5_B {fu : Nat} {k5 : gSt → Int32 → Int32 → Int32 → Int32 → Option (Int32 × gSt)} {r : Int32 × gSt} (hC : gCx p s m args meth c cX7_refersTo 5 RX7 (some .boolean) E) (hk5 : ∀ (σ : gSt) (x1 : Int32) (x2 : Int32) (x3 : Int32) (x4 : Int32), k5 σ x1 x2 x3 x4 = some r → G p l e rm_X7_refersTo s m args below meth c 5 0 0 (MQ below (gQ E w 1 r) args s 0 0 (fun q => eB E ≤ q)) E w σ 5 [(0, .ref (eB E + 583)), (1, .int x1), (2, .int x2), (3, .int x3), (4, .int x4)] []) {σ : gSt} {x1 : Int32} {x2 : Int32} {x3 : Int32} {x4 : Int32}  (hf : f_X7_refersTo_b5_B fu k5 σ x1 x2 x3 x4 = some r) : G p l e rm_X7_refersTo s m args below meth c 5 0 0 (MQ below (gQ E w 1 r) args s 0 0 (fun q => eB E ≤ q)) E w σ 5 [(0, .ref (eB E + 583)), (1, .int x1), (2, .int x2), (3, .int x3), (4, .int x4)] [] := by
  unfold f_X7_refersTo_b5_B at hf
  refine G_iload (q := 7) hC dX7_refersTo_5 rfl rfl ?_
  refine G_aload_n (q := 8) hC dX7_refersTo_7 rfl rfl ?_
  refine gf_RX7_38 (q := 11) hC dX7_refersTo_8 rfl ?_
  refine G_iload_n (q := 12) hC dX7_refersTo_11 rfl rfl ?_
  obtain ⟨g1, hf⟩ := gd_ok hf
  refine G_iald (q := 13) hC dX7_refersTo_12 rfl (ok_191 g1) ?_
  refine G_icmp_ge (tgt := 46) (q := 16) hC dX7_refersTo_13 (by decide) rfl (fun c0 => ?_) (fun c0 => ?_)
  · have hf := (if_pos c0).symm.trans hf
    refine G_iload_n (q := 47) hC dX7_refersTo_46 rfl rfl ?_
    obtain ⟨g2, hf⟩ := gd_ok hf
    exact G_iret hC hf rfl (b01_narrow g2) dX7_refersTo_47
  · have hf := (if_neg c0).symm.trans hf
    refine G_iload_n (q := 17) hC dX7_refersTo_16 rfl rfl ?_
    refine G_if_ne (tgt := 34) (q := 20) hC dX7_refersTo_17 (by decide) rfl (fun c1 => ?_) (fun c1 => ?_)
    · have hf := (if_neg c1).symm.trans hf
      refine G_lv (lv' := [(0, .ref (eB E + 583)), (1, .int x1), (2, .int x2), (4, .int x4)]) [0, 1, 2, 4] rfl ?_
      exact t_X7_refersTo_b34 hC hk5  hf
    · have hf := (if_pos c1).symm.trans hf
      refine G_aload_n (q := 21) hC dX7_refersTo_20 rfl rfl ?_
      refine G_iload_n (q := 22) hC dX7_refersTo_21 rfl rfl ?_
      refine G_iload (q := 24) hC dX7_refersTo_22 rfl rfl ?_
      obtain ⟨v3, σ3, hm3, hf⟩ := bd_ok hf
      refine cl_RX7_120 (q := 27) hC dX7_refersTo_24 rfl (m_X7_reference hm3) ⟨Nat.le_of_ble_eq_true rfl, Nat.le_of_ble_eq_true rfl⟩ (Nat.le_of_ble_eq_true rfl) ⟨Nat.le_of_ble_eq_true rfl, Nat.le_of_ble_eq_true rfl⟩ ?_
      refine G_iload_n (q := 28) hC dX7_refersTo_27 rfl rfl ?_
      obtain ⟨v4, σ4, hm4, hf⟩ := bd_ok hf
      refine cl_RX7_126 (q := 31) hC dX7_refersTo_28 rfl (m_X7_order hm4) ⟨Nat.le_of_ble_eq_true rfl, Nat.le_of_ble_eq_true rfl⟩ (Nat.le_of_ble_eq_true rfl) ⟨Nat.le_of_ble_eq_true rfl, Nat.le_of_ble_eq_true rfl⟩ ?_
      refine G_if_ne (tgt := 38) (q := 34) hC dX7_refersTo_31 (by decide) rfl (fun c4 => ?_) (fun c4 => ?_)
      · have hf := (if_neg c4).symm.trans hf
        refine G_iconst (q := 39) hC dX7_refersTo_38 rfl ic_0 ?_
        refine G_lv (lv' := [(0, .ref (eB E + 583)), (1, .int x1), (2, .int x2), (4, .int x4)]) [0, 1, 2, 4] rfl ?_
        exact t_X7_refersTo_b39 hC hk5  hf
      · have hf := (if_pos c4).symm.trans hf
        refine G_lv (lv' := [(0, .ref (eB E + 583)), (1, .int x1), (2, .int x2), (4, .int x4)]) [0, 1, 2, 4] rfl ?_
        exact t_X7_refersTo_b34 hC hk5  hf

theorem t_X7_refersTo_b5 {fu : Nat}  {r : Int32 × gSt} (hC : gCx p s m args meth c cX7_refersTo 5 RX7 (some .boolean) E)  (n : Nat) : ∀ (σ : gSt) (x1 : Int32) (x2 : Int32) (x3 : Int32) (x4 : Int32), f_X7_refersTo_b5 fu  n σ x1 x2 x3 x4 = some r → G p l e rm_X7_refersTo s m args below meth c 5 0 0 (MQ below (gQ E w 1 r) args s 0 0 (fun q => eB E ≤ q)) E w σ 5 [(0, .ref (eB E + 583)), (1, .int x1), (2, .int x2), (3, .int x3), (4, .int x4)] [] := by
  induction n with
  | zero => intro σ x1 x2 x3 x4  hf; cases hf
  | succ n ih => intro σ x1 x2 x3 x4  hf; exact t_X7_refersTo_b5_B hC  ih  hf
def f_X7_refersTo (fu : Nat)  (σ : gSt) (x1 : Int32) (x2 : Int32) : Option (Int32 × gSt) :=
  f_X7_refersTo_b5 fu  fu σ x1 x2 (0 : Int32) (0 : Int32)
set_option maxRecDepth 100000 in
theorem t_X7_refersTo {fu : Nat}  {r : Int32 × gSt} (hC : gCx p s m args meth c cX7_refersTo 5 RX7 (some .boolean) E)  {σ : gSt} {x1 : Int32} {x2 : Int32}  (hf : f_X7_refersTo fu  σ x1 x2 = some r) : G p l e rm_X7_refersTo s m args below meth c 5 0 0 (MQ below (gQ E w 1 r) args s 0 0 (fun q => eB E ≤ q)) E w σ 0 [(0, .ref (eB E + 583)), (1, .int x1), (2, .int x2)] [] := by
  unfold f_X7_refersTo at hf
  refine G_iconst (q := 1) hC dX7_refersTo_0 rfl ic_0 ?_
  refine G_istore_n (q := 2) (lv' := [(3, .int (0 : Int32)), (0, .ref (eB E + 583)), (1, .int x1), (2, .int x2)]) hC dX7_refersTo_1 rfl (by decide) rfl ?_
  refine G_iconst (q := 3) hC dX7_refersTo_2 rfl ic_0 ?_
  refine G_istore (q := 5) (lv' := [(4, .int (0 : Int32)), (3, .int (0 : Int32)), (0, .ref (eB E + 583)), (1, .int x1), (2, .int x2)]) hC dX7_refersTo_3 rfl (by decide) rfl ?_
  refine G_lv (lv' := [(0, .ref (eB E + 583)), (1, .int x1), (2, .int x2), (3, .int (0 : Int32)), (4, .int (0 : Int32))]) [2, 3, 4, 1, 0] rfl ?_
  exact t_X7_refersTo_b5 hC  fu _ _ _ _ _  hf

theorem m_X7_refersTo {l : Launch} {fu : Nat} {E : gE} {w : Nat → Int64} {σ : gSt} {x1 : Int32} {x2 : Int32} {r : Int32 × gSt}  (hf : f_X7_refersTo fu σ x1 x2 = some r) : gM l yX7_refersTo cX7_refersTo 5 (some .boolean) rm_X7_refersTo 1 E w σ [.ref (eB E + 583), .int x1, .int x2] r :=
  gM_of (by decide +kernel) (Nat.le_of_ble_eq_true rfl) (fun p e s m args below meth c hC => t_X7_refersTo hC  hf)
def f_X7_isBarred_b86 (fu : Nat) (k5 : gSt → Int32 → Int32 → Int32 → Int32 → Option (Int32 × gSt)) (σ : gSt) (x1 : Int32) (x2 : Int32) (x4 : Int32) (xs0 : Int32) : Option (Int32 × gSt) :=
  k5 σ x1 x2 xs0 (x4 + (1))
set_option maxRecDepth 100000 in
theorem t_X7_isBarred_b86 {fu : Nat} {k5 : gSt → Int32 → Int32 → Int32 → Int32 → Option (Int32 × gSt)} {r : Int32 × gSt} (hC : gCx p s m args meth c cX7_isBarred 6 RX7 (some .boolean) E) (hk5 : ∀ (σ : gSt) (x1 : Int32) (x2 : Int32) (x3 : Int32) (x4 : Int32), k5 σ x1 x2 x3 x4 = some r → G p l e rm_X7_isBarred s m args below meth c 6 0 0 (MQ below (gQ E w 1 r) args s 0 0 (fun q => eB E ≤ q)) E w σ 5 [(0, .ref (eB E + 583)), (1, .int x1), (2, .int x2), (3, .int x3), (4, .int x4)] []) {σ : gSt} {x1 : Int32} {x2 : Int32} {x4 : Int32} {xs0 : Int32}  (hf : f_X7_isBarred_b86 fu k5 σ x1 x2 x4 xs0 = some r) : G p l e rm_X7_isBarred s m args below meth c 6 0 0 (MQ below (gQ E w 1 r) args s 0 0 (fun q => eB E ≤ q)) E w σ 86 [(0, .ref (eB E + 583)), (1, .int x1), (2, .int x2), (4, .int x4)] [.int xs0] := by
  unfold f_X7_isBarred_b86 at hf
  refine G_istore_n (q := 87) (lv' := [(3, .int xs0), (0, .ref (eB E + 583)), (1, .int x1), (2, .int x2), (4, .int x4)]) hC dX7_isBarred_86 rfl (by decide) rfl ?_
  refine G_iinc (q := 90) (n := 4) (lv' := [(4, .int (x4 + (1))), (3, .int xs0), (0, .ref (eB E + 583)), (1, .int x1), (2, .int x2)]) hC dX7_isBarred_87 rfl rfl (ii_1 _) (by decide) rfl ?_
  refine G_goto (tgt := 5) hC dX7_isBarred_90 (by decide) ?_
  refine G_lv (lv' := [(0, .ref (eB E + 583)), (1, .int x1), (2, .int x2), (3, .int xs0), (4, .int (x4 + (1)))]) [2, 3, 4, 1, 0] rfl ?_
  exact hk5 _ _ _ _ _  hf

def f_X7_isBarred_b81 (fu : Nat) (k5 : gSt → Int32 → Int32 → Int32 → Int32 → Option (Int32 × gSt)) (σ : gSt) (x1 : Int32) (x2 : Int32) (x4 : Int32) : Option (Int32 × gSt) :=
  f_X7_isBarred_b86 fu k5 σ x1 x2 x4 (1 : Int32)
set_option maxRecDepth 100000 in
theorem t_X7_isBarred_b81 {fu : Nat} {k5 : gSt → Int32 → Int32 → Int32 → Int32 → Option (Int32 × gSt)} {r : Int32 × gSt} (hC : gCx p s m args meth c cX7_isBarred 6 RX7 (some .boolean) E) (hk5 : ∀ (σ : gSt) (x1 : Int32) (x2 : Int32) (x3 : Int32) (x4 : Int32), k5 σ x1 x2 x3 x4 = some r → G p l e rm_X7_isBarred s m args below meth c 6 0 0 (MQ below (gQ E w 1 r) args s 0 0 (fun q => eB E ≤ q)) E w σ 5 [(0, .ref (eB E + 583)), (1, .int x1), (2, .int x2), (3, .int x3), (4, .int x4)] []) {σ : gSt} {x1 : Int32} {x2 : Int32} {x4 : Int32}  (hf : f_X7_isBarred_b81 fu k5 σ x1 x2 x4 = some r) : G p l e rm_X7_isBarred s m args below meth c 6 0 0 (MQ below (gQ E w 1 r) args s 0 0 (fun q => eB E ≤ q)) E w σ 81 [(0, .ref (eB E + 583)), (1, .int x1), (2, .int x2), (4, .int x4)] [] := by
  unfold f_X7_isBarred_b81 at hf
  refine G_iconst (q := 82) hC dX7_isBarred_81 rfl ic_1 ?_
  refine G_goto (tgt := 86) hC dX7_isBarred_82 (by decide) ?_
  exact t_X7_isBarred_b86 hC hk5  hf

def f_X7_isBarred_b85 (fu : Nat) (k5 : gSt → Int32 → Int32 → Int32 → Int32 → Option (Int32 × gSt)) (σ : gSt) (x1 : Int32) (x2 : Int32) (x4 : Int32) : Option (Int32 × gSt) :=
  f_X7_isBarred_b86 fu k5 σ x1 x2 x4 (0 : Int32)
set_option maxRecDepth 100000 in
theorem t_X7_isBarred_b85 {fu : Nat} {k5 : gSt → Int32 → Int32 → Int32 → Int32 → Option (Int32 × gSt)} {r : Int32 × gSt} (hC : gCx p s m args meth c cX7_isBarred 6 RX7 (some .boolean) E) (hk5 : ∀ (σ : gSt) (x1 : Int32) (x2 : Int32) (x3 : Int32) (x4 : Int32), k5 σ x1 x2 x3 x4 = some r → G p l e rm_X7_isBarred s m args below meth c 6 0 0 (MQ below (gQ E w 1 r) args s 0 0 (fun q => eB E ≤ q)) E w σ 5 [(0, .ref (eB E + 583)), (1, .int x1), (2, .int x2), (3, .int x3), (4, .int x4)] []) {σ : gSt} {x1 : Int32} {x2 : Int32} {x4 : Int32}  (hf : f_X7_isBarred_b85 fu k5 σ x1 x2 x4 = some r) : G p l e rm_X7_isBarred s m args below meth c 6 0 0 (MQ below (gQ E w 1 r) args s 0 0 (fun q => eB E ≤ q)) E w σ 85 [(0, .ref (eB E + 583)), (1, .int x1), (2, .int x2), (4, .int x4)] [] := by
  unfold f_X7_isBarred_b85 at hf
  refine G_iconst (q := 86) hC dX7_isBarred_85 rfl ic_0 ?_
  exact t_X7_isBarred_b86 hC hk5  hf

def f_X7_isBarred_b50 (fu : Nat) (k5 : gSt → Int32 → Int32 → Int32 → Int32 → Option (Int32 × gSt)) (σ : gSt) (x1 : Int32) (x2 : Int32) (x3 : Int32) (x4 : Int32) (xs0 : Int32) : Option (Int32 × gSt) :=
  if x3 = 0 then (if xs0 = 0 then (f_X7_isBarred_b85 fu k5 σ x1 x2 x4) else (bd (f_X7_refersTo fu σ x1 x4) (fun v3 σ3 => if v3 = 0 then (bd (f_X7_refersTo fu σ3 x4 x1) (fun v5 σ5 => if v5 = 0 then (f_X7_isBarred_b85 fu k5 σ5 x1 x2 x4) else (f_X7_isBarred_b81 fu k5 σ5 x1 x2 x4))) else (f_X7_isBarred_b81 fu k5 σ3 x1 x2 x4)))) else (f_X7_isBarred_b81 fu k5 σ x1 x2 x4)
set_option maxRecDepth 100000 in
theorem t_X7_isBarred_b50 {fu : Nat} {k5 : gSt → Int32 → Int32 → Int32 → Int32 → Option (Int32 × gSt)} {r : Int32 × gSt} (hC : gCx p s m args meth c cX7_isBarred 6 RX7 (some .boolean) E) (hk5 : ∀ (σ : gSt) (x1 : Int32) (x2 : Int32) (x3 : Int32) (x4 : Int32), k5 σ x1 x2 x3 x4 = some r → G p l e rm_X7_isBarred s m args below meth c 6 0 0 (MQ below (gQ E w 1 r) args s 0 0 (fun q => eB E ≤ q)) E w σ 5 [(0, .ref (eB E + 583)), (1, .int x1), (2, .int x2), (3, .int x3), (4, .int x4)] []) {σ : gSt} {x1 : Int32} {x2 : Int32} {x3 : Int32} {x4 : Int32} {xs0 : Int32}  (hf : f_X7_isBarred_b50 fu k5 σ x1 x2 x3 x4 xs0 = some r) : G p l e rm_X7_isBarred s m args below meth c 6 0 0 (MQ below (gQ E w 1 r) args s 0 0 (fun q => eB E ≤ q)) E w σ 50 [(0, .ref (eB E + 583)), (1, .int x1), (2, .int x2), (3, .int x3), (4, .int x4)] [.int xs0] := by
  unfold f_X7_isBarred_b50 at hf
  refine G_istore (q := 52) (lv' := [(5, .int xs0), (0, .ref (eB E + 583)), (1, .int x1), (2, .int x2), (3, .int x3), (4, .int x4)]) hC dX7_isBarred_50 rfl (by decide) rfl ?_
  refine G_iload_n (q := 53) hC dX7_isBarred_52 rfl rfl ?_
  refine G_if_ne (tgt := 81) (q := 56) hC dX7_isBarred_53 (by decide) rfl (fun c0 => ?_) (fun c0 => ?_)
  · have hf := (if_neg c0).symm.trans hf
    refine G_lv (lv' := [(0, .ref (eB E + 583)), (1, .int x1), (2, .int x2), (4, .int x4)]) [1, 2, 3, 5] rfl ?_
    exact t_X7_isBarred_b81 hC hk5  hf
  · have hf := (if_pos c0).symm.trans hf
    refine G_iload (q := 58) hC dX7_isBarred_56 rfl rfl ?_
    refine G_if_eq (tgt := 85) (q := 61) hC dX7_isBarred_58 (by decide) rfl (fun c1 => ?_) (fun c1 => ?_)
    · have hf := (if_pos c1).symm.trans hf
      refine G_lv (lv' := [(0, .ref (eB E + 583)), (1, .int x1), (2, .int x2), (4, .int x4)]) [1, 2, 3, 5] rfl ?_
      exact t_X7_isBarred_b85 hC hk5  hf
    · have hf := (if_neg c1).symm.trans hf
      refine G_aload_n (q := 62) hC dX7_isBarred_61 rfl rfl ?_
      refine G_iload_n (q := 63) hC dX7_isBarred_62 rfl rfl ?_
      refine G_iload (q := 65) hC dX7_isBarred_63 rfl rfl ?_
      obtain ⟨v3, σ3, hm3, hf⟩ := bd_ok hf
      refine cl_RX7_139 (q := 68) hC dX7_isBarred_65 rfl (m_X7_refersTo hm3) ⟨Nat.le_of_ble_eq_true rfl, Nat.le_of_ble_eq_true rfl⟩ (Nat.le_of_ble_eq_true rfl) ⟨Nat.le_of_ble_eq_true rfl, Nat.le_of_ble_eq_true rfl⟩ ?_
      refine G_if_ne (tgt := 81) (q := 71) hC dX7_isBarred_68 (by decide) rfl (fun c3 => ?_) (fun c3 => ?_)
      · have hf := (if_neg c3).symm.trans hf
        refine G_lv (lv' := [(0, .ref (eB E + 583)), (1, .int x1), (2, .int x2), (4, .int x4)]) [1, 2, 3, 5] rfl ?_
        exact t_X7_isBarred_b81 hC hk5  hf
      · have hf := (if_pos c3).symm.trans hf
        refine G_aload_n (q := 72) hC dX7_isBarred_71 rfl rfl ?_
        refine G_iload (q := 74) hC dX7_isBarred_72 rfl rfl ?_
        refine G_iload_n (q := 75) hC dX7_isBarred_74 rfl rfl ?_
        obtain ⟨v5, σ5, hm5, hf⟩ := bd_ok hf
        refine cl_RX7_139 (q := 78) hC dX7_isBarred_75 rfl (m_X7_refersTo hm5) ⟨Nat.le_of_ble_eq_true rfl, Nat.le_of_ble_eq_true rfl⟩ (Nat.le_of_ble_eq_true rfl) ⟨Nat.le_of_ble_eq_true rfl, Nat.le_of_ble_eq_true rfl⟩ ?_
        refine G_if_eq (tgt := 85) (q := 81) hC dX7_isBarred_78 (by decide) rfl (fun c5 => ?_) (fun c5 => ?_)
        · have hf := (if_pos c5).symm.trans hf
          refine G_lv (lv' := [(0, .ref (eB E + 583)), (1, .int x1), (2, .int x2), (4, .int x4)]) [1, 2, 3, 5] rfl ?_
          exact t_X7_isBarred_b85 hC hk5  hf
        · have hf := (if_neg c5).symm.trans hf
          refine G_lv (lv' := [(0, .ref (eB E + 583)), (1, .int x1), (2, .int x2), (4, .int x4)]) [1, 2, 3, 5] rfl ?_
          exact t_X7_isBarred_b81 hC hk5  hf

def f_X7_isBarred_b49 (fu : Nat) (k5 : gSt → Int32 → Int32 → Int32 → Int32 → Option (Int32 × gSt)) (σ : gSt) (x1 : Int32) (x2 : Int32) (x3 : Int32) (x4 : Int32) : Option (Int32 × gSt) :=
  f_X7_isBarred_b50 fu k5 σ x1 x2 x3 x4 (0 : Int32)
set_option maxRecDepth 100000 in
theorem t_X7_isBarred_b49 {fu : Nat} {k5 : gSt → Int32 → Int32 → Int32 → Int32 → Option (Int32 × gSt)} {r : Int32 × gSt} (hC : gCx p s m args meth c cX7_isBarred 6 RX7 (some .boolean) E) (hk5 : ∀ (σ : gSt) (x1 : Int32) (x2 : Int32) (x3 : Int32) (x4 : Int32), k5 σ x1 x2 x3 x4 = some r → G p l e rm_X7_isBarred s m args below meth c 6 0 0 (MQ below (gQ E w 1 r) args s 0 0 (fun q => eB E ≤ q)) E w σ 5 [(0, .ref (eB E + 583)), (1, .int x1), (2, .int x2), (3, .int x3), (4, .int x4)] []) {σ : gSt} {x1 : Int32} {x2 : Int32} {x3 : Int32} {x4 : Int32}  (hf : f_X7_isBarred_b49 fu k5 σ x1 x2 x3 x4 = some r) : G p l e rm_X7_isBarred s m args below meth c 6 0 0 (MQ below (gQ E w 1 r) args s 0 0 (fun q => eB E ≤ q)) E w σ 49 [(0, .ref (eB E + 583)), (1, .int x1), (2, .int x2), (3, .int x3), (4, .int x4)] [] := by
  unfold f_X7_isBarred_b49 at hf
  refine G_iconst (q := 50) hC dX7_isBarred_49 rfl ic_0 ?_
  exact t_X7_isBarred_b50 hC hk5  hf

def f_X7_isBarred_b5_B (fu : Nat) (k5 : gSt → Int32 → Int32 → Int32 → Int32 → Option (Int32 × gSt)) (σ : gSt) (x1 : Int32) (x2 : Int32) (x3 : Int32) (x4 : Int32) : Option (Int32 × gSt) :=
  if (σ 183 0 0) ≤ x4 then (gd (b01 x3) (some (x3, σ))) else (gd (inb x4 24) (if (σ 187 0 x4.toNatClampNeg) = (-1 : Int32) then (f_X7_isBarred_b49 fu k5 σ x1 x2 x3 x4) else (gd (inb x4 24) (gd (inb (((6 : Int32) * x2) + (σ 187 0 x4.toNatClampNeg)) 36) (if (σ 204 0 (((6 : Int32) * x2) + (σ 187 0 x4.toNatClampNeg)).toNatClampNeg) = 0 then (f_X7_isBarred_b49 fu k5 σ x1 x2 x3 x4) else (f_X7_isBarred_b50 fu k5 σ x1 x2 x3 x4 (1 : Int32)))))))
def f_X7_isBarred_b5 (fu : Nat)  : Nat → gSt → Int32 → Int32 → Int32 → Int32 → Option (Int32 × gSt)
  | 0 => fun _ _ _ _ _ => none
  | n + 1 => f_X7_isBarred_b5_B fu  (f_X7_isBarred_b5 fu  n)
set_option maxRecDepth 100000 in
theorem t_X7_isBarred_b5_B {fu : Nat} {k5 : gSt → Int32 → Int32 → Int32 → Int32 → Option (Int32 × gSt)} {r : Int32 × gSt} (hC : gCx p s m args meth c cX7_isBarred 6 RX7 (some .boolean) E) (hk5 : ∀ (σ : gSt) (x1 : Int32) (x2 : Int32) (x3 : Int32) (x4 : Int32), k5 σ x1 x2 x3 x4 = some r → G p l e rm_X7_isBarred s m args below meth c 6 0 0 (MQ below (gQ E w 1 r) args s 0 0 (fun q => eB E ≤ q)) E w σ 5 [(0, .ref (eB E + 583)), (1, .int x1), (2, .int x2), (3, .int x3), (4, .int x4)] []) {σ : gSt} {x1 : Int32} {x2 : Int32} {x3 : Int32} {x4 : Int32}  (hf : f_X7_isBarred_b5_B fu k5 σ x1 x2 x3 x4 = some r) : G p l e rm_X7_isBarred s m args below meth c 6 0 0 (MQ below (gQ E w 1 r) args s 0 0 (fun q => eB E ≤ q)) E w σ 5 [(0, .ref (eB E + 583)), (1, .int x1), (2, .int x2), (3, .int x3), (4, .int x4)] [] := by
  unfold f_X7_isBarred_b5_B at hf
  refine G_iload (q := 7) hC dX7_isBarred_5 rfl rfl ?_
  refine G_aload_n (q := 8) hC dX7_isBarred_7 rfl rfl ?_
  refine gf_RX7_78 (q := 11) hC dX7_isBarred_8 rfl ?_
  refine G_icmp_ge (tgt := 93) (q := 14) hC dX7_isBarred_11 (by decide) rfl (fun c0 => ?_) (fun c0 => ?_)
  · have hf := (if_pos c0).symm.trans hf
    refine G_iload_n (q := 94) hC dX7_isBarred_93 rfl rfl ?_
    obtain ⟨g1, hf⟩ := gd_ok hf
    exact G_iret hC hf rfl (b01_narrow g1) dX7_isBarred_94
  · have hf := (if_neg c0).symm.trans hf
    refine G_aload_n (q := 15) hC dX7_isBarred_14 rfl rfl ?_
    refine gf_RX7_25 (q := 18) hC dX7_isBarred_15 rfl ?_
    refine G_iload (q := 20) hC dX7_isBarred_18 rfl rfl ?_
    obtain ⟨g2, hf⟩ := gd_ok hf
    refine G_iald (q := 21) hC dX7_isBarred_20 rfl (ok_187 g2) ?_
    refine G_iconst (q := 22) hC dX7_isBarred_21 rfl ic_m1 ?_
    refine G_icmp_eq (tgt := 49) (q := 25) hC dX7_isBarred_22 (by decide) rfl (fun c1 => ?_) (fun c1 => ?_)
    · have hf := (if_pos c1).symm.trans hf
      exact t_X7_isBarred_b49 hC hk5  hf
    · have hf := (if_neg c1).symm.trans hf
      refine G_aload_n (q := 26) hC dX7_isBarred_25 rfl rfl ?_
      refine gf_RX7_68 (q := 29) hC dX7_isBarred_26 rfl ?_
      refine G_bipush (q := 31) hC dX7_isBarred_29 rfl bp_6 ?_
      refine G_iload_n (q := 32) hC dX7_isBarred_31 rfl rfl ?_
      refine G_imul (q := 33) hC dX7_isBarred_32 rfl ?_
      refine G_aload_n (q := 34) hC dX7_isBarred_33 rfl rfl ?_
      refine gf_RX7_25 (q := 37) hC dX7_isBarred_34 rfl ?_
      refine G_iload (q := 39) hC dX7_isBarred_37 rfl rfl ?_
      obtain ⟨g3, hf⟩ := gd_ok hf
      refine G_iald (q := 40) hC dX7_isBarred_39 rfl (ok_187 g3) ?_
      refine G_iadd (q := 41) hC dX7_isBarred_40 rfl ?_
      obtain ⟨g4, hf⟩ := gd_ok hf
      refine G_zald (q := 42) hC dX7_isBarred_41 rfl (ok_204 g4) ?_
      refine G_if_eq (tgt := 49) (q := 45) hC dX7_isBarred_42 (by decide) rfl (fun c2 => ?_) (fun c2 => ?_)
      · have hf := (if_pos c2).symm.trans hf
        exact t_X7_isBarred_b49 hC hk5  hf
      · have hf := (if_neg c2).symm.trans hf
        refine G_iconst (q := 46) hC dX7_isBarred_45 rfl ic_1 ?_
        refine G_goto (tgt := 50) hC dX7_isBarred_46 (by decide) ?_
        exact t_X7_isBarred_b50 hC hk5  hf

theorem t_X7_isBarred_b5 {fu : Nat}  {r : Int32 × gSt} (hC : gCx p s m args meth c cX7_isBarred 6 RX7 (some .boolean) E)  (n : Nat) : ∀ (σ : gSt) (x1 : Int32) (x2 : Int32) (x3 : Int32) (x4 : Int32), f_X7_isBarred_b5 fu  n σ x1 x2 x3 x4 = some r → G p l e rm_X7_isBarred s m args below meth c 6 0 0 (MQ below (gQ E w 1 r) args s 0 0 (fun q => eB E ≤ q)) E w σ 5 [(0, .ref (eB E + 583)), (1, .int x1), (2, .int x2), (3, .int x3), (4, .int x4)] [] := by
  induction n with
  | zero => intro σ x1 x2 x3 x4  hf; cases hf
  | succ n ih => intro σ x1 x2 x3 x4  hf; exact t_X7_isBarred_b5_B hC  ih  hf
def f_X7_isBarred (fu : Nat)  (σ : gSt) (x1 : Int32) (x2 : Int32) : Option (Int32 × gSt) :=
  f_X7_isBarred_b5 fu  fu σ x1 x2 (0 : Int32) (0 : Int32)
set_option maxRecDepth 100000 in
theorem t_X7_isBarred {fu : Nat}  {r : Int32 × gSt} (hC : gCx p s m args meth c cX7_isBarred 6 RX7 (some .boolean) E)  {σ : gSt} {x1 : Int32} {x2 : Int32}  (hf : f_X7_isBarred fu  σ x1 x2 = some r) : G p l e rm_X7_isBarred s m args below meth c 6 0 0 (MQ below (gQ E w 1 r) args s 0 0 (fun q => eB E ≤ q)) E w σ 0 [(0, .ref (eB E + 583)), (1, .int x1), (2, .int x2)] [] := by
  unfold f_X7_isBarred at hf
  refine G_iconst (q := 1) hC dX7_isBarred_0 rfl ic_0 ?_
  refine G_istore_n (q := 2) (lv' := [(3, .int (0 : Int32)), (0, .ref (eB E + 583)), (1, .int x1), (2, .int x2)]) hC dX7_isBarred_1 rfl (by decide) rfl ?_
  refine G_iconst (q := 3) hC dX7_isBarred_2 rfl ic_0 ?_
  refine G_istore (q := 5) (lv' := [(4, .int (0 : Int32)), (3, .int (0 : Int32)), (0, .ref (eB E + 583)), (1, .int x1), (2, .int x2)]) hC dX7_isBarred_3 rfl (by decide) rfl ?_
  refine G_lv (lv' := [(0, .ref (eB E + 583)), (1, .int x1), (2, .int x2), (3, .int (0 : Int32)), (4, .int (0 : Int32))]) [2, 3, 4, 1, 0] rfl ?_
  exact t_X7_isBarred_b5 hC  fu _ _ _ _ _  hf

theorem m_X7_isBarred {l : Launch} {fu : Nat} {E : gE} {w : Nat → Int64} {σ : gSt} {x1 : Int32} {x2 : Int32} {r : Int32 × gSt}  (hf : f_X7_isBarred fu σ x1 x2 = some r) : gM l yX7_isBarred cX7_isBarred 6 (some .boolean) rm_X7_isBarred 1 E w σ [.ref (eB E + 583), .int x1, .int x2] r :=
  gM_of (by decide +kernel) (Nat.le_of_ble_eq_true rfl) (fun p e s m args below meth c hC => t_X7_isBarred hC  hf)
def f_X7_canBeGiven_b65 (fu : Nat)  (σ : gSt) (xs0 : Int32) : Option (Int32 × gSt) :=
  gd (b01 xs0) (some (xs0, σ))
set_option maxRecDepth 100000 in
theorem t_X7_canBeGiven_b65 {fu : Nat}  {r : Int32 × gSt} (hC : gCx p s m args meth c cX7_canBeGiven 4 RX7 (some .boolean) E)  {σ : gSt} {xs0 : Int32}  (hf : f_X7_canBeGiven_b65 fu  σ xs0 = some r) : G p l e rm_X7_canBeGiven s m args below meth c 4 0 0 (MQ below (gQ E w 1 r) args s 0 0 (fun q => eB E ≤ q)) E w σ 65 [] [.int xs0] := by
  unfold f_X7_canBeGiven_b65 at hf
  obtain ⟨g1, hf⟩ := gd_ok hf
  exact G_iret hC hf rfl (b01_narrow g1) dX7_canBeGiven_65

def f_X7_canBeGiven_b64 (fu : Nat)  (σ : gSt)  : Option (Int32 × gSt) :=
  f_X7_canBeGiven_b65 fu  σ (0 : Int32)
set_option maxRecDepth 100000 in
theorem t_X7_canBeGiven_b64 {fu : Nat}  {r : Int32 × gSt} (hC : gCx p s m args meth c cX7_canBeGiven 4 RX7 (some .boolean) E)  {σ : gSt}   (hf : f_X7_canBeGiven_b64 fu  σ  = some r) : G p l e rm_X7_canBeGiven s m args below meth c 4 0 0 (MQ below (gQ E w 1 r) args s 0 0 (fun q => eB E ≤ q)) E w σ 64 [] [] := by
  unfold f_X7_canBeGiven_b64 at hf
  refine G_iconst (q := 65) hC dX7_canBeGiven_64 rfl ic_0 ?_
  exact t_X7_canBeGiven_b65 hC   hf

def f_X7_canBeGiven (fu : Nat)  (σ : gSt) (x1 : Int32) (x2 : Int32) : Option (Int32 × gSt) :=
  bd (f_X7_volumeOf fu σ x1) (fun v1 σ1 => gd (inb x1 24) (if (σ1 185 0 x1.toNatClampNeg) ≤ 0 then (f_X7_canBeGiven_b64 fu  σ1) else (if v1 < (σ1 200 0 0) then (f_X7_canBeGiven_b64 fu  σ1) else (gd (inb x1 24) (if (σ1 187 0 x1.toNatClampNeg) = (-1 : Int32) then (gd (inb x1 24) (if (σ1 186 0 x1.toNatClampNeg) = 0 then (gd (inb x2 6) (if (σ1 203 0 x2.toNatClampNeg) = 0 then (bd (f_X7_isBarred fu σ1 x1 x2) (fun v7 σ7 => if v7 = 0 then (f_X7_canBeGiven_b65 fu  σ7 (1 : Int32)) else (f_X7_canBeGiven_b64 fu  σ7))) else (f_X7_canBeGiven_b64 fu  σ1))) else (f_X7_canBeGiven_b64 fu  σ1))) else (f_X7_canBeGiven_b64 fu  σ1))))))
set_option maxRecDepth 100000 in
theorem t_X7_canBeGiven {fu : Nat}  {r : Int32 × gSt} (hC : gCx p s m args meth c cX7_canBeGiven 4 RX7 (some .boolean) E)  {σ : gSt} {x1 : Int32} {x2 : Int32}  (hf : f_X7_canBeGiven fu  σ x1 x2 = some r) : G p l e rm_X7_canBeGiven s m args below meth c 4 0 0 (MQ below (gQ E w 1 r) args s 0 0 (fun q => eB E ≤ q)) E w σ 0 [(0, .ref (eB E + 583)), (1, .int x1), (2, .int x2)] [] := by
  unfold f_X7_canBeGiven at hf
  refine G_aload_n (q := 1) hC dX7_canBeGiven_0 rfl rfl ?_
  refine G_iload_n (q := 2) hC dX7_canBeGiven_1 rfl rfl ?_
  obtain ⟨v1, σ1, hm1, hf⟩ := bd_ok hf
  refine cl_RX7_129 (q := 5) hC dX7_canBeGiven_2 rfl (m_X7_volumeOf hm1) ⟨Nat.le_of_ble_eq_true rfl, Nat.le_of_ble_eq_true rfl⟩ (Nat.le_of_ble_eq_true rfl) ⟨Nat.le_of_ble_eq_true rfl, Nat.le_of_ble_eq_true rfl⟩ ?_
  refine G_istore_n (q := 6) (lv' := [(3, .int v1), (0, .ref (eB E + 583)), (1, .int x1), (2, .int x2)]) hC dX7_canBeGiven_5 rfl (by decide) rfl ?_
  refine G_aload_n (q := 7) hC dX7_canBeGiven_6 rfl rfl ?_
  refine gf_RX7_19 (q := 10) hC dX7_canBeGiven_7 rfl ?_
  refine G_iload_n (q := 11) hC dX7_canBeGiven_10 rfl rfl ?_
  obtain ⟨g1, hf⟩ := gd_ok hf
  refine G_iald (q := 12) hC dX7_canBeGiven_11 rfl (ok_185 g1) ?_
  refine G_if_le (tgt := 64) (q := 15) hC dX7_canBeGiven_12 (by decide) rfl (fun c1 => ?_) (fun c1 => ?_)
  · have hf := (if_pos c1).symm.trans hf
    refine G_lv (lv' := []) [] rfl ?_
    exact t_X7_canBeGiven_b64 hC   hf
  · have hf := (if_neg c1).symm.trans hf
    refine G_iload_n (q := 16) hC dX7_canBeGiven_15 rfl rfl ?_
    refine G_aload_n (q := 17) hC dX7_canBeGiven_16 rfl rfl ?_
    refine gf_RX7_107 (q := 20) hC dX7_canBeGiven_17 rfl ?_
    refine G_icmp_lt (tgt := 64) (q := 23) hC dX7_canBeGiven_20 (by decide) rfl (fun c2 => ?_) (fun c2 => ?_)
    · have hf := (if_pos c2).symm.trans hf
      refine G_lv (lv' := []) [] rfl ?_
      exact t_X7_canBeGiven_b64 hC   hf
    · have hf := (if_neg c2).symm.trans hf
      refine G_aload_n (q := 24) hC dX7_canBeGiven_23 rfl rfl ?_
      refine gf_RX7_25 (q := 27) hC dX7_canBeGiven_24 rfl ?_
      refine G_iload_n (q := 28) hC dX7_canBeGiven_27 rfl rfl ?_
      obtain ⟨g2, hf⟩ := gd_ok hf
      refine G_iald (q := 29) hC dX7_canBeGiven_28 rfl (ok_187 g2) ?_
      refine G_iconst (q := 30) hC dX7_canBeGiven_29 rfl ic_m1 ?_
      refine G_icmp_ne (tgt := 64) (q := 33) hC dX7_canBeGiven_30 (by decide) rfl (fun c3 => ?_) (fun c3 => ?_)
      · have hf := (if_neg c3).symm.trans hf
        refine G_lv (lv' := []) [] rfl ?_
        exact t_X7_canBeGiven_b64 hC   hf
      · have hf := (if_pos c3).symm.trans hf
        refine G_aload_n (q := 34) hC dX7_canBeGiven_33 rfl rfl ?_
        refine gf_RX7_22 (q := 37) hC dX7_canBeGiven_34 rfl ?_
        refine G_iload_n (q := 38) hC dX7_canBeGiven_37 rfl rfl ?_
        obtain ⟨g3, hf⟩ := gd_ok hf
        refine G_iald (q := 39) hC dX7_canBeGiven_38 rfl (ok_186 g3) ?_
        refine G_if_ne (tgt := 64) (q := 42) hC dX7_canBeGiven_39 (by decide) rfl (fun c4 => ?_) (fun c4 => ?_)
        · have hf := (if_neg c4).symm.trans hf
          refine G_lv (lv' := []) [] rfl ?_
          exact t_X7_canBeGiven_b64 hC   hf
        · have hf := (if_pos c4).symm.trans hf
          refine G_aload_n (q := 43) hC dX7_canBeGiven_42 rfl rfl ?_
          refine gf_RX7_65 (q := 46) hC dX7_canBeGiven_43 rfl ?_
          refine G_iload_n (q := 47) hC dX7_canBeGiven_46 rfl rfl ?_
          obtain ⟨g4, hf⟩ := gd_ok hf
          refine G_zald (q := 48) hC dX7_canBeGiven_47 rfl (ok_203 g4) ?_
          refine G_if_ne (tgt := 64) (q := 51) hC dX7_canBeGiven_48 (by decide) rfl (fun c5 => ?_) (fun c5 => ?_)
          · have hf := (if_neg c5).symm.trans hf
            refine G_lv (lv' := []) [] rfl ?_
            exact t_X7_canBeGiven_b64 hC   hf
          · have hf := (if_pos c5).symm.trans hf
            refine G_aload_n (q := 52) hC dX7_canBeGiven_51 rfl rfl ?_
            refine G_iload_n (q := 53) hC dX7_canBeGiven_52 rfl rfl ?_
            refine G_iload_n (q := 54) hC dX7_canBeGiven_53 rfl rfl ?_
            obtain ⟨v7, σ7, hm7, hf⟩ := bd_ok hf
            refine cl_RX7_142 (q := 57) hC dX7_canBeGiven_54 rfl (m_X7_isBarred hm7) ⟨Nat.le_of_ble_eq_true rfl, Nat.le_of_ble_eq_true rfl⟩ (Nat.le_of_ble_eq_true rfl) ⟨Nat.le_of_ble_eq_true rfl, Nat.le_of_ble_eq_true rfl⟩ ?_
            refine G_if_ne (tgt := 64) (q := 60) hC dX7_canBeGiven_57 (by decide) rfl (fun c7 => ?_) (fun c7 => ?_)
            · have hf := (if_neg c7).symm.trans hf
              refine G_lv (lv' := []) [] rfl ?_
              exact t_X7_canBeGiven_b64 hC   hf
            · have hf := (if_pos c7).symm.trans hf
              refine G_iconst (q := 61) hC dX7_canBeGiven_60 rfl ic_1 ?_
              refine G_goto (tgt := 65) hC dX7_canBeGiven_61 (by decide) ?_
              refine G_lv (lv' := []) [] rfl ?_
              exact t_X7_canBeGiven_b65 hC   hf

theorem m_X7_canBeGiven {l : Launch} {fu : Nat} {E : gE} {w : Nat → Int64} {σ : gSt} {x1 : Int32} {x2 : Int32} {r : Int32 × gSt}  (hf : f_X7_canBeGiven fu σ x1 x2 = some r) : gM l yX7_canBeGiven cX7_canBeGiven 4 (some .boolean) rm_X7_canBeGiven 1 E w σ [.ref (eB E + 583), .int x1, .int x2] r :=
  gM_of (by decide +kernel) (Nat.le_of_ble_eq_true rfl) (fun p e s m args below meth c hC => t_X7_canBeGiven hC  hf)
def f_X7_toWrite_b38 (fu : Nat) (k4 : gSt → Int32 → Int32 → Int32 → Option (Int32 × gSt)) (σ : gSt) (x1 : Int32) (x3 : Int32) (xs0 : Int32) (xs1 : Int32) : Option (Int32 × gSt) :=
  k4 σ x1 (xs0 + xs1) (x3 + (1))
set_option maxRecDepth 100000 in
theorem t_X7_toWrite_b38 {fu : Nat} {k4 : gSt → Int32 → Int32 → Int32 → Option (Int32 × gSt)} {r : Int32 × gSt} (hC : gCx p s m args meth c cX7_toWrite 4 RX7 (some .int) E) (hk4 : ∀ (σ : gSt) (x1 : Int32) (x2 : Int32) (x3 : Int32), k4 σ x1 x2 x3 = some r → G p l e rm_X7_toWrite s m args below meth c 4 0 0 (MQ below (gQ E w 1 r) args s 0 0 (fun q => eB E ≤ q)) E w σ 4 [(0, .ref (eB E + 583)), (1, .int x1), (2, .int x2), (3, .int x3)] []) {σ : gSt} {x1 : Int32} {x3 : Int32} {xs0 : Int32} {xs1 : Int32}  (hf : f_X7_toWrite_b38 fu k4 σ x1 x3 xs0 xs1 = some r) : G p l e rm_X7_toWrite s m args below meth c 4 0 0 (MQ below (gQ E w 1 r) args s 0 0 (fun q => eB E ≤ q)) E w σ 38 [(0, .ref (eB E + 583)), (1, .int x1), (3, .int x3)] [.int xs1, .int xs0] := by
  unfold f_X7_toWrite_b38 at hf
  refine G_iadd (q := 39) hC dX7_toWrite_38 rfl ?_
  refine G_istore_n (q := 40) (lv' := [(2, .int (xs0 + xs1)), (0, .ref (eB E + 583)), (1, .int x1), (3, .int x3)]) hC dX7_toWrite_39 rfl (by decide) rfl ?_
  refine G_iinc (q := 43) (n := 3) (lv' := [(3, .int (x3 + (1))), (2, .int (xs0 + xs1)), (0, .ref (eB E + 583)), (1, .int x1)]) hC dX7_toWrite_40 rfl rfl (ii_1 _) (by decide) rfl ?_
  refine G_goto (tgt := 4) hC dX7_toWrite_43 (by decide) ?_
  refine G_lv (lv' := [(0, .ref (eB E + 583)), (1, .int x1), (2, .int (xs0 + xs1)), (3, .int (x3 + (1)))]) [2, 3, 1, 0] rfl ?_
  exact hk4 _ _ _ _  hf

def f_X7_toWrite_b37 (fu : Nat) (k4 : gSt → Int32 → Int32 → Int32 → Option (Int32 × gSt)) (σ : gSt) (x1 : Int32) (x3 : Int32) (xs0 : Int32) : Option (Int32 × gSt) :=
  f_X7_toWrite_b38 fu k4 σ x1 x3 xs0 (0 : Int32)
set_option maxRecDepth 100000 in
theorem t_X7_toWrite_b37 {fu : Nat} {k4 : gSt → Int32 → Int32 → Int32 → Option (Int32 × gSt)} {r : Int32 × gSt} (hC : gCx p s m args meth c cX7_toWrite 4 RX7 (some .int) E) (hk4 : ∀ (σ : gSt) (x1 : Int32) (x2 : Int32) (x3 : Int32), k4 σ x1 x2 x3 = some r → G p l e rm_X7_toWrite s m args below meth c 4 0 0 (MQ below (gQ E w 1 r) args s 0 0 (fun q => eB E ≤ q)) E w σ 4 [(0, .ref (eB E + 583)), (1, .int x1), (2, .int x2), (3, .int x3)] []) {σ : gSt} {x1 : Int32} {x3 : Int32} {xs0 : Int32}  (hf : f_X7_toWrite_b37 fu k4 σ x1 x3 xs0 = some r) : G p l e rm_X7_toWrite s m args below meth c 4 0 0 (MQ below (gQ E w 1 r) args s 0 0 (fun q => eB E ≤ q)) E w σ 37 [(0, .ref (eB E + 583)), (1, .int x1), (3, .int x3)] [.int xs0] := by
  unfold f_X7_toWrite_b37 at hf
  refine G_iconst (q := 38) hC dX7_toWrite_37 rfl ic_0 ?_
  exact t_X7_toWrite_b38 hC hk4  hf

def f_X7_toWrite_b4_B (fu : Nat) (k4 : gSt → Int32 → Int32 → Int32 → Option (Int32 × gSt)) (σ : gSt) (x1 : Int32) (x2 : Int32) (x3 : Int32) : Option (Int32 × gSt) :=
  if (σ 183 0 0) ≤ x3 then (some (x2, σ)) else (gd (inb x3 24) (if (σ 186 0 x3.toNatClampNeg) = (1 : Int32) then (gd (inb x3 24) (if (σ 187 0 x3.toNatClampNeg) = x1 then (f_X7_toWrite_b38 fu k4 σ x1 x3 x2 (1 : Int32)) else (f_X7_toWrite_b37 fu k4 σ x1 x3 x2))) else (f_X7_toWrite_b37 fu k4 σ x1 x3 x2)))
def f_X7_toWrite_b4 (fu : Nat)  : Nat → gSt → Int32 → Int32 → Int32 → Option (Int32 × gSt)
  | 0 => fun _ _ _ _ => none
  | n + 1 => f_X7_toWrite_b4_B fu  (f_X7_toWrite_b4 fu  n)
set_option maxRecDepth 100000 in
theorem t_X7_toWrite_b4_B {fu : Nat} {k4 : gSt → Int32 → Int32 → Int32 → Option (Int32 × gSt)} {r : Int32 × gSt} (hC : gCx p s m args meth c cX7_toWrite 4 RX7 (some .int) E) (hk4 : ∀ (σ : gSt) (x1 : Int32) (x2 : Int32) (x3 : Int32), k4 σ x1 x2 x3 = some r → G p l e rm_X7_toWrite s m args below meth c 4 0 0 (MQ below (gQ E w 1 r) args s 0 0 (fun q => eB E ≤ q)) E w σ 4 [(0, .ref (eB E + 583)), (1, .int x1), (2, .int x2), (3, .int x3)] []) {σ : gSt} {x1 : Int32} {x2 : Int32} {x3 : Int32}  (hf : f_X7_toWrite_b4_B fu k4 σ x1 x2 x3 = some r) : G p l e rm_X7_toWrite s m args below meth c 4 0 0 (MQ below (gQ E w 1 r) args s 0 0 (fun q => eB E ≤ q)) E w σ 4 [(0, .ref (eB E + 583)), (1, .int x1), (2, .int x2), (3, .int x3)] [] := by
  unfold f_X7_toWrite_b4_B at hf
  refine G_iload_n (q := 5) hC dX7_toWrite_4 rfl rfl ?_
  refine G_aload_n (q := 6) hC dX7_toWrite_5 rfl rfl ?_
  refine gf_RX7_78 (q := 9) hC dX7_toWrite_6 rfl ?_
  refine G_icmp_ge (tgt := 46) (q := 12) hC dX7_toWrite_9 (by decide) rfl (fun c0 => ?_) (fun c0 => ?_)
  · have hf := (if_pos c0).symm.trans hf
    refine G_iload_n (q := 47) hC dX7_toWrite_46 rfl rfl ?_
    exact G_iret hC hf rfl rfl dX7_toWrite_47
  · have hf := (if_neg c0).symm.trans hf
    refine G_iload_n (q := 13) hC dX7_toWrite_12 rfl rfl ?_
    refine G_aload_n (q := 14) hC dX7_toWrite_13 rfl rfl ?_
    refine gf_RX7_22 (q := 17) hC dX7_toWrite_14 rfl ?_
    refine G_iload_n (q := 18) hC dX7_toWrite_17 rfl rfl ?_
    obtain ⟨g1, hf⟩ := gd_ok hf
    refine G_iald (q := 19) hC dX7_toWrite_18 rfl (ok_186 g1) ?_
    refine G_iconst (q := 20) hC dX7_toWrite_19 rfl ic_1 ?_
    refine G_icmp_ne (tgt := 37) (q := 23) hC dX7_toWrite_20 (by decide) rfl (fun c1 => ?_) (fun c1 => ?_)
    · have hf := (if_neg c1).symm.trans hf
      refine G_lv (lv' := [(0, .ref (eB E + 583)), (1, .int x1), (3, .int x3)]) [0, 1, 3] rfl ?_
      exact t_X7_toWrite_b37 hC hk4  hf
    · have hf := (if_pos c1).symm.trans hf
      refine G_aload_n (q := 24) hC dX7_toWrite_23 rfl rfl ?_
      refine gf_RX7_25 (q := 27) hC dX7_toWrite_24 rfl ?_
      refine G_iload_n (q := 28) hC dX7_toWrite_27 rfl rfl ?_
      obtain ⟨g2, hf⟩ := gd_ok hf
      refine G_iald (q := 29) hC dX7_toWrite_28 rfl (ok_187 g2) ?_
      refine G_iload_n (q := 30) hC dX7_toWrite_29 rfl rfl ?_
      refine G_icmp_ne (tgt := 37) (q := 33) hC dX7_toWrite_30 (by decide) rfl (fun c2 => ?_) (fun c2 => ?_)
      · have hf := (if_neg c2).symm.trans hf
        refine G_lv (lv' := [(0, .ref (eB E + 583)), (1, .int x1), (3, .int x3)]) [0, 1, 3] rfl ?_
        exact t_X7_toWrite_b37 hC hk4  hf
      · have hf := (if_pos c2).symm.trans hf
        refine G_iconst (q := 34) hC dX7_toWrite_33 rfl ic_1 ?_
        refine G_goto (tgt := 38) hC dX7_toWrite_34 (by decide) ?_
        refine G_lv (lv' := [(0, .ref (eB E + 583)), (1, .int x1), (3, .int x3)]) [0, 1, 3] rfl ?_
        exact t_X7_toWrite_b38 hC hk4  hf

theorem t_X7_toWrite_b4 {fu : Nat}  {r : Int32 × gSt} (hC : gCx p s m args meth c cX7_toWrite 4 RX7 (some .int) E)  (n : Nat) : ∀ (σ : gSt) (x1 : Int32) (x2 : Int32) (x3 : Int32), f_X7_toWrite_b4 fu  n σ x1 x2 x3 = some r → G p l e rm_X7_toWrite s m args below meth c 4 0 0 (MQ below (gQ E w 1 r) args s 0 0 (fun q => eB E ≤ q)) E w σ 4 [(0, .ref (eB E + 583)), (1, .int x1), (2, .int x2), (3, .int x3)] [] := by
  induction n with
  | zero => intro σ x1 x2 x3  hf; cases hf
  | succ n ih => intro σ x1 x2 x3  hf; exact t_X7_toWrite_b4_B hC  ih  hf
def f_X7_toWrite (fu : Nat)  (σ : gSt) (x1 : Int32) : Option (Int32 × gSt) :=
  f_X7_toWrite_b4 fu  fu σ x1 (0 : Int32) (0 : Int32)
set_option maxRecDepth 100000 in
theorem t_X7_toWrite {fu : Nat}  {r : Int32 × gSt} (hC : gCx p s m args meth c cX7_toWrite 4 RX7 (some .int) E)  {σ : gSt} {x1 : Int32}  (hf : f_X7_toWrite fu  σ x1 = some r) : G p l e rm_X7_toWrite s m args below meth c 4 0 0 (MQ below (gQ E w 1 r) args s 0 0 (fun q => eB E ≤ q)) E w σ 0 [(0, .ref (eB E + 583)), (1, .int x1)] [] := by
  unfold f_X7_toWrite at hf
  refine G_iconst (q := 1) hC dX7_toWrite_0 rfl ic_0 ?_
  refine G_istore_n (q := 2) (lv' := [(2, .int (0 : Int32)), (0, .ref (eB E + 583)), (1, .int x1)]) hC dX7_toWrite_1 rfl (by decide) rfl ?_
  refine G_iconst (q := 3) hC dX7_toWrite_2 rfl ic_0 ?_
  refine G_istore_n (q := 4) (lv' := [(3, .int (0 : Int32)), (2, .int (0 : Int32)), (0, .ref (eB E + 583)), (1, .int x1)]) hC dX7_toWrite_3 rfl (by decide) rfl ?_
  refine G_lv (lv' := [(0, .ref (eB E + 583)), (1, .int x1), (2, .int (0 : Int32)), (3, .int (0 : Int32))]) [2, 3, 1, 0] rfl ?_
  exact t_X7_toWrite_b4 hC  fu _ _ _ _  hf

theorem m_X7_toWrite {l : Launch} {fu : Nat} {E : gE} {w : Nat → Int64} {σ : gSt} {x1 : Int32} {r : Int32 × gSt}  (hf : f_X7_toWrite fu σ x1 = some r) : gM l yX7_toWrite cX7_toWrite 4 (some .int) rm_X7_toWrite 1 E w σ [.ref (eB E + 583), .int x1] r :=
  gM_of (by decide +kernel) (Nat.le_of_ble_eq_true rfl) (fun p e s m args below meth c hC => t_X7_toWrite hC  hf)
def f_X7_first_b69 (fu : Nat) (k4 : gSt → Int32 → Int32 → Int32 → Option (Int32 × gSt)) (σ : gSt) (x1 : Int32) (x3 : Int32) (xs0 : Int32) : Option (Int32 × gSt) :=
  k4 σ x1 xs0 (x3 + (1))
set_option maxRecDepth 100000 in
theorem t_X7_first_b69 {fu : Nat} {k4 : gSt → Int32 → Int32 → Int32 → Option (Int32 × gSt)} {r : Int32 × gSt} (hC : gCx p s m args meth c cX7_first 5 RX7 (some .int) E) (hk4 : ∀ (σ : gSt) (x1 : Int32) (x2 : Int32) (x3 : Int32), k4 σ x1 x2 x3 = some r → G p l e rm_X7_first s m args below meth c 5 0 0 (MQ below (gQ E w 1 r) args s 0 0 (fun q => eB E ≤ q)) E w σ 4 [(0, .ref (eB E + 583)), (1, .int x1), (2, .int x2), (3, .int x3)] []) {σ : gSt} {x1 : Int32} {x3 : Int32} {xs0 : Int32}  (hf : f_X7_first_b69 fu k4 σ x1 x3 xs0 = some r) : G p l e rm_X7_first s m args below meth c 5 0 0 (MQ below (gQ E w 1 r) args s 0 0 (fun q => eB E ≤ q)) E w σ 69 [(0, .ref (eB E + 583)), (1, .int x1), (3, .int x3)] [.int xs0] := by
  unfold f_X7_first_b69 at hf
  refine G_istore_n (q := 70) (lv' := [(2, .int xs0), (0, .ref (eB E + 583)), (1, .int x1), (3, .int x3)]) hC dX7_first_69 rfl (by decide) rfl ?_
  refine G_iinc (q := 73) (n := 3) (lv' := [(3, .int (x3 + (1))), (2, .int xs0), (0, .ref (eB E + 583)), (1, .int x1)]) hC dX7_first_70 rfl rfl (ii_1 _) (by decide) rfl ?_
  refine G_goto (tgt := 4) hC dX7_first_73 (by decide) ?_
  refine G_lv (lv' := [(0, .ref (eB E + 583)), (1, .int x1), (2, .int xs0), (3, .int (x3 + (1)))]) [2, 3, 1, 0] rfl ?_
  exact hk4 _ _ _ _  hf

def f_X7_first_b68 (fu : Nat) (k4 : gSt → Int32 → Int32 → Int32 → Option (Int32 × gSt)) (σ : gSt) (x1 : Int32) (x2 : Int32) (x3 : Int32) : Option (Int32 × gSt) :=
  f_X7_first_b69 fu k4 σ x1 x3 x2
set_option maxRecDepth 100000 in
theorem t_X7_first_b68 {fu : Nat} {k4 : gSt → Int32 → Int32 → Int32 → Option (Int32 × gSt)} {r : Int32 × gSt} (hC : gCx p s m args meth c cX7_first 5 RX7 (some .int) E) (hk4 : ∀ (σ : gSt) (x1 : Int32) (x2 : Int32) (x3 : Int32), k4 σ x1 x2 x3 = some r → G p l e rm_X7_first s m args below meth c 5 0 0 (MQ below (gQ E w 1 r) args s 0 0 (fun q => eB E ≤ q)) E w σ 4 [(0, .ref (eB E + 583)), (1, .int x1), (2, .int x2), (3, .int x3)] []) {σ : gSt} {x1 : Int32} {x2 : Int32} {x3 : Int32}  (hf : f_X7_first_b68 fu k4 σ x1 x2 x3 = some r) : G p l e rm_X7_first s m args below meth c 5 0 0 (MQ below (gQ E w 1 r) args s 0 0 (fun q => eB E ≤ q)) E w σ 68 [(0, .ref (eB E + 583)), (1, .int x1), (2, .int x2), (3, .int x3)] [] := by
  unfold f_X7_first_b68 at hf
  refine G_iload_n (q := 69) hC dX7_first_68 rfl rfl ?_
  refine G_lv (lv' := [(0, .ref (eB E + 583)), (1, .int x1), (3, .int x3)]) [0, 1, 3] rfl ?_
  exact t_X7_first_b69 hC hk4  hf

def f_X7_first_b64 (fu : Nat) (k4 : gSt → Int32 → Int32 → Int32 → Option (Int32 × gSt)) (σ : gSt) (x1 : Int32) (x3 : Int32) : Option (Int32 × gSt) :=
  f_X7_first_b69 fu k4 σ x1 x3 x3
set_option maxRecDepth 100000 in
theorem t_X7_first_b64 {fu : Nat} {k4 : gSt → Int32 → Int32 → Int32 → Option (Int32 × gSt)} {r : Int32 × gSt} (hC : gCx p s m args meth c cX7_first 5 RX7 (some .int) E) (hk4 : ∀ (σ : gSt) (x1 : Int32) (x2 : Int32) (x3 : Int32), k4 σ x1 x2 x3 = some r → G p l e rm_X7_first s m args below meth c 5 0 0 (MQ below (gQ E w 1 r) args s 0 0 (fun q => eB E ≤ q)) E w σ 4 [(0, .ref (eB E + 583)), (1, .int x1), (2, .int x2), (3, .int x3)] []) {σ : gSt} {x1 : Int32} {x3 : Int32}  (hf : f_X7_first_b64 fu k4 σ x1 x3 = some r) : G p l e rm_X7_first s m args below meth c 5 0 0 (MQ below (gQ E w 1 r) args s 0 0 (fun q => eB E ≤ q)) E w σ 64 [(0, .ref (eB E + 583)), (1, .int x1), (3, .int x3)] [] := by
  unfold f_X7_first_b64 at hf
  refine G_iload_n (q := 65) hC dX7_first_64 rfl rfl ?_
  refine G_goto (tgt := 69) hC dX7_first_65 (by decide) ?_
  exact t_X7_first_b69 hC hk4  hf

def f_X7_first_b37 (fu : Nat) (k4 : gSt → Int32 → Int32 → Int32 → Option (Int32 × gSt)) (σ : gSt) (x1 : Int32) (x2 : Int32) (x3 : Int32) (xs0 : Int32) : Option (Int32 × gSt) :=
  if xs0 = 0 then (f_X7_first_b68 fu k4 σ x1 x2 x3) else (if x2 = (-1 : Int32) then (f_X7_first_b64 fu k4 σ x1 x3) else (gd (inb x3 24) (gd (inb x2 24) (if (σ 189 0 x2.toNatClampNeg) ≤ (σ 189 0 x3.toNatClampNeg) then (f_X7_first_b68 fu k4 σ x1 x2 x3) else (f_X7_first_b64 fu k4 σ x1 x3)))))
set_option maxRecDepth 100000 in
theorem t_X7_first_b37 {fu : Nat} {k4 : gSt → Int32 → Int32 → Int32 → Option (Int32 × gSt)} {r : Int32 × gSt} (hC : gCx p s m args meth c cX7_first 5 RX7 (some .int) E) (hk4 : ∀ (σ : gSt) (x1 : Int32) (x2 : Int32) (x3 : Int32), k4 σ x1 x2 x3 = some r → G p l e rm_X7_first s m args below meth c 5 0 0 (MQ below (gQ E w 1 r) args s 0 0 (fun q => eB E ≤ q)) E w σ 4 [(0, .ref (eB E + 583)), (1, .int x1), (2, .int x2), (3, .int x3)] []) {σ : gSt} {x1 : Int32} {x2 : Int32} {x3 : Int32} {xs0 : Int32}  (hf : f_X7_first_b37 fu k4 σ x1 x2 x3 xs0 = some r) : G p l e rm_X7_first s m args below meth c 5 0 0 (MQ below (gQ E w 1 r) args s 0 0 (fun q => eB E ≤ q)) E w σ 37 [(0, .ref (eB E + 583)), (1, .int x1), (2, .int x2), (3, .int x3)] [.int xs0] := by
  unfold f_X7_first_b37 at hf
  refine G_istore (q := 39) (lv' := [(4, .int xs0), (0, .ref (eB E + 583)), (1, .int x1), (2, .int x2), (3, .int x3)]) hC dX7_first_37 rfl (by decide) rfl ?_
  refine G_iload (q := 41) hC dX7_first_39 rfl rfl ?_
  refine G_if_eq (tgt := 68) (q := 44) hC dX7_first_41 (by decide) rfl (fun c0 => ?_) (fun c0 => ?_)
  · have hf := (if_pos c0).symm.trans hf
    refine G_lv (lv' := [(0, .ref (eB E + 583)), (1, .int x1), (2, .int x2), (3, .int x3)]) [1, 2, 3, 4] rfl ?_
    exact t_X7_first_b68 hC hk4  hf
  · have hf := (if_neg c0).symm.trans hf
    refine G_iload_n (q := 45) hC dX7_first_44 rfl rfl ?_
    refine G_iconst (q := 46) hC dX7_first_45 rfl ic_m1 ?_
    refine G_icmp_eq (tgt := 64) (q := 49) hC dX7_first_46 (by decide) rfl (fun c1 => ?_) (fun c1 => ?_)
    · have hf := (if_pos c1).symm.trans hf
      refine G_lv (lv' := [(0, .ref (eB E + 583)), (1, .int x1), (3, .int x3)]) [1, 2, 4] rfl ?_
      exact t_X7_first_b64 hC hk4  hf
    · have hf := (if_neg c1).symm.trans hf
      refine G_aload_n (q := 50) hC dX7_first_49 rfl rfl ?_
      refine gf_RX7_31 (q := 53) hC dX7_first_50 rfl ?_
      refine G_iload_n (q := 54) hC dX7_first_53 rfl rfl ?_
      obtain ⟨g1, hf⟩ := gd_ok hf
      refine G_iald (q := 55) hC dX7_first_54 rfl (ok_189 g1) ?_
      refine G_aload_n (q := 56) hC dX7_first_55 rfl rfl ?_
      refine gf_RX7_31 (q := 59) hC dX7_first_56 rfl ?_
      refine G_iload_n (q := 60) hC dX7_first_59 rfl rfl ?_
      obtain ⟨g2, hf⟩ := gd_ok hf
      refine G_iald (q := 61) hC dX7_first_60 rfl (ok_189 g2) ?_
      refine G_icmp_ge (tgt := 68) (q := 64) hC dX7_first_61 (by decide) rfl (fun c2 => ?_) (fun c2 => ?_)
      · have hf := (if_pos c2).symm.trans hf
        refine G_lv (lv' := [(0, .ref (eB E + 583)), (1, .int x1), (2, .int x2), (3, .int x3)]) [1, 2, 3, 4] rfl ?_
        exact t_X7_first_b68 hC hk4  hf
      · have hf := (if_neg c2).symm.trans hf
        refine G_lv (lv' := [(0, .ref (eB E + 583)), (1, .int x1), (3, .int x3)]) [1, 2, 4] rfl ?_
        exact t_X7_first_b64 hC hk4  hf

def f_X7_first_b36 (fu : Nat) (k4 : gSt → Int32 → Int32 → Int32 → Option (Int32 × gSt)) (σ : gSt) (x1 : Int32) (x2 : Int32) (x3 : Int32) : Option (Int32 × gSt) :=
  f_X7_first_b37 fu k4 σ x1 x2 x3 (0 : Int32)
set_option maxRecDepth 100000 in
theorem t_X7_first_b36 {fu : Nat} {k4 : gSt → Int32 → Int32 → Int32 → Option (Int32 × gSt)} {r : Int32 × gSt} (hC : gCx p s m args meth c cX7_first 5 RX7 (some .int) E) (hk4 : ∀ (σ : gSt) (x1 : Int32) (x2 : Int32) (x3 : Int32), k4 σ x1 x2 x3 = some r → G p l e rm_X7_first s m args below meth c 5 0 0 (MQ below (gQ E w 1 r) args s 0 0 (fun q => eB E ≤ q)) E w σ 4 [(0, .ref (eB E + 583)), (1, .int x1), (2, .int x2), (3, .int x3)] []) {σ : gSt} {x1 : Int32} {x2 : Int32} {x3 : Int32}  (hf : f_X7_first_b36 fu k4 σ x1 x2 x3 = some r) : G p l e rm_X7_first s m args below meth c 5 0 0 (MQ below (gQ E w 1 r) args s 0 0 (fun q => eB E ≤ q)) E w σ 36 [(0, .ref (eB E + 583)), (1, .int x1), (2, .int x2), (3, .int x3)] [] := by
  unfold f_X7_first_b36 at hf
  refine G_iconst (q := 37) hC dX7_first_36 rfl ic_0 ?_
  exact t_X7_first_b37 hC hk4  hf

def f_X7_first_b4_B (fu : Nat) (k4 : gSt → Int32 → Int32 → Int32 → Option (Int32 × gSt)) (σ : gSt) (x1 : Int32) (x2 : Int32) (x3 : Int32) : Option (Int32 × gSt) :=
  if (σ 183 0 0) ≤ x3 then (some (x2, σ)) else (gd (inb x3 24) (if (σ 186 0 x3.toNatClampNeg) = (1 : Int32) then (gd (inb x3 24) (if (σ 187 0 x3.toNatClampNeg) = x1 then (f_X7_first_b37 fu k4 σ x1 x2 x3 (1 : Int32)) else (f_X7_first_b36 fu k4 σ x1 x2 x3))) else (f_X7_first_b36 fu k4 σ x1 x2 x3)))
def f_X7_first_b4 (fu : Nat)  : Nat → gSt → Int32 → Int32 → Int32 → Option (Int32 × gSt)
  | 0 => fun _ _ _ _ => none
  | n + 1 => f_X7_first_b4_B fu  (f_X7_first_b4 fu  n)
set_option maxRecDepth 100000 in
theorem t_X7_first_b4_B {fu : Nat} {k4 : gSt → Int32 → Int32 → Int32 → Option (Int32 × gSt)} {r : Int32 × gSt} (hC : gCx p s m args meth c cX7_first 5 RX7 (some .int) E) (hk4 : ∀ (σ : gSt) (x1 : Int32) (x2 : Int32) (x3 : Int32), k4 σ x1 x2 x3 = some r → G p l e rm_X7_first s m args below meth c 5 0 0 (MQ below (gQ E w 1 r) args s 0 0 (fun q => eB E ≤ q)) E w σ 4 [(0, .ref (eB E + 583)), (1, .int x1), (2, .int x2), (3, .int x3)] []) {σ : gSt} {x1 : Int32} {x2 : Int32} {x3 : Int32}  (hf : f_X7_first_b4_B fu k4 σ x1 x2 x3 = some r) : G p l e rm_X7_first s m args below meth c 5 0 0 (MQ below (gQ E w 1 r) args s 0 0 (fun q => eB E ≤ q)) E w σ 4 [(0, .ref (eB E + 583)), (1, .int x1), (2, .int x2), (3, .int x3)] [] := by
  unfold f_X7_first_b4_B at hf
  refine G_iload_n (q := 5) hC dX7_first_4 rfl rfl ?_
  refine G_aload_n (q := 6) hC dX7_first_5 rfl rfl ?_
  refine gf_RX7_78 (q := 9) hC dX7_first_6 rfl ?_
  refine G_icmp_ge (tgt := 76) (q := 12) hC dX7_first_9 (by decide) rfl (fun c0 => ?_) (fun c0 => ?_)
  · have hf := (if_pos c0).symm.trans hf
    refine G_iload_n (q := 77) hC dX7_first_76 rfl rfl ?_
    exact G_iret hC hf rfl rfl dX7_first_77
  · have hf := (if_neg c0).symm.trans hf
    refine G_aload_n (q := 13) hC dX7_first_12 rfl rfl ?_
    refine gf_RX7_22 (q := 16) hC dX7_first_13 rfl ?_
    refine G_iload_n (q := 17) hC dX7_first_16 rfl rfl ?_
    obtain ⟨g1, hf⟩ := gd_ok hf
    refine G_iald (q := 18) hC dX7_first_17 rfl (ok_186 g1) ?_
    refine G_iconst (q := 19) hC dX7_first_18 rfl ic_1 ?_
    refine G_icmp_ne (tgt := 36) (q := 22) hC dX7_first_19 (by decide) rfl (fun c1 => ?_) (fun c1 => ?_)
    · have hf := (if_neg c1).symm.trans hf
      exact t_X7_first_b36 hC hk4  hf
    · have hf := (if_pos c1).symm.trans hf
      refine G_aload_n (q := 23) hC dX7_first_22 rfl rfl ?_
      refine gf_RX7_25 (q := 26) hC dX7_first_23 rfl ?_
      refine G_iload_n (q := 27) hC dX7_first_26 rfl rfl ?_
      obtain ⟨g2, hf⟩ := gd_ok hf
      refine G_iald (q := 28) hC dX7_first_27 rfl (ok_187 g2) ?_
      refine G_iload_n (q := 29) hC dX7_first_28 rfl rfl ?_
      refine G_icmp_ne (tgt := 36) (q := 32) hC dX7_first_29 (by decide) rfl (fun c2 => ?_) (fun c2 => ?_)
      · have hf := (if_neg c2).symm.trans hf
        exact t_X7_first_b36 hC hk4  hf
      · have hf := (if_pos c2).symm.trans hf
        refine G_iconst (q := 33) hC dX7_first_32 rfl ic_1 ?_
        refine G_goto (tgt := 37) hC dX7_first_33 (by decide) ?_
        exact t_X7_first_b37 hC hk4  hf

theorem t_X7_first_b4 {fu : Nat}  {r : Int32 × gSt} (hC : gCx p s m args meth c cX7_first 5 RX7 (some .int) E)  (n : Nat) : ∀ (σ : gSt) (x1 : Int32) (x2 : Int32) (x3 : Int32), f_X7_first_b4 fu  n σ x1 x2 x3 = some r → G p l e rm_X7_first s m args below meth c 5 0 0 (MQ below (gQ E w 1 r) args s 0 0 (fun q => eB E ≤ q)) E w σ 4 [(0, .ref (eB E + 583)), (1, .int x1), (2, .int x2), (3, .int x3)] [] := by
  induction n with
  | zero => intro σ x1 x2 x3  hf; cases hf
  | succ n ih => intro σ x1 x2 x3  hf; exact t_X7_first_b4_B hC  ih  hf
def f_X7_first (fu : Nat)  (σ : gSt) (x1 : Int32) : Option (Int32 × gSt) :=
  f_X7_first_b4 fu  fu σ x1 (-1 : Int32) (0 : Int32)
set_option maxRecDepth 100000 in
theorem t_X7_first {fu : Nat}  {r : Int32 × gSt} (hC : gCx p s m args meth c cX7_first 5 RX7 (some .int) E)  {σ : gSt} {x1 : Int32}  (hf : f_X7_first fu  σ x1 = some r) : G p l e rm_X7_first s m args below meth c 5 0 0 (MQ below (gQ E w 1 r) args s 0 0 (fun q => eB E ≤ q)) E w σ 0 [(0, .ref (eB E + 583)), (1, .int x1)] [] := by
  unfold f_X7_first at hf
  refine G_iconst (q := 1) hC dX7_first_0 rfl ic_m1 ?_
  refine G_istore_n (q := 2) (lv' := [(2, .int (-1 : Int32)), (0, .ref (eB E + 583)), (1, .int x1)]) hC dX7_first_1 rfl (by decide) rfl ?_
  refine G_iconst (q := 3) hC dX7_first_2 rfl ic_0 ?_
  refine G_istore_n (q := 4) (lv' := [(3, .int (0 : Int32)), (2, .int (-1 : Int32)), (0, .ref (eB E + 583)), (1, .int x1)]) hC dX7_first_3 rfl (by decide) rfl ?_
  refine G_lv (lv' := [(0, .ref (eB E + 583)), (1, .int x1), (2, .int (-1 : Int32)), (3, .int (0 : Int32))]) [2, 3, 1, 0] rfl ?_
  exact t_X7_first_b4 hC  fu _ _ _ _  hf

theorem m_X7_first {l : Launch} {fu : Nat} {E : gE} {w : Nat → Int64} {σ : gSt} {x1 : Int32} {r : Int32 × gSt}  (hf : f_X7_first fu σ x1 = some r) : gM l yX7_first cX7_first 5 (some .int) rm_X7_first 1 E w σ [.ref (eB E + 583), .int x1] r :=
  gM_of (by decide +kernel) (Nat.le_of_ble_eq_true rfl) (fun p e s m args below meth c hC => t_X7_first hC  hf)
def f_X7_begins_b41 (fu : Nat)  (σ : gSt) (fs0 : Nat) (is0 : Nat) (xs1 : Int32) (xs2 : Int32) (xs3 : Int32) : Option (Int32 × gSt) :=
  gd (okA 1 fs0 is0 xs1) (some (0, (gU σ fs0 is0 xs1.toNatClampNeg (xs2 + xs3))))
set_option maxRecDepth 100000 in
theorem t_X7_begins_b41 {fu : Nat}  {r : Int32 × gSt} (hC : gCx p s m args meth c cX7_begins 4 RX7 none E)  {σ : gSt} {fs0 : Nat} {is0 : Nat} {xs1 : Int32} {xs2 : Int32} {xs3 : Int32}  (hf : f_X7_begins_b41 fu  σ fs0 is0 xs1 xs2 xs3 = some r) : G p l e rm_X7_begins s m args below meth c 4 0 0 (MQ below (gQ E w 0 r) args s 0 0 (fun q => eB E ≤ q)) E w σ 41 [] [.int xs3, .int xs2, .int xs1, .ref (eB E + oA fs0 is0)] := by
  unfold f_X7_begins_b41 at hf
  refine G_iadd (q := 42) hC dX7_begins_41 rfl ?_
  obtain ⟨g1, hf⟩ := gd_ok hf
  refine G_iast (q := 43) hC dX7_begins_42 rfl g1 ?_
  exact G_vret hC hf rfl dX7_begins_43

def f_X7_begins (fu : Nat)  (σ : gSt) (x1 : Int32) (x2 : Int32) : Option (Int32 × gSt) :=
  bd (f_X7_columns fu σ x1) (fun v1 σ1 => gd (inb x2 6) (gd (inb x2 6) (gd (!decide ((σ1 202 0 x2.toNatClampNeg) = 0)) (if (1 : Int32) ≤ (((v1 + (σ1 202 0 x2.toNatClampNeg)) - (1 : Int32)) / (σ1 202 0 x2.toNatClampNeg)) then (f_X7_begins_b41 fu  σ1 188 0 x1 (σ1 207 0 0) (((v1 + (σ1 202 0 x2.toNatClampNeg)) - (1 : Int32)) / (σ1 202 0 x2.toNatClampNeg))) else (f_X7_begins_b41 fu  σ1 188 0 x1 (σ1 207 0 0) (1 : Int32))))))
set_option maxRecDepth 100000 in
theorem t_X7_begins {fu : Nat}  {r : Int32 × gSt} (hC : gCx p s m args meth c cX7_begins 4 RX7 none E)  {σ : gSt} {x1 : Int32} {x2 : Int32}  (hf : f_X7_begins fu  σ x1 x2 = some r) : G p l e rm_X7_begins s m args below meth c 4 0 0 (MQ below (gQ E w 0 r) args s 0 0 (fun q => eB E ≤ q)) E w σ 0 [(0, .ref (eB E + 583)), (1, .int x1), (2, .int x2)] [] := by
  unfold f_X7_begins at hf
  refine G_aload_n (q := 1) hC dX7_begins_0 rfl rfl ?_
  refine G_iload_n (q := 2) hC dX7_begins_1 rfl rfl ?_
  obtain ⟨v1, σ1, hm1, hf⟩ := bd_ok hf
  refine cl_RX7_145 (q := 5) hC dX7_begins_2 rfl (m_X7_columns hm1) ⟨Nat.le_of_ble_eq_true rfl, Nat.le_of_ble_eq_true rfl⟩ (Nat.le_of_ble_eq_true rfl) ⟨Nat.le_of_ble_eq_true rfl, Nat.le_of_ble_eq_true rfl⟩ ?_
  refine G_aload_n (q := 6) hC dX7_begins_5 rfl rfl ?_
  refine gf_RX7_62 (q := 9) hC dX7_begins_6 rfl ?_
  refine G_iload_n (q := 10) hC dX7_begins_9 rfl rfl ?_
  obtain ⟨g1, hf⟩ := gd_ok hf
  refine G_iald (q := 11) hC dX7_begins_10 rfl (ok_202 g1) ?_
  refine G_iadd (q := 12) hC dX7_begins_11 rfl ?_
  refine G_iconst (q := 13) hC dX7_begins_12 rfl ic_1 ?_
  refine G_isub (q := 14) hC dX7_begins_13 rfl ?_
  refine G_aload_n (q := 15) hC dX7_begins_14 rfl rfl ?_
  refine gf_RX7_62 (q := 18) hC dX7_begins_15 rfl ?_
  refine G_iload_n (q := 19) hC dX7_begins_18 rfl rfl ?_
  obtain ⟨g2, hf⟩ := gd_ok hf
  refine G_iald (q := 20) hC dX7_begins_19 rfl (ok_202 g2) ?_
  obtain ⟨g3, hf⟩ := gd_ok hf
  refine G_idiv (q := 21) hC dX7_begins_20 rfl (by simpa using g3) ?_
  refine G_istore_n (q := 22) (lv' := [(3, .int (((v1 + (σ1 202 0 x2.toNatClampNeg)) - (1 : Int32)) / (σ1 202 0 x2.toNatClampNeg))), (0, .ref (eB E + 583)), (1, .int x1), (2, .int x2)]) hC dX7_begins_21 rfl (by decide) rfl ?_
  refine G_aload_n (q := 23) hC dX7_begins_22 rfl rfl ?_
  refine gf_RX7_28 (q := 26) hC dX7_begins_23 rfl ?_
  refine G_iload_n (q := 27) hC dX7_begins_26 rfl rfl ?_
  refine G_aload_n (q := 28) hC dX7_begins_27 rfl rfl ?_
  refine gf_RX7_148 (q := 31) hC dX7_begins_28 rfl ?_
  refine G_iload_n (q := 32) hC dX7_begins_31 rfl rfl ?_
  refine G_iconst (q := 33) hC dX7_begins_32 rfl ic_1 ?_
  refine G_icmp_ge (tgt := 40) (q := 36) hC dX7_begins_33 (by decide) rfl (fun c1 => ?_) (fun c1 => ?_)
  · have hf := (if_pos c1).symm.trans hf
    refine G_iload_n (q := 41) hC dX7_begins_40 rfl rfl ?_
    refine G_lv (lv' := []) [] rfl ?_
    exact t_X7_begins_b41 hC   hf
  · have hf := (if_neg c1).symm.trans hf
    refine G_iconst (q := 37) hC dX7_begins_36 rfl ic_1 ?_
    refine G_goto (tgt := 41) hC dX7_begins_37 (by decide) ?_
    refine G_lv (lv' := []) [] rfl ?_
    exact t_X7_begins_b41 hC   hf

theorem m_X7_begins {l : Launch} {fu : Nat} {E : gE} {w : Nat → Int64} {σ : gSt} {x1 : Int32} {x2 : Int32} {r : Int32 × gSt}  (hf : f_X7_begins fu σ x1 x2 = some r) : gM l yX7_begins cX7_begins 4 none rm_X7_begins 0 E w σ [.ref (eB E + 583), .int x1, .int x2] r :=
  gM_of (by decide +kernel) (Nat.le_of_ble_eq_true rfl) (fun p e s m args below meth c hC => t_X7_begins hC  hf)
def f_X7_give_b105 (fu : Nat)  (σ : gSt) (x4 : Int32) : Option (Int32 × gSt) :=
  some ((x4 + (1 : Int32)), σ)
set_option maxRecDepth 100000 in
theorem t_X7_give_b105 {fu : Nat}  {r : Int32 × gSt} (hC : gCx p s m args meth c cX7_give 5 RX7 (some .int) E)  {σ : gSt} {x4 : Int32}  (hf : f_X7_give_b105 fu  σ x4 = some r) : G p l e rm_X7_give s m args below meth c 5 0 0 (MQ below (gQ E w 1 r) args s 0 0 (fun q => eB E ≤ q)) E w σ 105 [(4, .int x4)] [] := by
  unfold f_X7_give_b105 at hf
  refine G_iload (q := 107) hC dX7_give_105 rfl rfl ?_
  refine G_iconst (q := 108) hC dX7_give_107 rfl ic_1 ?_
  refine G_iadd (q := 109) hC dX7_give_108 rfl ?_
  exact G_iret hC hf rfl rfl dX7_give_109

def f_X7_give_b45 (fu : Nat)  (σ : gSt) (x1 : Int32) (x2 : Int32) (xs1 : Int32) : Option (Int32 × gSt) :=
  bd (f_X7_goes fu σ xs1) (fun v1 σ1 => if v1 = 0 then (some ((0 : Int32), σ1)) else (bd (f_X7_toWrite fu σ1 x2) (fun v3 σ3 => gd (inb x1 24) (gd (inb x1 24) (gd (inb x1 24) (if v3 = 0 then (bd (f_X7_begins fu (gU (gU (gU (gU σ3 186 0 x1.toNatClampNeg (1 : Int32)) 187 0 x1.toNatClampNeg x2) 189 0 x1.toNatClampNeg ((gU (gU σ3 186 0 x1.toNatClampNeg (1 : Int32)) 187 0 x1.toNatClampNeg x2) 206 0 0)) 206 0 0 (((gU (gU (gU σ3 186 0 x1.toNatClampNeg (1 : Int32)) 187 0 x1.toNatClampNeg x2) 189 0 x1.toNatClampNeg ((gU (gU σ3 186 0 x1.toNatClampNeg (1 : Int32)) 187 0 x1.toNatClampNeg x2) 206 0 0)) 206 0 0) + (1 : Int32))) x1 x2) (fun _ σ5 => f_X7_give_b105 fu  σ5 v3)) else (f_X7_give_b105 fu  (gU (gU (gU (gU σ3 186 0 x1.toNatClampNeg (1 : Int32)) 187 0 x1.toNatClampNeg x2) 189 0 x1.toNatClampNeg ((gU (gU σ3 186 0 x1.toNatClampNeg (1 : Int32)) 187 0 x1.toNatClampNeg x2) 206 0 0)) 206 0 0 (((gU (gU (gU σ3 186 0 x1.toNatClampNeg (1 : Int32)) 187 0 x1.toNatClampNeg x2) 189 0 x1.toNatClampNeg ((gU (gU σ3 186 0 x1.toNatClampNeg (1 : Int32)) 187 0 x1.toNatClampNeg x2) 206 0 0)) 206 0 0) + (1 : Int32))) v3)))))))
set_option maxRecDepth 100000 in
theorem t_X7_give_b45 {fu : Nat}  {r : Int32 × gSt} (hC : gCx p s m args meth c cX7_give 5 RX7 (some .int) E)  {σ : gSt} {x1 : Int32} {x2 : Int32} {xs1 : Int32}  (hf : f_X7_give_b45 fu  σ x1 x2 xs1 = some r) : G p l e rm_X7_give s m args below meth c 5 0 0 (MQ below (gQ E w 1 r) args s 0 0 (fun q => eB E ≤ q)) E w σ 45 [(0, .ref (eB E + 583)), (1, .int x1), (2, .int x2)] [.int xs1, .ref (eB E + 583)] := by
  unfold f_X7_give_b45 at hf
  obtain ⟨v1, σ1, hm1, hf⟩ := bd_ok hf
  refine cl_RX7_103 (q := 48) hC dX7_give_45 rfl (m_X7_goes hm1) ⟨Nat.le_of_ble_eq_true rfl, Nat.le_of_ble_eq_true rfl⟩ (Nat.le_of_ble_eq_true rfl) ⟨Nat.le_of_ble_eq_true rfl, Nat.le_of_ble_eq_true rfl⟩ ?_
  refine G_if_ne (tgt := 53) (q := 51) hC dX7_give_48 (by decide) rfl (fun c1 => ?_) (fun c1 => ?_)
  · have hf := (if_neg c1).symm.trans hf
    refine G_aload_n (q := 54) hC dX7_give_53 rfl rfl ?_
    refine G_iload_n (q := 55) hC dX7_give_54 rfl rfl ?_
    obtain ⟨v3, σ3, hm3, hf⟩ := bd_ok hf
    refine cl_RX7_154 (q := 58) hC dX7_give_55 rfl (m_X7_toWrite hm3) ⟨Nat.le_of_ble_eq_true rfl, Nat.le_of_ble_eq_true rfl⟩ (Nat.le_of_ble_eq_true rfl) ⟨Nat.le_of_ble_eq_true rfl, Nat.le_of_ble_eq_true rfl⟩ ?_
    refine G_istore (q := 60) (lv' := [(4, .int v3), (0, .ref (eB E + 583)), (1, .int x1), (2, .int x2)]) hC dX7_give_58 rfl (by decide) rfl ?_
    refine G_aload_n (q := 61) hC dX7_give_60 rfl rfl ?_
    refine gf_RX7_22 (q := 64) hC dX7_give_61 rfl ?_
    refine G_iload_n (q := 65) hC dX7_give_64 rfl rfl ?_
    refine G_iconst (q := 66) hC dX7_give_65 rfl ic_1 ?_
    obtain ⟨g1, hf⟩ := gd_ok hf
    refine G_iast (q := 67) hC dX7_give_66 rfl (ok_186 g1) ?_
    refine G_aload_n (q := 68) hC dX7_give_67 rfl rfl ?_
    refine gf_RX7_25 (q := 71) hC dX7_give_68 rfl ?_
    refine G_iload_n (q := 72) hC dX7_give_71 rfl rfl ?_
    refine G_iload_n (q := 73) hC dX7_give_72 rfl rfl ?_
    obtain ⟨g2, hf⟩ := gd_ok hf
    refine G_iast (q := 74) hC dX7_give_73 rfl (ok_187 g2) ?_
    refine G_aload_n (q := 75) hC dX7_give_74 rfl rfl ?_
    refine gf_RX7_31 (q := 78) hC dX7_give_75 rfl ?_
    refine G_iload_n (q := 79) hC dX7_give_78 rfl rfl ?_
    refine G_aload_n (q := 80) hC dX7_give_79 rfl rfl ?_
    refine gf_RX7_157 (q := 83) hC dX7_give_80 rfl ?_
    obtain ⟨g3, hf⟩ := gd_ok hf
    refine G_iast (q := 84) hC dX7_give_83 rfl (ok_189 g3) ?_
    refine G_aload_n (q := 85) hC dX7_give_84 rfl rfl ?_
    refine G_dup (q := 86) hC dX7_give_85 rfl rfl ?_
    refine gf_RX7_157 (q := 89) hC dX7_give_86 rfl ?_
    refine G_iconst (q := 90) hC dX7_give_89 rfl ic_1 ?_
    refine G_iadd (q := 91) hC dX7_give_90 rfl ?_
    refine pf_RX7_157 (q := 94) hC dX7_give_91 rfl ?_
    refine G_iload (q := 96) hC dX7_give_94 rfl rfl ?_
    refine G_if_ne (tgt := 105) (q := 99) hC dX7_give_96 (by decide) rfl (fun c3 => ?_) (fun c3 => ?_)
    · have hf := (if_neg c3).symm.trans hf
      refine G_lv (lv' := [(4, .int v3)]) [0] rfl ?_
      exact t_X7_give_b105 hC   hf
    · have hf := (if_pos c3).symm.trans hf
      refine G_aload_n (q := 100) hC dX7_give_99 rfl rfl ?_
      refine G_iload_n (q := 101) hC dX7_give_100 rfl rfl ?_
      refine G_iload_n (q := 102) hC dX7_give_101 rfl rfl ?_
      obtain ⟨v5, σ5, hm5, hf⟩ := bd_ok hf
      refine cl_RX7_160 (q := 105) hC dX7_give_102 rfl (m_X7_begins hm5) ⟨Nat.le_of_ble_eq_true rfl, Nat.le_of_ble_eq_true rfl⟩ (Nat.le_of_ble_eq_true rfl) ⟨Nat.le_of_ble_eq_true rfl, Nat.le_of_ble_eq_true rfl⟩ ?_
      refine G_lv (lv' := [(4, .int v3)]) [0] rfl ?_
      exact t_X7_give_b105 hC   hf
  · have hf := (if_pos c1).symm.trans hf
    refine G_iconst (q := 52) hC dX7_give_51 rfl ic_0 ?_
    exact G_iret hC hf rfl rfl dX7_give_52

def f_X7_give_b21 (fu : Nat)  (σ : gSt) (x1 : Int32) (x2 : Int32) (xs0 : Int32) : Option (Int32 × gSt) :=
  if xs0 = 0 then (f_X7_give_b45 fu  σ x1 x2 (1 : Int32)) else (bd (f_X7_canBeGiven fu σ x1 x2) (fun v2 σ2 => if v2 = 0 then (f_X7_give_b45 fu  σ2 x1 x2 (2 : Int32)) else (f_X7_give_b45 fu  σ2 x1 x2 (0 : Int32))))
set_option maxRecDepth 100000 in
theorem t_X7_give_b21 {fu : Nat}  {r : Int32 × gSt} (hC : gCx p s m args meth c cX7_give 5 RX7 (some .int) E)  {σ : gSt} {x1 : Int32} {x2 : Int32} {xs0 : Int32}  (hf : f_X7_give_b21 fu  σ x1 x2 xs0 = some r) : G p l e rm_X7_give s m args below meth c 5 0 0 (MQ below (gQ E w 1 r) args s 0 0 (fun q => eB E ≤ q)) E w σ 21 [(0, .ref (eB E + 583)), (1, .int x1), (2, .int x2)] [.int xs0] := by
  unfold f_X7_give_b21 at hf
  refine G_istore_n (q := 22) (lv' := [(3, .int xs0), (0, .ref (eB E + 583)), (1, .int x1), (2, .int x2)]) hC dX7_give_21 rfl (by decide) rfl ?_
  refine G_aload_n (q := 23) hC dX7_give_22 rfl rfl ?_
  refine G_iload_n (q := 24) hC dX7_give_23 rfl rfl ?_
  refine G_if_ne (tgt := 31) (q := 27) hC dX7_give_24 (by decide) rfl (fun c0 => ?_) (fun c0 => ?_)
  · have hf := (if_neg c0).symm.trans hf
    refine G_aload_n (q := 32) hC dX7_give_31 rfl rfl ?_
    refine G_iload_n (q := 33) hC dX7_give_32 rfl rfl ?_
    refine G_iload_n (q := 34) hC dX7_give_33 rfl rfl ?_
    obtain ⟨v2, σ2, hm2, hf⟩ := bd_ok hf
    refine cl_RX7_151 (q := 37) hC dX7_give_34 rfl (m_X7_canBeGiven hm2) ⟨Nat.le_of_ble_eq_true rfl, Nat.le_of_ble_eq_true rfl⟩ (Nat.le_of_ble_eq_true rfl) ⟨Nat.le_of_ble_eq_true rfl, Nat.le_of_ble_eq_true rfl⟩ ?_
    refine G_if_eq (tgt := 44) (q := 40) hC dX7_give_37 (by decide) rfl (fun c2 => ?_) (fun c2 => ?_)
    · have hf := (if_pos c2).symm.trans hf
      refine G_iconst (q := 45) hC dX7_give_44 rfl ic_2 ?_
      refine G_lv (lv' := [(0, .ref (eB E + 583)), (1, .int x1), (2, .int x2)]) [1, 2, 3] rfl ?_
      exact t_X7_give_b45 hC   hf
    · have hf := (if_neg c2).symm.trans hf
      refine G_iconst (q := 41) hC dX7_give_40 rfl ic_0 ?_
      refine G_goto (tgt := 45) hC dX7_give_41 (by decide) ?_
      refine G_lv (lv' := [(0, .ref (eB E + 583)), (1, .int x1), (2, .int x2)]) [1, 2, 3] rfl ?_
      exact t_X7_give_b45 hC   hf
  · have hf := (if_pos c0).symm.trans hf
    refine G_iconst (q := 28) hC dX7_give_27 rfl ic_1 ?_
    refine G_goto (tgt := 45) hC dX7_give_28 (by decide) ?_
    refine G_lv (lv' := [(0, .ref (eB E + 583)), (1, .int x1), (2, .int x2)]) [1, 2, 3] rfl ?_
    exact t_X7_give_b45 hC   hf

def f_X7_give_b20 (fu : Nat)  (σ : gSt) (x1 : Int32) (x2 : Int32) : Option (Int32 × gSt) :=
  f_X7_give_b21 fu  σ x1 x2 (0 : Int32)
set_option maxRecDepth 100000 in
theorem t_X7_give_b20 {fu : Nat}  {r : Int32 × gSt} (hC : gCx p s m args meth c cX7_give 5 RX7 (some .int) E)  {σ : gSt} {x1 : Int32} {x2 : Int32}  (hf : f_X7_give_b20 fu  σ x1 x2 = some r) : G p l e rm_X7_give s m args below meth c 5 0 0 (MQ below (gQ E w 1 r) args s 0 0 (fun q => eB E ≤ q)) E w σ 20 [(0, .ref (eB E + 583)), (1, .int x1), (2, .int x2)] [] := by
  unfold f_X7_give_b20 at hf
  refine G_iconst (q := 21) hC dX7_give_20 rfl ic_0 ?_
  exact t_X7_give_b21 hC   hf

def f_X7_give (fu : Nat)  (σ : gSt) (x1 : Int32) (x2 : Int32) : Option (Int32 × gSt) :=
  bd (f_X7_isArticle fu σ x1) (fun v1 σ1 => if v1 = 0 then (f_X7_give_b20 fu  σ1 x1 x2) else (bd (f_X7_isContributor fu σ1 x2) (fun v3 σ3 => if v3 = 0 then (f_X7_give_b20 fu  σ3 x1 x2) else (f_X7_give_b21 fu  σ3 x1 x2 (1 : Int32)))))
set_option maxRecDepth 100000 in
theorem t_X7_give {fu : Nat}  {r : Int32 × gSt} (hC : gCx p s m args meth c cX7_give 5 RX7 (some .int) E)  {σ : gSt} {x1 : Int32} {x2 : Int32}  (hf : f_X7_give fu  σ x1 x2 = some r) : G p l e rm_X7_give s m args below meth c 5 0 0 (MQ below (gQ E w 1 r) args s 0 0 (fun q => eB E ≤ q)) E w σ 0 [(0, .ref (eB E + 583)), (1, .int x1), (2, .int x2)] [] := by
  unfold f_X7_give at hf
  refine G_aload_n (q := 1) hC dX7_give_0 rfl rfl ?_
  refine G_iload_n (q := 2) hC dX7_give_1 rfl rfl ?_
  obtain ⟨v1, σ1, hm1, hf⟩ := bd_ok hf
  refine cl_RX7_117 (q := 5) hC dX7_give_2 rfl (m_X7_isArticle hm1) ⟨Nat.le_of_ble_eq_true rfl, Nat.le_of_ble_eq_true rfl⟩ (Nat.le_of_ble_eq_true rfl) ⟨Nat.le_of_ble_eq_true rfl, Nat.le_of_ble_eq_true rfl⟩ ?_
  refine G_if_eq (tgt := 20) (q := 8) hC dX7_give_5 (by decide) rfl (fun c1 => ?_) (fun c1 => ?_)
  · have hf := (if_pos c1).symm.trans hf
    exact t_X7_give_b20 hC   hf
  · have hf := (if_neg c1).symm.trans hf
    refine G_aload_n (q := 9) hC dX7_give_8 rfl rfl ?_
    refine G_iload_n (q := 10) hC dX7_give_9 rfl rfl ?_
    obtain ⟨v3, σ3, hm3, hf⟩ := bd_ok hf
    refine cl_RX7_136 (q := 13) hC dX7_give_10 rfl (m_X7_isContributor hm3) ⟨Nat.le_of_ble_eq_true rfl, Nat.le_of_ble_eq_true rfl⟩ (Nat.le_of_ble_eq_true rfl) ⟨Nat.le_of_ble_eq_true rfl, Nat.le_of_ble_eq_true rfl⟩ ?_
    refine G_if_eq (tgt := 20) (q := 16) hC dX7_give_13 (by decide) rfl (fun c3 => ?_) (fun c3 => ?_)
    · have hf := (if_pos c3).symm.trans hf
      exact t_X7_give_b20 hC   hf
    · have hf := (if_neg c3).symm.trans hf
      refine G_iconst (q := 17) hC dX7_give_16 rfl ic_1 ?_
      refine G_goto (tgt := 21) hC dX7_give_17 (by decide) ?_
      exact t_X7_give_b21 hC   hf

theorem m_X7_give {l : Launch} {fu : Nat} {E : gE} {w : Nat → Int64} {σ : gSt} {x1 : Int32} {x2 : Int32} {r : Int32 × gSt}  (hf : f_X7_give fu σ x1 x2 = some r) : gM l yX7_give cX7_give 5 (some .int) rm_X7_give 1 E w σ [.ref (eB E + 583), .int x1, .int x2] r :=
  gM_of (by decide +kernel) (Nat.le_of_ble_eq_true rfl) (fun p e s m args below meth c hC => t_X7_give hC  hf)
def f_X7_die_b107 (fu : Nat) (k49 : gSt → Int32 → Int32 → Int32 → Option (Int32 × gSt)) (σ : gSt) (x1 : Int32) (x3 : Int32) (x4 : Int32) : Option (Int32 × gSt) :=
  k49 σ x1 x3 (x4 + (1))
set_option maxRecDepth 100000 in
theorem t_X7_die_b107 {fu : Nat} {k49 : gSt → Int32 → Int32 → Int32 → Option (Int32 × gSt)} {r : Int32 × gSt} (hC : gCx p s m args meth c cX7_die 5 RX7 (some .int) E) (hk49 : ∀ (σ : gSt) (x1 : Int32) (x3 : Int32) (x4 : Int32), k49 σ x1 x3 x4 = some r → G p l e rm_X7_die s m args below meth c 5 0 0 (MQ below (gQ E w 1 r) args s 0 0 (fun q => eB E ≤ q)) E w σ 49 [(0, .ref (eB E + 583)), (1, .int x1), (3, .int x3), (4, .int x4)] []) {σ : gSt} {x1 : Int32} {x3 : Int32} {x4 : Int32}  (hf : f_X7_die_b107 fu k49 σ x1 x3 x4 = some r) : G p l e rm_X7_die s m args below meth c 5 0 0 (MQ below (gQ E w 1 r) args s 0 0 (fun q => eB E ≤ q)) E w σ 107 [(0, .ref (eB E + 583)), (1, .int x1), (3, .int x3), (4, .int x4)] [] := by
  unfold f_X7_die_b107 at hf
  refine G_iinc (q := 110) (n := 3) (lv' := [(4, .int (x4 + (1))), (0, .ref (eB E + 583)), (1, .int x1), (3, .int x3)]) hC dX7_die_107 rfl rfl (ii_1 _) (by decide) rfl ?_
  refine G_goto (tgt := 49) hC dX7_die_110 (by decide) ?_
  refine G_lv (lv' := [(0, .ref (eB E + 583)), (1, .int x1), (3, .int x3), (4, .int (x4 + (1)))]) [1, 2, 3, 0] rfl ?_
  exact hk49 _ _ _ _  hf

def f_X7_die_b49_B (fu : Nat) (k49 : gSt → Int32 → Int32 → Int32 → Option (Int32 × gSt)) (σ : gSt) (x1 : Int32) (x3 : Int32) (x4 : Int32) : Option (Int32 × gSt) :=
  if (σ 183 0 0) ≤ x4 then (some (x3, σ)) else (gd (inb x4 24) (if (σ 186 0 x4.toNatClampNeg) = (1 : Int32) then (gd (inb x4 24) (if (σ 187 0 x4.toNatClampNeg) = x1 then (gd (inb x4 24) (gd (inb x4 24) (gd (inb x4 24) (f_X7_die_b107 fu k49 (gU (gU (gU σ 186 0 x4.toNatClampNeg (0 : Int32)) 187 0 x4.toNatClampNeg (-1 : Int32)) 188 0 x4.toNatClampNeg (-1 : Int32)) x1 (x3 + (1)) x4)))) else (f_X7_die_b107 fu k49 σ x1 x3 x4))) else (f_X7_die_b107 fu k49 σ x1 x3 x4)))
def f_X7_die_b49 (fu : Nat)  : Nat → gSt → Int32 → Int32 → Int32 → Option (Int32 × gSt)
  | 0 => fun _ _ _ _ => none
  | n + 1 => f_X7_die_b49_B fu  (f_X7_die_b49 fu  n)
set_option maxRecDepth 100000 in
theorem t_X7_die_b49_B {fu : Nat} {k49 : gSt → Int32 → Int32 → Int32 → Option (Int32 × gSt)} {r : Int32 × gSt} (hC : gCx p s m args meth c cX7_die 5 RX7 (some .int) E) (hk49 : ∀ (σ : gSt) (x1 : Int32) (x3 : Int32) (x4 : Int32), k49 σ x1 x3 x4 = some r → G p l e rm_X7_die s m args below meth c 5 0 0 (MQ below (gQ E w 1 r) args s 0 0 (fun q => eB E ≤ q)) E w σ 49 [(0, .ref (eB E + 583)), (1, .int x1), (3, .int x3), (4, .int x4)] []) {σ : gSt} {x1 : Int32} {x3 : Int32} {x4 : Int32}  (hf : f_X7_die_b49_B fu k49 σ x1 x3 x4 = some r) : G p l e rm_X7_die s m args below meth c 5 0 0 (MQ below (gQ E w 1 r) args s 0 0 (fun q => eB E ≤ q)) E w σ 49 [(0, .ref (eB E + 583)), (1, .int x1), (3, .int x3), (4, .int x4)] [] := by
  unfold f_X7_die_b49_B at hf
  refine G_iload (q := 51) hC dX7_die_49 rfl rfl ?_
  refine G_aload_n (q := 52) hC dX7_die_51 rfl rfl ?_
  refine gf_RX7_78 (q := 55) hC dX7_die_52 rfl ?_
  refine G_icmp_ge (tgt := 113) (q := 58) hC dX7_die_55 (by decide) rfl (fun c0 => ?_) (fun c0 => ?_)
  · have hf := (if_pos c0).symm.trans hf
    refine G_iload_n (q := 114) hC dX7_die_113 rfl rfl ?_
    exact G_iret hC hf rfl rfl dX7_die_114
  · have hf := (if_neg c0).symm.trans hf
    refine G_aload_n (q := 59) hC dX7_die_58 rfl rfl ?_
    refine gf_RX7_22 (q := 62) hC dX7_die_59 rfl ?_
    refine G_iload (q := 64) hC dX7_die_62 rfl rfl ?_
    obtain ⟨g1, hf⟩ := gd_ok hf
    refine G_iald (q := 65) hC dX7_die_64 rfl (ok_186 g1) ?_
    refine G_iconst (q := 66) hC dX7_die_65 rfl ic_1 ?_
    refine G_icmp_ne (tgt := 107) (q := 69) hC dX7_die_66 (by decide) rfl (fun c1 => ?_) (fun c1 => ?_)
    · have hf := (if_neg c1).symm.trans hf
      exact t_X7_die_b107 hC hk49  hf
    · have hf := (if_pos c1).symm.trans hf
      refine G_aload_n (q := 70) hC dX7_die_69 rfl rfl ?_
      refine gf_RX7_25 (q := 73) hC dX7_die_70 rfl ?_
      refine G_iload (q := 75) hC dX7_die_73 rfl rfl ?_
      obtain ⟨g2, hf⟩ := gd_ok hf
      refine G_iald (q := 76) hC dX7_die_75 rfl (ok_187 g2) ?_
      refine G_iload_n (q := 77) hC dX7_die_76 rfl rfl ?_
      refine G_icmp_ne (tgt := 107) (q := 80) hC dX7_die_77 (by decide) rfl (fun c2 => ?_) (fun c2 => ?_)
      · have hf := (if_neg c2).symm.trans hf
        exact t_X7_die_b107 hC hk49  hf
      · have hf := (if_pos c2).symm.trans hf
        refine G_aload_n (q := 81) hC dX7_die_80 rfl rfl ?_
        refine gf_RX7_22 (q := 84) hC dX7_die_81 rfl ?_
        refine G_iload (q := 86) hC dX7_die_84 rfl rfl ?_
        refine G_iconst (q := 87) hC dX7_die_86 rfl ic_0 ?_
        obtain ⟨g3, hf⟩ := gd_ok hf
        refine G_iast (q := 88) hC dX7_die_87 rfl (ok_186 g3) ?_
        refine G_aload_n (q := 89) hC dX7_die_88 rfl rfl ?_
        refine gf_RX7_25 (q := 92) hC dX7_die_89 rfl ?_
        refine G_iload (q := 94) hC dX7_die_92 rfl rfl ?_
        refine G_iconst (q := 95) hC dX7_die_94 rfl ic_m1 ?_
        obtain ⟨g4, hf⟩ := gd_ok hf
        refine G_iast (q := 96) hC dX7_die_95 rfl (ok_187 g4) ?_
        refine G_aload_n (q := 97) hC dX7_die_96 rfl rfl ?_
        refine gf_RX7_28 (q := 100) hC dX7_die_97 rfl ?_
        refine G_iload (q := 102) hC dX7_die_100 rfl rfl ?_
        refine G_iconst (q := 103) hC dX7_die_102 rfl ic_m1 ?_
        obtain ⟨g5, hf⟩ := gd_ok hf
        refine G_iast (q := 104) hC dX7_die_103 rfl (ok_188 g5) ?_
        refine G_iinc (q := 107) (n := 2) (lv' := [(3, .int (x3 + (1))), (0, .ref (eB E + 583)), (1, .int x1), (4, .int x4)]) hC dX7_die_104 rfl rfl (ii_1 _) (by decide) rfl ?_
        refine G_lv (lv' := [(0, .ref (eB E + 583)), (1, .int x1), (3, .int (x3 + (1))), (4, .int x4)]) [1, 2, 0, 3] rfl ?_
        exact t_X7_die_b107 hC hk49  hf

theorem t_X7_die_b49 {fu : Nat}  {r : Int32 × gSt} (hC : gCx p s m args meth c cX7_die 5 RX7 (some .int) E)  (n : Nat) : ∀ (σ : gSt) (x1 : Int32) (x3 : Int32) (x4 : Int32), f_X7_die_b49 fu  n σ x1 x3 x4 = some r → G p l e rm_X7_die s m args below meth c 5 0 0 (MQ below (gQ E w 1 r) args s 0 0 (fun q => eB E ≤ q)) E w σ 49 [(0, .ref (eB E + 583)), (1, .int x1), (3, .int x3), (4, .int x4)] [] := by
  induction n with
  | zero => intro σ x1 x3 x4  hf; cases hf
  | succ n ih => intro σ x1 x3 x4  hf; exact t_X7_die_b49_B hC  ih  hf
def f_X7_die_b29 (fu : Nat)  (σ : gSt) (x1 : Int32) (xs1 : Int32) : Option (Int32 × gSt) :=
  bd (f_X7_goes fu σ xs1) (fun v1 σ1 => if v1 = 0 then (some ((0 : Int32), σ1)) else (gd (inb x1 6) (f_X7_die_b49 fu  fu (gU σ1 203 0 x1.toNatClampNeg (1 : Int32)) x1 (0 : Int32) (0 : Int32))))
set_option maxRecDepth 100000 in
theorem t_X7_die_b29 {fu : Nat}  {r : Int32 × gSt} (hC : gCx p s m args meth c cX7_die 5 RX7 (some .int) E)  {σ : gSt} {x1 : Int32} {xs1 : Int32}  (hf : f_X7_die_b29 fu  σ x1 xs1 = some r) : G p l e rm_X7_die s m args below meth c 5 0 0 (MQ below (gQ E w 1 r) args s 0 0 (fun q => eB E ≤ q)) E w σ 29 [(0, .ref (eB E + 583)), (1, .int x1)] [.int xs1, .ref (eB E + 583)] := by
  unfold f_X7_die_b29 at hf
  obtain ⟨v1, σ1, hm1, hf⟩ := bd_ok hf
  refine cl_RX7_103 (q := 32) hC dX7_die_29 rfl (m_X7_goes hm1) ⟨Nat.le_of_ble_eq_true rfl, Nat.le_of_ble_eq_true rfl⟩ (Nat.le_of_ble_eq_true rfl) ⟨Nat.le_of_ble_eq_true rfl, Nat.le_of_ble_eq_true rfl⟩ ?_
  refine G_if_ne (tgt := 37) (q := 35) hC dX7_die_32 (by decide) rfl (fun c1 => ?_) (fun c1 => ?_)
  · have hf := (if_neg c1).symm.trans hf
    refine G_iconst (q := 38) hC dX7_die_37 rfl ic_0 ?_
    refine G_istore_n (q := 39) (lv' := [(3, .int (0 : Int32)), (0, .ref (eB E + 583)), (1, .int x1)]) hC dX7_die_38 rfl (by decide) rfl ?_
    refine G_aload_n (q := 40) hC dX7_die_39 rfl rfl ?_
    refine gf_RX7_65 (q := 43) hC dX7_die_40 rfl ?_
    refine G_iload_n (q := 44) hC dX7_die_43 rfl rfl ?_
    refine G_iconst (q := 45) hC dX7_die_44 rfl ic_1 ?_
    obtain ⟨g1, hf⟩ := gd_ok hf
    refine G_zast (q := 46) hC dX7_die_45 rfl (ok_203 g1) rfl ?_
    refine G_iconst (q := 47) hC dX7_die_46 rfl ic_0 ?_
    refine G_istore (q := 49) (lv' := [(4, .int (0 : Int32)), (3, .int (0 : Int32)), (0, .ref (eB E + 583)), (1, .int x1)]) hC dX7_die_47 rfl (by decide) rfl ?_
    refine G_lv (lv' := [(0, .ref (eB E + 583)), (1, .int x1), (3, .int (0 : Int32)), (4, .int (0 : Int32))]) [2, 3, 1, 0] rfl ?_
    exact t_X7_die_b49 hC  fu _ _ _ _  hf
  · have hf := (if_pos c1).symm.trans hf
    refine G_iconst (q := 36) hC dX7_die_35 rfl ic_0 ?_
    exact G_iret hC hf rfl rfl dX7_die_36

def f_X7_die (fu : Nat)  (σ : gSt) (x1 : Int32) : Option (Int32 × gSt) :=
  bd (f_X7_isContributor fu σ x1) (fun v1 σ1 => if v1 = 0 then (f_X7_die_b29 fu  σ1 x1 (1 : Int32)) else (gd (inb x1 6) (if (σ1 203 0 x1.toNatClampNeg) = 0 then (f_X7_die_b29 fu  σ1 x1 (0 : Int32)) else (f_X7_die_b29 fu  σ1 x1 (2 : Int32)))))
set_option maxRecDepth 100000 in
theorem t_X7_die {fu : Nat}  {r : Int32 × gSt} (hC : gCx p s m args meth c cX7_die 5 RX7 (some .int) E)  {σ : gSt} {x1 : Int32}  (hf : f_X7_die fu  σ x1 = some r) : G p l e rm_X7_die s m args below meth c 5 0 0 (MQ below (gQ E w 1 r) args s 0 0 (fun q => eB E ≤ q)) E w σ 0 [(0, .ref (eB E + 583)), (1, .int x1)] [] := by
  unfold f_X7_die at hf
  refine G_aload_n (q := 1) hC dX7_die_0 rfl rfl ?_
  refine G_iload_n (q := 2) hC dX7_die_1 rfl rfl ?_
  obtain ⟨v1, σ1, hm1, hf⟩ := bd_ok hf
  refine cl_RX7_136 (q := 5) hC dX7_die_2 rfl (m_X7_isContributor hm1) ⟨Nat.le_of_ble_eq_true rfl, Nat.le_of_ble_eq_true rfl⟩ (Nat.le_of_ble_eq_true rfl) ⟨Nat.le_of_ble_eq_true rfl, Nat.le_of_ble_eq_true rfl⟩ ?_
  refine G_istore_n (q := 6) (lv' := [(2, .int v1), (0, .ref (eB E + 583)), (1, .int x1)]) hC dX7_die_5 rfl (by decide) rfl ?_
  refine G_aload_n (q := 7) hC dX7_die_6 rfl rfl ?_
  refine G_iload_n (q := 8) hC dX7_die_7 rfl rfl ?_
  refine G_if_ne (tgt := 15) (q := 11) hC dX7_die_8 (by decide) rfl (fun c1 => ?_) (fun c1 => ?_)
  · have hf := (if_neg c1).symm.trans hf
    refine G_aload_n (q := 16) hC dX7_die_15 rfl rfl ?_
    refine gf_RX7_65 (q := 19) hC dX7_die_16 rfl ?_
    refine G_iload_n (q := 20) hC dX7_die_19 rfl rfl ?_
    obtain ⟨g1, hf⟩ := gd_ok hf
    refine G_zald (q := 21) hC dX7_die_20 rfl (ok_203 g1) ?_
    refine G_if_eq (tgt := 28) (q := 24) hC dX7_die_21 (by decide) rfl (fun c2 => ?_) (fun c2 => ?_)
    · have hf := (if_pos c2).symm.trans hf
      refine G_iconst (q := 29) hC dX7_die_28 rfl ic_0 ?_
      refine G_lv (lv' := [(0, .ref (eB E + 583)), (1, .int x1)]) [1, 2] rfl ?_
      exact t_X7_die_b29 hC   hf
    · have hf := (if_neg c2).symm.trans hf
      refine G_iconst (q := 25) hC dX7_die_24 rfl ic_2 ?_
      refine G_goto (tgt := 29) hC dX7_die_25 (by decide) ?_
      refine G_lv (lv' := [(0, .ref (eB E + 583)), (1, .int x1)]) [1, 2] rfl ?_
      exact t_X7_die_b29 hC   hf
  · have hf := (if_pos c1).symm.trans hf
    refine G_iconst (q := 12) hC dX7_die_11 rfl ic_1 ?_
    refine G_goto (tgt := 29) hC dX7_die_12 (by decide) ?_
    refine G_lv (lv' := [(0, .ref (eB E + 583)), (1, .int x1)]) [1, 2] rfl ?_
    exact t_X7_die_b29 hC   hf

theorem m_X7_die {l : Launch} {fu : Nat} {E : gE} {w : Nat → Int64} {σ : gSt} {x1 : Int32} {r : Int32 × gSt}  (hf : f_X7_die fu σ x1 = some r) : gM l yX7_die cX7_die 5 (some .int) rm_X7_die 1 E w σ [.ref (eB E + 583), .int x1] r :=
  gM_of (by decide +kernel) (Nat.le_of_ble_eq_true rfl) (fun p e s m args below meth c hC => t_X7_die hC  hf)
def f_X7_pass_b116 (fu : Nat) (k28 : gSt → Int32 → Int32 → Int32 → Option (Int32 × gSt)) (k46 : gSt → Int32 → Int32 → Int32 → Int32 → Option (Int32 × gSt)) (σ : gSt) (x1 : Int32) (x2 : Int32) (x3 : Int32) (x4 : Int32) : Option (Int32 × gSt) :=
  k46 σ x1 x2 x3 (x4 + (1))
set_option maxRecDepth 100000 in
theorem t_X7_pass_b116 {fu : Nat} {k28 : gSt → Int32 → Int32 → Int32 → Option (Int32 × gSt)} {k46 : gSt → Int32 → Int32 → Int32 → Int32 → Option (Int32 × gSt)} {r : Int32 × gSt} (hC : gCx p s m args meth c cX7_pass 7 RX7 (some .int) E) (hk28 : ∀ (σ : gSt) (x1 : Int32) (x2 : Int32) (x3 : Int32), k28 σ x1 x2 x3 = some r → G p l e rm_X7_pass s m args below meth c 7 0 0 (MQ below (gQ E w 1 r) args s 0 0 (fun q => eB E ≤ q)) E w σ 28 [(0, .ref (eB E + 583)), (1, .int x1), (2, .int x2), (3, .int x3)] []) (hk46 : ∀ (σ : gSt) (x1 : Int32) (x2 : Int32) (x3 : Int32) (x4 : Int32), k46 σ x1 x2 x3 x4 = some r → G p l e rm_X7_pass s m args below meth c 7 0 0 (MQ below (gQ E w 1 r) args s 0 0 (fun q => eB E ≤ q)) E w σ 46 [(0, .ref (eB E + 583)), (1, .int x1), (2, .int x2), (3, .int x3), (4, .int x4)] []) {σ : gSt} {x1 : Int32} {x2 : Int32} {x3 : Int32} {x4 : Int32}  (hf : f_X7_pass_b116 fu k28 k46 σ x1 x2 x3 x4 = some r) : G p l e rm_X7_pass s m args below meth c 7 0 0 (MQ below (gQ E w 1 r) args s 0 0 (fun q => eB E ≤ q)) E w σ 116 [(0, .ref (eB E + 583)), (1, .int x1), (2, .int x2), (3, .int x3), (4, .int x4)] [] := by
  unfold f_X7_pass_b116 at hf
  refine G_iinc (q := 119) (n := 4) (lv' := [(4, .int (x4 + (1))), (0, .ref (eB E + 583)), (1, .int x1), (2, .int x2), (3, .int x3)]) hC dX7_pass_116 rfl rfl (ii_1 _) (by decide) rfl ?_
  refine G_goto (tgt := 46) hC dX7_pass_119 (by decide) ?_
  refine G_lv (lv' := [(0, .ref (eB E + 583)), (1, .int x1), (2, .int x2), (3, .int x3), (4, .int (x4 + (1)))]) [1, 2, 3, 4, 0] rfl ?_
  exact hk46 _ _ _ _ _  hf

def f_X7_pass_b46_B (fu : Nat) (k28 : gSt → Int32 → Int32 → Int32 → Option (Int32 × gSt)) (k46 : gSt → Int32 → Int32 → Int32 → Int32 → Option (Int32 × gSt)) (σ : gSt) (x1 : Int32) (x2 : Int32) (x3 : Int32) (x4 : Int32) : Option (Int32 × gSt) :=
  if (σ 201 0 0) ≤ x4 then (k28 σ x1 x2 (x3 + (1))) else (bd (f_X7_first fu σ x4) (fun v2 σ2 => if v2 = (-1 : Int32) then (f_X7_pass_b116 fu k28 k46 σ2 x1 x2 x3 x4) else (gd (inb v2 24) (if (σ2 188 0 v2.toNatClampNeg) = (σ2 207 0 0) then (gd (inb v2 24) (bd (f_X7_first fu (gU σ2 186 0 v2.toNatClampNeg (2 : Int32)) x4) (fun v5 σ5 => if v5 = (-1 : Int32) then (f_X7_pass_b116 fu k28 k46 σ5 x1 (x2 + (1)) x3 x4) else (bd (f_X7_begins fu σ5 v5 x4) (fun _ σ7 => f_X7_pass_b116 fu k28 k46 σ7 x1 (x2 + (1)) x3 x4))))) else (f_X7_pass_b116 fu k28 k46 σ2 x1 x2 x3 x4)))))
def f_X7_pass_b46 (fu : Nat) (k28 : gSt → Int32 → Int32 → Int32 → Option (Int32 × gSt)) : Nat → gSt → Int32 → Int32 → Int32 → Int32 → Option (Int32 × gSt)
  | 0 => fun _ _ _ _ _ => none
  | n + 1 => f_X7_pass_b46_B fu k28 (f_X7_pass_b46 fu k28 n)
set_option maxRecDepth 100000 in
theorem t_X7_pass_b46_B {fu : Nat} {k28 : gSt → Int32 → Int32 → Int32 → Option (Int32 × gSt)} {k46 : gSt → Int32 → Int32 → Int32 → Int32 → Option (Int32 × gSt)} {r : Int32 × gSt} (hC : gCx p s m args meth c cX7_pass 7 RX7 (some .int) E) (hk28 : ∀ (σ : gSt) (x1 : Int32) (x2 : Int32) (x3 : Int32), k28 σ x1 x2 x3 = some r → G p l e rm_X7_pass s m args below meth c 7 0 0 (MQ below (gQ E w 1 r) args s 0 0 (fun q => eB E ≤ q)) E w σ 28 [(0, .ref (eB E + 583)), (1, .int x1), (2, .int x2), (3, .int x3)] []) (hk46 : ∀ (σ : gSt) (x1 : Int32) (x2 : Int32) (x3 : Int32) (x4 : Int32), k46 σ x1 x2 x3 x4 = some r → G p l e rm_X7_pass s m args below meth c 7 0 0 (MQ below (gQ E w 1 r) args s 0 0 (fun q => eB E ≤ q)) E w σ 46 [(0, .ref (eB E + 583)), (1, .int x1), (2, .int x2), (3, .int x3), (4, .int x4)] []) {σ : gSt} {x1 : Int32} {x2 : Int32} {x3 : Int32} {x4 : Int32}  (hf : f_X7_pass_b46_B fu k28 k46 σ x1 x2 x3 x4 = some r) : G p l e rm_X7_pass s m args below meth c 7 0 0 (MQ below (gQ E w 1 r) args s 0 0 (fun q => eB E ≤ q)) E w σ 46 [(0, .ref (eB E + 583)), (1, .int x1), (2, .int x2), (3, .int x3), (4, .int x4)] [] := by
  unfold f_X7_pass_b46_B at hf
  refine G_iload (q := 48) hC dX7_pass_46 rfl rfl ?_
  refine G_aload_n (q := 49) hC dX7_pass_48 rfl rfl ?_
  refine gf_RX7_85 (q := 52) hC dX7_pass_49 rfl ?_
  refine G_icmp_ge (tgt := 122) (q := 55) hC dX7_pass_52 (by decide) rfl (fun c0 => ?_) (fun c0 => ?_)
  · have hf := (if_pos c0).symm.trans hf
    refine G_iinc (q := 125) (n := 3) (lv' := [(3, .int (x3 + (1))), (0, .ref (eB E + 583)), (1, .int x1), (2, .int x2), (4, .int x4)]) hC dX7_pass_122 rfl rfl (ii_1 _) (by decide) rfl ?_
    refine G_goto (tgt := 28) hC dX7_pass_125 (by decide) ?_
    refine G_lv (lv' := [(0, .ref (eB E + 583)), (1, .int x1), (2, .int x2), (3, .int (x3 + (1)))]) [1, 2, 3, 0] rfl ?_
    exact hk28 _ _ _ _  hf
  · have hf := (if_neg c0).symm.trans hf
    refine G_aload_n (q := 56) hC dX7_pass_55 rfl rfl ?_
    refine G_iload (q := 58) hC dX7_pass_56 rfl rfl ?_
    obtain ⟨v2, σ2, hm2, hf⟩ := bd_ok hf
    refine cl_RX7_164 (q := 61) hC dX7_pass_58 rfl (m_X7_first hm2) ⟨Nat.le_of_ble_eq_true rfl, Nat.le_of_ble_eq_true rfl⟩ (Nat.le_of_ble_eq_true rfl) ⟨Nat.le_of_ble_eq_true rfl, Nat.le_of_ble_eq_true rfl⟩ ?_
    refine G_istore (q := 63) (lv' := [(5, .int v2), (0, .ref (eB E + 583)), (1, .int x1), (2, .int x2), (3, .int x3), (4, .int x4)]) hC dX7_pass_61 rfl (by decide) rfl ?_
    refine G_iload (q := 65) hC dX7_pass_63 rfl rfl ?_
    refine G_iconst (q := 66) hC dX7_pass_65 rfl ic_m1 ?_
    refine G_icmp_eq (tgt := 116) (q := 69) hC dX7_pass_66 (by decide) rfl (fun c2 => ?_) (fun c2 => ?_)
    · have hf := (if_pos c2).symm.trans hf
      refine G_lv (lv' := [(0, .ref (eB E + 583)), (1, .int x1), (2, .int x2), (3, .int x3), (4, .int x4)]) [1, 2, 3, 4, 5] rfl ?_
      exact t_X7_pass_b116 hC hk28 hk46  hf
    · have hf := (if_neg c2).symm.trans hf
      refine G_aload_n (q := 70) hC dX7_pass_69 rfl rfl ?_
      refine gf_RX7_28 (q := 73) hC dX7_pass_70 rfl ?_
      refine G_iload (q := 75) hC dX7_pass_73 rfl rfl ?_
      obtain ⟨g1, hf⟩ := gd_ok hf
      refine G_iald (q := 76) hC dX7_pass_75 rfl (ok_188 g1) ?_
      refine G_aload_n (q := 77) hC dX7_pass_76 rfl rfl ?_
      refine gf_RX7_148 (q := 80) hC dX7_pass_77 rfl ?_
      refine G_icmp_ne (tgt := 116) (q := 83) hC dX7_pass_80 (by decide) rfl (fun c3 => ?_) (fun c3 => ?_)
      · have hf := (if_neg c3).symm.trans hf
        refine G_lv (lv' := [(0, .ref (eB E + 583)), (1, .int x1), (2, .int x2), (3, .int x3), (4, .int x4)]) [1, 2, 3, 4, 5] rfl ?_
        exact t_X7_pass_b116 hC hk28 hk46  hf
      · have hf := (if_pos c3).symm.trans hf
        refine G_aload_n (q := 84) hC dX7_pass_83 rfl rfl ?_
        refine gf_RX7_22 (q := 87) hC dX7_pass_84 rfl ?_
        refine G_iload (q := 89) hC dX7_pass_87 rfl rfl ?_
        refine G_iconst (q := 90) hC dX7_pass_89 rfl ic_2 ?_
        obtain ⟨g2, hf⟩ := gd_ok hf
        refine G_iast (q := 91) hC dX7_pass_90 rfl (ok_186 g2) ?_
        refine G_iinc (q := 94) (n := 3) (lv' := [(2, .int (x2 + (1))), (5, .int v2), (0, .ref (eB E + 583)), (1, .int x1), (3, .int x3), (4, .int x4)]) hC dX7_pass_91 rfl rfl (ii_1 _) (by decide) rfl ?_
        refine G_aload_n (q := 95) hC dX7_pass_94 rfl rfl ?_
        refine G_iload (q := 97) hC dX7_pass_95 rfl rfl ?_
        obtain ⟨v5, σ5, hm5, hf⟩ := bd_ok hf
        refine cl_RX7_164 (q := 100) hC dX7_pass_97 rfl (m_X7_first hm5) ⟨Nat.le_of_ble_eq_true rfl, Nat.le_of_ble_eq_true rfl⟩ (Nat.le_of_ble_eq_true rfl) ⟨Nat.le_of_ble_eq_true rfl, Nat.le_of_ble_eq_true rfl⟩ ?_
        refine G_istore (q := 102) (lv' := [(6, .int v5), (2, .int (x2 + (1))), (5, .int v2), (0, .ref (eB E + 583)), (1, .int x1), (3, .int x3), (4, .int x4)]) hC dX7_pass_100 rfl (by decide) rfl ?_
        refine G_iload (q := 104) hC dX7_pass_102 rfl rfl ?_
        refine G_iconst (q := 105) hC dX7_pass_104 rfl ic_m1 ?_
        refine G_icmp_eq (tgt := 116) (q := 108) hC dX7_pass_105 (by decide) rfl (fun c5 => ?_) (fun c5 => ?_)
        · have hf := (if_pos c5).symm.trans hf
          refine G_lv (lv' := [(0, .ref (eB E + 583)), (1, .int x1), (2, .int (x2 + (1))), (3, .int x3), (4, .int x4)]) [3, 4, 1, 5, 6] rfl ?_
          exact t_X7_pass_b116 hC hk28 hk46  hf
        · have hf := (if_neg c5).symm.trans hf
          refine G_aload_n (q := 109) hC dX7_pass_108 rfl rfl ?_
          refine G_iload (q := 111) hC dX7_pass_109 rfl rfl ?_
          refine G_iload (q := 113) hC dX7_pass_111 rfl rfl ?_
          obtain ⟨v7, σ7, hm7, hf⟩ := bd_ok hf
          refine cl_RX7_160 (q := 116) hC dX7_pass_113 rfl (m_X7_begins hm7) ⟨Nat.le_of_ble_eq_true rfl, Nat.le_of_ble_eq_true rfl⟩ (Nat.le_of_ble_eq_true rfl) ⟨Nat.le_of_ble_eq_true rfl, Nat.le_of_ble_eq_true rfl⟩ ?_
          refine G_lv (lv' := [(0, .ref (eB E + 583)), (1, .int x1), (2, .int (x2 + (1))), (3, .int x3), (4, .int x4)]) [3, 4, 1, 5, 6] rfl ?_
          exact t_X7_pass_b116 hC hk28 hk46  hf

theorem t_X7_pass_b46 {fu : Nat} {k28 : gSt → Int32 → Int32 → Int32 → Option (Int32 × gSt)} {r : Int32 × gSt} (hC : gCx p s m args meth c cX7_pass 7 RX7 (some .int) E) (hk28 : ∀ (σ : gSt) (x1 : Int32) (x2 : Int32) (x3 : Int32), k28 σ x1 x2 x3 = some r → G p l e rm_X7_pass s m args below meth c 7 0 0 (MQ below (gQ E w 1 r) args s 0 0 (fun q => eB E ≤ q)) E w σ 28 [(0, .ref (eB E + 583)), (1, .int x1), (2, .int x2), (3, .int x3)] []) (n : Nat) : ∀ (σ : gSt) (x1 : Int32) (x2 : Int32) (x3 : Int32) (x4 : Int32), f_X7_pass_b46 fu k28 n σ x1 x2 x3 x4 = some r → G p l e rm_X7_pass s m args below meth c 7 0 0 (MQ below (gQ E w 1 r) args s 0 0 (fun q => eB E ≤ q)) E w σ 46 [(0, .ref (eB E + 583)), (1, .int x1), (2, .int x2), (3, .int x3), (4, .int x4)] [] := by
  induction n with
  | zero => intro σ x1 x2 x3 x4  hf; cases hf
  | succ n ih => intro σ x1 x2 x3 x4  hf; exact t_X7_pass_b46_B hC hk28 ih  hf
def f_X7_pass_b28_B (fu : Nat) (k28 : gSt → Int32 → Int32 → Int32 → Option (Int32 × gSt)) (σ : gSt) (x1 : Int32) (x2 : Int32) (x3 : Int32) : Option (Int32 × gSt) :=
  if x1 ≤ x3 then (some (x2, σ)) else (f_X7_pass_b46 fu k28 fu (gU σ 207 0 0 ((σ 207 0 0) + (1 : Int32))) x1 x2 x3 (0 : Int32))
def f_X7_pass_b28 (fu : Nat)  : Nat → gSt → Int32 → Int32 → Int32 → Option (Int32 × gSt)
  | 0 => fun _ _ _ _ => none
  | n + 1 => f_X7_pass_b28_B fu  (f_X7_pass_b28 fu  n)
set_option maxRecDepth 100000 in
theorem t_X7_pass_b28_B {fu : Nat} {k28 : gSt → Int32 → Int32 → Int32 → Option (Int32 × gSt)} {r : Int32 × gSt} (hC : gCx p s m args meth c cX7_pass 7 RX7 (some .int) E) (hk28 : ∀ (σ : gSt) (x1 : Int32) (x2 : Int32) (x3 : Int32), k28 σ x1 x2 x3 = some r → G p l e rm_X7_pass s m args below meth c 7 0 0 (MQ below (gQ E w 1 r) args s 0 0 (fun q => eB E ≤ q)) E w σ 28 [(0, .ref (eB E + 583)), (1, .int x1), (2, .int x2), (3, .int x3)] []) {σ : gSt} {x1 : Int32} {x2 : Int32} {x3 : Int32}  (hf : f_X7_pass_b28_B fu k28 σ x1 x2 x3 = some r) : G p l e rm_X7_pass s m args below meth c 7 0 0 (MQ below (gQ E w 1 r) args s 0 0 (fun q => eB E ≤ q)) E w σ 28 [(0, .ref (eB E + 583)), (1, .int x1), (2, .int x2), (3, .int x3)] [] := by
  unfold f_X7_pass_b28_B at hf
  refine G_iload_n (q := 29) hC dX7_pass_28 rfl rfl ?_
  refine G_iload_n (q := 30) hC dX7_pass_29 rfl rfl ?_
  refine G_icmp_ge (tgt := 128) (q := 33) hC dX7_pass_30 (by decide) rfl (fun c0 => ?_) (fun c0 => ?_)
  · have hf := (if_pos c0).symm.trans hf
    refine G_iload_n (q := 129) hC dX7_pass_128 rfl rfl ?_
    exact G_iret hC hf rfl rfl dX7_pass_129
  · have hf := (if_neg c0).symm.trans hf
    refine G_aload_n (q := 34) hC dX7_pass_33 rfl rfl ?_
    refine G_dup (q := 35) hC dX7_pass_34 rfl rfl ?_
    refine gf_RX7_148 (q := 38) hC dX7_pass_35 rfl ?_
    refine G_iconst (q := 39) hC dX7_pass_38 rfl ic_1 ?_
    refine G_iadd (q := 40) hC dX7_pass_39 rfl ?_
    refine pf_RX7_148 (q := 43) hC dX7_pass_40 rfl ?_
    refine G_iconst (q := 44) hC dX7_pass_43 rfl ic_0 ?_
    refine G_istore (q := 46) (lv' := [(4, .int (0 : Int32)), (0, .ref (eB E + 583)), (1, .int x1), (2, .int x2), (3, .int x3)]) hC dX7_pass_44 rfl (by decide) rfl ?_
    refine G_lv (lv' := [(0, .ref (eB E + 583)), (1, .int x1), (2, .int x2), (3, .int x3), (4, .int (0 : Int32))]) [1, 2, 3, 4, 0] rfl ?_
    exact t_X7_pass_b46 hC hk28 fu _ _ _ _ _  hf

theorem t_X7_pass_b28 {fu : Nat}  {r : Int32 × gSt} (hC : gCx p s m args meth c cX7_pass 7 RX7 (some .int) E)  (n : Nat) : ∀ (σ : gSt) (x1 : Int32) (x2 : Int32) (x3 : Int32), f_X7_pass_b28 fu  n σ x1 x2 x3 = some r → G p l e rm_X7_pass s m args below meth c 7 0 0 (MQ below (gQ E w 1 r) args s 0 0 (fun q => eB E ≤ q)) E w σ 28 [(0, .ref (eB E + 583)), (1, .int x1), (2, .int x2), (3, .int x3)] [] := by
  induction n with
  | zero => intro σ x1 x2 x3  hf; cases hf
  | succ n ih => intro σ x1 x2 x3  hf; exact t_X7_pass_b28_B hC  ih  hf
def f_X7_pass_b16 (fu : Nat)  (σ : gSt) (x1 : Int32) (xs1 : Int32) : Option (Int32 × gSt) :=
  bd (f_X7_goes fu σ xs1) (fun v1 σ1 => if v1 = 0 then (some ((0 : Int32), σ1)) else (f_X7_pass_b28 fu  fu σ1 x1 (0 : Int32) (0 : Int32)))
set_option maxRecDepth 100000 in
theorem t_X7_pass_b16 {fu : Nat}  {r : Int32 × gSt} (hC : gCx p s m args meth c cX7_pass 7 RX7 (some .int) E)  {σ : gSt} {x1 : Int32} {xs1 : Int32}  (hf : f_X7_pass_b16 fu  σ x1 xs1 = some r) : G p l e rm_X7_pass s m args below meth c 7 0 0 (MQ below (gQ E w 1 r) args s 0 0 (fun q => eB E ≤ q)) E w σ 16 [(0, .ref (eB E + 583)), (1, .int x1)] [.int xs1, .ref (eB E + 583)] := by
  unfold f_X7_pass_b16 at hf
  obtain ⟨v1, σ1, hm1, hf⟩ := bd_ok hf
  refine cl_RX7_103 (q := 19) hC dX7_pass_16 rfl (m_X7_goes hm1) ⟨Nat.le_of_ble_eq_true rfl, Nat.le_of_ble_eq_true rfl⟩ (Nat.le_of_ble_eq_true rfl) ⟨Nat.le_of_ble_eq_true rfl, Nat.le_of_ble_eq_true rfl⟩ ?_
  refine G_if_ne (tgt := 24) (q := 22) hC dX7_pass_19 (by decide) rfl (fun c1 => ?_) (fun c1 => ?_)
  · have hf := (if_neg c1).symm.trans hf
    refine G_iconst (q := 25) hC dX7_pass_24 rfl ic_0 ?_
    refine G_istore_n (q := 26) (lv' := [(2, .int (0 : Int32)), (0, .ref (eB E + 583)), (1, .int x1)]) hC dX7_pass_25 rfl (by decide) rfl ?_
    refine G_iconst (q := 27) hC dX7_pass_26 rfl ic_0 ?_
    refine G_istore_n (q := 28) (lv' := [(3, .int (0 : Int32)), (2, .int (0 : Int32)), (0, .ref (eB E + 583)), (1, .int x1)]) hC dX7_pass_27 rfl (by decide) rfl ?_
    refine G_lv (lv' := [(0, .ref (eB E + 583)), (1, .int x1), (2, .int (0 : Int32)), (3, .int (0 : Int32))]) [2, 3, 1, 0] rfl ?_
    exact t_X7_pass_b28 hC  fu _ _ _ _  hf
  · have hf := (if_pos c1).symm.trans hf
    refine G_iconst (q := 23) hC dX7_pass_22 rfl ic_0 ?_
    exact G_iret hC hf rfl rfl dX7_pass_23

def f_X7_pass (fu : Nat)  (σ : gSt) (x1 : Int32) : Option (Int32 × gSt) :=
  bd (f_X7_isIn fu σ x1 (1 : Int32) (50 : Int32)) (fun v1 σ1 => if v1 = 0 then (f_X7_pass_b16 fu  σ1 x1 (1 : Int32)) else (f_X7_pass_b16 fu  σ1 x1 (0 : Int32)))
set_option maxRecDepth 100000 in
theorem t_X7_pass {fu : Nat}  {r : Int32 × gSt} (hC : gCx p s m args meth c cX7_pass 7 RX7 (some .int) E)  {σ : gSt} {x1 : Int32}  (hf : f_X7_pass fu  σ x1 = some r) : G p l e rm_X7_pass s m args below meth c 7 0 0 (MQ below (gQ E w 1 r) args s 0 0 (fun q => eB E ≤ q)) E w σ 0 [(0, .ref (eB E + 583)), (1, .int x1)] [] := by
  unfold f_X7_pass at hf
  refine G_aload_n (q := 1) hC dX7_pass_0 rfl rfl ?_
  refine G_iload_n (q := 2) hC dX7_pass_1 rfl rfl ?_
  refine G_iconst (q := 3) hC dX7_pass_2 rfl ic_1 ?_
  refine G_bipush (q := 5) hC dX7_pass_3 rfl bp_50 ?_
  obtain ⟨v1, σ1, hm1, hf⟩ := bd_ok hf
  refine cl_RX7_81 (q := 8) hC dX7_pass_5 rfl (m_X7_isIn hm1) ⟨Nat.le_of_ble_eq_true rfl, Nat.le_of_ble_eq_true rfl⟩ (Nat.le_of_ble_eq_true rfl) ⟨Nat.le_of_ble_eq_true rfl, Nat.le_of_ble_eq_true rfl⟩ ?_
  refine G_if_eq (tgt := 15) (q := 11) hC dX7_pass_8 (by decide) rfl (fun c1 => ?_) (fun c1 => ?_)
  · have hf := (if_pos c1).symm.trans hf
    refine G_iconst (q := 16) hC dX7_pass_15 rfl ic_1 ?_
    exact t_X7_pass_b16 hC   hf
  · have hf := (if_neg c1).symm.trans hf
    refine G_iconst (q := 12) hC dX7_pass_11 rfl ic_0 ?_
    refine G_goto (tgt := 16) hC dX7_pass_12 (by decide) ?_
    exact t_X7_pass_b16 hC   hf

theorem m_X7_pass {l : Launch} {fu : Nat} {E : gE} {w : Nat → Int64} {σ : gSt} {x1 : Int32} {r : Int32 × gSt}  (hf : f_X7_pass fu σ x1 = some r) : gM l yX7_pass cX7_pass 7 (some .int) rm_X7_pass 1 E w σ [.ref (eB E + 583), .int x1] r :=
  gM_of (by decide +kernel) (Nat.le_of_ble_eq_true rfl) (fun p e s m args below meth c hC => t_X7_pass hC  hf)
end WK
